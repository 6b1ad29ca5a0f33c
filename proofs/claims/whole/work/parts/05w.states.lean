/-! ===== states: the class's ring and what the reference keeps ===== -/
/-- a book: days, notes, weights, gap, few -/
abbrev TA : Type := Nat × (Nat → Int32) × (Nat → Nat) × Nat × Nat
def clT (a : TA) (bk : Tbk) : Prop := clB a.1 a.2.1 a.2.2.1 a.2.2.2.1 a.2.2.2.2 bk
def moT (a : TA) (co : Tco) : Prop := moA a.1 a.2.1 a.2.2.1 a.2.2.2.1 a.2.2.2.2 co
def okT (a : TA) : Prop := a.1 ≤ 50 ∧ okB a.1 a.2.1 a.2.2.1 ∧ a.2.2.2.1 ≤ 9 ∧ 1 ≤ a.2.2.2.2 ∧ a.2.2.2.2 ≤ 12
def rg (r0 r1 r2 r3 r4 : Tbk) : Nat → Tbk := fun i => match i with
  | 0 => r0
  | 1 => r1
  | 2 => r2
  | 3 => r3
  | _ => r4
def stR (S : List TA) (st : Tst) (R : Nat → Tbk) : Prop := ∃ c, c < 5 ∧ st.1 = nI c ∧ st.2 = nI S.length ∧ S.length ≤ 5 ∧ ∀ j a, S[j]? = some a → clT a (R ((c + 5 - j) % 5))
def stP (S : List TA) (st : Tst) (r0 r1 r2 r3 r4 : Tbk) : Prop := stR S st (rg r0 r1 r2 r3 r4)
def cpB (bk r : Tbk) : Tbk := ((va_cpy bk.1 r.1 ((0 : Int32)).toNatClampNeg ((0 : Int32)).toNatClampNeg ((200 : Int32)).toNatClampNeg), (va_cpy bk.2.1 r.2.1 ((0 : Int32)).toNatClampNeg ((0 : Int32)).toNatClampNeg ((4 : Int32)).toNatClampNeg), bk.2.2.1, bk.2.2.2.1, bk.2.2.2.2)
theorem cpy_ok {a : TA} {bk : Tbk} (h : clT a bk) (r : Tbk) : clT a (cpB bk r) := by
  obtain ⟨h1, h2, h3, h4, h5, h6⟩ := h
  refine ⟨h1, h2, fun k hk => ?_, fun m hm => ?_, h5, h6⟩
  · show va_cpy bk.1 r.1 0 0 200 k = _
    unfold va_cpy
    rw [if_pos (by omega), Nat.zero_add, Nat.sub_zero]
    exact h3 k hk
  · show va_cpy bk.2.1 r.2.1 0 0 4 m = _
    unfold va_cpy
    rw [if_pos (by omega), Nat.zero_add, Nat.sub_zero]
    exact h4 m hm
theorem rem5 : ∀ c, c < 5 → (nI c + (1 : Int32)) - (nI c + (1 : Int32)) / (5 : Int32) * (5 : Int32) = nI ((c + 1) % 5)
  | 0, _ => by decide
  | 1, _ => by decide
  | 2, _ => by decide
  | 3, _ => by decide
  | 4, _ => by decide
  | k + 5, h => absurd h (by omega)
theorem rem5b : ∀ c, c < 5 → ((nI c + (5 : Int32)) - (1 : Int32)) - ((nI c + (5 : Int32)) - (1 : Int32)) / (5 : Int32) * (5 : Int32) = nI ((c + 4) % 5)
  | 0, _ => by decide
  | 1, _ => by decide
  | 2, _ => by decide
  | 3, _ => by decide
  | 4, _ => by decide
  | k + 5, h => absurd h (by omega)
theorem stR_push {S : List TA} {R R' : Nat → Tbk} {c : Nat} (hc : c < 5) (hS : S.length ≤ 5) (h : ∀ j a, S[j]? = some a → clT a (R ((c + 5 - j) % 5))) {a : TA} {q : Tbk} (hq : clT a q) (hR : ∀ i, i < 5 → R' i = if i = (c + 1) % 5 then q else R i) : stR ((a :: S).take 5) (nI ((c + 1) % 5), nI (min 5 (S.length + 1))) R' := by
  refine ⟨(c + 1) % 5, Nat.mod_lt _ (by decide), rfl, ?_, ?_, ?_⟩
  · show nI _ = nI _
    rw [List.length_take, List.length_cons]
  · rw [List.length_take]; omega
  · intro j b hb
    rw [List.getElem?_take] at hb
    split at hb
    · rename_i hj
      rw [hR _ (Nat.mod_lt _ (by decide))]
      cases j with
      | zero =>
        have hb : some a = some b := hb
        cases hb
        rw [if_pos (by omega)]
        exact hq
      | succ j =>
        have hb : S[j]? = some b := by simpa using hb
        rw [if_neg (by omega), show ((c + 1) % 5 + 5 - (j + 1)) % 5 = (c + 5 - j) % 5 by omega]
        exact h j b hb
    · cases hb
theorem cnt5 {k : Nat} (h : k ≤ 5) : (if (5 : Int32) < (nI k + (1 : Int32)) then (5 : Int32) else (nI k + (1 : Int32))) = nI (min 5 (k + 1)) := by
  rw [nI_1]
  by_cases c : k + 1 ≤ 5
  · rw [if_neg (show ¬ (5 : Int32) < nI (k + 1) from nI_nlt (a := 5) c (by decide)), Nat.min_eq_right c]
  · rw [if_pos (show (5 : Int32) < nI (k + 1) from nI_lt (a := 5) (by omega) (by omega)), Nat.min_eq_left (by omega)]
    rfl
theorem pu_ok {S : List TA} {st : Tst} {r0 r1 r2 r3 r4 bk : Tbk} (h : stP S st r0 r1 r2 r3 r4) {a : TA} (hb : clT a bk) : ∃ st' r0' r1' r2' r3' r4', fX3_push bk st r0 r1 r2 r3 r4 = some (st', r0', r1', r2', r3', r4') ∧ stP ((a :: S).take 5) st' r0' r1' r2' r3' r4' := by
  obtain ⟨c, h1, h2, h3, h4, h5⟩ := h
  unfold fX3_push
  rw [h2, h3, rem5 c h1, cnt5 h4]
  have hm : (c + 1) % 5 = 0 ∨ (c + 1) % 5 = 1 ∨ (c + 1) % 5 = 2 ∨ (c + 1) % 5 = 3 ∨ (c + 1) % 5 = 4 := by omega
  rcases hm with e | e | e | e | e
  · refine ⟨(nI ((c + 1) % 5), nI (min 5 (S.length + 1))), cpB bk r0, r1, r2, r3, r4, ?_, stR_push h1 h4 h5 (cpy_ok hb r0) ?_⟩
    · rw [e, if_pos (by decide)]; rfl
    · intro i hi
      rw [e]
      match i, hi with
      | 0, _ => rfl
      | 1, _ => rfl
      | 2, _ => rfl
      | 3, _ => rfl
      | 4, _ => rfl
  · refine ⟨(nI ((c + 1) % 5), nI (min 5 (S.length + 1))), r0, cpB bk r1, r2, r3, r4, ?_, stR_push h1 h4 h5 (cpy_ok hb r1) ?_⟩
    · rw [e, if_neg (by decide), if_pos (by decide)]; rfl
    · intro i hi
      rw [e]
      match i, hi with
      | 0, _ => rfl
      | 1, _ => rfl
      | 2, _ => rfl
      | 3, _ => rfl
      | 4, _ => rfl
  · refine ⟨(nI ((c + 1) % 5), nI (min 5 (S.length + 1))), r0, r1, cpB bk r2, r3, r4, ?_, stR_push h1 h4 h5 (cpy_ok hb r2) ?_⟩
    · rw [e, if_neg (by decide), if_neg (by decide), if_pos (by decide)]; rfl
    · intro i hi
      rw [e]
      match i, hi with
      | 0, _ => rfl
      | 1, _ => rfl
      | 2, _ => rfl
      | 3, _ => rfl
      | 4, _ => rfl
  · refine ⟨(nI ((c + 1) % 5), nI (min 5 (S.length + 1))), r0, r1, r2, cpB bk r3, r4, ?_, stR_push h1 h4 h5 (cpy_ok hb r3) ?_⟩
    · rw [e, if_neg (by decide), if_neg (by decide), if_neg (by decide), if_pos (by decide)]; rfl
    · intro i hi
      rw [e]
      match i, hi with
      | 0, _ => rfl
      | 1, _ => rfl
      | 2, _ => rfl
      | 3, _ => rfl
      | 4, _ => rfl
  · refine ⟨(nI ((c + 1) % 5), nI (min 5 (S.length + 1))), r0, r1, r2, r3, cpB bk r4, ?_, stR_push h1 h4 h5 (cpy_ok hb r4) ?_⟩
    · rw [e, if_neg (by decide), if_neg (by decide), if_neg (by decide), if_neg (by decide), if_pos (by decide)]; rfl
    · intro i hi
      rw [e]
      match i, hi with
      | 0, _ => rfl
      | 1, _ => rfl
      | 2, _ => rfl
      | 3, _ => rfl
      | 4, _ => rfl
theorem po_ok {S : List TA} {st : Tst} {r0 r1 r2 r3 r4 bk : Tbk} {a : TA} (h : stP (a :: S) st r0 r1 r2 r3 r4) : ∃ bk' st', fX3_pop bk st r0 r1 r2 r3 r4 = some (bk', st') ∧ clT a bk' ∧ stP S st' r0 r1 r2 r3 r4 ∧ st'.2 = nI S.length := by
  obtain ⟨c, h1, h2, h3, h4, h5⟩ := h
  have h4' : S.length ≤ 4 := by rw [List.length_cons] at h4; omega
  have ha := h5 0 a rfl
  have hs : stP S (nI ((c + 4) % 5), nI S.length) r0 r1 r2 r3 r4 := by
    refine ⟨(c + 4) % 5, Nat.mod_lt _ (by decide), rfl, rfl, by omega, fun j b hb => ?_⟩
    have hj : j < S.length := (List.getElem?_eq_some_iff.mp hb).1
    have := h5 (j + 1) b (by simpa using hb)
    rw [show (c + 5 - (j + 1)) % 5 = ((c + 4) % 5 + 5 - j) % 5 by omega] at this
    exact this
  unfold fX3_pop jX3_pop_44
  rw [h3, if_neg (nI_nle (by rw [List.length_cons]; omega) (by rw [List.length_cons]; omega)), h2, rem5b c h1, List.length_cons, nI_pred]
  have hm : c = 0 ∨ c = 1 ∨ c = 2 ∨ c = 3 ∨ c = 4 := by omega
  rcases hm with e | e | e | e | e
  · subst e
    exact ⟨cpB r0 bk, (nI ((0 + 4) % 5), nI S.length), by rw [if_pos (by decide)]; rfl, cpy_ok (bk := r0) ha bk, hs, rfl⟩
  · subst e
    exact ⟨cpB r1 bk, (nI ((1 + 4) % 5), nI S.length), by rw [if_neg (by decide), if_pos (by decide)]; rfl, cpy_ok (bk := r1) ha bk, hs, rfl⟩
  · subst e
    exact ⟨cpB r2 bk, (nI ((2 + 4) % 5), nI S.length), by rw [if_neg (by decide), if_neg (by decide), if_pos (by decide)]; rfl, cpy_ok (bk := r2) ha bk, hs, rfl⟩
  · subst e
    exact ⟨cpB r3 bk, (nI ((3 + 4) % 5), nI S.length), by rw [if_neg (by decide), if_neg (by decide), if_neg (by decide), if_pos (by decide)]; rfl, cpy_ok (bk := r3) ha bk, hs, rfl⟩
  · subst e
    exact ⟨cpB r4 bk, (nI ((4 + 4) % 5), nI S.length), by rw [if_neg (by decide), if_neg (by decide), if_neg (by decide), if_neg (by decide), if_pos (by decide)]; rfl, cpy_ok (bk := r4) ha bk, hs, rfl⟩
/-- one state as the reference keeps it -/
def keP (a : TA) (k : Nat → Int32) (b : Nat) : Prop := a.1 ≤ 50 ∧ k b = nI a.1 ∧ (∀ m, m < 4 → k (b + 1 + m) = nI (a.2.2.1 m)) ∧ k (b + 1 + 4) = nI a.2.2.2.1 ∧ k (b + 1 + 5) = nI a.2.2.2.2 ∧ ∀ i, i < a.1 * 4 → k (b + 7 + i) = a.2.1 i
def keS (S : List TA) (ke : Tke) : Prop := ke.1 = nI S.length ∧ S.length ≤ 5 ∧ ∀ j a, S[j]? = some a → keP a ke.2 (207 * (S.length - 1 - j))
theorem keP_ext {a : TA} {k k' : Nat → Int32} {b b' : Nat} (h : keP a k b) (he : ∀ i, i < 207 → k' (b' + i) = k (b + i)) : keP a k' b' := by
  obtain ⟨h1, h2, h3, h4, h5, h6⟩ := h
  refine ⟨h1, ?_, fun m hm => ?_, ?_, ?_, fun i hi => ?_⟩
  · have := he 0 (by decide)
    rw [Nat.add_zero, Nat.add_zero] at this
    rw [this]; exact h2
  · rw [Nat.add_assoc, he (1 + m) (by omega), ← Nat.add_assoc]; exact h3 m hm
  · rw [Nat.add_assoc, he (1 + 4) (by omega), ← Nat.add_assoc]; exact h4
  · rw [Nat.add_assoc, he (1 + 5) (by omega), ← Nat.add_assoc]; exact h5
  · rw [Nat.add_assoc, he (7 + i) (by omega), ← Nat.add_assoc]; exact h6 i hi
theorem m207 (k : Nat) : (207 : Int32) * nI k = nI (207 * k) := by rw [show (207 : Int32) = nI 207 from rfl, pk_mul]
theorem ls70 {co : Tco} {ke : Tke} {b : Nat} (hb : b + 207 ≤ 1035) : ∃ k', lpF (bX6_leavesState_70 co (nI b)) FU ((0 : Int32), ke) = some (ke.1, k') ∧ (∀ i, i < 6 → k' (b + 1 + i) = co.2.1 i) ∧ ∀ i, (i < b + 1 ∨ b + 7 ≤ i) → k' i = ke.2 i := by
  have key := lp_cnt (B := bX6_leavesState_70 co (nI b)) (fun (j : Nat) (z : Int32 × Tke) => z.1 = nI j ∧ z.2.1 = ke.1 ∧ (∀ i, i < j → z.2.2 (b + 1 + i) = co.2.1 i) ∧ ∀ i, (i < b + 1 ∨ b + 7 ≤ i) → z.2.2 i = ke.2 i) (fun (e : Tke) => e.1 = ke.1 ∧ (∀ i, i < 6 → e.2 (b + 1 + i) = co.2.1 i) ∧ ∀ i, (i < b + 1 ∨ b + 7 ≤ i) → e.2 i = ke.2 i) 6 (by decide) ?_ ?_ ((0 : Int32), ke) ⟨rfl, rfl, fun i hi => absurd hi (Nat.not_lt_zero i), fun i _ => rfl⟩
  · obtain ⟨⟨e1, e2⟩, k1, k2, k3, k4⟩ := key
    have k2 : e1 = ke.1 := k2
    subst k2
    exact ⟨e2, k1, k3, k4⟩
  · rintro j ⟨z1, z2⟩ hj ⟨e1, e2, e3, e4⟩
    have e1 : z1 = nI j := e1
    subst e1
    refine ⟨(nI (j + 1), (z2.1, upd z2.2 (b + 1 + j) (co.2.1 j))), ?_, rfl, e2, fun i hi => ?_, fun i hi => ?_⟩
    · unfold bX6_leavesState_70
      dsimp only
      rw [if_neg (show ¬ (6 : Int32) ≤ nI j from nI_ge (b := 6) hj (by decide)), gd_t (inB_nI (by omega) (by decide)), nI_1, nI_add, gd_t (inB_nI (by omega) (by decide)), cl_nI (by omega), cl_nI (by omega), nI_1]
    · show upd z2.2 (b + 1 + j) (co.2.1 j) (b + 1 + i) = _
      unfold upd
      by_cases c : i = j
      · rw [if_pos (by omega), c]
      · rw [if_neg (by omega)]
        exact e3 i (by omega)
    · show upd z2.2 (b + 1 + j) (co.2.1 j) i = _
      unfold upd
      rw [if_neg (by omega)]
      exact e4 i hi
  · rintro ⟨z1, z2⟩ ⟨e1, e2, e3, e4⟩
    have e1 : z1 = nI 6 := e1
    subst e1
    refine ⟨z2, ?_, e2, e3, e4⟩
    unfold bX6_leavesState_70
    dsimp only
    rw [if_pos (by decide)]
theorem ls100 {co : Tco} {ke : Tke} {b : Nat} (hb : b + 207 ≤ 1035) : ∃ k', lpF (bX6_leavesState_100 co (nI b)) FU ((0 : Int32), ke) = some (ke.1, k') ∧ (∀ i, i < 200 → k' (b + 7 + i) = co.2.2 i) ∧ ∀ i, (i < b + 7 ∨ b + 207 ≤ i) → k' i = ke.2 i := by
  have key := lp_cnt (B := bX6_leavesState_100 co (nI b)) (fun (j : Nat) (z : Int32 × Tke) => z.1 = nI j ∧ z.2.1 = ke.1 ∧ (∀ i, i < j → z.2.2 (b + 7 + i) = co.2.2 i) ∧ ∀ i, (i < b + 7 ∨ b + 207 ≤ i) → z.2.2 i = ke.2 i) (fun (e : Tke) => e.1 = ke.1 ∧ (∀ i, i < 200 → e.2 (b + 7 + i) = co.2.2 i) ∧ ∀ i, (i < b + 7 ∨ b + 207 ≤ i) → e.2 i = ke.2 i) 200 (by decide) ?_ ?_ ((0 : Int32), ke) ⟨rfl, rfl, fun i hi => absurd hi (Nat.not_lt_zero i), fun i _ => rfl⟩
  · obtain ⟨⟨e1, e2⟩, k1, k2, k3, k4⟩ := key
    have k2 : e1 = ke.1 := k2
    subst k2
    exact ⟨e2, k1, k3, k4⟩
  · rintro j ⟨z1, z2⟩ hj ⟨e1, e2, e3, e4⟩
    have e1 : z1 = nI j := e1
    subst e1
    refine ⟨(nI (j + 1), (z2.1, upd z2.2 (b + 7 + j) (co.2.2 j))), ?_, rfl, e2, fun i hi => ?_, fun i hi => ?_⟩
    · unfold bX6_leavesState_100
      dsimp only
      rw [if_neg (show ¬ (200 : Int32) ≤ nI j from nI_ge (b := 200) hj (by decide)), gd_t (inB_nI (by omega) (by decide)), show (7 : Int32) = nI 7 from rfl, nI_add, nI_add, gd_t (inB_nI (by omega) (by decide)), cl_nI (by omega), cl_nI (by omega), nI_1]
    · show upd z2.2 (b + 7 + j) (co.2.2 j) (b + 7 + i) = _
      unfold upd
      by_cases c : i = j
      · rw [if_pos (by omega), c]
      · rw [if_neg (by omega)]
        exact e3 i (by omega)
    · show upd z2.2 (b + 7 + j) (co.2.2 j) i = _
      unfold upd
      rw [if_neg (by omega)]
      exact e4 i hi
  · rintro ⟨z1, z2⟩ ⟨e1, e2, e3, e4⟩
    have e1 : z1 = nI 200 := e1
    subst e1
    refine ⟨z2, ?_, e2, e3, e4⟩
    unfold bX6_leavesState_100
    dsimp only
    rw [if_pos (by decide)]
theorem ls10 {co : Tco} {ke : Tke} : ∃ k', lpF (bX6_leavesState_10 co) FU ((0 : Int32), ke) = some (ke.1, k') ∧ ∀ i, i < 828 → k' i = ke.2 (i + 207) := by
  have key := lp_cnt (B := bX6_leavesState_10 co) (fun (j : Nat) (z : Int32 × Tke) => z.1 = nI j ∧ z.2.1 = ke.1 ∧ (∀ i, i < j → z.2.2 i = ke.2 (i + 207)) ∧ ∀ i, j ≤ i → z.2.2 i = ke.2 i) (fun (e : Tke) => e.1 = ke.1 ∧ ∀ i, i < 828 → e.2 i = ke.2 (i + 207)) 828 (by decide) ?_ ?_ ((0 : Int32), ke) ⟨rfl, rfl, fun i hi => absurd hi (Nat.not_lt_zero i), fun i _ => rfl⟩
  · obtain ⟨⟨e1, e2⟩, k1, k2, k3⟩ := key
    have k2 : e1 = ke.1 := k2
    subst k2
    exact ⟨e2, k1, k3⟩
  · rintro j ⟨z1, z2⟩ hj ⟨e1, e2, e3, e4⟩
    have e1 : z1 = nI j := e1
    subst e1
    refine ⟨(nI (j + 1), (z2.1, upd z2.2 j (z2.2 (j + 207)))), ?_, rfl, e2, fun i hi => ?_, fun i hi => ?_⟩
    · unfold bX6_leavesState_10
      dsimp only
      rw [if_neg (show ¬ (828 : Int32) ≤ nI j from nI_ge (b := 828) hj (by decide)), show (207 : Int32) = nI 207 from rfl, nI_add, gd_t (inB_nI (by omega) (by decide)), gd_t (inB_nI (by omega) (by decide)), cl_nI (by omega), cl_nI (by omega), nI_1]
    · show upd z2.2 j (z2.2 (j + 207)) i = _
      unfold upd
      by_cases c : i = j
      · rw [if_pos c, c]
        exact e4 _ (by omega)
      · rw [if_neg c]
        exact e3 i (by omega)
    · show upd z2.2 j (z2.2 (j + 207)) i = _
      unfold upd
      rw [if_neg (by omega)]
      exact e4 i (by omega)
  · rintro ⟨z1, z2⟩ ⟨e1, e2, e3, e4⟩
    have e1 : z1 = nI 828 := e1
    subst e1
    refine ⟨z2, ?_, e2, e3⟩
    unfold bX6_leavesState_10
    dsimp only
    rw [if_pos (by decide)]
theorem ls49 {S : List TA} {co : Tco} {ke : Tke} (h : keS S ke) (hS : S.length ≤ 4) {a : TA} (ha : moT a co) : ∃ ke', jX6_leavesState_49 co ke = some ke' ∧ keS (a :: S) ke' := by
  obtain ⟨h1, h2, h3⟩ := h
  obtain ⟨⟨a1, a2, a3, a4⟩, a5, a6⟩ := ha
  obtain ⟨k1, p1, p2, p3⟩ := ls70 (co := co) (ke := (ke.1, upd ke.2 (207 * S.length) co.1)) (b := 207 * S.length) (by omega)
  obtain ⟨k2, q1, q2, q3⟩ := ls100 (co := co) (ke := (ke.1, k1)) (b := 207 * S.length) (by omega)
  refine ⟨(nI (S.length + 1), k2), ?_, ?_, ?_, ?_⟩
  · unfold jX6_leavesState_49
    rw [h1, m207, gd_t (inB_nI (by omega) (by decide)), cl_nI (by omega), ← h1]
    rw [p1, Option.bind_some, q1, Option.bind_some]
    dsimp only
    rw [h1, nI_1]
  · rfl
  · rw [List.length_cons]; omega
  · have hold : ∀ i, i < 207 * S.length → k2 i = ke.2 i := by
      intro i hi
      rw [q3 i (by omega)]
      show k1 i = _
      rw [p3 i (by omega)]
      show upd ke.2 (207 * S.length) co.1 i = _
      unfold upd
      rw [if_neg (by omega)]
    intro j b hb
    cases j with
    | zero =>
      have hb : some a = some b := hb
      cases hb
      rw [List.length_cons, show S.length + 1 - 1 - 0 = S.length by omega]
      refine ⟨a1, ?_, fun m hm => ?_, ?_, ?_, fun i hi => ?_⟩
      · show k2 _ = _
        rw [q3 _ (by omega)]
        show k1 _ = _
        rw [p3 _ (by omega)]
        show upd ke.2 (207 * S.length) co.1 _ = _
        unfold upd
        rw [if_pos rfl]
        exact a2
      · show k2 _ = _
        rw [q3 _ (by omega)]
        show k1 _ = _
        rw [p2 m (by omega)]
        exact a4 m hm
      · show k2 _ = _
        rw [q3 _ (by omega)]
        show k1 _ = _
        rw [p2 4 (by omega)]
        exact a5
      · show k2 _ = _
        rw [q3 _ (by omega)]
        show k1 _ = _
        rw [p2 5 (by omega)]
        exact a6
      · show k2 _ = _
        rw [q2 i (by omega)]
        exact a3 i hi
    | succ j =>
      have hb : S[j]? = some b := by simpa using hb
      have hj : j < S.length := (List.getElem?_eq_some_iff.mp hb).1
      rw [List.length_cons, show S.length + 1 - 1 - (j + 1) = S.length - 1 - j by omega]
      exact keP_ext (h3 j b hb) (fun i hi => hold _ (by omega))
theorem ls_ok {S : List TA} {co : Tco} {ke : Tke} (h : keS S ke) {a : TA} (ha : moT a co) : ∃ ke', fX6_leavesState co ke = some ke' ∧ keS ((a :: S).take 5) ke' := by
  obtain ⟨h1, h2, h3⟩ := h
  unfold fX6_leavesState
  by_cases c : S.length = 5
  · rw [if_neg (fun z => z (by rw [h1, c]; rfl))]
    obtain ⟨k', p1, p2⟩ := ls10 (co := co) (ke := ke)
    rw [p1, Option.bind_some]
    have hk : keS (S.take 4) (nI 4, k') := by
      have hl : (S.take 4).length = 4 := by rw [List.length_take]; omega
      refine ⟨by rw [hl], by omega, fun j b hb => ?_⟩
      rw [hl]
      have hj : j < 4 := by
        have := (List.getElem?_eq_some_iff.mp hb).1
        omega
      rw [List.getElem?_take, if_pos hj] at hb
      have := h3 j b hb
      rw [c] at this
      refine keP_ext this (fun i hi => ?_)
      show k' _ = _
      rw [p2 _ (by omega), show 207 * (4 - 1 - j) + i + 207 = 207 * (5 - 1 - j) + i by omega]
    have e : ke.1 - (1 : Int32) = nI 4 := by rw [h1, c]; rfl
    dsimp only
    rw [e]
    obtain ⟨ke', q1, q2⟩ := ls49 (co := co) hk (by rw [List.length_take]; omega) ha
    exact ⟨ke', q1, q2⟩
  · rw [if_pos (fun z => c ((nI_eq (b := 5) (by omega) (by decide)).mp (by rw [← h1]; exact z)))]
    obtain ⟨ke', q1, q2⟩ := ls49 (co := co) ⟨h1, h2, h3⟩ (by omega) ha
    refine ⟨ke', q1, ?_⟩
    rw [List.take_of_length_le (by rw [List.length_cons]; omega)]
    exact q2
