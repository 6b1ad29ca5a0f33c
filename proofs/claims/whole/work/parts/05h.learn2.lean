/-! ===== learn: notes, weights, distances ===== -/
def tkP (nt : Nat → Int32) (K : Nat) (l : Tli) : Prop := ∀ k, k < K → l.1 k = valF (nt k) ∧ l.2.1 k = b2I (decide (nt k ≠ MI))
theorem nar_b (b : Bool) : vp_nar .boolean (b2I b) = b2I b := by cases b <;> decide
theorem tk_j {bk : Tbk} {l : Tli} {t m : Nat} {v : Int32} (ht : t < 50) (hm : m < 4) (b : Bool) : jX2_takeNotes_12_47 bk l (nI t) (nI m) v (nI (t * 4 + m)) (b2I b) = some (.inl (nI (m + 1), (vf_upd l.1 (t * 4 + m) (valF v), upd l.2.1 (t * 4 + m) (b2I b), l.2.2))) := by
  have e : nI t * (4 : Int32) + nI m = nI (t * 4 + m) := by rw [show (4 : Int32) = nI 4 from rfl, pk_mul, nI_add]
  unfold jX2_takeNotes_12_47
  rw [valueOf_ok, Option.bind_some, e, gd_t (inB_nI (by omega) (by decide)), gd_t (inB_nI (by omega) (by decide)), cl_nI (by omega), nar_b, show nI m + (1 : Int32) = nI (m + 1) from nI_1 m]
theorem tk_inner {n g f : Nat} {nt : Nat → Int32} {w : Nat → Nat} {bk : Tbk} (h : clB n nt w g f bk) {t : Nat} (ht : t < n) {l : Tli} (hl : tkP nt (t * 4) l) : ∃ l', lpF (bX2_takeNotes_12 bk (nI t)) FU ((0 : Int32), l) = some l' ∧ l'.2.2 = l.2.2 ∧ tkP nt (t * 4 + 4) l' := by
  have hn := h.1
  refine lp_cnt (fun (i : Nat) (z : Int32 × Tli) => z.1 = nI i ∧ z.2.2.2 = l.2.2 ∧ tkP nt (t * 4 + i) z.2) (fun (e : Tli) => e.2.2 = l.2.2 ∧ tkP nt (t * 4 + 4) e) 4 (by decide) ?_ ?_ ((0 : Int32), l) ⟨rfl, rfl, hl⟩
  · rintro i ⟨zi, zl⟩ hi ⟨h1, h2, h3⟩
    have h1 : zi = nI i := h1
    subst h1
    have h4 : ¬ (4 : Int32) ≤ nI i := nI_ge (a := i) (b := 4) hi (by decide)
    have e : nI t * (4 : Int32) + nI i = nI (t * 4 + i) := by rw [show (4 : Int32) = nI 4 from rfl, pk_mul, nI_add]
    refine ⟨(nI (i + 1), (vf_upd zl.1 (t * 4 + i) (valF (nt (t * 4 + i))), upd zl.2.1 (t * 4 + i) (b2I (decide (nt (t * 4 + i) ≠ MI))), zl.2.2)), ?_, rfl, h2, ?_⟩
    · unfold bX2_takeNotes_12
      dsimp only
      rw [if_neg h4, member_ok h ht hi, Option.bind_some, e]
      by_cases c : nt (t * 4 + i) = MI
      · rw [if_pos c, show (0 : Int32) = b2I false from rfl, tk_j (by omega) hi, show decide (nt (t * 4 + i) ≠ MI) = false from decide_eq_false (fun z => z c)]
      · rw [if_neg c, show (1 : Int32) = b2I true from rfl, tk_j (by omega) hi, show decide (nt (t * 4 + i) ≠ MI) = true from decide_eq_true c]
    · intro k hk
      by_cases c : k = t * 4 + i
      · subst c
        exact ⟨by simp [vf_upd], by simp [upd]⟩
      · have := h3 k (by omega)
        exact ⟨by simp only [vf_upd, if_neg c]; exact this.1, by simp only [upd, if_neg c]; exact this.2⟩
  · rintro ⟨zi, zl⟩ ⟨h1, h2, h3⟩
    have h1 : zi = nI 4 := h1
    subst h1
    refine ⟨zl, ?_, h2, h3⟩
    unfold bX2_takeNotes_12
    dsimp only
    rw [if_pos (show (4 : Int32) ≤ nI 4 by decide)]
theorem tk_ok {n g f : Nat} {nt : Nat → Int32} {w : Nat → Nat} {bk : Tbk} (h : clB n nt w g f bk) {l : Tli} (hl : l.2.2.2.2.2.2.2.1 = nI n) : ∃ l', fX2_takeNotes bk l = some l' ∧ l'.2.2 = l.2.2 ∧ tkP nt (n * 4) l' := by
  have hn := h.1
  have key := lp_cnt (B := bX2_takeNotes_2 bk) (fun (i : Nat) (z : Int32 × Tli) => z.1 = nI i ∧ z.2.2.2 = l.2.2 ∧ tkP nt (i * 4) z.2) (fun e => e.2.2 = l.2.2 ∧ tkP nt (n * 4) e) n (by omega) ?_ ?_ ((0 : Int32), l) ⟨rfl, rfl, fun k hk => absurd hk (by omega)⟩
  · obtain ⟨e, h1, h2⟩ := key
    refine ⟨e, ?_, h2⟩
    unfold fX2_takeNotes
    rw [h1]; rfl
  · rintro i ⟨zi, zl⟩ hi ⟨h1, h2, h3⟩
    have h1 : zi = nI i := h1
    subst h1
    have hd : zl.2.2.2.2.2.2.2.1 = nI n := by
      have h2 : zl.2.2 = l.2.2 := h2
      rw [h2]; exact hl
    obtain ⟨l', e1, e2, e3⟩ := tk_inner h hi h3
    refine ⟨(nI (i + 1), l'), ?_, rfl, e2.trans h2, by rw [show (i + 1) * 4 = i * 4 + 4 by omega]; exact e3⟩
    unfold bX2_takeNotes_2
    dsimp only
    rw [hd, if_neg (nI_ge hi (by omega)), e1, Option.bind_some, show nI i + (1 : Int32) = nI (i + 1) from nI_1 i]
  · rintro ⟨zi, zl⟩ ⟨h1, h2, h3⟩
    have h1 : zi = nI n := h1
    subst h1
    have hd : zl.2.2.2.2.2.2.2.1 = nI n := by
      have h2 : zl.2.2 = l.2.2 := h2
      rw [h2]; exact hl
    refine ⟨zl, ?_, h2, h3⟩
    unfold bX2_takeNotes_2
    dsimp only
    rw [hd, if_pos (nI_le (Nat.le_refl n) (by omega))]
/-- the weights with one of them left out -/
def wo (x : Int32) (w : Nat → Nat) : Nat → Nat := fun m => if nI m = x then 0 else w m
theorem okB.wo {n : Nat} {nt : Nat → Int32} {w : Nat → Nat} (h : okB n nt w) (x : Int32) : okB n nt (wo x w) := ⟨h.1, fun m hm => by
  show (if nI m = x then 0 else w m) ≤ 80
  split
  · omega
  · exact h.2 m hm⟩
theorem wt_n (k : Nat) : n32 (wtF k) = true := by
  refine n32_of ((FP.Core.notNaN_iff32 _).mp ?_)
  exact FP.Core.fdiv_out (FP.Core.i2f_fin _).notNaN ⟨false, 8388608, -20, by decide +kernel⟩ (by
    rintro ⟨s, q, h⟩
    have h2 : FP.Core.val32 1090519040 = .fin false 8388608 (-20) := by decide +kernel
    rw [h2] at h
    injection h with _ h3
    exact absurd h3 (by decide))
theorem wl_ok {n g f : Nat} {nt : Nat → Int32} {w : Nat → Nat} {bk : Tbk} (h : clB n nt w g f bk) (x : Int32) (l : Tli) : ∃ l', lpF (bX2_learn_34 bk x) FU ((0 : Int32), l) = some l' ∧ l'.1 = l.1 ∧ l'.2.1 = l.2.1 ∧ l'.2.2.2 = l.2.2.2 ∧ ∀ m, m < 4 → l'.2.2.1 m = wtF (wo x w m) := by
  refine lp_cnt (fun (i : Nat) (z : Int32 × Tli) => z.1 = nI i ∧ z.2.1 = l.1 ∧ z.2.2.1 = l.2.1 ∧ z.2.2.2.2 = l.2.2.2 ∧ ∀ m, m < i → z.2.2.2.1 m = wtF (wo x w m)) (fun (e : Tli) => e.1 = l.1 ∧ e.2.1 = l.2.1 ∧ e.2.2.2 = l.2.2.2 ∧ ∀ m, m < 4 → e.2.2.1 m = wtF (wo x w m)) 4 (by decide) ?_ ?_ ((0 : Int32), l) ⟨rfl, rfl, rfl, rfl, fun m hm => absurd hm (by omega)⟩
  · rintro i ⟨zi, zl⟩ hi ⟨h1, h2, h3, h4, h5⟩
    have h1 : zi = nI i := h1
    subst h1
    have hj : ∀ v, jX2_learn_34_62 bk zl x (nI i) (nI i) v = some (.inl (nI (i + 1), (zl.1, zl.2.1, vf_upd zl.2.2.1 i v, zl.2.2.2))) := by
      intro v
      unfold jX2_learn_34_62
      rw [gd_t (inB_nI (n := 4) hi (by decide)), cl_nI (by omega), show nI i + (1 : Int32) = nI (i + 1) from nI_1 i]
    refine ⟨(nI (i + 1), (zl.1, zl.2.1, vf_upd zl.2.2.1 i (wtF (wo x w i)), zl.2.2.2)), ?_, rfl, h2, h3, h4, ?_⟩
    · unfold bX2_learn_34
      dsimp only
      rw [if_neg (show ¬ (4 : Int32) ≤ nI i from nI_ge (a := i) (b := 4) hi (by decide))]
      by_cases c : nI i = x
      · rw [if_neg (fun z => z c), hj, show wo x w i = 0 from if_pos c, wtF_0]
      · rw [if_pos c, rule_ok h hi, Option.bind_some, show FP.fdiv (FP.i2f (nI (w i))) 1090519040 = wtF (w i) from rfl, gd_t (wt_n _), hj, show wo x w i = w i from if_neg c]
    · intro m hm
      by_cases c : m = i
      · subst c
        simp [vf_upd]
      · simp only [vf_upd, if_neg c]
        exact h5 m (by omega)
  · rintro ⟨zi, zl⟩ ⟨h1, h2, h3, h4, h5⟩
    have h1 : zi = nI 4 := h1
    subst h1
    refine ⟨zl, ?_, h2, h3, h4, h5⟩
    unfold bX2_learn_34
    dsimp only
    rw [if_pos (show (4 : Int32) ≤ nI 4 by decide)]
/-- the distances that stand: of pairs whose lesser is below i, or is i with the other below u -/
def dsP (n : Nat) (nt : Nat → Int32) (w : Nat → Nat) (i u : Nat) (l : Tli) : Prop := ∀ a b, a < n → b < n → a ≠ b → (min a b < i ∨ (min a b = i ∧ max a b < u)) → l.2.2.2.1 (a * 50 + b) = (dist nt w a b).getD m1F
theorem dist_lt {nt : Nat → Int32} {w : Nat → Nat} {a b : Nat} (h : a < b) : dist nt w a b = dst0 nt w a b := by
  unfold dist
  rw [Nat.min_eq_left (by omega), Nat.max_eq_right (by omega)]
theorem dist_comm (nt : Nat → Int32) (w : Nat → Nat) (a b : Nat) : dist nt w a b = dist nt w b a := by
  unfold dist
  rw [Nat.min_comm, Nat.max_comm]
theorem liV.of {n : Nat} {nt : Nat → Int32} {w : Nat → Nat} {l l' : Tli} (h : liV n nt w l) (h1 : l'.1 = l.1) (h2 : l'.2.1 = l.2.1) (h3 : l'.2.2.1 = l.2.2.1) (h4 : l'.2.2.2.2.2.2.2.1 = l.2.2.2.2.2.2.2.1) : liV n nt w l' := by
  unfold liV
  rw [h1, h2, h3, h4]
  exact h
theorem dl_inner {n : Nat} {nt : Nat → Int32} {w : Nat → Nat} {bk : Tbk} {l : Tli} (hv : liV n nt w l) (ho : okB n nt w) {t : Nat} (ht : t < n) (hl : dsP n nt w t 0 l) : ∃ l', lpF (bX2_learn_84 bk (nI t)) FU (nI (t + 1), l) = some l' ∧ l'.1 = l.1 ∧ l'.2.1 = l.2.1 ∧ l'.2.2.1 = l.2.2.1 ∧ l'.2.2.2.2 = l.2.2.2.2 ∧ dsP n nt w (t + 1) 0 l' := by
  have hn := hv.1
  have key := lp_for (B := bX2_learn_84 bk (nI t)) (fun (i : Nat) (z : Int32 × Tli) => t < i ∧ z.1 = nI i ∧ z.2.1 = l.1 ∧ z.2.2.1 = l.2.1 ∧ z.2.2.2.1 = l.2.2.1 ∧ z.2.2.2.2.2 = l.2.2.2.2 ∧ dsP n nt w t i z.2) (fun (e : Tli) => e.1 = l.1 ∧ e.2.1 = l.2.1 ∧ e.2.2.1 = l.2.2.1 ∧ e.2.2.2.2 = l.2.2.2.2 ∧ dsP n nt w (t + 1) 0 e) n ?_ ?_ FU (t + 1) (nI (t + 1), l) (by omega) (by rw [FU_eq]; omega) ⟨by omega, rfl, rfl, rfl, rfl, rfl, fun a b ha hb hab hc => hl a b ha hb hab (by omega)⟩
  · exact key
  · rintro i ⟨zi, zl⟩ hi ⟨h0, h1, h2, h3, h4, h5, h6⟩
    have h1 : zi = nI i := h1
    subst h1
    have h2 : zl.1 = l.1 := h2
    have h3 : zl.2.1 = l.2.1 := h3
    have h4 : zl.2.2.1 = l.2.2.1 := h4
    have h5 : zl.2.2.2.2 = l.2.2.2.2 := h5
    have hvz : liV n nt w zl := hv.of h2 h3 h4 (by rw [h5])
    have hq := me_ok hvz ho ht hi
    rw [← dist_lt h0] at hq
    have e1 : nI t * (50 : Int32) + nI i = nI (t * 50 + i) := by rw [show (50 : Int32) = nI 50 from rfl, pk_mul, nI_add]
    have e2 : nI i * (50 : Int32) + nI t = nI (i * 50 + t) := by rw [show (50 : Int32) = nI 50 from rfl, pk_mul, nI_add]
    refine Or.inl ⟨(nI (i + 1), (zl.1, zl.2.1, zl.2.2.1, vf_upd (vf_upd zl.2.2.2.1 (t * 50 + i) ((dist nt w t i).getD m1F)) (i * 50 + t) ((dist nt w t i).getD m1F), zl.2.2.2.2)), ?_, by omega, rfl, h2, h3, h4, h5, ?_⟩
    · unfold bX2_learn_84
      dsimp only
      rw [if_neg (show ¬ zl.2.2.2.2.2.2.2.1 ≤ nI i by rw [hvz.2.1]; exact nI_ge hi (by omega)), hq, Option.bind_some, e1, e2, gd_t (inB_nI (by omega) (by decide)), gd_t (inB_nI (by omega) (by decide)), cl_nI (by omega), cl_nI (by omega), show nI i + (1 : Int32) = nI (i + 1) from nI_1 i]
    · intro a b ha hb hab hc
      show vf_upd (vf_upd zl.2.2.2.1 (t * 50 + i) ((dist nt w t i).getD m1F)) (i * 50 + t) ((dist nt w t i).getD m1F) (a * 50 + b) = _
      by_cases c1 : a = i ∧ b = t
      · obtain ⟨rfl, rfl⟩ := c1
        rw [dist_comm nt w a b]
        simp [vf_upd]
      · by_cases c2 : a = t ∧ b = i
        · obtain ⟨rfl, rfl⟩ := c2
          simp [vf_upd]
        · have n1 : ¬ a * 50 + b = i * 50 + t := by omega
          have n2 : ¬ a * 50 + b = t * 50 + i := by omega
          simp only [vf_upd, if_neg n1, if_neg n2]
          exact h6 a b ha hb hab (by omega)
  · rintro ⟨zi, zl⟩ ⟨h0, h1, h2, h3, h4, h5, h6⟩
    have h1 : zi = nI n := h1
    subst h1
    have h5' : zl.2.2.2.2 = l.2.2.2.2 := h5
    have hd : zl.2.2.2.2.2.2.2.1 = nI n := by rw [h5']; exact hv.2.1
    refine ⟨zl, ?_, h2, h3, h4, h5, fun a b ha hb hab hc => h6 a b ha hb hab (by omega)⟩
    unfold bX2_learn_84
    dsimp only
    rw [hd, if_pos (nI_le (Nat.le_refl n) (by omega))]
theorem dl_ok {n : Nat} {nt : Nat → Int32} {w : Nat → Nat} {bk : Tbk} {l : Tli} (hv : liV n nt w l) (ho : okB n nt w) : ∃ l', lpF (bX2_learn_71 bk) FU ((0 : Int32), l) = some l' ∧ liV n nt w l' ∧ l'.2.2.2.2 = l.2.2.2.2 ∧ dsP n nt w n 0 l' := by
  have hn := hv.1
  have key := lp_cnt (B := bX2_learn_71 bk) (fun (i : Nat) (z : Int32 × Tli) => z.1 = nI i ∧ liV n nt w z.2 ∧ z.2.2.2.2.2 = l.2.2.2.2 ∧ dsP n nt w i 0 z.2) (fun (e : Tli) => liV n nt w e ∧ e.2.2.2.2 = l.2.2.2.2 ∧ dsP n nt w n 0 e) n (by omega) ?_ ?_ ((0 : Int32), l) ⟨rfl, hv, rfl, fun a b ha hb hab hc => absurd hc (by omega)⟩
  · exact key
  · rintro i ⟨zi, zl⟩ hi ⟨h1, h2, h3, h4⟩
    have h1 : zi = nI i := h1
    subst h1
    have h2 : liV n nt w zl := h2
    have h3 : zl.2.2.2.2 = l.2.2.2.2 := h3
    obtain ⟨l', e1, e2, e3, e4, e5, e6⟩ := dl_inner (bk := bk) h2 ho hi h4
    refine ⟨(nI (i + 1), l'), ?_, rfl, h2.of e2 e3 e4 (by rw [e5]), e5.trans h3, e6⟩
    unfold bX2_learn_71
    dsimp only
    rw [h2.2.1, if_neg (nI_ge hi (by omega)), show nI i + (1 : Int32) = nI (i + 1) from nI_1 i, e1, Option.bind_some]
  · rintro ⟨zi, zl⟩ ⟨h1, h2, h3, h4⟩
    have h1 : zi = nI n := h1
    subst h1
    have h2' : liV n nt w zl := h2
    refine ⟨zl, ?_, h2, h3, h4⟩
    unfold bX2_learn_71
    dsimp only
    rw [h2'.2.1, if_pos (nI_le (Nat.le_refl n) (by omega))]
