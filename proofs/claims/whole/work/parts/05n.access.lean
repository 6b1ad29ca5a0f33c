/-! ===== what the class reads of what is learnt ===== -/
theorem dstp_cong {nt : Nat → Int32} {w w' : Nat → Nat} {t u : Nat} : ∀ k, (∀ m, m < k → w m = w' m) → dstp nt w t u k = dstp nt w' t u k
  | 0, _ => rfl
  | k + 1, h => by
    have ih := dstp_cong (nt := nt) (t := t) (u := u) k (fun m hm => h m (by omega))
    have hk := h k (by omega)
    have hc : cnd nt w t u k = cnd nt w' t u k := by unfold cnd; rw [hk]
    simp only [dstp, ih, hk, hc]
theorem dist_cong {nt : Nat → Int32} {w w' : Nat → Nat} (h : ∀ m, m < 4 → w m = w' m) (t u : Nat) : dist nt w t u = dist nt w' t u := by
  unfold dist dst0
  rw [dstp_cong 4 h]
theorem likeL_cong {n g : Nat} {nt : Nat → Int32} {w w' : Nat → Nat} (h : ∀ m, m < 4 → w m = w' m) (t : Nat) : ∀ u, likeL n g nt w t u = likeL n g nt w' t u
  | 0 => rfl
  | u + 1 => by
    have ih := likeL_cong (n := n) (g := g) (nt := nt) h t u
    simp only [likeL, cnL, dist_cong h t u, ih]
def lrW (n g : Nat) (nt : Nat → Int32) (w : Nat → Nat) (li : Tli) : Prop := li.2.2.2.2.2.2.2.1 = nI n ∧ dsP n nt w n 0 li ∧ ∀ t, t < n → rowL li.2.2.2.2.1 t ((likeL n g nt w t n).take 12) ∧ li.2.2.2.2.2.1 t = nI (min 12 (likeL n g nt w t n).length) ∧ li.2.2.2.2.2.2.1 t = nI (likeL n g nt w t n).length
theorem lrW.cong {n g : Nat} {nt : Nat → Int32} {w w' : Nat → Nat} {li : Tli} (h : ∀ m, m < 4 → w m = w' m) (hl : lrW n g nt w li) : lrW n g nt w' li := by
  obtain ⟨h1, h2, h3⟩ := hl
  refine ⟨h1, fun a b ha hb hab hc => ?_, fun t ht => ?_⟩
  · rw [← dist_cong h a b]; exact h2 a b ha hb hab hc
  · rw [← likeL_cong h t n]; exact h3 t ht
theorem lrn.W {n g : Nat} {nt : Nat → Int32} {w : Nat → Nat} {x : Int32} {li : Tli} (h : lrn n g nt w x li) : lrW n g nt (wo x w) li := h.2
theorem lrn.m1 {n g : Nat} {nt : Nat → Int32} {w : Nat → Nat} {li : Tli} (h : lrn n g nt w (-1) li) : lrW n g nt w li := lrW.cong (fun m hm => wo_m1 w hm) h.W
theorem nearL_len {n g f : Nat} {nt : Nat → Int32} {w : Nat → Nat} {t : Nat} : (nearL n g f nt w t).length = min f (likeL n g nt w t n).length := List.length_take
theorem nearL_mem {n g f : Nat} {nt : Nat → Int32} {w : Nat → Nat} {t : Nat} {p : Nat × UInt32} (h : p ∈ nearL n g f nt w t) : p.1 + 1 < n ∧ p.1 ≠ t ∧ dist nt w t p.1 = some p.2 := by
  obtain ⟨h1, h2, h3⟩ := likeL_mem n g nt w t n p (List.mem_of_mem_take h)
  have := of_decide_eq_true h2
  exact ⟨by omega, mayL_ne h2, h3⟩
theorem no_ok {n g f : Nat} {nt : Nat → Int32} {w : Nat → Nat} {li : Tli} (h : lrW n g nt w li) (hn : n ≤ 50) (hf : f ≤ 12) {t : Nat} (ht : t < n) : fX2_nearOnes li (nI t) (nI f) = some (nI (nearL n g f nt w t).length) := by
  obtain ⟨-, q2, -⟩ := h.2.2 t ht
  have hlen := likeL_len n g nt w t n
  unfold fX2_nearOnes
  rw [has_l h.1 hn, Option.bind_some, isD_nI ht (by omega), if_neg (by decide), gd_t (inB_nI (by omega) (by decide)), cl_nI (by omega), q2, nearL_len]
  unfold jX2_nearOnes_22
  by_cases c : f < min 12 (likeL n g nt w t n).length
  · rw [if_pos (nI_lt c (by omega)), Nat.min_eq_left (by omega)]
  · rw [if_neg (nI_nlt (by omega) (by omega)), show min f (likeL n g nt w t n).length = min 12 (likeL n g nt w t n).length by omega]
theorem ne_ok {n g f : Nat} {nt : Nat → Int32} {w : Nat → Nat} {li : Tli} (h : lrW n g nt w li) (hn : n ≤ 50) (hf : f ≤ 12) {t k : Nat} (ht : t < n) {a : Nat × UInt32} (ha : (nearL n g f nt w t)[k]? = some a) : fX2_near li (nI t) (nI k) = some (nI a.1) := by
  obtain ⟨q1, q2, -⟩ := h.2.2 t ht
  have hlen := likeL_len n g nt w t n
  have hk : k < min f (likeL n g nt w t n).length := by
    have := (List.getElem?_eq_some_iff.mp ha).1
    rw [nearL_len] at this
    exact this
  unfold fX2_near
  rw [has_l h.1 hn, Option.bind_some, isD_nI ht (by omega), if_neg (by decide), if_neg (nI_pos (by omega)), gd_t (inB_nI (by omega) (by decide)), cl_nI (by omega), q2, if_neg (nI_ge (by omega) (by omega)), show nI t * (12 : Int32) + nI k = nI (t * 12 + k) by rw [show (12 : Int32) = nI 12 from rfl, pk_mul, nI_add], gd_t (inB_nI (by omega) (by decide)), cl_nI (by omega)]
  unfold jX2_near_37
  refine congrArg some (q1 k a ?_)
  unfold nearL at ha
  rw [List.getElem?_take, if_pos (by omega)] at ha
  rw [List.getElem?_take, if_pos (by omega)]
  exact ha
theorem lo_ok {n g : Nat} {nt : Nat → Int32} {w : Nat → Nat} {li : Tli} (h : lrW n g nt w li) (hn : n ≤ 50) {t : Nat} (ht : t < n) : fX2_likeOnes li (nI t) = some (nI (likeL n g nt w t n).length) := by
  obtain ⟨-, -, q3⟩ := h.2.2 t ht
  unfold fX2_likeOnes
  rw [has_l h.1 hn, Option.bind_some, isD_nI ht (by omega), if_neg (by decide), gd_t (inB_nI (by omega) (by decide)), cl_nI (by omega), q3]
  rfl
theorem bt2_ok {n g : Nat} {nt : Nat → Int32} {w : Nat → Nat} {li : Tli} (h : lrW n g nt w li) (hn : n ≤ 50) {a b : Nat} (ha : a < n) (hb : b < n) (hab : a ≠ b) : fX2_between li (nI a) (nI b) = some (orN (dist nt w a b)) := bt_ok h.1 hn h.2.1 ha hb hab
/-- how often a day is near: once at most -/
def cntL (l : List (Nat × UInt32)) (u : Nat) : Nat := l.countP (fun p => p.1 == u)
theorem cntL_ins (x : Nat × UInt32) (u : Nat) : ∀ l : List (Nat × UInt32), cntL (insK kyL x l) u = cntL (x :: l) u
  | [] => rfl
  | y :: r => by
    have ih := cntL_ins x u r
    unfold cntL at ih ⊢
    simp only [insK]
    split
    · rfl
    · rw [List.countP_cons, ih, List.countP_cons, List.countP_cons, List.countP_cons]
      omega
theorem cntL_0 {l : List (Nat × UInt32)} {u : Nat} (h : ∀ p ∈ l, p.1 < u) : cntL l u = 0 := by
  unfold cntL
  rw [List.countP_eq_zero]
  intro p hp
  have := h p hp
  simp only [beq_iff_eq]
  omega
theorem cntL_like (n g : Nat) (nt : Nat → Int32) (w : Nat → Nat) (t v : Nat) : ∀ u, cntL (likeL n g nt w t u) v ≤ 1
  | 0 => Nat.zero_le 1
  | u + 1 => by
    have ih := cntL_like n g nt w t v u
    simp only [likeL]
    split
    · rename_i d _
      rw [cntL_ins]
      unfold cntL at ih ⊢
      rw [List.countP_cons]
      by_cases c : u = v
      · subst c
        have := cntL_0 (l := likeL n g nt w t u) (u := u) (fun p hp => (likeL_mem n g nt w t u p hp).1)
        unfold cntL at this
        rw [this]
        simp
      · rw [if_neg (by simpa using c)]
        exact ih
    · exact ih
theorem cntL_near {n g f : Nat} {nt : Nat → Int32} {w : Nat → Nat} {t v : Nat} : cntL (nearL n g f nt w t) v ≤ 1 :=
  Nat.le_trans (List.Sublist.countP_le (List.take_sublist _ _)) (cntL_like n g nt w t v n)
theorem isn_ok {n g f : Nat} {nt : Nat → Int32} {w : Nat → Nat} {li : Tli} (h : lrW n g nt w li) (hn : n ≤ 50) (hf : f ≤ 12) {t u : Nat} (ht : t < n) (hu : u < n) : fX2_isNear li (nI t) (nI u) (nI f) = some (nI (cntL (nearL n g f nt w t) u)) := by
  have hlen : (nearL n g f nt w t).length ≤ 12 := by rw [nearL_len]; omega
  have key := lp_brk (B := bX2_isNear_3 li (nI t) (nI u) (nI f)) (fun (k : Nat) (z : Int32) => z = nI k ∧ cntL ((nearL n g f nt w t).take k) u = 0) (fun (e : Unit ⊕ Unit) => (e = .inl () ∧ cntL (nearL n g f nt w t) u = 1) ∨ (e = .inr () ∧ cntL (nearL n g f nt w t) u = 0)) (nearL n g f nt w t).length (by omega) ?_ ?_ (0 : Int32) ⟨rfl, rfl⟩
  · obtain ⟨e, h1, h2⟩ := key
    unfold fX2_isNear
    rw [h1]
    rcases h2 with ⟨rfl, h2⟩ | ⟨rfl, h2⟩
    · rw [h2]; rfl
    · rw [h2]; rfl
  · rintro k z hk ⟨hz, hc⟩
    subst hz
    obtain ⟨a, ha⟩ : ∃ a, (nearL n g f nt w t)[k]? = some a := ⟨_, List.getElem?_eq_getElem hk⟩
    have hm := nearL_mem (List.mem_of_getElem? ha)
    unfold bX2_isNear_3
    rw [no_ok h hn hf ht, Option.bind_some, if_neg (nI_ge hk (by omega)), ne_ok h hn hf ht ha, Option.bind_some]
    by_cases c : a.1 = u
    · refine Or.inr ⟨_, if_neg (fun z => z (by rw [c])), Or.inl ⟨rfl, ?_⟩⟩
      have h1 : cntL ((nearL n g f nt w t).take (k + 1)) u = 1 := by
        unfold cntL at hc ⊢
        rw [List.take_add_one, ha, List.countP_append, hc]
        simp [c]
      have h2 : cntL ((nearL n g f nt w t).take (k + 1)) u ≤ cntL (nearL n g f nt w t) u := List.Sublist.countP_le (List.take_sublist _ _)
      have h3 := cntL_near (n := n) (g := g) (f := f) (nt := nt) (w := w) (t := t) (v := u)
      omega
    · refine Or.inl ⟨nI (k + 1), ?_, rfl, ?_⟩
      · rw [if_pos (fun z => c ((nI_eq (by omega) (by omega)).mp z)), nI_1]
      · unfold cntL at hc ⊢
        rw [List.take_add_one, ha, List.countP_append, hc]
        simp [c]
  · rintro z ⟨hz, hc⟩
    subst hz
    refine ⟨.inr (), ?_, Or.inr ⟨rfl, ?_⟩⟩
    · unfold bX2_isNear_3
      rw [no_ok h hn hf ht, Option.bind_some, if_pos (nI_le (Nat.le_refl _) (by omega))]
    · rw [List.take_length] at hc
      exact hc
