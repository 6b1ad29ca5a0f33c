/-! ===== errs on both sides ===== -/
def abF (d : UInt32) : UInt32 := if 0 ≤ Op.cmpValue (FP.fcmp d FP.fconst0) CmpOp.g then d else FP.fneg d
theorem abF_ok {g E : Nat} {d : UInt32} (h : G32 g E d) : G32 g E (abF d) ∧ FP.Core.sgn (FP.Core.val32 (abF d)) = false := by
  have hc := (fc_lt .g h.ne (G32_0 0 0).ne).2.2.1
  rw [z_zero32] at hc
  have h' := h
  obtain ⟨s, c, q, e1, e2, e3, e4, e5⟩ := h'
  have hz : zf d = FP.Core.zval FP.Core.b32 (.fin s c q) := by show FP.Core.zval FP.Core.b32 (FP.Core.val32 d) = _; rw [e1]
  unfold abF
  by_cases c1 : 0 ≤ zf d
  · rw [if_pos (hc.mpr c1)]
    refine ⟨h, ?_⟩
    rw [e1]
    show s = false
    cases s with
    | false => rfl
    | true =>
      have hcz : c ≠ 0 := fun z => by have := e5 z; cases this
      have hm : FP.Core.zmag FP.Core.b32 (.fin true c q) ≠ 0 := fun z => hcz (zmag_zero.mp z)
      rw [hz] at c1
      have c1 : (0 : Int) ≤ -((FP.Core.zmag FP.Core.b32 (.fin true c q) : Nat) : Int) := c1
      omega
  · rw [if_neg (fun z => c1 (hc.mp z))]
    have hs : s = true := by
      cases s with
      | true => rfl
      | false =>
        rw [hz] at c1
        have c1 : ¬ (0 : Int) ≤ ((FP.Core.zmag FP.Core.b32 (.fin false c q) : Nat) : Int) := c1
        omega
    subst hs
    have hv : FP.Core.val32 (FP.fneg d) = .fin false c q := by
      rw [FP.val32_fneg, e1]
      rfl
    refine ⟨⟨false, c, q, hv, e2, e3, e4, fun _ => rfl⟩, ?_⟩
    rw [hv]; rfl
theorem bits_Z32 {g E : Nat} {x : UInt32} (h : G32 g E x) (hz : FP.Core.zmag FP.Core.b32 (FP.Core.val32 x) = 0 ∨ 2 ^ 23 ≤ FP.Core.zmag FP.Core.b32 (FP.Core.val32 x)) : fX5_floatBits x = some x.toInt32 := by
  have ht : FP.Core.b32.tails = 2 ^ 23 := by decide +kernel
  obtain ⟨s, c, q, e1, e2, e3, e4, e5⟩ := h
  refine bits32_ok e1 ?_
  rw [e1] at hz
  rcases hz with hz | hz
  · right
    have hc := zmag_zero.mp hz
    subst hc
    have hs := e5 rfl
    subst hs
    have hq : q = FP.Core.b32.qmin := by
      unfold FP.Core.fits at e2
      rcases e2.2.2.2 with a | a
      · exact a
      · rw [ht] at a
        exact absurd a (by decide)
    subst hq
    have := FP.Core.val32_inj (a := x) (b := FP.fconst0) (by rw [e1]; exact FP.Core.Datum.noConfusion) (by rw [e1]; decide +kernel)
    rw [this]; rfl
  · left
    unfold FP.Core.fits at e2
    rcases e2.2.2.2 with a | a
    · have hzm : FP.Core.zmag FP.Core.b32 (.fin s c q) = c := by
        show c * 2 ^ (q - FP.Core.b32.qmin).toNat = c
        rw [a, Int.sub_self]
        show c * 2 ^ 0 = c
        rw [Nat.pow_zero, Nat.mul_one]
      rw [hzm] at hz
      exact hz
    · rw [ht] at a
      exact a
theorem i2f_all : (List.range 50).all (fun i => gtst 149 149 155 (FP.i2f (nI (i + 1)))) = true := by decide +kernel
theorem i2f_ok {k : Nat} (h0 : 0 < k) (h : k ≤ 50) : P32 149 155 (FP.i2f (nI k)) := by
  have h1 := List.all_eq_true.mp i2f_all (k - 1) (List.mem_range.mpr (by omega))
  rw [show k - 1 + 1 = k by omega] at h1
  exact (gtst_ok h1).1
/-- the sum of errors and their number, of the days before one -/
def erS (n g f : Nat) (nt : Nat → Int32) (w : Nat → Nat) (m : Nat) : Nat → UInt32 × Nat
  | 0 => (FP.fconst0, 0)
  | t + 1 => if nt ((t + 1) * 4 + m) = MI ∨ (folL nt m (nearL n g f nt w t)).length = 0 then erS n g f nt w m t else (FP.fadd (erS n g f nt w m t).1 (abF (FP.fsub (mnV (folL nt m (nearL n g f nt w t))) (valF (nt ((t + 1) * 4 + m))))), (erS n g f nt w m t).2 + 1)
theorem er_d {n g f : Nat} {nt : Nat → Int32} {w : Nat → Nat} (ho : okB n nt w) (hf : f ≤ 12) {t m : Nat} (ht : t + 1 < n) (hm : m < 4) (hv : nt ((t + 1) * 4 + m) ≠ MI) (h0 : (folL nt m (nearL n g f nt w t)).length ≠ 0) : G32 36 197 (FP.fsub (mnV (folL nt m (nearL n g f nt w t))) (valF (nt ((t + 1) * 4 + m)))) := by
  have hL := fok_ok (g := g) (f := f) ho hf (show t < n by omega) hm
  have a := (mnV_ok hL (by omega)).1
  have hv2 : (nt ((t + 1) * 4 + m)).toInt.natAbs ≤ 999 := by
    rcases ho.1 ((t + 1) * 4 + m) (by omega) with z | z
    · exact absurd z hv
    · exact z
  exact a.sub (G32_mono (valF_G hv2) (by decide) (by decide)) (by decide)
theorem erS_ok {n g f : Nat} {nt : Nat → Int32} {w : Nat → Nat} (hn : n ≤ 50) (ho : okB n nt w) (hf : f ≤ 12) {m : Nat} (hm : m < 4) : ∀ t, t ≤ n - 1 → G32 36 (197 + t) (erS n g f nt w m t).1 ∧ FP.Core.sgn (FP.Core.val32 (erS n g f nt w m t).1) = false ∧ (erS n g f nt w m t).2 ≤ t := by
  intro t
  induction t with
  | zero => intro _; exact ⟨G32_0 _ _, sgn_0, Nat.le_refl 0⟩
  | succ t ih =>
    intro ht
    obtain ⟨i1, i2, i3⟩ := ih (by omega)
    rw [erS]
    by_cases c : nt ((t + 1) * 4 + m) = MI ∨ (folL nt m (nearL n g f nt w t)).length = 0
    · rw [if_pos c]
      exact ⟨G32_mono i1 (Nat.le_refl _) (by omega), i2, by omega⟩
    · rw [if_neg c]
      obtain ⟨a1, a2⟩ := abF_ok (er_d (g := g) ho hf (show t + 1 < n by omega) hm (fun z => c (Or.inl z)) (fun z => c (Or.inr z)))
      have a1' := G32_mono a1 (Nat.le_refl 36) (show 197 ≤ 197 + t by omega)
      exact ⟨i1.add a1' (by omega), i1.sgnAdd a1' i2 a2, by dsimp only; omega⟩
/-- the mean error, or none -/
def errO (n g f : Nat) (nt : Nat → Int32) (w : Nat → Nat) (m : Nat) : Option UInt32 := if (erS n g f nt w m (n - 1)).2 = 0 then none else some (FP.fdiv (erS n g f nt w m (n - 1)).1 (FP.i2f (nI (erS n g f nt w m (n - 1)).2)))
theorem errO_ok {n g f : Nat} {nt : Nat → Int32} {w : Nat → Nat} (hn : n ≤ 50) (ho : okB n nt w) (hf : f ≤ 12) {m : Nat} (hm : m < 4) : gO 7 246 (errO n g f nt w m) ∧ ∀ d, errO n g f nt w m = some d → fX5_floatBits d = some d.toInt32 := by
  obtain ⟨i1, i2, i3⟩ := erS_ok (g := g) hn ho hf hm (n - 1) (Nat.le_refl _)
  have i1' : G32 36 246 (erS n g f nt w m (n - 1)).1 := G32_mono i1 (Nat.le_refl _) (by omega)
  have key : ∀ d, errO n g f nt w m = some d → (G32 7 246 d ∧ FP.Core.sgn (FP.Core.val32 d) = false) ∧ fX5_floatBits d = some d.toInt32 := by
    intro d hd
    unfold errO at hd
    by_cases c : (erS n g f nt w m (n - 1)).2 = 0
    · rw [if_pos c] at hd; cases hd
    · rw [if_neg c] at hd
      cases hd
      have p := i2f_ok (k := (erS n g f nt w m (n - 1)).2) (by omega) (by omega)
      obtain ⟨a, b, cc⟩ := i1'.div (j := 7) (E := 246) p (by decide) (by decide) (by decide)
      refine ⟨⟨a, b.trans i2⟩, bits_Z32 a ?_⟩
      have hdv := i1'.dvd
      rcases Nat.eq_zero_or_pos (FP.Core.zmag FP.Core.b32 (FP.Core.val32 (erS n g f nt w m (n - 1)).1)) with z | z
      · left
        have e : (erS n g f nt w m (n - 1)).1 = FP.fconst0 := by
          obtain ⟨s, c, q, e1, e2, e3, e4, e5⟩ := i1'
          rw [e1] at z
          have hc := zmag_zero.mp z
          subst hc
          have hs := e5 rfl
          subst hs
          have hq : q = FP.Core.b32.qmin := by
            unfold FP.Core.fits at e2
            rcases e2.2.2.2 with a | a
            · exact a
            · rw [show FP.Core.b32.tails = 2 ^ 23 by decide +kernel] at a
              exact absurd a (by decide)
          subst hq
          exact FP.Core.val32_inj (by rw [e1]; exact FP.Core.Datum.noConfusion) (by rw [e1]; decide +kernel)
        rw [e]
        have hq0 : ∀ y : UInt32, P32 149 155 y → FP.Core.zmag FP.Core.b32 (FP.Core.val32 (FP.fdiv FP.fconst0 y)) = 0 := by
          intro y hy
          have h0 := ((G32_0 200 0).div (j := 100) (E := 0) hy (by decide) (by decide) (by decide)).1
          have h1 := h0.dvd
          have h2 := h0.le
          refine Nat.eq_zero_of_dvd_of_lt h1 (Nat.lt_of_le_of_lt h2 ?_)
          exact Nat.pow_lt_pow_right (by decide) (by decide)
        exact hq0 _ p
      · right
        have h36 : 2 ^ 36 ≤ FP.Core.zmag FP.Core.b32 (FP.Core.val32 (erS n g f nt w m (n - 1)).1) := Nat.le_of_dvd z hdv
        exact Nat.le_trans (Nat.pow_le_pow_right (by decide) (by decide)) (cc 36 30 h36 (by decide) (by decide))
  exact ⟨fun d hd => (key d hd).1, fun d hd => (key d hd).2⟩
theorem bn2_ok {g E : Nat} {o : Option UInt32} (h : gO g E o) (hb : ∀ d, o = some d → fX5_floatBits d = some d.toInt32) : fX5_bitsOrNone (orN o) = some (bitN o) := by
  cases o with
  | none =>
    unfold fX5_bitsOrNone
    rw [if_neg (by show ¬ 0 ≤ Op.cmpValue (FP.fcmp m1F FP.fconst0) CmpOp.g; decide +kernel)]
    rfl
  | some d =>
    have hd := (orN_neg h).1.mpr rfl
    unfold fX5_bitsOrNone
    rw [if_pos hd]
    show (fX5_floatBits d).bind _ = _
    rw [hb d rfl]
    rfl
theorem me_c {n g f : Nat} {nt : Nat → Int32} {w w0 : Nat → Nat} {bk : Tbk} {f0 : Nat} {li : Tli} (hb : clB n nt w0 g f0 bk) (hl : lrW n g nt w li) (ho : okB n nt w) (hf : f ≤ 12) {m : Nat} (hm : m < 4) (fo : Tfo) : ∃ fo', fX5_meanError bk li fo (nI m) (nI f) = some (orN (errO n g f nt w m), fo') := by
  have hn := hb.1
  have key := lp_cnt (B := bX5_meanError_8 bk li (nI m) (nI f)) (fun (t : Nat) (z : UInt32 × Int32 × Int32 × Tfo) => z.1 = (erS n g f nt w m t).1 ∧ z.2.1 = nI (erS n g f nt w m t).2 ∧ z.2.2.1 = nI t) (fun (e : UInt32 × Int32 × Tfo) => e.1 = (erS n g f nt w m (n - 1)).1 ∧ e.2.1 = nI (erS n g f nt w m (n - 1)).2) (n - 1) (by omega) ?_ ?_ (FP.fconst0, (0 : Int32), (0 : Int32), fo) ⟨rfl, rfl, rfl⟩
  · obtain ⟨⟨e1, e2, e3⟩, k1, k2, k3⟩ := key
    have k2 : e1 = _ := k2
    have k3 : e2 = _ := k3
    subst k2 k3
    refine ⟨e3, ?_⟩
    unfold fX5_meanError
    rw [k1, Option.bind_some]
    dsimp only
    obtain ⟨o1, -⟩ := errO_ok (g := g) hn ho hf hm
    obtain ⟨i1, i2, i3⟩ := erS_ok (g := g) hn ho hf hm (n - 1) (Nat.le_refl _)
    unfold jX5_meanError_130
    by_cases c : (erS n g f nt w m (n - 1)).2 = 0
    · rw [if_neg (fun z => z (by rw [c]; rfl)), show errO n g f nt w m = none by unfold errO; rw [if_pos c]]
      rfl
    · have he : errO n g f nt w m = some (FP.fdiv (erS n g f nt w m (n - 1)).1 (FP.i2f (nI (erS n g f nt w m (n - 1)).2))) := by unfold errO; rw [if_neg c]
      rw [if_pos (nI_ne0 (by omega) (by omega)), gd_t (G32.n (o1 _ he).1), he]
      rfl
  · rintro t ⟨z1, z2, z3, z4⟩ ht ⟨e1, e2, e3⟩
    have e1 : z1 = (erS n g f nt w m t).1 := e1
    have e2 : z2 = nI (erS n g f nt w m t).2 := e2
    have e3 : z3 = nI t := e3
    subst e1 e2 e3
    have hns := (erS_ok (g := g) hn ho hf hm (t + 1) (by omega)).1
    have en : (nt ((t + 1) * 4 + m) = MI ∨ (folL nt m (nearL n g f nt w t)).length = 0) → erS n g f nt w m (t + 1) = erS n g f nt w m t := fun z => by rw [erS, if_pos z]
    have es : ¬ (nt ((t + 1) * 4 + m) = MI ∨ (folL nt m (nearL n g f nt w t)).length = 0) → erS n g f nt w m (t + 1) = (FP.fadd (erS n g f nt w m t).1 (abF (FP.fsub (mnV (folL nt m (nearL n g f nt w t))) (valF (nt ((t + 1) * 4 + m))))), (erS n g f nt w m t).2 + 1) := fun z => by rw [erS, if_neg z]
    unfold bX5_meanError_8 fX0_days
    dsimp only
    rw [Option.bind_some, hb.2.1, nI_1, if_neg (nI_ge (by omega) (by omega)), member_ok hb (show t + 1 < n by omega) hm, Option.bind_some]
    have hL := fok_ok (g := g) (f := f) ho hf (show t < n by omega) hm
    obtain ⟨fo', q1, q2⟩ := ga_ok hb hl hf (show t < n by omega) hm z4
    by_cases c1 : nt ((t + 1) * 4 + m) = MI
    · refine ⟨((erS n g f nt w m (t + 1)).1, nI (erS n g f nt w m (t + 1)).2, nI (t + 1), z4), ?_, rfl, rfl, rfl⟩
      rw [if_pos c1, en (Or.inl c1)]
      unfold jX5_meanError_8_109
      rw [nI_1]
    · rw [if_neg c1, q1, Option.bind_some]
      unfold fX1_size
      rw [Option.bind_some, q2.1]
      refine ⟨((erS n g f nt w m (t + 1)).1, nI (erS n g f nt w m (t + 1)).2, nI (t + 1), fo'), ?_, rfl, rfl, rfl⟩
      by_cases c2 : (folL nt m (nearL n g f nt w t)).length = 0
      · rw [if_pos (by rw [c2]; decide), en (Or.inr c2)]
        unfold jX5_meanError_8_109
        rw [nI_1]
      · have hd := er_d (g := g) ho hf (show t + 1 < n by omega) hm c1 c2
        rw [es (fun z => z.elim c1 c2)] at hns
        rw [if_neg (nI_nle (by omega) (by have := hL.1; omega)), mv_c hL (by omega) q2, Option.bind_some, valueOf_ok, Option.bind_some, gd_t (G32.n hd), es (fun z => z.elim c1 c2)]
        unfold jX5_meanError_8_104 jX5_meanError_8_109
        have hns' := G32.n hns
        unfold abF at hns' ⊢
        by_cases c3 : 0 ≤ Op.cmpValue (FP.fcmp (FP.fsub (mnV (folL nt m (nearL n g f nt w t))) (valF (nt ((t + 1) * 4 + m)))) FP.fconst0) CmpOp.g
        · rw [if_pos c3] at hns'
          rw [if_pos c3, if_pos c3, gd_t hns', nI_1, nI_1]
        · rw [if_neg c3] at hns'
          rw [if_neg c3, if_neg c3, gd_t hns', nI_1, nI_1]
  · rintro ⟨z1, z2, z3, z4⟩ ⟨e1, e2, e3⟩
    have e1 : z1 = (erS n g f nt w m (n - 1)).1 := e1
    have e2 : z2 = nI (erS n g f nt w m (n - 1)).2 := e2
    have e3 : z3 = nI (n - 1) := e3
    subst e1 e2 e3
    refine ⟨((erS n g f nt w m (n - 1)).1, nI (erS n g f nt w m (n - 1)).2, z4), ?_, rfl, rfl⟩
    unfold bX5_meanError_8 fX0_days
    dsimp only
    rw [Option.bind_some, hb.2.1, nI_1, if_pos (nI_le (by omega) (by omega))]
/-- what the reference answers: the mean error and how many -/
def erN (n g f : Nat) (nt : Nat → Int32) (w : Nat → Nat) (m : Nat) : Nat := (erS n g f nt w m (n - 1)).2
theorem me_m {n g f : Nat} {nt : Nat → Int32} {w : Nat → Nat} {co : Tco} (h : moA n nt w g f co) (ho : okB n nt w) (hg : g ≤ 9) (hf : f ≤ 12) {m : Nat} (hm : m < 4) (cp : Int32) (lk : Tlk) (fl : Tfl) (em : Int32) : ∃ cp' lk' fl', fX6_errsOf co cp lk fl em (nI m) = some ((errO n g f nt w m).getD FP.fconst0, cp', lk', fl', nI (erN n g f nt w m)) := by
  have hn := h.1.1
  have key := lp_cnt (B := bX6_errsOf_9 co (nI m)) (fun (t : Nat) (z : UInt32 × Int32 × Int32 × Tlk × Tfl × Int32) => z.1 = (erS n g f nt w m t).1 ∧ z.2.1 = nI t ∧ z.2.2.2.2.2 = nI (erS n g f nt w m t).2) (fun (e : UInt32 × Int32 × Tlk × Tfl × Int32) => e.1 = (erS n g f nt w m (n - 1)).1 ∧ e.2.2.2.2 = nI (erS n g f nt w m (n - 1)).2) (n - 1) (by omega) ?_ ?_ (FP.fconst0, (0 : Int32), cp, lk, fl, (0 : Int32)) ⟨rfl, rfl, rfl⟩
  · obtain ⟨⟨e1, e2, e3, e4, e5⟩, k1, k2, k3⟩ := key
    have k2 : e1 = _ := k2
    have k3 : e5 = _ := k3
    subst k2 k3
    refine ⟨e2, e3, e4, ?_⟩
    unfold fX6_errsOf
    rw [k1, Option.bind_some]
    dsimp only
    obtain ⟨o1, -⟩ := errO_ok (g := g) hn ho hf hm
    obtain ⟨i1, i2, i3⟩ := erS_ok (g := g) hn ho hf hm (n - 1) (Nat.le_refl _)
    unfold jX6_errsOf_118
    by_cases c : (erS n g f nt w m (n - 1)).2 = 0
    · rw [if_neg (fun z => z (by rw [c]; rfl)), show errO n g f nt w m = none by unfold errO; rw [if_pos c]]
      rfl
    · have he : errO n g f nt w m = some (FP.fdiv (erS n g f nt w m (n - 1)).1 (FP.i2f (nI (erS n g f nt w m (n - 1)).2))) := by unfold errO; rw [if_neg c]
      rw [if_pos (nI_ne0 (by omega) (by omega)), gd_t (G32.n (o1 _ he).1), he]
      rfl
  · rintro t ⟨z1, z2, z3, z4, z5, z6⟩ ht ⟨e1, e2, e3⟩
    have e1 : z1 = (erS n g f nt w m t).1 := e1
    have e2 : z2 = nI t := e2
    have e3 : z6 = nI (erS n g f nt w m t).2 := e3
    subst e1 e2 e3
    have hns := (erS_ok (g := g) hn ho hf hm (t + 1) (by omega)).1
    have en : (nt ((t + 1) * 4 + m) = MI ∨ (folL nt m (nearL n g f nt w t)).length = 0) → erS n g f nt w m (t + 1) = erS n g f nt w m t := fun z => by rw [erS, if_pos z]
    have es : ¬ (nt ((t + 1) * 4 + m) = MI ∨ (folL nt m (nearL n g f nt w t)).length = 0) → erS n g f nt w m (t + 1) = (FP.fadd (erS n g f nt w m t).1 (abF (FP.fsub (mnV (folL nt m (nearL n g f nt w t))) (valF (nt ((t + 1) * 4 + m))))), (erS n g f nt w m t).2 + 1) := fun z => by rw [erS, if_neg z]
    have hL := fok_ok (g := g) (f := f) ho hf (show t < n by omega) hm
    obtain ⟨c1, k1, f1, s1, s2⟩ := sf_ok h ho hg hf (show t < n by omega) hm z3 z4 z5
    refine ⟨((erS n g f nt w m (t + 1)).1, nI (t + 1), c1, k1, f1, nI (erS n g f nt w m (t + 1)).2), ?_, rfl, rfl, rfl⟩
    unfold bX6_errsOf_9
    dsimp only
    rw [h.1.2.1, show nI t + (1 : Int32) = nI (t + 1) from nI_1 t, if_neg (nI_ge (by omega) (by omega)), ← nI_1 t, mix, gd_t (inB_nI (by omega) (by decide)), s1, Option.bind_some, cl_nI (by omega), h.1.2.2.1 _ (by omega), noted_ok, Option.bind_some]
    dsimp only
    unfold jX6_errsOf_9_82 jX6_errsOf_9_94
    rw [nI_1, nI_1, s2.1]
    by_cases cv : nt ((t + 1) * 4 + m) = MI
    · rw [if_pos (by rw [if_pos cv]), en (Or.inl cv)]
    · rw [if_neg (by rw [if_neg cv]; decide)]
      by_cases c2 : (folL nt m (nearL n g f nt w t)).length = 0
      · rw [if_pos (by rw [c2]; decide), en (Or.inr c2)]
      · have hd := er_d (g := g) ho hf (show t + 1 < n by omega) hm cv c2
        rw [es (fun z => z.elim cv c2)] at hns
        rw [if_neg (nI_nle (by omega) (by have := hL.1; omega)), mv_m hL (by omega) s2, Option.bind_some, value_ok, Option.bind_some, gd_t (G32.n hd), es (fun z => z.elim cv c2)]
        have hns' := G32.n hns
        unfold abF at hns' ⊢
        by_cases c3 : 0 ≤ Op.cmpValue (FP.fcmp (FP.fsub (mnV (folL nt m (nearL n g f nt w t))) (valF (nt ((t + 1) * 4 + m)))) FP.fconst0) CmpOp.g
        · rw [if_pos c3] at hns'
          rw [if_pos c3, if_pos c3, gd_t hns']
        · rw [if_neg c3] at hns'
          rw [if_neg c3, if_neg c3, gd_t hns']
  · rintro ⟨z1, z2, z3, z4, z5, z6⟩ ⟨e1, e2, e3⟩
    have e1 : z1 = (erS n g f nt w m (n - 1)).1 := e1
    have e2 : z2 = nI (n - 1) := e2
    have e3 : z6 = nI (erS n g f nt w m (n - 1)).2 := e3
    subst e1 e2 e3
    refine ⟨((erS n g f nt w m (n - 1)).1, z3, z4, z5, nI (erS n g f nt w m (n - 1)).2), ?_, rfl, rfl⟩
    unfold bX6_errsOf_9
    dsimp only
    rw [h.1.2.1, nI_1, if_pos (nI_le (by omega) (by omega))]
theorem erN_0 {n g f : Nat} {nt : Nat → Int32} {w : Nat → Nat} {m : Nat} : erN n g f nt w m = 0 ↔ errO n g f nt w m = none := by
  unfold erN errO
  by_cases c : (erS n g f nt w m (n - 1)).2 = 0
  · rw [if_pos c]; exact ⟨fun _ => rfl, fun _ => c⟩
  · rw [if_neg c]; exact ⟨fun z => absurd z c, fun z => by cases z⟩
theorem erN_le {n g f : Nat} {nt : Nat → Int32} {w : Nat → Nat} (hn : n ≤ 50) (ho : okB n nt w) (hf : f ≤ 12) {m : Nat} (hm : m < 4) : erN n g f nt w m ≤ 50 := by
  have := (erS_ok (g := g) hn ho hf hm (n - 1) (Nat.le_refl _)).2.2
  unfold erN
  omega
theorem q_errs {n g f : Nat} {nt : Nat → Int32} {w : Nat → Nat} {bk : Tbk} {co : Tco} {li : Tli} {cn : Tcn} {rf : Nat → Int32} (h : BK n nt w g f bk co) (hl : LI n g nt w li) (hc : ctP cn rf) (fo : Tfo) (cp : Int32) (lk : Tlk) (fl : Tfl) (em : Int32) (x1 : Int32) :
    ∃ r cn' li' fo' rf' cp' lk' fl' em', fX5_errs cn bk li fo x1 = some (r, cn', li', fo') ∧ fX6_errs co rf cp lk fl em x1 = some (r, rf', cp', lk', fl', em') ∧ ctP cn' rf' ∧ LI n g nt w li' := by
  obtain ⟨h1, h2, h3, h4, h5, h6⟩ := h
  have hn := h1.1
  cases hx1 : isD 4 x1 with
  | false =>
    refine ⟨-2, _, li, fo, _, cp, lk, fl, em, ?_, ?_, hc.bad, hl⟩
    · unfold fX5_errs; rw [member_c, hx1, Option.bind_some, if_neg (by decide)]; rfl
    · unfold fX6_errs; rw [member_m, hx1, Option.bind_some, if_pos (by decide)]; rfl
  | true =>
    obtain ⟨m, hm, rfl⟩ := isD_of hx1 (by decide)
    obtain ⟨l', p1, p2⟩ := le_ok h1 h3 h4 hl (x := -1) (by decide)
    obtain ⟨fo', e1⟩ := me_c h1 p2.m1 h3 h6 hm fo
    obtain ⟨c1, k1, f1, e2⟩ := me_m h2 h3 h4 h6 hm cp lk fl em
    obtain ⟨o1, o2⟩ := errO_ok (g := g) hn h3 h6 hm
    refine ⟨bitN (errO n g f nt w m), cn, l', fo', rf, c1, k1, f1, nI (erN n g f nt w m), ?_, ?_, hc, p2.LI⟩
    · unfold fX5_errs fX0_few
      rw [member_c, hx1, Option.bind_some, if_pos (by decide), p1, Option.bind_some, Option.bind_some, h1.2.2.2.2.2, e1, Option.bind_some]
      dsimp only
      rw [bn2_ok o1 o2, Option.bind_some]
    · unfold fX6_errs fX6_errsTold
      rw [member_m, hx1, Option.bind_some, if_neg (by decide), e2, Option.bind_some]
      dsimp only
      have hz := erN_0 (n := n) (g := g) (f := f) (nt := nt) (w := w) (m := m)
      have hle := erN_le (g := g) hn h3 h6 hm
      cases ho : errO n g f nt w m with
      | none =>
        rw [hz.mpr ho, if_neg (fun z => z rfl)]
        rfl
      | some d =>
        rw [if_pos (nI_ne0 (by rcases Nat.eq_zero_or_pos (erN n g f nt w m) with z | z; (· rw [hz.mp z] at ho; cases ho); exact z) (by omega))]
        dsimp only [Option.getD_some]
        rw [fbits (o1 d ho).1.ne]
        rfl
