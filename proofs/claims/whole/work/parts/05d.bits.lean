theorem whole_aux {c T P b : Nat} {q : Int} (hq : -(b : Int) ≤ q) (hP : P ≤ b) (hu : c * 2 ^ (q + (b : Int)).toNat = T * 2 ^ (b - P)) : c * 2 ^ P * 2 ^ q.toNat = T * 2 ^ (-q).toNat := by
  apply Nat.eq_of_mul_eq_mul_right (Nat.two_pow_pos (b - P))
  have e5 : 2 ^ P * 2 ^ q.toNat * 2 ^ (b - P) = 2 ^ (q + (b : Int)).toNat * 2 ^ (-q).toNat := by
    rw [← Nat.pow_add, ← Nat.pow_add, ← Nat.pow_add]; congr 1; omega
  calc c * 2 ^ P * 2 ^ q.toNat * 2 ^ (b - P) = c * (2 ^ P * 2 ^ q.toNat * 2 ^ (b - P)) := by ac_rfl
    _ = c * (2 ^ (q + (b : Int)).toNat * 2 ^ (-q).toNat) := by rw [e5]
    _ = c * 2 ^ (q + (b : Int)).toNat * 2 ^ (-q).toNat := by ac_rfl
    _ = T * 2 ^ (b - P) * 2 ^ (-q).toNat := by rw [hu]
    _ = T * 2 ^ (-q).toNat * 2 ^ (b - P) := by ac_rfl
/-! ===== fX5_floatBits: the bits, worked out ===== -/
def NF32 (c : Nat) (q : Int) (x : UInt32) : Prop := FP.Core.val32 x = .fin false c q ∧ 2 ^ 23 ≤ c ∧ c < 2 ^ 24 ∧ -149 ≤ q ∧ q ≤ 104
theorem qmax_b32 : FP.Core.b32.qmax = 104 := by decide
theorem nf_fits32 {s : Bool} {c : Nat} {q : Int} (h1 : 2 ^ 23 ≤ c) (h2 : c < 2 ^ 24) (h3 : -149 ≤ q) (h4 : q ≤ 104) : FP.Core.fits FP.Core.b32 (.fin s c q) :=
  ⟨h2, by rw [FP.Core.qmin_b32]; exact h3, by rw [qmax_b32]; exact h4, Or.inr (by rw [FP.Core.tails_b32]; exact h1)⟩
theorem val_two32 : FP.Core.val32 FP.fconst2 = .fin false (2 ^ 23) (-22) := by decide +kernel
theorem val_one32 : FP.Core.val32 FP.fconst1 = .fin false (2 ^ 23) (-23) := by decide +kernel
theorem nf_half32 {c : Nat} {q : Int} {x : UInt32} (h : NF32 c q x) (hq : -149 < q) : NF32 c (q - 1) (FP.fdiv x FP.fconst2) := by
  obtain ⟨h1, h2, h3, h4, h5⟩ := h
  refine ⟨?_, h2, h3, by omega, by omega⟩
  show FP.Core.val32 (FP.Core.fdiv x FP.fconst2) = _
  rw [FP.Core.val32_fdiv, h1, val_two32]
  unfold FP.Core.quotient
  dsimp only
  rw [if_neg (by decide)]
  show FP.Core.roundRatio FP.Core.b32 (false != false) c (2 ^ 23) (q - -22) = _
  refine FP.Core.roundRatio_exact FP.Core.good_b32 (by decide) (nf_fits32 h2 h3 (by omega) (by omega)) ?_
  rw [show (q - -22 - (q - 1)).toNat = 23 by omega, show (q - 1 - (q - -22)).toNat = 0 by omega]
  simp
theorem nf_dbl32 {c : Nat} {q : Int} {x : UInt32} (h : NF32 c q x) (hq : q < 104) : NF32 c (q + 1) (FP.fmul x FP.fconst2) := by
  obtain ⟨h1, h2, h3, h4, h5⟩ := h
  refine ⟨?_, h2, h3, by omega, by omega⟩
  show FP.Core.val32 (FP.Core.fmul x FP.fconst2) = _
  rw [FP.Core.val32_fmul, h1, val_two32]
  show FP.Core.roundRatio FP.Core.b32 (false != false) (c * 2 ^ 23) 1 (q + -22) = _
  refine FP.Core.roundRatio_exact FP.Core.good_b32 (by decide) (nf_fits32 h2 h3 (by omega) (by omega)) ?_
  rw [show (q + -22 - (q + 1)).toNat = 0 by omega, show (q + 1 - (q + -22)).toNat = 23 by omega]
  simp
theorem nf_ne32 {c : Nat} {q : Int} {x : UInt32} (h : NF32 c q x) : FP.Core.val32 x ≠ .nan := by rw [h.1]; exact FP.Core.Datum.noConfusion
theorem nf_z32 {c : Nat} {q : Int} {x : UInt32} (h : NF32 c q x) : zf x = ((c * 2 ^ (q + 149).toNat : Nat) : Int) := by
  show FP.Core.zval FP.Core.b32 (FP.Core.val32 x) = _
  rw [h.1]
  show ((c * 2 ^ (q - FP.Core.b32.qmin).toNat : Nat) : Int) = _
  rw [FP.Core.qmin_b32, show q - -149 = q + 149 by omega]
theorem z_two32 : zf FP.fconst2 = ((2 ^ 150 : Nat) : Int) := by decide +kernel
theorem z_one32 : zf FP.fconst1 = ((2 ^ 149 : Nat) : Int) := by decide +kernel
theorem z_zero32 : zf FP.fconst0 = 0 := by decide +kernel
theorem nf_lt232 {c : Nat} {q : Int} {x : UInt32} (h : NF32 c q x) : zf x < zf FP.fconst2 ↔ q < -22 := by
  rw [nf_z32 h, z_two32, Int.ofNat_lt]
  obtain ⟨h1, h2, h3, h4, h5⟩ := h
  constructor
  · intro hl
    rcases Int.lt_or_le q (-22) with g | g
    · exact g
    · exfalso
      have h6 : 2 ^ 23 * 2 ^ (149 - 22) ≤ c * 2 ^ (q + 149).toNat := Nat.mul_le_mul h2 (Nat.pow_le_pow_right (by decide) (by omega))
      rw [← Nat.pow_add] at h6
      exact absurd (Nat.lt_of_le_of_lt h6 hl) (Nat.lt_irrefl _)
  · intro g
    have h6 : c * 2 ^ (q + 149).toNat < 2 ^ 24 * 2 ^ (149 - 23) := Nat.mul_lt_mul_of_lt_of_le h3 (Nat.pow_le_pow_right (by decide) (by omega)) (Nat.two_pow_pos _)
    rw [← Nat.pow_add] at h6
    exact h6
theorem nf_ge132 {c : Nat} {q : Int} {x : UInt32} (h : NF32 c q x) : zf FP.fconst1 ≤ zf x ↔ -23 ≤ q := by
  rw [nf_z32 h, z_one32, Int.ofNat_le]
  obtain ⟨h1, h2, h3, h4, h5⟩ := h
  constructor
  · intro hl
    rcases Int.lt_or_le q (-23) with g | g
    · exfalso
      have h6 : c * 2 ^ (q + 149).toNat < 2 ^ 24 * 2 ^ (149 - 24) := Nat.mul_lt_mul_of_lt_of_le h3 (Nat.pow_le_pow_right (by decide) (by omega)) (Nat.two_pow_pos _)
      rw [← Nat.pow_add] at h6
      exact absurd (Nat.lt_of_lt_of_le h6 hl) (Nat.lt_irrefl _)
    · exact g
  · intro g
    have h6 : 2 ^ 23 * 2 ^ (149 - 23) ≤ c * 2 ^ (q + 149).toNat := Nat.mul_le_mul h2 (Nat.pow_le_pow_right (by decide) (by omega))
    rw [← Nat.pow_add] at h6
    exact h6
theorem ne_two32 : FP.Core.val32 FP.fconst2 ≠ .nan := by rw [val_two32]; exact FP.Core.Datum.noConfusion
theorem ne_one32 : FP.Core.val32 FP.fconst1 ≠ .nan := by rw [val_one32]; exact FP.Core.Datum.noConfusion
theorem nf_loop132 {c : Nat} {q0 : Int} {x x0 : UInt32} (h : NF32 c q0 x) : ∃ e, lpF (bX5_floatBits_24 x0) FU (x, (127 : Int32)) = some e ∧ NF32 c (q0 - ((q0 + 23).toNat : Int)) e.1 ∧ e.2 = nI (127 + (q0 + 23).toNat) := by
  have hb1 := h.2.2.2.1
  have hb2 := h.2.2.2.2
  refine lp_cnt (fun (i : Nat) (z : UInt32 × Int32) => NF32 c (q0 - (i : Int)) z.1 ∧ z.2 = nI (127 + i)) (fun (e : UInt32 × Int32) => NF32 c (q0 - ((q0 + 23).toNat : Int)) e.1 ∧ e.2 = nI (127 + (q0 + 23).toNat)) (q0 + 23).toNat (by omega) ?_ ?_ _ ⟨by simpa using h, rfl⟩
  · rintro i ⟨y, ex⟩ hi ⟨hy, he⟩
    have he : ex = nI (127 + i) := he
    subst he
    have hc := (fc_lt .l (nf_ne32 hy) ne_two32).1
    have hn : ¬ Op.cmpValue (FP.fcmp y FP.fconst2) CmpOp.l < 0 := fun z => by
      have := (nf_lt232 hy).mp (hc.mp z)
      omega
    have hy2 := nf_half32 hy (by omega)
    refine ⟨(FP.fdiv y FP.fconst2, nI (127 + i) + 1), ?_, by rw [show q0 - ((i + 1 : Nat) : Int) = q0 - (i : Int) - 1 by omega]; exact hy2, nI_1 _⟩
    unfold bX5_floatBits_24
    dsimp only
    rw [if_neg hn, if_neg (show ¬ (254 : Int32) ≤ nI (127 + i) from nI_ge (a := 127 + i) (b := 254) (by omega) (by decide)), gd_t (n32_of (nf_ne32 hy2))]
  · rintro ⟨y, ex⟩ ⟨hy, he⟩
    refine ⟨(y, ex), ?_, hy, he⟩
    have hc := (fc_lt .l (nf_ne32 hy) ne_two32).1
    have hn : Op.cmpValue (FP.fcmp y FP.fconst2) CmpOp.l < 0 := hc.mpr ((nf_lt232 hy).mpr (by omega))
    unfold bX5_floatBits_24
    dsimp only
    rw [if_pos hn]
theorem nf_loop232 {c k : Nat} {q1 : Int} {x x0 : UInt32} (h : NF32 c q1 x) (hq : q1 ≤ -23) (hk : (-23 - q1).toNat < k) (hk2 : k ≤ 254) (hk3 : k ≤ 127 ∨ q1 = -23) (hk4 : k = 127 ∨ q1 = -23) : ∃ e, lpF (bX5_floatBits_47 x0) FU (x, nI k) = some e ∧ NF32 c (-23) e.1 ∧ e.2 = nI (k - (-23 - q1).toNat) := by
  have hb1 := h.2.2.2.1
  have hb2 := h.2.2.2.2
  refine lp_cnt (fun (i : Nat) (z : UInt32 × Int32) => NF32 c (q1 + (i : Int)) z.1 ∧ z.2 = nI (k - i)) (fun (e : UInt32 × Int32) => NF32 c (-23) e.1 ∧ e.2 = nI (k - (-23 - q1).toNat)) (-23 - q1).toNat (by omega) ?_ ?_ _ ⟨by simpa using h, rfl⟩
  · rintro i ⟨y, ex⟩ hi ⟨hy, he⟩
    have he : ex = nI (k - i) := he
    subst he
    have hc := (fc_lt .g (nf_ne32 hy) ne_one32).2.2.1
    have hn : ¬ 0 ≤ Op.cmpValue (FP.fcmp y FP.fconst1) CmpOp.g := fun z => by
      have := (nf_ge132 hy).mp (hc.mp z)
      omega
    have hy2 := nf_dbl32 hy (by omega)
    refine ⟨(FP.fmul y FP.fconst2, nI (k - i) + (-1)), ?_, by rw [show q1 + ((i + 1 : Nat) : Int) = q1 + (i : Int) + 1 by omega]; exact hy2, by
      rw [show k - i = k - (i + 1) + 1 by omega]; exact pk_m1 _⟩
    unfold bX5_floatBits_47
    dsimp only
    rw [if_neg hn, if_neg (show ¬ nI (k - i) ≤ (1 : Int32) from nI_ge (a := 1) (b := k - i) (by omega) (by omega)), gd_t (n32_of (nf_ne32 hy2))]
  · rintro ⟨y, ex⟩ ⟨hy, he⟩
    refine ⟨(y, ex), ?_, by rw [show q1 + ((-23 - q1).toNat : Int) = -23 by omega] at hy; exact hy, he⟩
    have hc := (fc_lt .g (nf_ne32 hy) ne_one32).2.2.1
    have hn : 0 ≤ Op.cmpValue (FP.fcmp y FP.fconst1) CmpOp.g := hc.mpr ((nf_ge132 hy).mpr (by omega))
    unfold bX5_floatBits_47
    dsimp only
    rw [if_pos hn]
theorem nf_frac32 {c : Nat} {y : UInt32} (h : NF32 c (-23) y) : n32 (FP.fsub y FP.fconst1) = true ∧ n32 (FP.fmul (FP.fsub y FP.fconst1) 1258291200) = true ∧ FP.f2i (FP.fmul (FP.fsub y FP.fconst1) 1258291200) = nI (c - 2 ^ 23) := by
  obtain ⟨h1, h2, h3, h4, h5⟩ := h
  obtain ⟨T, hT0⟩ : ∃ T, T = c - 2 ^ 23 := ⟨_, rfl⟩
  rw [← hT0]
  have e1 : FP.Core.val32 (FP.fsub y FP.fconst1) = FP.Core.round FP.Core.b32 (.fin false (T) (-23)) := by
    show FP.Core.val32 (FP.Core.fsub y FP.fconst1) = _
    rw [FP.Core.val32_fsub, h1, val_one32]
    congr 1
    show FP.Core.Datum.fin (FP.Core.sumSign false true (FP.Core.sumUnits false c (-23) true (2 ^ 23) (-23) (min (-23) (-23)))) (FP.Core.sumUnits false c (-23) true (2 ^ 23) (-23) (min (-23) (-23))).natAbs (min (-23) (-23)) = _
    have e2 : FP.Core.sumUnits false c (-23) true (2 ^ 23) (-23) (min (-23) (-23)) = ((T : Nat) : Int) := by
      unfold FP.Core.sumUnits FP.Core.signed FP.Core.inUnits
      rw [show ((-23 : Int) - min (-23) (-23)).toNat = 0 by decide]
      simp only [Bool.false_eq_true, if_false, if_true, Nat.pow_zero, Nat.mul_one]
      omega
    rw [e2]
    have e3 : FP.Core.sumSign false true ((T : Nat) : Int) = false := by
      unfold FP.Core.sumSign
      split
      · rfl
      · exact decide_eq_false (by omega)
    rw [e3]
    rfl
  obtain ⟨c', q', r1, r2⟩ := FP.Core.round_exact FP.Core.good_b32 false (c := T) (q := -23) (by rw [show FP.Core.b32.p = 24 from rfl]; omega) (by rw [FP.Core.qmin_b32]; decide) (by rw [qmax_b32]; decide)
  have rf := FP.Core.round_fits FP.Core.good_b32 (.fin false (T) (-23))
  rw [r1] at e1 rf
  have hq' := rf.2.1
  rw [FP.Core.qmin_b32] at hq'
  have hu : c' * 2 ^ (q' + 149).toNat = (T) * 2 ^ (149 - 23) := by
    have r3 : c' * 2 ^ (q' - FP.Core.b32.qmin).toNat = (T) * 2 ^ ((-23 : Int) - FP.Core.b32.qmin).toNat := r2
    rw [FP.Core.qmin_b32, show q' - -149 = q' + 149 by omega, show ((-23 : Int) - -149).toNat = 149 - 23 by decide] at r3
    exact r3
  have hsc : FP.Core.val32 1258291200 = .fin false (2 ^ 23) 0 := by decide +kernel
  have e4 : FP.Core.val32 (FP.fmul (FP.fsub y FP.fconst1) 1258291200) = FP.Core.round FP.Core.b32 (.fin false (c' * 2 ^ 23) (q' + 0)) := by
    show FP.Core.val32 (FP.Core.fmul (FP.fsub y FP.fconst1) 1258291200) = _
    rw [FP.Core.val32_fmul, e1, hsc]
    rfl
  have hT : T < 2 ^ 23 := by omega
  have hw : FP.Core.Whole ((T : Nat) : Int) (.fin false (c' * 2 ^ 23) (q' + 0)) := by
    show ((c' * 2 ^ 23 * 2 ^ (q' + 0).toNat : Nat) : Int) = ((T : Nat) : Int) * ((2 ^ (-(q' + 0)).toNat : Nat) : Int)
    rw [← Int.natCast_mul, Int.ofNat_inj, Int.add_zero]
    exact whole_aux (b := 149) hq' (by decide) hu
  have hw2 := FP.Core.whole_round FP.Core.good_b32 FP.Core.wide_b32 (by rw [show FP.Core.b32.p = 24 from rfl, Int.natAbs_natCast]; omega) hw
  rw [← e4] at hw2
  refine ⟨n32_of (by rw [e1]; exact FP.Core.Datum.noConfusion), n32_of (FP.Core.Whole.ne_nan hw2), ?_⟩
  refine FP.Core.f2i_int (a := nI (T)) ?_
  have ht : (nI T).toInt = (T : Int) := nI_toInt (by omega)
  rw [ht]
  exact hw2
/-- the bits of a number without sign, out of exponent and fraction -/
theorem nf_bits32 {s : Bool} {c : Nat} {q : Int} {x : UInt32} (h1 : FP.Core.val32 x = .fin s c q) (h2 : 2 ^ 23 ≤ c) (h3 : c < 2 ^ 24) (h4 : -149 ≤ q) (h5 : q ≤ 104) : x.toNat = (s.toNat * 256 + ((q + 149).toNat + 1)) * 2 ^ 23 + (c - 2 ^ 23) := by
  have hx : FP.Core.of32 (FP.Core.val32 x) = x := FP.Core.of32_val32 (by rw [h1]; exact FP.Core.Datum.noConfusion)
  have h6 := FP.Core.toNat_of32 (FP.Core.val32_fits x)
  rw [hx, h1] at h6
  rw [h6]
  show (if c < FP.Core.b32.tails then _ else FP.Core.assemble FP.Core.b32 s ((q - FP.Core.b32.qmin).toNat + 1) (c - FP.Core.b32.tails)) = _
  rw [FP.Core.tails_b32, if_neg (by omega), FP.Core.qmin_b32, show q - -149 = q + 149 by omega]
  rfl
theorem to_mk32 (x : UInt32) : x.toInt32 = nI x.toNat := by
  have h : x = UInt32.ofNat x.toNat := by simp
  exact congrArg UInt32.toInt32 h
theorem nf_tail32 {s : Bool} {c : Nat} {q : Int} {x y : UInt32} (hy : NF32 c q y) (hx : FP.Core.val32 x = .fin s c q) (hs : 0 ≤ Op.cmpValue (FP.fcmp x FP.fconst0) CmpOp.g ↔ s = false) : jX5_floatBits_20 x y = some x.toInt32 := by
  have b1 := hy.2.2.2.1
  have b2 := hy.2.2.2.2
  have c1 := hy.2.1
  have c3 := hy.2.2.1
  obtain ⟨⟨y1, n1⟩, l1, hy1, hn1⟩ := nf_loop132 (x0 := x) hy
  have hn1 : n1 = nI (127 + (q + 23).toNat) := hn1
  subst hn1
  obtain ⟨⟨y2, n2⟩, l2, hy2, hn2⟩ := nf_loop232 (x0 := x) (k := 127 + (q + 23).toNat) hy1 (by omega) (by omega) (by omega) (by omega) (by omega)
  have hn2 : n2 = nI (127 + (q + 23).toNat - (-23 - (q - ((q + 23).toNat : Int))).toNat) := hn2
  rw [show 127 + (q + 23).toNat - (-23 - (q - ((q + 23).toNat : Int))).toNat = (q + 149).toNat + 1 by omega] at hn2
  subst hn2
  obtain ⟨f1, f2, f3⟩ := nf_frac32 hy2
  have hE : (q + 149).toNat + 1 ≤ 254 := by omega
  unfold jX5_floatBits_20
  rw [l1]
  dsimp only [Option.bind_some]
  rw [l2]
  dsimp only [Option.bind_some]
  rw [gd_t f1, gd_t f2, f3]
  have e1 : nI ((q + 149).toNat + 1) <<< ((23 : Int32) &&& 31) = nI (2 ^ 23 * ((q + 149).toNat + 1)) := by
    rw [pk_shlN _ 23 (by decide) (by omega), Nat.mul_comm]
  have e2 : nI (2 ^ 23 * ((q + 149).toNat + 1)) ||| nI (c - 2 ^ 23) = nI (2 ^ 23 * ((q + 149).toNat + 1) + (c - 2 ^ 23)) := fa_or_sum _ (by omega)
  rw [e1, e2, to_mk32 x, nf_bits32 hx c1 c3 b1 b2]
  cases s with
  | false =>
    rw [if_pos (hs.mpr rfl)]
    have key : (Bool.toNat false * 256 + ((q + 149).toNat + 1)) * 2 ^ 23 + (c - 2 ^ 23) = 2 ^ 23 * ((q + 149).toNat + 1) + (c - 2 ^ 23) := by
      rw [show Bool.toNat false = 0 from rfl, Nat.zero_mul, Nat.zero_add, Nat.mul_comm]
    rw [key]
    unfold jX5_floatBits_95
    rfl
  | true =>
    rw [if_neg (fun z => by cases hs.mp z)]
    have key : (Bool.toNat true * 256 + ((q + 149).toNat + 1)) * 2 ^ 23 + (c - 2 ^ 23) = 2 ^ 31 * 1 + (2 ^ 23 * ((q + 149).toNat + 1) + (c - 2 ^ 23)) := by
      rw [show Bool.toNat true = 1 from rfl]; omega
    rw [key, ← fa_or_sum 1 (by omega), Int32.or_comm, show nI (2 ^ 31 * 1) = (-2147483648 : Int32) by decide]
    unfold jX5_floatBits_95
    rfl
/-- THE BITS: of +0, and of every number with a full significand -/
theorem bits32_ok {x : UInt32} {s : Bool} {c : Nat} {q : Int} (hx : FP.Core.val32 x = .fin s c q) (hn : 2 ^ 23 ≤ c ∨ x = 0) : fX5_floatBits x = some x.toInt32 := by
  have hne : FP.Core.val32 x ≠ .nan := by rw [hx]; exact FP.Core.Datum.noConfusion
  have hz0 : FP.Core.val32 FP.fconst0 ≠ .nan := by
    have : FP.Core.val32 FP.fconst0 = .fin false 0 FP.Core.b32.qmin := by decide +kernel
    rw [this]; exact FP.Core.Datum.noConfusion
  have hcl := fc_lt .l hne hz0
  have hcg := fc_lt .g hne hz0
  rw [z_zero32] at hcl hcg
  unfold fX5_floatBits
  rcases hn with hn | hn
  · have hf := FP.Core.val32_fits x
    rw [hx] at hf
    obtain ⟨f1, f2, f3, -⟩ := hf
    rw [FP.Core.qmin_b32] at f2
    rw [qmax_b32] at f3
    have f1 : c < 2 ^ 24 := f1
    have hzx : zf x = FP.Core.signed s (c * 2 ^ (q - FP.Core.b32.qmin).toNat) := by
      show FP.Core.zval FP.Core.b32 (FP.Core.val32 x) = _
      rw [hx]; rfl
    have hpos : 0 < c * 2 ^ (q - FP.Core.b32.qmin).toNat := Nat.mul_pos (Nat.lt_of_lt_of_le (by decide) hn) (Nat.two_pow_pos _)
    have hsg : 0 ≤ Op.cmpValue (FP.fcmp x FP.fconst0) CmpOp.g ↔ s = false := by
      rw [hcg.2.2.1, hzx]
      generalize c * 2 ^ (q - FP.Core.b32.qmin).toNat = m at hpos
      cases s
      · exact ⟨fun _ => rfl, fun _ => by show (0 : Int) ≤ (m : Int); omega⟩
      · exact ⟨fun z => by have z : (0 : Int) ≤ -(m : Int) := z; omega, fun z => by cases z⟩
    have hnz : ¬ Op.cmpValue (FP.fcmp x FP.fconst0) CmpOp.l = 0 := by
      rw [hcl.2.2.2.2, hzx]
      generalize c * 2 ^ (q - FP.Core.b32.qmin).toNat = m at hpos
      cases s
      · intro z; have z : (m : Int) = 0 := z; omega
      · intro z; have z : -(m : Int) = 0 := z; omega
    rw [if_pos hnz]
    cases s with
    | false =>
      rw [if_pos (hsg.mpr rfl)]
      exact nf_tail32 ⟨hx, hn, f1, f2, f3⟩ hx hsg
    | true =>
      rw [if_neg (fun z => by cases hsg.mp z)]
      refine nf_tail32 ⟨?_, hn, f1, f2, f3⟩ hx hsg
      rw [FP.val32_fneg, hx]
      rfl
  · subst hn
    have : Op.cmpValue (FP.fcmp 0 FP.fconst0) CmpOp.l = 0 := by decide +kernel
    rw [if_neg (fun z => z this)]
    rfl
/-! ===== fX5_doubleBits: the bits, worked out ===== -/
def NF64 (c : Nat) (q : Int) (x : UInt64) : Prop := FP.Core.val64 x = .fin false c q ∧ 2 ^ 52 ≤ c ∧ c < 2 ^ 53 ∧ -1074 ≤ q ∧ q ≤ 971
theorem qmax_b64 : FP.Core.b64.qmax = 971 := by decide
theorem nf_fits64 {s : Bool} {c : Nat} {q : Int} (h1 : 2 ^ 52 ≤ c) (h2 : c < 2 ^ 53) (h3 : -1074 ≤ q) (h4 : q ≤ 971) : FP.Core.fits FP.Core.b64 (.fin s c q) :=
  ⟨h2, by rw [FP.Core.qmin_b64]; exact h3, by rw [qmax_b64]; exact h4, Or.inr (by rw [FP.Core.tails_b64]; exact h1)⟩
theorem val_two64 : FP.Core.val64 4611686018427387904 = .fin false (2 ^ 52) (-51) := by decide +kernel
theorem val_one64 : FP.Core.val64 FP.dconst1 = .fin false (2 ^ 52) (-52) := by decide +kernel
theorem nf_half64 {c : Nat} {q : Int} {x : UInt64} (h : NF64 c q x) (hq : -1074 < q) : NF64 c (q - 1) (FP.ddiv x 4611686018427387904) := by
  obtain ⟨h1, h2, h3, h4, h5⟩ := h
  refine ⟨?_, h2, h3, by omega, by omega⟩
  show FP.Core.val64 (FP.Core.ddiv x 4611686018427387904) = _
  rw [FP.Core.val64_ddiv, h1, val_two64]
  unfold FP.Core.quotient
  dsimp only
  rw [if_neg (by decide)]
  show FP.Core.roundRatio FP.Core.b64 (false != false) c (2 ^ 52) (q - -51) = _
  refine FP.Core.roundRatio_exact FP.Core.good_b64 (by decide) (nf_fits64 h2 h3 (by omega) (by omega)) ?_
  rw [show (q - -51 - (q - 1)).toNat = 52 by omega, show (q - 1 - (q - -51)).toNat = 0 by omega]
  simp
theorem nf_dbl64 {c : Nat} {q : Int} {x : UInt64} (h : NF64 c q x) (hq : q < 971) : NF64 c (q + 1) (FP.dmul x 4611686018427387904) := by
  obtain ⟨h1, h2, h3, h4, h5⟩ := h
  refine ⟨?_, h2, h3, by omega, by omega⟩
  show FP.Core.val64 (FP.Core.dmul x 4611686018427387904) = _
  rw [FP.Core.val64_dmul, h1, val_two64]
  show FP.Core.roundRatio FP.Core.b64 (false != false) (c * 2 ^ 52) 1 (q + -51) = _
  refine FP.Core.roundRatio_exact FP.Core.good_b64 (by decide) (nf_fits64 h2 h3 (by omega) (by omega)) ?_
  rw [show (q + -51 - (q + 1)).toNat = 0 by omega, show (q + 1 - (q + -51)).toNat = 52 by omega]
  simp
theorem nf_ne64 {c : Nat} {q : Int} {x : UInt64} (h : NF64 c q x) : FP.Core.val64 x ≠ .nan := by rw [h.1]; exact FP.Core.Datum.noConfusion
theorem nf_z64 {c : Nat} {q : Int} {x : UInt64} (h : NF64 c q x) : zd x = ((c * 2 ^ (q + 1074).toNat : Nat) : Int) := by
  show FP.Core.zval FP.Core.b64 (FP.Core.val64 x) = _
  rw [h.1]
  show ((c * 2 ^ (q - FP.Core.b64.qmin).toNat : Nat) : Int) = _
  rw [FP.Core.qmin_b64, show q - -1074 = q + 1074 by omega]
theorem z_two64 : zd 4611686018427387904 = ((2 ^ 1075 : Nat) : Int) := by decide +kernel
theorem z_one64 : zd FP.dconst1 = ((2 ^ 1074 : Nat) : Int) := by decide +kernel
theorem z_zero64 : zd FP.dconst0 = 0 := by decide +kernel
theorem nf_lt264 {c : Nat} {q : Int} {x : UInt64} (h : NF64 c q x) : zd x < zd 4611686018427387904 ↔ q < -51 := by
  rw [nf_z64 h, z_two64, Int.ofNat_lt]
  obtain ⟨h1, h2, h3, h4, h5⟩ := h
  constructor
  · intro hl
    rcases Int.lt_or_le q (-51) with g | g
    · exact g
    · exfalso
      have h6 : 2 ^ 52 * 2 ^ (1074 - 51) ≤ c * 2 ^ (q + 1074).toNat := Nat.mul_le_mul h2 (Nat.pow_le_pow_right (by decide) (by omega))
      rw [← Nat.pow_add] at h6
      exact absurd (Nat.lt_of_le_of_lt h6 hl) (Nat.lt_irrefl _)
  · intro g
    have h6 : c * 2 ^ (q + 1074).toNat < 2 ^ 53 * 2 ^ (1074 - 52) := Nat.mul_lt_mul_of_lt_of_le h3 (Nat.pow_le_pow_right (by decide) (by omega)) (Nat.two_pow_pos _)
    rw [← Nat.pow_add] at h6
    exact h6
theorem nf_ge164 {c : Nat} {q : Int} {x : UInt64} (h : NF64 c q x) : zd FP.dconst1 ≤ zd x ↔ -52 ≤ q := by
  rw [nf_z64 h, z_one64, Int.ofNat_le]
  obtain ⟨h1, h2, h3, h4, h5⟩ := h
  constructor
  · intro hl
    rcases Int.lt_or_le q (-52) with g | g
    · exfalso
      have h6 : c * 2 ^ (q + 1074).toNat < 2 ^ 53 * 2 ^ (1074 - 53) := Nat.mul_lt_mul_of_lt_of_le h3 (Nat.pow_le_pow_right (by decide) (by omega)) (Nat.two_pow_pos _)
      rw [← Nat.pow_add] at h6
      exact absurd (Nat.lt_of_lt_of_le h6 hl) (Nat.lt_irrefl _)
    · exact g
  · intro g
    have h6 : 2 ^ 52 * 2 ^ (1074 - 52) ≤ c * 2 ^ (q + 1074).toNat := Nat.mul_le_mul h2 (Nat.pow_le_pow_right (by decide) (by omega))
    rw [← Nat.pow_add] at h6
    exact h6
theorem ne_two64 : FP.Core.val64 4611686018427387904 ≠ .nan := by rw [val_two64]; exact FP.Core.Datum.noConfusion
theorem ne_one64 : FP.Core.val64 FP.dconst1 ≠ .nan := by rw [val_one64]; exact FP.Core.Datum.noConfusion
theorem nf_loop164 {c : Nat} {q0 : Int} {x x0 : UInt64} (h : NF64 c q0 x) : ∃ e, lpF (bX5_doubleBits_26 x0) FU (x, (1023 : Int32)) = some e ∧ NF64 c (q0 - ((q0 + 52).toNat : Int)) e.1 ∧ e.2 = nI (1023 + (q0 + 52).toNat) := by
  have hb1 := h.2.2.2.1
  have hb2 := h.2.2.2.2
  refine lp_cnt (fun (i : Nat) (z : UInt64 × Int32) => NF64 c (q0 - (i : Int)) z.1 ∧ z.2 = nI (1023 + i)) (fun (e : UInt64 × Int32) => NF64 c (q0 - ((q0 + 52).toNat : Int)) e.1 ∧ e.2 = nI (1023 + (q0 + 52).toNat)) (q0 + 52).toNat (by omega) ?_ ?_ _ ⟨by simpa using h, rfl⟩
  · rintro i ⟨y, ex⟩ hi ⟨hy, he⟩
    have he : ex = nI (1023 + i) := he
    subst he
    have hc := (dc_lt .l (nf_ne64 hy) ne_two64).1
    have hn : ¬ Op.cmpValue (FP.dcmp y 4611686018427387904) CmpOp.l < 0 := fun z => by
      have := (nf_lt264 hy).mp (hc.mp z)
      omega
    have hy2 := nf_half64 hy (by omega)
    refine ⟨(FP.ddiv y 4611686018427387904, nI (1023 + i) + 1), ?_, by rw [show q0 - ((i + 1 : Nat) : Int) = q0 - (i : Int) - 1 by omega]; exact hy2, nI_1 _⟩
    unfold bX5_doubleBits_26
    dsimp only
    rw [if_neg hn, if_neg (show ¬ (2046 : Int32) ≤ nI (1023 + i) from nI_ge (a := 1023 + i) (b := 2046) (by omega) (by decide)), gd_t (n64_of (nf_ne64 hy2))]
  · rintro ⟨y, ex⟩ ⟨hy, he⟩
    refine ⟨(y, ex), ?_, hy, he⟩
    have hc := (dc_lt .l (nf_ne64 hy) ne_two64).1
    have hn : Op.cmpValue (FP.dcmp y 4611686018427387904) CmpOp.l < 0 := hc.mpr ((nf_lt264 hy).mpr (by omega))
    unfold bX5_doubleBits_26
    dsimp only
    rw [if_pos hn]
theorem nf_loop264 {c k : Nat} {q1 : Int} {x x0 : UInt64} (h : NF64 c q1 x) (hq : q1 ≤ -52) (hk : (-52 - q1).toNat < k) (hk2 : k ≤ 2046) (hk3 : k ≤ 1023 ∨ q1 = -52) (hk4 : k = 1023 ∨ q1 = -52) : ∃ e, lpF (bX5_doubleBits_54 x0) FU (x, nI k) = some e ∧ NF64 c (-52) e.1 ∧ e.2 = nI (k - (-52 - q1).toNat) := by
  have hb1 := h.2.2.2.1
  have hb2 := h.2.2.2.2
  refine lp_cnt (fun (i : Nat) (z : UInt64 × Int32) => NF64 c (q1 + (i : Int)) z.1 ∧ z.2 = nI (k - i)) (fun (e : UInt64 × Int32) => NF64 c (-52) e.1 ∧ e.2 = nI (k - (-52 - q1).toNat)) (-52 - q1).toNat (by omega) ?_ ?_ _ ⟨by simpa using h, rfl⟩
  · rintro i ⟨y, ex⟩ hi ⟨hy, he⟩
    have he : ex = nI (k - i) := he
    subst he
    have hc := (dc_lt .g (nf_ne64 hy) ne_one64).2.2.1
    have hn : ¬ 0 ≤ Op.cmpValue (FP.dcmp y FP.dconst1) CmpOp.g := fun z => by
      have := (nf_ge164 hy).mp (hc.mp z)
      omega
    have hy2 := nf_dbl64 hy (by omega)
    refine ⟨(FP.dmul y 4611686018427387904, nI (k - i) + (-1)), ?_, by rw [show q1 + ((i + 1 : Nat) : Int) = q1 + (i : Int) + 1 by omega]; exact hy2, by
      rw [show k - i = k - (i + 1) + 1 by omega]; exact pk_m1 _⟩
    unfold bX5_doubleBits_54
    dsimp only
    rw [if_neg hn, if_neg (show ¬ nI (k - i) ≤ (1 : Int32) from nI_ge (a := 1) (b := k - i) (by omega) (by omega)), gd_t (n64_of (nf_ne64 hy2))]
  · rintro ⟨y, ex⟩ ⟨hy, he⟩
    refine ⟨(y, ex), ?_, by rw [show q1 + ((-52 - q1).toNat : Int) = -52 by omega] at hy; exact hy, he⟩
    have hc := (dc_lt .g (nf_ne64 hy) ne_one64).2.2.1
    have hn : 0 ≤ Op.cmpValue (FP.dcmp y FP.dconst1) CmpOp.g := hc.mpr ((nf_ge164 hy).mpr (by omega))
    unfold bX5_doubleBits_54
    dsimp only
    rw [if_pos hn]
theorem nf_frac64 {c : Nat} {y : UInt64} (h : NF64 c (-52) y) : n64 (FP.dsub y FP.dconst1) = true ∧ n64 (FP.dmul (FP.dsub y FP.dconst1) 4841369599423283200) = true ∧ FP.d2l (FP.dmul (FP.dsub y FP.dconst1) 4841369599423283200) = lN (c - 2 ^ 52) := by
  obtain ⟨h1, h2, h3, h4, h5⟩ := h
  obtain ⟨T, hT0⟩ : ∃ T, T = c - 2 ^ 52 := ⟨_, rfl⟩
  rw [← hT0]
  have e1 : FP.Core.val64 (FP.dsub y FP.dconst1) = FP.Core.round FP.Core.b64 (.fin false (T) (-52)) := by
    show FP.Core.val64 (FP.Core.dsub y FP.dconst1) = _
    rw [FP.Core.val64_dsub, h1, val_one64]
    congr 1
    show FP.Core.Datum.fin (FP.Core.sumSign false true (FP.Core.sumUnits false c (-52) true (2 ^ 52) (-52) (min (-52) (-52)))) (FP.Core.sumUnits false c (-52) true (2 ^ 52) (-52) (min (-52) (-52))).natAbs (min (-52) (-52)) = _
    have e2 : FP.Core.sumUnits false c (-52) true (2 ^ 52) (-52) (min (-52) (-52)) = ((T : Nat) : Int) := by
      unfold FP.Core.sumUnits FP.Core.signed FP.Core.inUnits
      rw [show ((-52 : Int) - min (-52) (-52)).toNat = 0 by decide]
      simp only [Bool.false_eq_true, if_false, if_true, Nat.pow_zero, Nat.mul_one]
      omega
    rw [e2]
    have e3 : FP.Core.sumSign false true ((T : Nat) : Int) = false := by
      unfold FP.Core.sumSign
      split
      · rfl
      · exact decide_eq_false (by omega)
    rw [e3]
    rfl
  obtain ⟨c', q', r1, r2⟩ := FP.Core.round_exact FP.Core.good_b64 false (c := T) (q := -52) (by rw [show FP.Core.b64.p = 53 from rfl]; omega) (by rw [FP.Core.qmin_b64]; decide) (by rw [qmax_b64]; decide)
  have rf := FP.Core.round_fits FP.Core.good_b64 (.fin false (T) (-52))
  rw [r1] at e1 rf
  have hq' := rf.2.1
  rw [FP.Core.qmin_b64] at hq'
  have hu : c' * 2 ^ (q' + 1074).toNat = (T) * 2 ^ (1074 - 52) := by
    have r3 : c' * 2 ^ (q' - FP.Core.b64.qmin).toNat = (T) * 2 ^ ((-52 : Int) - FP.Core.b64.qmin).toNat := r2
    rw [FP.Core.qmin_b64, show q' - -1074 = q' + 1074 by omega, show ((-52 : Int) - -1074).toNat = 1074 - 52 by decide] at r3
    exact r3
  have hsc : FP.Core.val64 4841369599423283200 = .fin false (2 ^ 52) 0 := by decide +kernel
  have e4 : FP.Core.val64 (FP.dmul (FP.dsub y FP.dconst1) 4841369599423283200) = FP.Core.round FP.Core.b64 (.fin false (c' * 2 ^ 52) (q' + 0)) := by
    show FP.Core.val64 (FP.Core.dmul (FP.dsub y FP.dconst1) 4841369599423283200) = _
    rw [FP.Core.val64_dmul, e1, hsc]
    rfl
  have hT : T < 2 ^ 52 := by omega
  have hw : FP.Core.Whole ((T : Nat) : Int) (.fin false (c' * 2 ^ 52) (q' + 0)) := by
    show ((c' * 2 ^ 52 * 2 ^ (q' + 0).toNat : Nat) : Int) = ((T : Nat) : Int) * ((2 ^ (-(q' + 0)).toNat : Nat) : Int)
    rw [← Int.natCast_mul, Int.ofNat_inj, Int.add_zero]
    exact whole_aux (b := 1074) hq' (by decide) hu
  have hw2 := FP.Core.whole_round FP.Core.good_b64 FP.Core.wide_b64 (by rw [show FP.Core.b64.p = 53 from rfl, Int.natAbs_natCast]; omega) hw
  rw [← e4] at hw2
  refine ⟨n64_of (by rw [e1]; exact FP.Core.Datum.noConfusion), n64_of (FP.Core.Whole.ne_nan hw2), ?_⟩
  refine FP.Core.d2l_int (a := lN (T)) ?_
  have ht : (lN T).toInt = (T : Int) := pk_lT (by omega)
  rw [ht]
  exact hw2
/-- the bits of a number without sign, out of exponent and fraction -/
theorem nf_bits64 {s : Bool} {c : Nat} {q : Int} {x : UInt64} (h1 : FP.Core.val64 x = .fin s c q) (h2 : 2 ^ 52 ≤ c) (h3 : c < 2 ^ 53) (h4 : -1074 ≤ q) (h5 : q ≤ 971) : x.toNat = (s.toNat * 2048 + ((q + 1074).toNat + 1)) * 2 ^ 52 + (c - 2 ^ 52) := by
  have hx : FP.Core.of64 (FP.Core.val64 x) = x := FP.Core.of64_val64 (by rw [h1]; exact FP.Core.Datum.noConfusion)
  have h6 := FP.Core.toNat_of64 (FP.Core.val64_fits x)
  rw [hx, h1] at h6
  rw [h6]
  show (if c < FP.Core.b64.tails then _ else FP.Core.assemble FP.Core.b64 s ((q - FP.Core.b64.qmin).toNat + 1) (c - FP.Core.b64.tails)) = _
  rw [FP.Core.tails_b64, if_neg (by omega), FP.Core.qmin_b64, show q - -1074 = q + 1074 by omega]
  rfl
theorem to_mk64 (x : UInt64) : x.toInt64 = lN x.toNat := by
  have h : x = UInt64.ofNat x.toNat := by simp
  exact congrArg UInt64.toInt64 h
theorem nf_tail64 {s : Bool} {c : Nat} {q : Int} {x y : UInt64} (hy : NF64 c q y) (hx : FP.Core.val64 x = .fin s c q) (hs : 0 ≤ Op.cmpValue (FP.dcmp x FP.dconst0) CmpOp.g ↔ s = false) : jX5_doubleBits_20 x y = some x.toInt64 := by
  have b1 := hy.2.2.2.1
  have b2 := hy.2.2.2.2
  have c1 := hy.2.1
  have c3 := hy.2.2.1
  obtain ⟨⟨y1, n1⟩, l1, hy1, hn1⟩ := nf_loop164 (x0 := x) hy
  have hn1 : n1 = nI (1023 + (q + 52).toNat) := hn1
  subst hn1
  obtain ⟨⟨y2, n2⟩, l2, hy2, hn2⟩ := nf_loop264 (x0 := x) (k := 1023 + (q + 52).toNat) hy1 (by omega) (by omega) (by omega) (by omega) (by omega)
  have hn2 : n2 = nI (1023 + (q + 52).toNat - (-52 - (q - ((q + 52).toNat : Int))).toNat) := hn2
  rw [show 1023 + (q + 52).toNat - (-52 - (q - ((q + 52).toNat : Int))).toNat = (q + 1074).toNat + 1 by omega] at hn2
  subst hn2
  obtain ⟨f1, f2, f3⟩ := nf_frac64 hy2
  have hE : (q + 1074).toNat + 1 ≤ 2046 := by omega
  unfold jX5_doubleBits_20
  rw [l1]
  dsimp only [Option.bind_some]
  rw [l2]
  dsimp only [Option.bind_some]
  rw [gd_t f1, gd_t f2, f3]
  have e1 : (nI ((q + 1074).toNat + 1)).toInt64 <<< ((52 : Int32).toInt64 &&& 63) = lN (((q + 1074).toNat + 1) * 2 ^ 52) := by
    rw [nI_l (by omega)]
    exact wb_shl _ (k := 52) (by decide)
  have e2 : lN (((q + 1074).toNat + 1) * 2 ^ 52) ||| lN (c - 2 ^ 52) = lN (((q + 1074).toNat + 1) * 2 ^ 52 + (c - 2 ^ 52)) := g_or (k := 52) rfl (by omega) (by omega)
  rw [e1, e2, to_mk64 x, nf_bits64 hx c1 c3 b1 b2]
  cases s with
  | false =>
    rw [if_pos (hs.mpr rfl)]
    have key : (Bool.toNat false * 2048 + ((q + 1074).toNat + 1)) * 2 ^ 52 + (c - 2 ^ 52) = ((q + 1074).toNat + 1) * 2 ^ 52 + (c - 2 ^ 52) := by
      rw [show Bool.toNat false = 0 from rfl, Nat.zero_mul, Nat.zero_add]
    rw [key]
    unfold jX5_doubleBits_112
    rfl
  | true =>
    rw [if_neg (fun z => by cases hs.mp z)]
    have key : (Bool.toNat true * 2048 + ((q + 1074).toNat + 1)) * 2 ^ 52 + (c - 2 ^ 52) = 1 * 2 ^ 63 + (((q + 1074).toNat + 1) * 2 ^ 52 + (c - 2 ^ 52)) := by
      rw [show Bool.toNat true = 1 from rfl]; omega
    rw [key, ← g_or (k := 63) (p := 2 ^ 63) rfl (by omega) (by omega), Int64.or_comm, show lN (1 * 2 ^ 63) = (-9223372036854775808 : Int64) by decide]
    unfold jX5_doubleBits_112
    rfl
/-- THE BITS: of +0, and of every number with a full significand -/
theorem bits64_ok {x : UInt64} {s : Bool} {c : Nat} {q : Int} (hx : FP.Core.val64 x = .fin s c q) (hn : 2 ^ 52 ≤ c ∨ x = 0) : fX5_doubleBits x = some x.toInt64 := by
  have hne : FP.Core.val64 x ≠ .nan := by rw [hx]; exact FP.Core.Datum.noConfusion
  have hz0 : FP.Core.val64 FP.dconst0 ≠ .nan := by
    have : FP.Core.val64 FP.dconst0 = .fin false 0 FP.Core.b64.qmin := by decide +kernel
    rw [this]; exact FP.Core.Datum.noConfusion
  have hcl := dc_lt .l hne hz0
  have hcg := dc_lt .g hne hz0
  rw [z_zero64] at hcl hcg
  unfold fX5_doubleBits
  rcases hn with hn | hn
  · have hf := FP.Core.val64_fits x
    rw [hx] at hf
    obtain ⟨f1, f2, f3, -⟩ := hf
    rw [FP.Core.qmin_b64] at f2
    rw [qmax_b64] at f3
    have f1 : c < 2 ^ 53 := f1
    have hzx : zd x = FP.Core.signed s (c * 2 ^ (q - FP.Core.b64.qmin).toNat) := by
      show FP.Core.zval FP.Core.b64 (FP.Core.val64 x) = _
      rw [hx]; rfl
    have hpos : 0 < c * 2 ^ (q - FP.Core.b64.qmin).toNat := Nat.mul_pos (Nat.lt_of_lt_of_le (by decide) hn) (Nat.two_pow_pos _)
    have hsg : 0 ≤ Op.cmpValue (FP.dcmp x FP.dconst0) CmpOp.g ↔ s = false := by
      rw [hcg.2.2.1, hzx]
      generalize c * 2 ^ (q - FP.Core.b64.qmin).toNat = m at hpos
      cases s
      · exact ⟨fun _ => rfl, fun _ => by show (0 : Int) ≤ (m : Int); omega⟩
      · exact ⟨fun z => by have z : (0 : Int) ≤ -(m : Int) := z; omega, fun z => by cases z⟩
    have hnz : ¬ Op.cmpValue (FP.dcmp x FP.dconst0) CmpOp.l = 0 := by
      rw [hcl.2.2.2.2, hzx]
      generalize c * 2 ^ (q - FP.Core.b64.qmin).toNat = m at hpos
      cases s
      · intro z; have z : (m : Int) = 0 := z; omega
      · intro z; have z : -(m : Int) = 0 := z; omega
    rw [if_pos hnz]
    cases s with
    | false =>
      rw [if_pos (hsg.mpr rfl)]
      exact nf_tail64 ⟨hx, hn, f1, f2, f3⟩ hx hsg
    | true =>
      rw [if_neg (fun z => by cases hsg.mp z)]
      refine nf_tail64 ⟨?_, hn, f1, f2, f3⟩ hx hsg
      rw [FP.val64_dneg, hx]
      rfl
  · subst hn
    have : Op.cmpValue (FP.dcmp 0 FP.dconst0) CmpOp.l = 0 := by decide +kernel
    rw [if_neg (fun z => z this)]
    rfl
