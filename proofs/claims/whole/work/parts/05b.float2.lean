/-! ===== floats and doubles by their bits ===== -/
abbrev G32 (g E : Nat) (x : UInt32) : Prop := GD FP.Core.b32 g E (FP.Core.val32 x)
abbrev P32 (L E : Nat) (x : UInt32) : Prop := PD FP.Core.b32 L E (FP.Core.val32 x)
abbrev G64 (g E : Nat) (x : UInt64) : Prop := GD FP.Core.b64 g E (FP.Core.val64 x)
abbrev P64 (L E : Nat) (x : UInt64) : Prop := PD FP.Core.b64 L E (FP.Core.val64 x)
theorem n32_of {x : UInt32} (h : FP.Core.val32 x ≠ .nan) : n32 x = true := by
  unfold n32
  rw [decide_eq_true_eq, UInt32.le_iff_toNat_le, FP.Core.mask_toNat32]
  exact (FP.Core.ne_nan32 x).mp h
theorem n64_of {x : UInt64} (h : FP.Core.val64 x ≠ .nan) : n64 x = true := by
  unfold n64
  rw [decide_eq_true_eq, UInt64.le_iff_toNat_le, FP.Core.mask_toNat]
  exact (FP.Core.ne_nan x).mp h
theorem GD.ne {f : FP.Core.Fmt} {g E : Nat} {d : FP.Core.Datum} (h : GD f g E d) : d ≠ .nan := by
  obtain ⟨s, c, q, rfl, -⟩ := h
  exact FP.Core.Datum.noConfusion
theorem PD.ne {f : FP.Core.Fmt} {L E : Nat} {d : FP.Core.Datum} (h : PD f L E d) : d ≠ .nan := by
  obtain ⟨c, q, rfl, -⟩ := h
  exact FP.Core.Datum.noConfusion
theorem G32.n {g E : Nat} {x : UInt32} (h : G32 g E x) : n32 x = true := n32_of h.ne
theorem G64.n {g E : Nat} {x : UInt64} (h : G64 g E x) : n64 x = true := n64_of h.ne
theorem b32_top : FP.Core.b32.exps - 2 + (FP.Core.b32.p - 1) = 277 := by decide
theorem b64_top : FP.Core.b64.exps - 2 + (FP.Core.b64.p - 1) = 2098 := by decide
theorem b32_bias : (-FP.Core.b32.qmin).toNat = 149 := by decide
theorem b64_bias : (-FP.Core.b64.qmin).toNat = 1074 := by decide
theorem G32.add {g E : Nat} {x y : UInt32} (hx : G32 g E x) (hy : G32 g E y) (hE : E + 1 < 277) : G32 g (E + 1) (FP.fadd x y) := by
  show GD FP.Core.b32 g (E + 1) (FP.Core.val32 (FP.Core.fadd x y))
  rw [FP.Core.val32_fadd]
  exact GD.sum FP.Core.good_b32 hx (GD.n hy) (by rw [b32_top]; exact hE)
theorem G32.sub {g E : Nat} {x y : UInt32} (hx : G32 g E x) (hy : G32 g E y) (hE : E + 1 < 277) : G32 g (E + 1) (FP.fsub x y) := by
  show GD FP.Core.b32 g (E + 1) (FP.Core.val32 (FP.Core.fsub x y))
  rw [FP.Core.val32_fsub]
  exact GD.sum FP.Core.good_b32 hx (GD.n hy).neg (by rw [b32_top]; exact hE)
theorem G32.mul {g g1 g2 E E1 E2 : Nat} {x y : UInt32} (hx : G32 g1 E1 x) (hy : G32 g2 E2 y) (hs : FP.Core.sgn (FP.Core.val32 x) = FP.Core.sgn (FP.Core.val32 y)) (hg : g + 149 ≤ g1 + g2) (hE : E1 + E2 ≤ E + 149) (hE2 : E < 277) : G32 g E (FP.fmul x y) ∧ FP.Core.sgn (FP.Core.val32 (FP.fmul x y)) = false := by
  show GD FP.Core.b32 g E (FP.Core.val32 (FP.Core.fmul x y)) ∧ FP.Core.sgn (FP.Core.val32 (FP.Core.fmul x y)) = false
  rw [FP.Core.val32_fmul]
  exact GD.mulS FP.Core.good_b32 hx hy hs (by rw [b32_bias]; exact hg) (by rw [b32_bias]; exact hE) (by rw [b32_top]; exact hE2)
theorem G32.div {g1 j E E1 L E2 : Nat} {x y : UInt32} (hx : G32 g1 E1 x) (hy : P32 L E2 y) (hj : j + 23 + E2 ≤ g1 + 149) (hE : E1 + 149 ≤ E + L) (hE2 : E < 277) : G32 j E (FP.fdiv x y) ∧ FP.Core.sgn (FP.Core.val32 (FP.fdiv x y)) = FP.Core.sgn (FP.Core.val32 x) ∧ (∀ k M, 2 ^ k ≤ FP.Core.zmag FP.Core.b32 (FP.Core.val32 x) → M + E2 ≤ k + 149 → M < 277 → 2 ^ M ≤ FP.Core.zmag FP.Core.b32 (FP.Core.val32 (FP.fdiv x y))) := by
  show GD FP.Core.b32 j E (FP.Core.val32 (FP.Core.fdiv x y)) ∧ FP.Core.sgn (FP.Core.val32 (FP.Core.fdiv x y)) = _ ∧ (∀ k M, _ → _ → _ → 2 ^ M ≤ FP.Core.zmag FP.Core.b32 (FP.Core.val32 (FP.Core.fdiv x y)))
  rw [FP.Core.val32_fdiv]
  obtain ⟨a, b, c⟩ := GD.quo (j := j + 23) (E := E) FP.Core.good_b32 hx hy (by rw [b32_bias]; exact hj) (by rw [b32_bias]; exact hE) (by rw [b32_top]; exact hE2)
  refine ⟨?_, b, fun k M h1 h2 h3 => c k M h1 (by rw [b32_bias]; exact h2) (by rw [b32_top]; exact h3)⟩
  rw [FP.Core.p_b32] at a
  exact a
theorem G64.add {g E : Nat} {x y : UInt64} (hx : G64 g E x) (hy : G64 g E y) (hE : E + 1 < 2098) : G64 g (E + 1) (FP.dadd x y) := by
  show GD FP.Core.b64 g (E + 1) (FP.Core.val64 (FP.Core.dadd x y))
  rw [FP.Core.val64_dadd]
  exact GD.sum FP.Core.good_b64 hx (GD.n hy) (by rw [b64_top]; exact hE)
theorem G64.sub {g E : Nat} {x y : UInt64} (hx : G64 g E x) (hy : G64 g E y) (hE : E + 1 < 2098) : G64 g (E + 1) (FP.dsub x y) := by
  show GD FP.Core.b64 g (E + 1) (FP.Core.val64 (FP.Core.dsub x y))
  rw [FP.Core.val64_dsub]
  exact GD.sum FP.Core.good_b64 hx (GD.n hy).neg (by rw [b64_top]; exact hE)
theorem G64.mul {g g1 g2 E E1 E2 : Nat} {x y : UInt64} (hx : G64 g1 E1 x) (hy : G64 g2 E2 y) (hs : FP.Core.sgn (FP.Core.val64 x) = FP.Core.sgn (FP.Core.val64 y)) (hg : g + 1074 ≤ g1 + g2) (hE : E1 + E2 ≤ E + 1074) (hE2 : E < 2098) : G64 g E (FP.dmul x y) ∧ FP.Core.sgn (FP.Core.val64 (FP.dmul x y)) = false := by
  show GD FP.Core.b64 g E (FP.Core.val64 (FP.Core.dmul x y)) ∧ FP.Core.sgn (FP.Core.val64 (FP.Core.dmul x y)) = false
  rw [FP.Core.val64_dmul]
  exact GD.mulS FP.Core.good_b64 hx hy hs (by rw [b64_bias]; exact hg) (by rw [b64_bias]; exact hE) (by rw [b64_top]; exact hE2)
theorem G64.div {g1 j E E1 L E2 : Nat} {x y : UInt64} (hx : G64 g1 E1 x) (hy : P64 L E2 y) (hj : j + 52 + E2 ≤ g1 + 1074) (hE : E1 + 1074 ≤ E + L) (hE2 : E < 2098) : G64 j E (FP.ddiv x y) := by
  show GD FP.Core.b64 j E (FP.Core.val64 (FP.Core.ddiv x y))
  rw [FP.Core.val64_ddiv]
  obtain ⟨a, b, c⟩ := GD.quo (j := j + 52) (E := E) FP.Core.good_b64 hx hy (by rw [b64_bias]; exact hj) (by rw [b64_bias]; exact hE) (by rw [b64_top]; exact hE2)
  rw [FP.Core.p_b64] at a
  exact a
theorem P32.g {L E : Nat} {x : UInt32} (h : P32 L E x) (g : Nat) (hg : 2 ^ g ∣ FP.Core.zmag FP.Core.b32 (FP.Core.val32 x)) : G32 g E x := by
  obtain ⟨c, q, h1, h2, h3, h4⟩ := h
  rw [h1] at hg
  exact ⟨false, c, q, h1, h2, hg, h4, fun _ => rfl⟩
theorem G32.p {g E L : Nat} {x : UInt32} (h : G32 g E x) (hs : FP.Core.sgn (FP.Core.val32 x) = false) (hL : 2 ^ L ≤ FP.Core.zmag FP.Core.b32 (FP.Core.val32 x)) : P32 L E x := by
  obtain ⟨s, c, q, h1, h2, h3, h4, h5⟩ := h
  rw [h1] at hs hL
  have hs : s = false := hs
  subst hs
  exact ⟨c, q, h1, h2, hL, h4⟩
theorem G32.dvd {g E : Nat} {x : UInt32} (h : G32 g E x) : 2 ^ g ∣ FP.Core.zmag FP.Core.b32 (FP.Core.val32 x) := by
  obtain ⟨s, c, q, h1, h2, h3, h4, h5⟩ := h
  rw [h1]; exact h3
theorem G32.le {g E : Nat} {x : UInt32} (h : G32 g E x) : FP.Core.zmag FP.Core.b32 (FP.Core.val32 x) ≤ 2 ^ E := by
  obtain ⟨s, c, q, h1, h2, h3, h4, h5⟩ := h
  rw [h1]; exact h4
/-- a sum of numbers that aren't negative -/
theorem G32.addP {g E L : Nat} {x y : UInt32} (hx : G32 g E x) (hy : G32 g E y) (hsx : FP.Core.sgn (FP.Core.val32 x) = false) (hsy : FP.Core.sgn (FP.Core.val32 y) = false) (hE : E + 1 < 277) (hL : L < 277) (hl : 2 ^ L ≤ FP.Core.zmag FP.Core.b32 (FP.Core.val32 x) ∨ 2 ^ L ≤ FP.Core.zmag FP.Core.b32 (FP.Core.val32 y)) : 2 ^ L ≤ FP.Core.zmag FP.Core.b32 (FP.Core.val32 (FP.fadd x y)) := by
  obtain ⟨s, c, q, x1, x2, x3, x4, x5⟩ := hx
  obtain ⟨t, d, r, y1, y2, y3, y4, y5⟩ := hy
  rw [x1] at hsx hl
  rw [y1] at hsy hl
  have hs : s = false := hsx
  have ht : t = false := hsy
  subst hs; subst ht
  show 2 ^ L ≤ FP.Core.zmag FP.Core.b32 (FP.Core.val32 (FP.Core.fadd x y))
  rw [FP.Core.val32_fadd, x1, y1]
  obtain ⟨sg, n, e, e1, e2, e3⟩ := FP.Core.sum_units x2 y2
  rw [e1]
  show 2 ^ L ≤ FP.Core.zmag FP.Core.b32 (FP.Core.roundRatio FP.Core.b32 sg n 1 e)
  refine rr_ge FP.Core.good_b32 (by decide) (Int.le_refl _) e2 (by rw [b32_top]; exact hL) ?_
  have h1 : FP.Core.inUnits n e FP.Core.b32.qmin = FP.Core.zmag FP.Core.b32 (.fin false c q) + FP.Core.zmag FP.Core.b32 (.fin false d r) := by
    have h2 : (FP.Core.signed sg (FP.Core.inUnits n e FP.Core.b32.qmin)).natAbs = FP.Core.inUnits n e FP.Core.b32.qmin := FP.Core.natAbs_signed _ _
    rw [e3] at h2
    rw [← h2]
    show ((FP.Core.zmag FP.Core.b32 (.fin false c q) : Int) + (FP.Core.zmag FP.Core.b32 (.fin false d r) : Int)).natAbs = _
    omega
  rw [h1, Int.sub_self]
  simp only [Int.toNat_zero, Nat.pow_zero, Nat.one_mul]
  omega
theorem G32.sgnAdd {g E : Nat} {x y : UInt32} (hx : G32 g E x) (hy : G32 g E y) (hsx : FP.Core.sgn (FP.Core.val32 x) = false) (hsy : FP.Core.sgn (FP.Core.val32 y) = false) : FP.Core.sgn (FP.Core.val32 (FP.fadd x y)) = false := by
  obtain ⟨s, c, q, x1, x2, x3, x4, x5⟩ := hx
  obtain ⟨t, d, r, y1, y2, y3, y4, y5⟩ := hy
  rw [x1] at hsx
  rw [y1] at hsy
  have hs : s = false := hsx
  have ht : t = false := hsy
  subst hs; subst ht
  show FP.Core.sgn (FP.Core.val32 (FP.Core.fadd x y)) = false
  rw [FP.Core.val32_fadd, x1, y1]
  show FP.Core.sgn (FP.Core.roundRatio FP.Core.b32 (FP.Core.sumSign false false (FP.Core.sumUnits false c q false d r (min q r))) (FP.Core.sumUnits false c q false d r (min q r)).natAbs 1 (min q r)) = false
  rw [FP.Core.sgn_roundRatio]
  unfold FP.Core.sumSign
  split
  · rfl
  · unfold FP.Core.sumUnits FP.Core.signed
    simp only [Bool.false_eq_true, if_false, decide_eq_false_iff_not]
    omega
/-! constants -/
theorem P32_10 : P32 152 153 1092616192 := ⟨10485760, -20, by decide +kernel, by unfold FP.Core.fits; decide +kernel, by decide +kernel, by decide +kernel⟩
theorem P32_8 : P32 152 152 1090519040 := ⟨8388608, -20, by decide +kernel, by unfold FP.Core.fits; decide +kernel, by decide +kernel, by decide +kernel⟩
theorem P32_1 : P32 149 149 FP.fconst1 := ⟨8388608, -23, by decide +kernel, by unfold FP.Core.fits; decide +kernel, by decide +kernel, by decide +kernel⟩
theorem G32_0 (g E : Nat) : G32 g E FP.fconst0 := ⟨false, 0, FP.Core.b32.qmin, by decide +kernel, FP.Core.zero_fits FP.Core.good_b32 false, by rw [zmag_zero.mpr rfl]; exact Nat.dvd_zero _, by rw [zmag_zero.mpr rfl]; exact Nat.zero_le _, fun _ => rfl⟩
theorem G64_0 (g E : Nat) : G64 g E FP.dconst0 := ⟨false, 0, FP.Core.b64.qmin, by decide +kernel, FP.Core.zero_fits FP.Core.good_b64 false, by rw [zmag_zero.mpr rfl]; exact Nat.dvd_zero _, by rw [zmag_zero.mpr rfl]; exact Nat.zero_le _, fun _ => rfl⟩
theorem G32_1 : G32 149 149 FP.fconst1 := P32_1.g 149 (by decide +kernel)
/-- a whole number as a float -/
theorem G32_i2f {v : Int32} {E : Nat} (hv : v.toInt.natAbs ≤ 2 ^ E) (hE : E ≤ 24) : G32 149 (149 + E) (FP.i2f v) := by
  have h24 : v.toInt.natAbs ≤ 2 ^ 24 := Nat.le_trans hv (Nat.pow_le_pow_right (by decide) hE)
  have h1 : FP.Core.FInt v.toInt (FP.Core.i2f v) := FP.Core.i2f_int h24
  have h2 := FP.Core.FInt_zval h1
  have h3 := FP.Core.val32_fits (FP.Core.i2f v)
  have h4 := FP.Core.FInt_ne_nan h1
  show GD FP.Core.b32 149 (149 + E) (FP.Core.val32 (FP.Core.i2f v))
  have hz : FP.Core.zmag FP.Core.b32 (FP.Core.val32 (FP.Core.i2f v)) = v.toInt.natAbs * 2 ^ 149 := by
    have h5 : (FP.Core.zval FP.Core.b32 (FP.Core.val32 (FP.Core.i2f v))).natAbs = FP.Core.zmag FP.Core.b32 (FP.Core.val32 (FP.Core.i2f v)) := FP.Core.natAbs_signed _ _
    rw [← h5, h2, Int.natAbs_mul]
    rfl
  obtain ⟨s, c, q, hd⟩ : FP.Core.FFin (FP.Core.i2f v) := FP.Core.i2f_fin v
  rw [hd] at h3 hz
  refine ⟨s, c, q, hd, h3, by rw [hz]; exact Nat.dvd_mul_left _ _, by rw [hz, Nat.add_comm, Nat.pow_add]; exact Nat.mul_le_mul_right _ hv, fun hc => ?_⟩
  rw [zmag_zero.mpr hc] at hz
  have hv0 : v.toInt = 0 := by
    rcases Nat.mul_eq_zero.mp hz.symm with h | h
    · exact Int.natAbs_eq_zero.mp h
    · exact absurd h (Nat.ne_of_gt (Nat.two_pow_pos 149))
  have hvv : v = 0 := Int32.toInt_inj.mp (by rw [hv0]; rfl)
  subst hvv
  have h0 : FP.Core.val32 (FP.Core.i2f 0) = .fin false 0 FP.Core.b32.qmin := by decide +kernel
  rw [h0] at hd
  injection hd with hd1
  exact hd1.symm
/-- the tenths as a float by 10f -/
def valF (v : Int32) : UInt32 := FP.fdiv (FP.i2f v) 1092616192
theorem valF_G {v : Int32} (hv : v.toInt.natAbs ≤ 999) : G32 122 156 (valF v) :=
  (G32.div (j := 122) (E := 156) (G32_i2f (E := 10) (Nat.le_trans hv (by decide)) (by decide)) P32_10 (by decide) (by decide) (by decide)).1
theorem valF_n (v : Int32) : n32 (valF v) = true := by
  refine n32_of ((FP.Core.notNaN_iff32 _).mp ?_)
  exact FP.Core.fdiv_out (FP.Core.i2f_fin v).notNaN ⟨false, 10485760, -20, by decide +kernel⟩ (by
    rintro ⟨s, q, h⟩
    have h2 : FP.Core.val32 1092616192 = .fin false 10485760 (-20) := by decide +kernel
    rw [h2] at h
    injection h with _ h3
    exact absurd h3 (by decide))
/-- the eighths as a float by 8f -/
def wtF (k : Nat) : UInt32 := FP.fdiv (FP.i2f (nI k)) 1090519040
def gtst (g L E : Nat) (x : UInt32) : Bool := match FP.Core.val32 x with
  | .fin false c q => decide (FP.Core.zmag FP.Core.b32 (.fin false c q) % 2 ^ g = 0 ∧ 2 ^ L ≤ FP.Core.zmag FP.Core.b32 (.fin false c q) ∧ FP.Core.zmag FP.Core.b32 (.fin false c q) ≤ 2 ^ E)
  | _ => false
theorem gtst_ok {g L E : Nat} {x : UInt32} (h : gtst g L E x = true) : P32 L E x ∧ G32 g E x := by
  unfold gtst at h
  have hf := FP.Core.val32_fits x
  cases hd : FP.Core.val32 x with
  | nan => rw [hd] at h; cases h
  | inf s => rw [hd] at h; cases h
  | fin s c q =>
    rw [hd] at h hf
    cases s with
    | true => cases h
    | false =>
      have h := of_decide_eq_true h
      exact ⟨⟨c, q, hd, hf, h.2.1, h.2.2⟩, ⟨false, c, q, hd, hf, Nat.dvd_of_mod_eq_zero h.1, h.2.2, fun _ => rfl⟩⟩
theorem wtF_all : (List.range 80).all (fun i => gtst 146 146 153 (wtF (i + 1))) = true := by decide +kernel
theorem wtF_ok {k : Nat} (h0 : 0 < k) (h : k ≤ 80) : P32 146 153 (wtF k) ∧ G32 146 153 (wtF k) := by
  have h1 := List.all_eq_true.mp wtF_all (k - 1) (List.mem_range.mpr (by omega))
  rw [show k - 1 + 1 = k by omega] at h1
  exact gtst_ok h1
theorem wtF_0 : wtF 0 = FP.fconst0 := by decide +kernel
