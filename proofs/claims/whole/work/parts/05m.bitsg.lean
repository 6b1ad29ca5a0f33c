/-! ===== bits of floats on a grid; refusals ===== -/
theorem fin_grid {f : FP.Core.Fmt} {g E : Nat} {d : FP.Core.Datum} (h : GD f g E d) (hg : f.tails ≤ 2 ^ g) : ∃ s c q, d = .fin s c q ∧ (f.tails ≤ c ∨ d = .fin false 0 f.qmin) := by
  obtain ⟨s, c, q, h1, h2, h3, -, h5⟩ := h
  refine ⟨s, c, q, h1, ?_⟩
  by_cases c1 : f.tails ≤ c
  · exact Or.inl c1
  · right
    unfold FP.Core.fits at h2
    have hq : q = f.qmin := by
      rcases h2.2.2.2 with a | a
      · exact a
      · exact absurd a c1
    have hz : FP.Core.zmag f (.fin s c q) = c := by
      show c * 2 ^ (q - f.qmin).toNat = c
      rw [hq, Int.sub_self]
      show c * 2 ^ 0 = c
      rw [Nat.pow_zero, Nat.mul_one]
    rw [hz] at h3
    have hc : c = 0 := Nat.eq_zero_of_dvd_of_lt h3 (by omega)
    subst hc
    rw [h1, h5 rfl, hq]
theorem bits_G32 {g E : Nat} {x : UInt32} (h : G32 g E x) (hg : 23 ≤ g) : fX5_floatBits x = some x.toInt32 := by
  have ht : FP.Core.b32.tails = 2 ^ 23 := by decide +kernel
  obtain ⟨s, c, q, h1, h2⟩ := fin_grid h (by rw [ht]; exact Nat.pow_le_pow_right (by decide) hg)
  refine bits32_ok h1 ?_
  rcases h2 with h2 | h2
  · left; rw [← ht]; exact h2
  · right
    have := FP.Core.val32_inj (a := x) (b := FP.fconst0) (by rw [h2]; exact FP.Core.Datum.noConfusion) (by rw [h2]; decide +kernel)
    rw [this]; rfl
theorem bits_G64 {g E : Nat} {x : UInt64} (h : G64 g E x) (hg : 52 ≤ g) : fX5_doubleBits x = some x.toInt64 := by
  have ht : FP.Core.b64.tails = 2 ^ 52 := by decide +kernel
  obtain ⟨s, c, q, h1, h2⟩ := fin_grid h (by rw [ht]; exact Nat.pow_le_pow_right (by decide) hg)
  refine bits64_ok h1 ?_
  rcases h2 with h2 | h2
  · left; rw [← ht]; exact h2
  · right
    have := FP.Core.val64_inj (a := x) (b := FP.dconst0) (by rw [h2]; exact FP.Core.Datum.noConfusion) (by rw [h2]; decide +kernel)
    rw [this]; rfl
theorem fbits {x : UInt32} (h : FP.Core.val32 x ≠ .nan) : fJxf58ca_floatToIntBits_5c35a x = some x.toInt32 := by
  unfold fJxf58ca_floatToIntBits_5c35a fJxf58ca_isNaN_12338
  rw [if_pos ((fc_lt .l h h).2.2.2.2.mpr rfl)]
  rfl
theorem dbits {x : UInt64} (h : FP.Core.val64 x ≠ .nan) : fJxe99ae_doubleToLongBits_ccdee x = some x.toInt64 := by
  unfold fJxe99ae_doubleToLongBits_ccdee fJxe99ae_isNaN_b9ae7
  rw [if_pos ((dc_lt .l h h).2.2.2.2.mpr rfl)]
  rfl
/-- a float or none, as the class keeps it -/
def orN (o : Option UInt32) : UInt32 := o.getD m1F
def bitN (o : Option UInt32) : Int32 := match o with
  | none => -1
  | some d => d.toInt32
def gO (g E : Nat) (o : Option UInt32) : Prop := ∀ d, o = some d → G32 g E d ∧ FP.Core.sgn (FP.Core.val32 d) = false
theorem m1_ne : FP.Core.val32 m1F ≠ .nan := by
  have : FP.Core.val32 m1F = .fin true 8388608 (-23) := by decide +kernel
  rw [this]; exact FP.Core.Datum.noConfusion
theorem bn_ok {g E : Nat} {o : Option UInt32} (h : gO g E o) (hg : 23 ≤ g) : fX5_bitsOrNone (orN o) = some (bitN o) := by
  cases o with
  | none =>
    unfold fX5_bitsOrNone
    rw [if_neg (by show ¬ 0 ≤ Op.cmpValue (FP.fcmp m1F FP.fconst0) CmpOp.g; decide +kernel)]
    rfl
  | some d =>
    obtain ⟨h1, h2⟩ := h d rfl
    have h3 := zf_nn h1 h2
    unfold fX5_bitsOrNone
    rw [if_pos (by show 0 ≤ Op.cmpValue (FP.fcmp d FP.fconst0) CmpOp.g; rw [(fc_lt .g h1.ne (G32_0 0 0).ne).2.2.1, z_zero32]; exact h3)]
    show (fX5_floatBits d).bind _ = _
    rw [bits_G32 h1 hg]
    rfl
theorem gO_dist {n : Nat} {nt : Nat → Int32} {w : Nat → Nat} (ho : okB n nt w) {t u : Nat} (ht : t < n) (hu : u < n) : gO 61 176 (dist nt w t u) := fun d hd => dist_n ho ht hu hd
/-- the counters of both -/
def ctP (cn : Tcn) (rf : Nat → Int32) : Prop := cn.1 = rf 0 ∧ cn.2.1 = rf 1 ∧ cn.2.2 = rf 2
theorem ctP.bad {cn : Tcn} {rf : Nat → Int32} (h : ctP cn rf) : ctP (cn.1 + 1, cn.2.1, cn.2.2) (upd rf 0 (rf 0 + 1)) := by
  obtain ⟨h1, h2, h3⟩ := h
  refine ⟨?_, ?_, ?_⟩
  · show cn.1 + 1 = if 0 = 0 then _ else _
    rw [if_pos rfl, h1]
  · exact h2
  · exact h3
theorem ctP.full {cn : Tcn} {rf : Nat → Int32} (h : ctP cn rf) : ctP (cn.1, cn.2.1, cn.2.2 + 1) (upd rf 2 (rf 2 + 1)) := by
  obtain ⟨h1, h2, h3⟩ := h
  refine ⟨h1, h2, ?_⟩
  show cn.2.2 + 1 = if 2 = 2 then _ else _
  rw [if_pos rfl, h3]
theorem bad_m (rf : Nat → Int32) : fX6_bad rf = some (-2, upd rf 0 (rf 0 + 1)) := rfl
theorem badly_m (rf : Nat → Int32) : fX6_badly rf = some (-20000, upd rf 0 (rf 0 + 1)) := rfl
theorem full_m (rf : Nat → Int32) : fX6_full rf = some (-4, upd rf 2 (rf 2 + 1)) := rfl
theorem bad_c (cn : Tcn) (x : Int32) : fX5_refuseBad cn x = some (x, (cn.1 + 1, cn.2.1, cn.2.2)) := rfl
theorem full_c (cn : Tcn) : fX5_refuseFull cn = some (-4, (cn.1, cn.2.1, cn.2.2 + 1)) := rfl
/-- one book on both sides -/
def BK (n : Nat) (nt : Nat → Int32) (w : Nat → Nat) (g f : Nat) (bk : Tbk) (co : Tco) : Prop := clB n nt w g f bk ∧ moA n nt w g f co ∧ okB n nt w ∧ g ≤ 9 ∧ 1 ≤ f ∧ f ≤ 12
theorem wo_m1 (w : Nat → Nat) {m : Nat} (hm : m < 4) : wo (-1) w m = w m := by
  unfold wo
  rw [if_neg]
  intro z
  have h1 := congrArg Int32.toInt z
  rw [nI_toInt (by omega)] at h1
  have h2 : ((-1 : Int32)).toInt = -1 := rfl
  omega
