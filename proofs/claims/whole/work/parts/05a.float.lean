/-! ===== floats: grids and bounds; units are the format's least number ===== -/
/-- what rounding leaves: a multiple of its quantum -/
theorem rr_form {f : FP.Core.Fmt} (hf : FP.Core.Good f) {s : Bool} {A B c : Nat} {e q : Int} (hA : 0 < A) (hB : 0 < B) (h : FP.Core.roundRatio f s A B e = .fin s c q) :
    FP.Core.zmag f (.fin s c q) = FP.Core.nearest (FP.Core.unitsNum A e (FP.Core.quantum f A B e)) (FP.Core.unitsDen B e (FP.Core.quantum f A B e)) * 2 ^ (FP.Core.quantum f A B e - f.qmin).toNat := by
  have h1 := FP.Core.quantum_ge f A B e
  have h2 := FP.Core.nearest_units_le (f := f) hA hB e
  unfold FP.Core.roundRatio at h
  rw [if_neg (by omega)] at h
  unfold FP.Core.roundAt FP.Core.settle FP.Core.bound at h
  generalize FP.Core.quantum f A B e = Q at *
  generalize FP.Core.nearest (FP.Core.unitsNum A e Q) (FP.Core.unitsDen B e Q) = n at *
  by_cases hc : n < 2 ^ f.p
  · rw [if_pos hc] at h
    by_cases hq : Q ≤ f.qmax
    · rw [if_pos hq] at h
      cases h
      rfl
    · rw [if_neg hq] at h; cases h
  · rw [if_neg hc] at h
    by_cases hq : Q + 1 ≤ f.qmax
    · rw [if_pos hq] at h
      cases h
      have hn : n = 2 * f.tails := by rw [← FP.Core.two_tails hf]; omega
      show f.tails * 2 ^ (Q + 1 - f.qmin).toNat = n * 2 ^ (Q - f.qmin).toNat
      rw [hn, show (Q + 1 - f.qmin).toNat = (Q - f.qmin).toNat + 1 by omega, Nat.pow_succ]
      ac_rfl
    · rw [if_neg hq] at h; cases h
theorem pow_split {a b : Nat} (h : a ≤ b) : 2 ^ b = 2 ^ a * 2 ^ (b - a) := by rw [← Nat.pow_add]; congr 1; omega
/-- a value on a grid stays on it -/
theorem rr_grid {f : FP.Core.Fmt} (hf : FP.Core.Good f) {s : Bool} {A B c g : Nat} {e q e0 : Int} (hA : 0 < A) (hB : 0 < B) (h : FP.Core.roundRatio f s A B e = .fin s c q) (h0 : e0 ≤ f.qmin) (h0e : e0 ≤ e)
    (hg : B * 2 ^ (f.qmin - e0).toNat * 2 ^ g ∣ FP.Core.inUnits A e e0) : 2 ^ g ∣ FP.Core.zmag f (.fin s c q) := by
  rw [rr_form hf hA hB h]
  have h1 := FP.Core.quantum_ge f A B e
  generalize FP.Core.quantum f A B e = Q at *
  by_cases hQ : g ≤ (Q - f.qmin).toNat
  · exact Nat.dvd_trans (Nat.pow_dvd_pow 2 hQ) (Nat.dvd_mul_left _ _)
  · obtain ⟨k, hk⟩ := hg
    have hk2 : A * 2 ^ (e - e0).toNat = B * 2 ^ (f.qmin - e0).toNat * 2 ^ g * k := hk
    have key : FP.Core.unitsNum A e Q = 2 ^ (g - (Q - f.qmin).toNat) * k * FP.Core.unitsDen B e Q := by
      unfold FP.Core.unitsNum FP.Core.unitsDen
      by_cases he : Q ≤ e
      · have e1 : (Q - e).toNat = 0 := by omega
        rw [e1, Nat.pow_zero, Nat.mul_one]
        apply Nat.eq_of_mul_eq_mul_right (Nat.two_pow_pos (Q - e0).toNat)
        rw [Nat.mul_assoc, ← Nat.pow_add, show (e - Q).toNat + (Q - e0).toNat = (e - e0).toNat by omega, hk2]
        have e2 : 2 ^ (f.qmin - e0).toNat * 2 ^ g = 2 ^ (g - (Q - f.qmin).toNat) * 2 ^ (Q - e0).toNat := by
          rw [← Nat.pow_add, ← Nat.pow_add]; congr 1; omega
        calc B * 2 ^ (f.qmin - e0).toNat * 2 ^ g * k = B * (2 ^ (f.qmin - e0).toNat * 2 ^ g) * k := by ac_rfl
          _ = B * (2 ^ (g - (Q - f.qmin).toNat) * 2 ^ (Q - e0).toNat) * k := by rw [e2]
          _ = 2 ^ (g - (Q - f.qmin).toNat) * k * B * 2 ^ (Q - e0).toNat := by ac_rfl
      · have e1 : (e - Q).toNat = 0 := by omega
        rw [e1, Nat.pow_zero, Nat.mul_one]
        apply Nat.eq_of_mul_eq_mul_right (Nat.two_pow_pos (e - e0).toNat)
        rw [hk2]
        have e2 : 2 ^ (f.qmin - e0).toNat * 2 ^ g = 2 ^ (g - (Q - f.qmin).toNat) * (2 ^ (Q - e).toNat * 2 ^ (e - e0).toNat) := by
          rw [← Nat.pow_add, ← Nat.pow_add, ← Nat.pow_add]; congr 1; omega
        calc B * 2 ^ (f.qmin - e0).toNat * 2 ^ g * k = B * (2 ^ (f.qmin - e0).toNat * 2 ^ g) * k := by ac_rfl
          _ = B * (2 ^ (g - (Q - f.qmin).toNat) * (2 ^ (Q - e).toNat * 2 ^ (e - e0).toNat)) * k := by rw [e2]
          _ = 2 ^ (g - (Q - f.qmin).toNat) * k * (B * 2 ^ (Q - e).toNat) * 2 ^ (e - e0).toNat := by ac_rfl
    rw [key, FP.Core.nearest_exact _ (FP.Core.unitsDen_pos hB e Q)]
    refine ⟨k, ?_⟩
    rw [Nat.mul_right_comm, ← Nat.pow_add]
    congr 2; omega
/-- a value from 2^j on is left on the grid of its p digits -/
theorem rr_low {f : FP.Core.Fmt} (hf : FP.Core.Good f) {s : Bool} {A B c j : Nat} {e q e0 : Int} (hA : 0 < A) (hB : 0 < B) (h : FP.Core.roundRatio f s A B e = .fin s c q) (h0 : e0 ≤ f.qmin) (h0e : e0 ≤ e)
    (hj : B * 2 ^ (f.qmin - e0).toNat * 2 ^ j ≤ FP.Core.inUnits A e e0) : 2 ^ (j - (f.p - 1)) ∣ FP.Core.zmag f (.fin s c q) := by
  rw [rr_form hf hA hB h]
  have h1 := FP.Core.quantum_ge f A B e
  have h2 := FP.Core.quantum_below (f := f) hA hB e
  generalize FP.Core.quantum f A B e = Q at *
  refine Nat.dvd_trans (Nat.pow_dvd_pow 2 ?_) (Nat.dvd_mul_left _ _)
  have h3 : ¬ FP.Core.Below A B (f.qmin - e + j) := by
    rw [show f.qmin - e + (j : Int) = (((f.qmin - e0).toNat + j : Nat) : Int) - ((e - e0).toNat : Nat) by omega, FP.Core.below_iff, Nat.not_lt, Nat.pow_add, ← Nat.mul_assoc]
    exact hj
  have h4 := FP.Core.lt_of_below h3 h2
  have := hf.2
  omega
/-- the format's number 2^E -/
theorem pow_fits {f : FP.Core.Fmt} (hf : FP.Core.Good f) {E : Nat} (hE : E < f.exps - 2 + (f.p - 1)) : ∃ d, FP.Core.fits f d ∧ d ≠ .nan ∧ FP.Core.zmag f d = 2 ^ E := by
  have h1 := FP.Core.qmax_qmin f
  have h2 := FP.Core.emax_exps hf
  have h3 := FP.Core.two_tails hf
  have h5 := FP.Core.tails_two hf
  have h6 := FP.Core.emax_pos hf
  have hp := hf.2
  by_cases h : E < f.p - 1
  · refine ⟨.fin false (2 ^ E) f.qmin, ⟨Nat.pow_lt_pow_right (by decide) (by omega), by omega, by omega, .inl rfl⟩, FP.Core.Datum.noConfusion, ?_⟩
    show 2 ^ E * 2 ^ (f.qmin - f.qmin).toNat = 2 ^ E
    rw [Int.sub_self]; simp
  · refine ⟨.fin false f.tails (f.qmin + (E - (f.p - 1) : Nat)), ⟨by omega, by omega, by omega, .inr (Nat.le_refl _)⟩, FP.Core.Datum.noConfusion, ?_⟩
    show 2 ^ (f.p - 1) * 2 ^ (f.qmin + ((E - (f.p - 1) : Nat) : Int) - f.qmin).toNat = 2 ^ E
    rw [← Nat.pow_add]; congr 1; omega
theorem rr_fin {f : FP.Core.Fmt} (hf : FP.Core.Good f) {s : Bool} {A B E : Nat} {e e0 : Int} (hB : 0 < B) (h0 : e0 ≤ f.qmin) (h0e : e0 ≤ e) (hE : E < f.exps - 2 + (f.p - 1))
    (hu : FP.Core.inUnits A e e0 ≤ B * 2 ^ (f.qmin - e0).toNat * 2 ^ E) : ∃ c q, FP.Core.roundRatio f s A B e = .fin s c q ∧ FP.Core.zmag f (.fin s c q) ≤ 2 ^ E := by
  obtain ⟨V, hV, hn, hz⟩ := pow_fits hf hE
  have h1 := FP.Core.zmag_roundRatio_le (s := s) (e := e) hf hB hV hn h0 h0e (by rw [hz]; exact Nat.le_trans hu (Nat.le_of_eq (by ac_rfl)))
  rw [hz] at h1
  rcases FP.Core.roundRatio_cases f s A B e with ⟨c, q, h⟩ | h
  · exact ⟨c, q, h, by rw [h] at h1; exact h1⟩
  · exfalso
    rw [h] at h1
    have h2 : 2 ^ (f.exps - 2 + (f.p - 1)) ≤ 2 ^ E := by
      rw [Nat.add_comm, Nat.pow_add]; exact h1
    exact absurd h2 (Nat.not_le.mpr (Nat.pow_lt_pow_right (by decide) hE))
theorem rr_ge {f : FP.Core.Fmt} (hf : FP.Core.Good f) {s : Bool} {A B E : Nat} {e e0 : Int} (hB : 0 < B) (h0 : e0 ≤ f.qmin) (h0e : e0 ≤ e) (hE : E < f.exps - 2 + (f.p - 1))
    (hu : B * 2 ^ (f.qmin - e0).toNat * 2 ^ E ≤ FP.Core.inUnits A e e0) : 2 ^ E ≤ FP.Core.zmag f (FP.Core.roundRatio f s A B e) := by
  obtain ⟨V, hV, hn, hz⟩ := pow_fits hf hE
  rw [← hz]
  exact FP.Core.zmag_roundRatio_ge hf hB hV h0 h0e (by rw [hz]; exact Nat.le_trans (Nat.le_of_eq (by ac_rfl)) hu)
/-- finite, on the grid 2^g, at most 2^E; a zero is +0 -/
def GD (f : FP.Core.Fmt) (g E : Nat) (d : FP.Core.Datum) : Prop := ∃ s c q, d = .fin s c q ∧ FP.Core.fits f (.fin s c q) ∧ 2 ^ g ∣ FP.Core.zmag f (.fin s c q) ∧ FP.Core.zmag f (.fin s c q) ≤ 2 ^ E ∧ (c = 0 → s = false)
theorem zmag_zero {f : FP.Core.Fmt} {s : Bool} {c : Nat} {q : Int} : FP.Core.zmag f (.fin s c q) = 0 ↔ c = 0 := by
  show c * 2 ^ (q - f.qmin).toNat = 0 ↔ c = 0
  have := Nat.two_pow_pos (q - f.qmin).toNat
  constructor
  · intro h
    rcases Nat.mul_eq_zero.mp h with h | h
    · exact h
    · omega
  · intro h; rw [h, Nat.zero_mul]
theorem GD.mono {f : FP.Core.Fmt} {g g' E E' : Nat} {d : FP.Core.Datum} (h : GD f g E d) (hg : g' ≤ g) (hE : E ≤ E') : GD f g' E' d := by
  obtain ⟨s, c, q, h1, h2, h3, h4, h5⟩ := h
  exact ⟨s, c, q, h1, h2, Nat.dvd_trans (Nat.pow_dvd_pow 2 hg) h3, Nat.le_trans h4 (Nat.pow_le_pow_right (by decide) hE), h5⟩
def GN (f : FP.Core.Fmt) (g E : Nat) (d : FP.Core.Datum) : Prop := ∃ s c q, d = .fin s c q ∧ FP.Core.fits f (.fin s c q) ∧ 2 ^ g ∣ FP.Core.zmag f (.fin s c q) ∧ FP.Core.zmag f (.fin s c q) ≤ 2 ^ E
theorem GD.n {f : FP.Core.Fmt} {g E : Nat} {d : FP.Core.Datum} (h : GD f g E d) : GN f g E d := by
  obtain ⟨s, c, q, h1, h2, h3, h4, -⟩ := h
  exact ⟨s, c, q, h1, h2, h3, h4⟩
theorem GN.neg {f : FP.Core.Fmt} {g E : Nat} {d : FP.Core.Datum} (h : GN f g E d) : GN f g E (FP.Core.negate d) := by
  obtain ⟨s, c, q, rfl, h2, h3, h4⟩ := h
  exact ⟨!s, c, q, rfl, h2, h3, h4⟩
theorem GD.sum {f : FP.Core.Fmt} (hf : FP.Core.Good f) {g E : Nat} {x y : FP.Core.Datum} (hx : GD f g E x) (hy : GN f g E y) (hE : E + 1 < f.exps - 2 + (f.p - 1)) : GD f g (E + 1) (FP.Core.round f (FP.Core.exactSum x y)) := by
  obtain ⟨s, c, q, rfl, x2, x3, x4, x5⟩ := hx
  obtain ⟨t, d, r, rfl, y2, y3, y4⟩ := hy
  have hq1 := x2.2.1
  have hq2 := y2.2.1
  show GD f g (E + 1) (FP.Core.roundRatio f (FP.Core.sumSign s t (FP.Core.sumUnits s c q t d r (min q r))) (FP.Core.sumUnits s c q t d r (min q r)).natAbs 1 (min q r))
  obtain ⟨sg, n, e, e1, e2, e3⟩ := FP.Core.sum_units x2 y2
  injection e1 with e1a e1b e1c
  rw [e1a, e1b, e1c]
  have hz : FP.Core.inUnits n e f.qmin = (FP.Core.zval f (.fin s c q) + FP.Core.zval f (.fin t d r)).natAbs := by
    rw [← e3, FP.Core.natAbs_signed]
  have hup : FP.Core.inUnits n e f.qmin ≤ 1 * 2 ^ (f.qmin - f.qmin).toNat * 2 ^ (E + 1) := by
    rw [hz, Int.sub_self]
    have h1 : (FP.Core.zval f (.fin s c q)).natAbs = FP.Core.zmag f (.fin s c q) := FP.Core.natAbs_signed _ _
    have h2 : (FP.Core.zval f (.fin t d r)).natAbs = FP.Core.zmag f (.fin t d r) := FP.Core.natAbs_signed _ _
    have h3 := Int.natAbs_add_le (FP.Core.zval f (.fin s c q)) (FP.Core.zval f (.fin t d r))
    rw [Nat.pow_succ]
    simp only [Int.toNat_zero, Nat.pow_zero, Nat.one_mul]
    omega
  obtain ⟨c2, q2, hr, hle⟩ := rr_fin (s := sg) (A := n) (B := 1) (e := e) (e0 := f.qmin) hf (by decide) (Int.le_refl _) e2 hE hup
  have hfit := FP.Core.roundRatio_fits hf sg n (B := 1) (by decide) e
  rw [hr] at hfit ⊢
  by_cases hn : n = 0
  · subst hn
    unfold FP.Core.roundRatio at hr
    rw [if_pos rfl] at hr
    cases hr
    refine ⟨_, _, _, rfl, hfit, ?_, hle, fun _ => ?_⟩
    · rw [zmag_zero.mpr rfl]; exact Nat.dvd_zero _
    · rw [← e1a]
      have hv : FP.Core.sumUnits s c q t d r (min q r) = 0 := Int.natAbs_eq_zero.mp e1b
      unfold FP.Core.sumSign
      rw [if_pos hv]
      unfold FP.Core.sumUnits FP.Core.signed FP.Core.inUnits at hv
      cases s
      · rfl
      · cases t
        · rfl
        · exfalso
          have p1 := Nat.two_pow_pos (q - min q r).toNat
          have p2 := Nat.two_pow_pos (r - min q r).toNat
          have hc : c ≠ 0 := fun z => by have := x5 z; cases this
          have : 0 < c * 2 ^ (q - min q r).toNat := Nat.mul_pos (by omega) p1
          simp only [if_true] at hv
          omega
  · refine ⟨sg, c2, q2, rfl, hfit, rr_grid hf (by omega) (by decide) hr (Int.le_refl _) e2 ?_, hle, fun z => ?_⟩
    · rw [hz, Int.sub_self]
      simp only [Int.toNat_zero, Nat.pow_zero, Nat.one_mul]
      have h1 : ((2 ^ g : Nat) : Int) ∣ FP.Core.zval f (.fin s c q) := by
        unfold FP.Core.zval FP.Core.signed
        split
        · exact Int.dvd_neg.mpr (Int.natCast_dvd_natCast.mpr x3)
        · exact Int.natCast_dvd_natCast.mpr x3
      have h2 : ((2 ^ g : Nat) : Int) ∣ FP.Core.zval f (.fin t d r) := by
        unfold FP.Core.zval FP.Core.signed
        split
        · exact Int.dvd_neg.mpr (Int.natCast_dvd_natCast.mpr y3)
        · exact Int.natCast_dvd_natCast.mpr y3
      exact Int.natCast_dvd_natCast.mp (Int.dvd_natAbs.mpr (Int.dvd_add h1 h2))
    · exfalso
      subst z
      have hge := rr_ge (s := sg) (A := n) (B := 1) (E := 0) (e := e) (e0 := f.qmin) hf (by decide) (Int.le_refl _) e2 (by omega) (by
        rw [Int.sub_self]
        show 1 * 2 ^ 0 * 2 ^ 0 ≤ n * 2 ^ (e - f.qmin).toNat
        exact Nat.mul_pos (by omega) (Nat.two_pow_pos _))
      rw [hr, zmag_zero.mpr rfl] at hge
      exact absurd hge (by decide)
theorem GD.mulS {f : FP.Core.Fmt} (hf : FP.Core.Good f) {g g1 g2 E E1 E2 : Nat} {x y : FP.Core.Datum} (hx : GD f g1 E1 x) (hy : GD f g2 E2 y) (hs : FP.Core.sgn x = FP.Core.sgn y) (hg : g + (-f.qmin).toNat ≤ g1 + g2) (hE : E1 + E2 ≤ E + (-f.qmin).toNat) (hE2 : E < f.exps - 2 + (f.p - 1)) : GD f g E (FP.Core.round f (FP.Core.exactProduct x y)) ∧ FP.Core.sgn (FP.Core.round f (FP.Core.exactProduct x y)) = false := by
  obtain ⟨s, c, q, rfl, x2, x3, x4, x5⟩ := hx
  obtain ⟨t, d, r, rfl, y2, y3, y4, y5⟩ := hy
  have hs : s = t := hs
  subst hs
  have hq0 := FP.Core.qmin_neg hf
  obtain ⟨-, p2, p3⟩ := FP.Core.product_units x2 y2
  show GD f g E (FP.Core.roundRatio f (s != s) (c * d) 1 (q + r)) ∧ FP.Core.sgn (FP.Core.roundRatio f (s != s) (c * d) 1 (q + r)) = false
  rw [show (s != s) = false by cases s <;> rfl]
  have hP : (f.qmin - 2 * f.qmin).toNat = (-f.qmin).toNat := by omega
  have hup : FP.Core.inUnits (c * d) (q + r) (2 * f.qmin) ≤ 1 * 2 ^ (f.qmin - 2 * f.qmin).toNat * 2 ^ E := by
    rw [p3, hP, Nat.one_mul, ← Nat.pow_add]
    refine Nat.le_trans (Nat.mul_le_mul x4 y4) ?_
    rw [← Nat.pow_add]
    exact Nat.pow_le_pow_right (by decide) (by omega)
  obtain ⟨c2, q2, hr, hle⟩ := rr_fin (s := false) (A := c * d) (B := 1) (e := q + r) (e0 := 2 * f.qmin) hf (by decide) (by omega) p2 hE2 hup
  have hfit := FP.Core.roundRatio_fits hf false (c * d) (B := 1) (by decide) (q + r)
  rw [hr] at hfit ⊢
  refine ⟨⟨false, c2, q2, rfl, hfit, ?_, hle, fun _ => rfl⟩, rfl⟩
  by_cases hn : c * d = 0
  · rw [hn] at hr
    unfold FP.Core.roundRatio at hr
    rw [if_pos rfl] at hr
    cases hr
    rw [zmag_zero.mpr rfl]; exact Nat.dvd_zero _
  · refine rr_grid hf (by omega) (by decide) hr (by omega) p2 ?_
    rw [p3, hP, Nat.one_mul, ← Nat.pow_add]
    refine Nat.dvd_trans (Nat.pow_dvd_pow 2 (show (-f.qmin).toNat + g ≤ g1 + g2 by omega)) ?_
    rw [Nat.pow_add]
    exact Nat.mul_dvd_mul x3 y3
theorem quo_units {f : FP.Core.Fmt} (hf : FP.Core.Good f) {s t : Bool} {c d : Nat} {q r e0 : Int} (hx : FP.Core.fits f (.fin s c q)) (hy : FP.Core.fits f (.fin t d r)) (h0 : e0 ≤ f.qmin) (h0e : e0 ≤ q - r) :
    FP.Core.inUnits c (q - r) e0 * FP.Core.zmag f (.fin t d r) = FP.Core.zmag f (.fin s c q) * d * (2 ^ (-f.qmin).toNat * 2 ^ (f.qmin - e0).toNat) := by
  have h1 := hx.2.1
  have h2 := hy.2.1
  have h3 := FP.Core.qmin_neg hf
  show c * 2 ^ (q - r - e0).toNat * (d * 2 ^ (r - f.qmin).toNat) = c * 2 ^ (q - f.qmin).toNat * d * (2 ^ (-f.qmin).toNat * 2 ^ (f.qmin - e0).toNat)
  have e1 : 2 ^ (q - r - e0).toNat * 2 ^ (r - f.qmin).toNat = 2 ^ (q - f.qmin).toNat * (2 ^ (-f.qmin).toNat * 2 ^ (f.qmin - e0).toNat) := by
    rw [← Nat.pow_add, ← Nat.pow_add, ← Nat.pow_add]; congr 1; omega
  calc c * 2 ^ (q - r - e0).toNat * (d * 2 ^ (r - f.qmin).toNat) = c * d * (2 ^ (q - r - e0).toNat * 2 ^ (r - f.qmin).toNat) := by ac_rfl
    _ = c * d * (2 ^ (q - f.qmin).toNat * (2 ^ (-f.qmin).toNat * 2 ^ (f.qmin - e0).toNat)) := by rw [e1]
    _ = c * 2 ^ (q - f.qmin).toNat * d * (2 ^ (-f.qmin).toNat * 2 ^ (f.qmin - e0).toNat) := by ac_rfl
/-- positive, between two powers -/
def PD (f : FP.Core.Fmt) (L E : Nat) (d : FP.Core.Datum) : Prop := ∃ c q, d = .fin false c q ∧ FP.Core.fits f (.fin false c q) ∧ 2 ^ L ≤ FP.Core.zmag f (.fin false c q) ∧ FP.Core.zmag f (.fin false c q) ≤ 2 ^ E
theorem GD.quo {f : FP.Core.Fmt} (hf : FP.Core.Good f) {g1 j E E1 L E2 : Nat} {x y : FP.Core.Datum} (hx : GD f g1 E1 x) (hy : PD f L E2 y) (hj : j + E2 ≤ g1 + (-f.qmin).toNat) (hE : E1 + (-f.qmin).toNat ≤ E + L) (hE2 : E < f.exps - 2 + (f.p - 1)) : GD f (j - (f.p - 1)) E (FP.Core.quotient f x y) ∧ FP.Core.sgn (FP.Core.quotient f x y) = FP.Core.sgn x ∧ (∀ k M, 2 ^ k ≤ FP.Core.zmag f x → M + E2 ≤ k + (-f.qmin).toNat → M < f.exps - 2 + (f.p - 1) → 2 ^ M ≤ FP.Core.zmag f (FP.Core.quotient f x y)) := by
  obtain ⟨s, c, q, rfl, x2, x3, x4, x5⟩ := hx
  obtain ⟨d, r, rfl, y2, y3, y4⟩ := hy
  have hq0 := FP.Core.qmin_neg hf
  have hd : d ≠ 0 := fun z => by
    rw [zmag_zero.mpr z] at y3
    exact absurd y3 (Nat.not_le.mpr (Nat.two_pow_pos L))
  have hzy : 0 < FP.Core.zmag f (.fin false d r) := Nat.lt_of_lt_of_le (Nat.two_pow_pos L) y3
  have e0 : ∃ e0 : Int, e0 ≤ f.qmin ∧ e0 ≤ q - r := ⟨min f.qmin (q - r), by omega, by omega⟩
  obtain ⟨e0, h0, h0e⟩ := e0
  have hu := quo_units hf x2 y2 h0 h0e
  have hqt : FP.Core.quotient f (.fin s c q) (.fin false d r) = FP.Core.roundRatio f s c d (q - r) := by
    show (if d = 0 then _ else FP.Core.roundRatio f (s != false) c d (q - r)) = _
    rw [if_neg hd]
    cases s <;> rfl
  rw [hqt]
  generalize hzx : FP.Core.zmag f (.fin s c q) = zx at *
  generalize hzyd : FP.Core.zmag f (.fin false d r) = zy at *
  have hup : FP.Core.inUnits c (q - r) e0 ≤ d * 2 ^ (f.qmin - e0).toNat * 2 ^ E := by
    refine Nat.le_of_mul_le_mul_right (c := zy) ?_ hzy
    rw [hu]
    have h1 : zx * 2 ^ (-f.qmin).toNat ≤ 2 ^ E * zy := by
      refine Nat.le_trans (Nat.mul_le_mul_right _ x4) (Nat.le_trans ?_ (Nat.mul_le_mul_left _ y3))
      rw [← Nat.pow_add, ← Nat.pow_add]
      exact Nat.pow_le_pow_right (by decide) hE
    calc zx * d * (2 ^ (-f.qmin).toNat * 2 ^ (f.qmin - e0).toNat) = zx * 2 ^ (-f.qmin).toNat * (d * 2 ^ (f.qmin - e0).toNat) := by ac_rfl
      _ ≤ 2 ^ E * zy * (d * 2 ^ (f.qmin - e0).toNat) := Nat.mul_le_mul_right _ h1
      _ = d * 2 ^ (f.qmin - e0).toNat * 2 ^ E * zy := by ac_rfl
  have low : ∀ k M : Nat, 2 ^ k ≤ zx → M + E2 ≤ k + (-f.qmin).toNat → d * 2 ^ (f.qmin - e0).toNat * 2 ^ M ≤ FP.Core.inUnits c (q - r) e0 := by
    intro k M hk hM
    refine Nat.le_of_mul_le_mul_right (c := zy) ?_ hzy
    rw [hu]
    have h1 : 2 ^ M * zy ≤ zx * 2 ^ (-f.qmin).toNat := by
      refine Nat.le_trans (Nat.mul_le_mul_left _ y4) (Nat.le_trans ?_ (Nat.mul_le_mul_right _ hk))
      rw [← Nat.pow_add, ← Nat.pow_add]
      exact Nat.pow_le_pow_right (by decide) hM
    calc d * 2 ^ (f.qmin - e0).toNat * 2 ^ M * zy = 2 ^ M * zy * (d * 2 ^ (f.qmin - e0).toNat) := by ac_rfl
      _ ≤ zx * 2 ^ (-f.qmin).toNat * (d * 2 ^ (f.qmin - e0).toNat) := Nat.mul_le_mul_right _ h1
      _ = zx * d * (2 ^ (-f.qmin).toNat * 2 ^ (f.qmin - e0).toNat) := by ac_rfl
  obtain ⟨c2, q2, hr, hle⟩ := rr_fin (s := s) (A := c) (B := d) (e := q - r) (e0 := e0) hf (by omega) h0 h0e hE2 hup
  have hfit := FP.Core.roundRatio_fits hf s c (B := d) (by omega) (q - r)
  refine ⟨?_, by rw [hr]; rfl, fun k M hk hM hM2 => rr_ge hf (by omega) h0 h0e hM2 (low k M hk hM)⟩
  rw [hr] at hfit ⊢
  by_cases hn : c = 0
  · subst hn
    unfold FP.Core.roundRatio at hr
    rw [if_pos rfl] at hr
    cases hr
    refine ⟨_, _, _, rfl, hfit, ?_, hle, fun _ => x5 rfl⟩
    rw [zmag_zero.mpr rfl]; exact Nat.dvd_zero _
  · have hzx0 : 0 < zx := by
      rcases Nat.eq_zero_or_pos zx with z | z
      · exact absurd (zmag_zero.mp (hzx.trans z)) hn
      · exact z
    have hk : 2 ^ g1 ≤ zx := Nat.le_of_dvd hzx0 x3
    have hj' := low g1 j hk hj
    refine ⟨s, c2, q2, rfl, hfit, rr_low hf (by omega) (by omega) hr h0 h0e hj', hle, fun z => ?_⟩
    exfalso
    subst z
    by_cases hj0 : j < f.exps - 2 + (f.p - 1)
    · have hge := rr_ge (s := s) hf (by omega) h0 h0e hj0 hj'
      rw [hr, zmag_zero.mpr rfl] at hge
      exact absurd hge (Nat.not_le.mpr (Nat.two_pow_pos j))
    · have h3 := Nat.le_trans hj' hup
      have h4 : 2 ^ j ≤ 2 ^ E := Nat.le_of_mul_le_mul_left h3 (Nat.mul_pos (by omega) (Nat.two_pow_pos _))
      exact absurd (Nat.lt_of_lt_of_le hE2 (Nat.le_of_not_lt hj0)) (Nat.not_lt.mpr ((Nat.pow_le_pow_iff_right (by decide)).mp h4))
