/-! ===== distances: one function, met by the class's measure and by the reference's distanceOf ===== -/
abbrev MI : Int32 := -10000
def okV (v : Int32) : Prop := v = MI ∨ v.toInt.natAbs ≤ 999
def cnd (nt : Nat → Int32) (w : Nat → Nat) (t u m : Nat) : Bool := decide (nt (t * 4 + m) ≠ MI ∧ nt (u * 4 + m) ≠ MI ∧ 0 < w m)
def dif (nt : Nat → Int32) (t u m : Nat) : UInt32 := FP.fsub (valF (nt (t * 4 + m))) (valF (nt (u * 4 + m)))
def dstp (nt : Nat → Int32) (w : Nat → Nat) (t u : Nat) : Nat → UInt32 × UInt32 × Bool
  | 0 => (FP.fconst0, FP.fconst0, false)
  | m + 1 => bif cnd nt w t u m then (FP.fadd (dstp nt w t u m).1 (FP.fmul (wtF (w m)) (FP.fmul (dif nt t u m) (dif nt t u m))), FP.fadd (dstp nt w t u m).2.1 (wtF (w m)), true) else dstp nt w t u m
theorem G32_mono {g g' E E' : Nat} {x : UInt32} (h : G32 g E x) (hg : g' ≤ g) (hE : E ≤ E') : G32 g' E' x := GD.mono h hg hE
theorem P32.s {L E : Nat} {x : UInt32} (h : P32 L E x) : FP.Core.sgn (FP.Core.val32 x) = false := by
  obtain ⟨c, q, h1, -⟩ := h
  rw [h1]; rfl
theorem P32.lo {L E : Nat} {x : UInt32} (h : P32 L E x) : 2 ^ L ≤ FP.Core.zmag FP.Core.b32 (FP.Core.val32 x) := by
  obtain ⟨c, q, h1, h2, h3, h4⟩ := h
  rw [h1]; exact h3
theorem sgn_0 : FP.Core.sgn (FP.Core.val32 FP.fconst0) = false := by decide +kernel
theorem dst_step {a b : Int32} {k : Nat} (ha : a.toInt.natAbs ≤ 999) (hb : b.toInt.natAbs ≤ 999) (hk : 0 < k) (hk2 : k ≤ 80) :
    n32 (FP.fsub (valF a) (valF b)) = true ∧ n32 (FP.fmul (FP.fsub (valF a) (valF b)) (FP.fsub (valF a) (valF b))) = true ∧ n32 (FP.fmul (wtF k) (FP.fmul (FP.fsub (valF a) (valF b)) (FP.fsub (valF a) (valF b)))) = true ∧ G32 92 169 (FP.fmul (wtF k) (FP.fmul (FP.fsub (valF a) (valF b)) (FP.fsub (valF a) (valF b)))) ∧ FP.Core.sgn (FP.Core.val32 (FP.fmul (wtF k) (FP.fmul (FP.fsub (valF a) (valF b)) (FP.fsub (valF a) (valF b))))) = false := by
  have h1 := G32.sub (valF_G ha) (valF_G hb) (by decide)
  obtain ⟨h2, h3⟩ := G32.mul (g := 95) (E := 165) h1 h1 rfl (by decide) (by decide) (by decide)
  obtain ⟨w1, w2⟩ := wtF_ok hk hk2
  obtain ⟨h4, h5⟩ := G32.mul (g := 92) (E := 169) w2 h2 (by rw [h3, w1.s]) (by decide) (by decide) (by decide)
  exact ⟨h1.n, h2.n, h4.n, h4, h5⟩
def dOK (nt : Nat → Int32) (w : Nat → Nat) (t u : Nat) : Prop := ∀ m, m < 4 → okV (nt (t * 4 + m)) ∧ okV (nt (u * 4 + m)) ∧ w m ≤ 80
theorem dstp_ok {nt : Nat → Int32} {w : Nat → Nat} {t u : Nat} (h : dOK nt w t u) : ∀ m, m ≤ 4 → G32 92 (169 + m) (dstp nt w t u m).1 ∧ FP.Core.sgn (FP.Core.val32 (dstp nt w t u m).1) = false ∧ G32 146 (153 + m) (dstp nt w t u m).2.1 ∧ FP.Core.sgn (FP.Core.val32 (dstp nt w t u m).2.1) = false ∧ ((dstp nt w t u m).2.2 = true → 2 ^ 146 ≤ FP.Core.zmag FP.Core.b32 (FP.Core.val32 (dstp nt w t u m).2.1)) ∧ ((dstp nt w t u m).2.2 = false → (dstp nt w t u m).1 = FP.fconst0 ∧ (dstp nt w t u m).2.1 = FP.fconst0) := by
  intro m
  induction m with
  | zero => exact fun _ => ⟨G32_0 _ _, sgn_0, G32_0 _ _, sgn_0, (fun h => by cases h), (fun _ => ⟨rfl, rfl⟩)⟩
  | succ m ih =>
    intro hm
    obtain ⟨i1, i2, i3, i4, i5, i6⟩ := ih (by omega)
    cases hc : cnd nt w t u m with
    | false =>
      have e : dstp nt w t u (m + 1) = dstp nt w t u m := by simp only [dstp, hc, cond_false]
      rw [e]
      exact ⟨G32_mono i1 (Nat.le_refl _) (by omega), i2, G32_mono i3 (Nat.le_refl _) (by omega), i4, i5, i6⟩
    | true =>
      have e : dstp nt w t u (m + 1) = (FP.fadd (dstp nt w t u m).1 (FP.fmul (wtF (w m)) (FP.fmul (dif nt t u m) (dif nt t u m))), FP.fadd (dstp nt w t u m).2.1 (wtF (w m)), true) := by simp only [dstp, hc, cond_true]
      rw [e]
      obtain ⟨c1, c2, c3⟩ := of_decide_eq_true hc
      obtain ⟨v1, v2, v3⟩ := h m (by omega)
      obtain ⟨-, -, -, s4, s5⟩ := dst_step (v1.resolve_left c1) (v2.resolve_left c2) c3 v3
      obtain ⟨w1, w2⟩ := wtF_ok c3 v3
      have s4' := G32_mono s4 (Nat.le_refl _) (show 169 ≤ 169 + m by omega)
      have w2' := G32_mono w2 (Nat.le_refl _) (show 153 ≤ 153 + m by omega)
      exact ⟨G32.add (E := 169 + m) i1 s4' (by omega), G32.sgnAdd i1 s4' i2 s5, G32.add (E := 153 + m) i3 w2' (by omega), G32.sgnAdd i3 w2' i4 w1.s, (fun _ => G32.addP (L := 146) (E := 153 + m) i3 w2' i4 w1.s (by omega) (by decide) (Or.inr w1.lo)), (fun z => by cases z)⟩
theorem dstp_n {nt : Nat → Int32} {w : Nat → Nat} {t u m : Nat} (h : dOK nt w t u) (hm : m < 4) (hc : cnd nt w t u m = true) :
    n32 (dif nt t u m) = true ∧ n32 (FP.fmul (dif nt t u m) (dif nt t u m)) = true ∧ n32 (FP.fmul (wtF (w m)) (FP.fmul (dif nt t u m) (dif nt t u m))) = true ∧ n32 (FP.fadd (dstp nt w t u m).1 (FP.fmul (wtF (w m)) (FP.fmul (dif nt t u m) (dif nt t u m)))) = true ∧ n32 (FP.fadd (dstp nt w t u m).2.1 (wtF (w m))) = true ∧ n32 (wtF (w m)) = true := by
  obtain ⟨i1, i2, i3, i4, i5, i6⟩ := dstp_ok h m (by omega)
  obtain ⟨c1, c2, c3⟩ := of_decide_eq_true hc
  obtain ⟨v1, v2, v3⟩ := h m hm
  obtain ⟨s1, s2, s3, s4, s5⟩ := dst_step (v1.resolve_left c1) (v2.resolve_left c2) c3 v3
  obtain ⟨w1, w2⟩ := wtF_ok c3 v3
  exact ⟨s1, s2, s3, (G32.add i1 (G32_mono s4 (Nat.le_refl _) (show 169 ≤ 169 + m by omega)) (by omega)).n, (G32.add i3 (G32_mono w2 (Nat.le_refl _) (show 153 ≤ 153 + m by omega)) (by omega)).n, w2.n⟩
/-- the distance of two days, the lesser first -/
def dst0 (nt : Nat → Int32) (w : Nat → Nat) (t u : Nat) : Option UInt32 := bif (dstp nt w t u 4).2.2 then some (FP.fdiv (dstp nt w t u 4).1 (dstp nt w t u 4).2.1) else none
def dist (nt : Nat → Int32) (w : Nat → Nat) (t u : Nat) : Option UInt32 := dst0 nt w (min t u) (max t u)
theorem dst0_ok {nt : Nat → Int32} {w : Nat → Nat} {t u : Nat} (h : dOK nt w t u) {d : UInt32} (hd : dst0 nt w t u = some d) : G32 61 176 d ∧ FP.Core.sgn (FP.Core.val32 d) = false := by
  obtain ⟨i1, i2, i3, i4, i5, i6⟩ := dstp_ok h 4 (by decide)
  unfold dst0 at hd
  cases hc : (dstp nt w t u 4).2.2 with
  | false => rw [hc] at hd; cases hd
  | true =>
    rw [hc] at hd
    have hd := Option.some.inj hd
    have := G32.div (j := 61) (E := 176) i1 (G32.p i3 i4 (i5 hc)) (by decide) (by decide) (by decide)
    rw [← hd]
    exact ⟨this.1, this.2.1.trans i2⟩
theorem noted_ok (v : Int32) : fX6_isNoted v = some (if v = MI then 0 else 1) := by
  unfold fX6_isNoted
  by_cases h : v = MI
  · rw [if_pos h, if_pos h]; rfl
  · rw [if_neg h, if_neg h]; rfl
theorem value_ok (v : Int32) : fX6_value v = some (valF v) := by
  unfold fX6_value
  exact gd_t (valF_n v)
theorem valueOf_ok (v : Int32) : fX5_valueOf v = some (valF v) := by
  unfold fX5_valueOf
  exact gd_t (valF_n v)
/-- what the reference's book must hold -/
def moB (n : Nat) (nt : Nat → Int32) (w : Nat → Nat) (co : Tco) : Prop := n ≤ 50 ∧ co.1 = nI n ∧ (∀ k, k < n * 4 → co.2.2 k = nt k) ∧ (∀ m, m < 4 → co.2.1 m = nI (w m))
def okB (n : Nat) (nt : Nat → Int32) (w : Nat → Nat) : Prop := (∀ k, k < n * 4 → okV (nt k)) ∧ (∀ m, m < 4 → w m ≤ 80)
theorem okB.d {n : Nat} {nt : Nat → Int32} {w : Nat → Nat} (h : okB n nt w) {t u : Nat} (ht : t < n) (hu : u < n) : dOK nt w t u := fun m hm => ⟨h.1 _ (by omega), h.1 _ (by omega), h.2 m hm⟩
theorem b2i (b : Bool) : (bif b then (1 : Int32) else 0) = 0 ↔ b = false := by cases b <;> decide
set_option maxHeartbeats 1000000 in
theorem mo_loop {n : Nat} {nt : Nat → Int32} {w : Nat → Nat} {co : Tco} (hm : moB n nt w co) (ho : okB n nt w) {a b : Nat} (ha : a < n) (hb : b < n) :
    lpF (bX6_distanceOf_37 co (nI a) (nI b)) FU (FP.fconst0, FP.fconst0, (0 : Int32), (0 : Int32)) = some ((dstp nt w a b 4).1, (dstp nt w a b 4).2.1, bif (dstp nt w a b 4).2.2 then 1 else 0) := by
  obtain ⟨hn, -, hco, hw⟩ := hm
  have hd := ho.d ha hb
  have key := lp_cnt (B := bX6_distanceOf_37 co (nI a) (nI b)) (fun (i : Nat) z => z = ((dstp nt w a b i).1, (dstp nt w a b i).2.1, nI i, bif (dstp nt w a b i).2.2 then 1 else 0)) (fun e => e = ((dstp nt w a b 4).1, (dstp nt w a b 4).2.1, bif (dstp nt w a b 4).2.2 then 1 else 0)) 4 (by decide) ?_ ?_ (FP.fconst0, FP.fconst0, (0 : Int32), (0 : Int32)) rfl
  · obtain ⟨e, h1, h2⟩ := key
    rw [h1, h2]
  · intro i z hi hz
    subst hz
    have h4 : ¬ (4 : Int32) ≤ nI i := nI_ge (a := i) (b := 4) hi (by decide)
    have ia : (4 : Int32) * nI a + nI i = nI (a * 4 + i) := by rw [show (4 : Int32) = nI 4 from rfl, pk_mul, nI_add, Nat.mul_comm]
    have ib : (4 : Int32) * nI b + nI i = nI (b * 4 + i) := by rw [show (4 : Int32) = nI 4 from rfl, pk_mul, nI_add, Nat.mul_comm]
    have i1 : nI i + 1 = nI (i + 1) := nI_1 i
    refine ⟨((dstp nt w a b (i + 1)).1, (dstp nt w a b (i + 1)).2.1, nI (i + 1), bif (dstp nt w a b (i + 1)).2.2 then 1 else 0), ?_, rfl⟩
    unfold bX6_distanceOf_37
    dsimp only
    rw [if_neg h4, ia, ib, gd_t (inB_nI (by omega) (by decide)), gd_t (inB_nI (by omega) (by decide)), cl_nI (by omega), cl_nI (by omega), cl_nI (by omega), hco _ (by omega), hco _ (by omega), hw i hi, noted_ok, noted_ok, gd_t (inB_nI (n := 6) (by omega) (by decide))]
    simp only [Option.bind_some]
    unfold jX6_distanceOf_37_147
    rw [i1]
    by_cases ca : nt (a * 4 + i) = MI
    · have hc : cnd nt w a b i = false := decide_eq_false (fun z => z.1 ca)
      rw [if_pos ca, if_pos rfl]
      simp only [dstp, hc, cond_false]
    · rw [if_neg ca, if_neg (by decide)]
      by_cases cb : nt (b * 4 + i) = MI
      · have hc : cnd nt w a b i = false := decide_eq_false (fun z => z.2.1 cb)
        rw [if_pos cb, if_pos rfl]
        simp only [dstp, hc, cond_false]
      · rw [if_neg cb, if_neg (by decide)]
        by_cases cw : 0 < w i
        · have hc : cnd nt w a b i = true := decide_eq_true ⟨ca, cb, cw⟩
          obtain ⟨n1, n2, n3, n4, n5, n6⟩ := dstp_n hd hi hc
          have hw80 := ho.2 i hi
          rw [if_neg (show ¬ nI (w i) ≤ 0 from nI_nle cw (by omega))]
          rw [show FP.fdiv (FP.i2f (nI (w i))) 1090519040 = wtF (w i) from rfl, gd_t n6, value_ok, value_ok]
          simp only [Option.bind_some]
          rw [show FP.fsub (valF (nt (a * 4 + i))) (valF (nt (b * 4 + i))) = dif nt a b i from rfl, gd_t n1, gd_t n2, gd_t n3, gd_t n4, gd_t n5, gd_t (inB_nI (n := 6) (by omega) (by decide))]
          simp only [dstp, hc, cond_true]
        · have hc : cnd nt w a b i = false := decide_eq_false (fun z => cw z.2.2)
          rw [if_pos (show nI (w i) ≤ 0 by rw [show w i = 0 by omega]; decide)]
          simp only [dstp, hc, cond_false]
  · intro z hz
    subst hz
    refine ⟨_, ?_, rfl⟩
    unfold bX6_distanceOf_37
    dsimp only
    rw [if_pos (show (4 : Int32) ≤ nI 4 by decide)]
theorem mo_dist {n : Nat} {nt : Nat → Int32} {w : Nat → Nat} {co : Tco} (hm : moB n nt w co) (ho : okB n nt w) (cp : Int32) {t u : Nat} (ht : t < n) (hu : u < n) :
    fX6_distanceOf co cp (nI t) (nI u) = some ((dist nt w t u).getD FP.fconst0, bif (dist nt w t u).isSome then 1 else 0) := by
  have hn := hm.1
  have fin : ∀ a b : Nat, a < n → b < n → jX6_distanceOf_21 co cp (nI a) (nI b) = some ((dst0 nt w a b).getD FP.fconst0, bif (dst0 nt w a b).isSome then 1 else 0) := by
    intro a b ha hb
    unfold jX6_distanceOf_21
    rw [mo_loop hm ho ha hb]
    simp only [Option.bind_some]
    have hf := @dst0_ok nt w a b (ho.d ha hb)
    unfold dst0 at hf ⊢
    cases hc : (dstp nt w a b 4).2.2 with
    | false => rfl
    | true =>
      rw [hc] at hf
      obtain ⟨g1, -⟩ := hf rfl
      simp only [cond_true]
      rw [if_neg (by decide), gd_t g1.n]
      rfl
  unfold fX6_distanceOf jX6_distanceOf_10 dist
  by_cases h : u ≤ t
  · rw [if_pos (nI_le h (by omega)), if_pos (nI_le h (by omega)), fin u t hu ht, Nat.min_eq_right h, Nat.max_eq_left h]
  · rw [if_neg (nI_ge (by omega) (by omega)), if_neg (nI_ge (by omega) (by omega)), fin t u ht hu, Nat.min_eq_left (by omega), Nat.max_eq_right (by omega)]
