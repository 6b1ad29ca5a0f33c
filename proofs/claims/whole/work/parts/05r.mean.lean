/-! ===== means and spreads of followers ===== -/
theorem GD.rnd {f : FP.Core.Fmt} (hf : FP.Core.Good f) {sg : Bool} {n g E : Nat} {e : Int} (e2 : f.qmin ≤ e) (hg : 2 ^ g ∣ FP.Core.inUnits n e f.qmin) (hu : FP.Core.inUnits n e f.qmin ≤ 2 ^ E) (hE : E < f.exps - 2 + (f.p - 1)) (hs : n = 0 → sg = false) : GD f g E (FP.Core.roundRatio f sg n 1 e) := by
  have hup : FP.Core.inUnits n e f.qmin ≤ 1 * 2 ^ (f.qmin - f.qmin).toNat * 2 ^ E := by
    rw [Int.sub_self]
    simp only [Int.toNat_zero, Nat.pow_zero, Nat.one_mul]
    exact hu
  obtain ⟨c2, q2, hr, hle⟩ := rr_fin (s := sg) (A := n) (B := 1) (e := e) (e0 := f.qmin) hf (by decide) (Int.le_refl _) e2 hE hup
  have hfit := FP.Core.roundRatio_fits hf sg n (B := 1) (by decide) e
  rw [hr] at hfit ⊢
  by_cases hn : n = 0
  · subst hn
    unfold FP.Core.roundRatio at hr
    rw [if_pos rfl] at hr
    cases hr
    refine ⟨_, _, _, rfl, hfit, ?_, hle, fun _ => hs rfl⟩
    rw [zmag_zero.mpr rfl]; exact Nat.dvd_zero _
  · refine ⟨sg, c2, q2, rfl, hfit, rr_grid hf (by omega) (by decide) hr (Int.le_refl _) e2 ?_, hle, fun z => ?_⟩
    · rw [Int.sub_self]
      simp only [Int.toNat_zero, Nat.pow_zero, Nat.one_mul]
      exact hg
    · exfalso
      subst z
      have hge := rr_ge (s := sg) (A := n) (B := 1) (E := 0) (e := e) (e0 := f.qmin) hf (by decide) (Int.le_refl _) e2 (by omega) (by
        rw [Int.sub_self]
        show 1 * 2 ^ 0 * 2 ^ 0 ≤ n * 2 ^ (e - f.qmin).toNat
        exact Nat.mul_pos (by omega) (Nat.two_pow_pos _))
      rw [hr, zmag_zero.mpr rfl] at hge
      exact absurd hge (by decide)
theorem G64_f2d {g E : Nat} {x : UInt32} (h : G32 g E x) (hE : E + 925 < 2098) : G64 (g + 925) (E + 925) (FP.f2d x) := by
  have hnan : FP.Core.fIsNaN x = false := by
    cases hc : FP.Core.fIsNaN x with
    | false => rfl
    | true => exact absurd ((FP.Core.fIsNaN_iff x).mp hc) h.ne
  rw [FP.f2d_core hnan]
  show GD FP.Core.b64 (g + 925) (E + 925) (FP.Core.val64 (FP.Core.f2d x))
  rw [FP.Core.val64_f2d]
  obtain ⟨s, c, q, e1, e2, e3, e4, e5⟩ := h
  rw [e1]
  have hq : FP.Core.b32.qmin ≤ q := e2.2.1
  rw [FP.Core.qmin_b32] at hq
  have hm : FP.Core.b64.qmin = -1074 := by decide
  have hu : FP.Core.inUnits c q FP.Core.b64.qmin = FP.Core.zmag FP.Core.b32 (.fin s c q) * 2 ^ 925 := by
    show c * 2 ^ (q - FP.Core.b64.qmin).toNat = c * 2 ^ (q - FP.Core.b32.qmin).toNat * 2 ^ 925
    rw [hm, FP.Core.qmin_b32, Nat.mul_assoc, ← Nat.pow_add, show (q - -1074).toNat = (q - -149).toNat + 925 by omega]
  show GD FP.Core.b64 (g + 925) (E + 925) (FP.Core.roundRatio FP.Core.b64 s c 1 q)
  refine GD.rnd FP.Core.good_b64 (by rw [hm]; omega) ?_ ?_ (by rw [b64_top]; exact hE) e5
  · rw [hu, Nat.pow_add]
    exact Nat.mul_dvd_mul_right e3 _
  · rw [hu, Nat.pow_add]
    exact Nat.mul_le_mul_right _ e4
def gtst6 (L E : Nat) (x : UInt64) : Bool := match FP.Core.val64 x with
  | .fin false c q => decide (2 ^ L ≤ FP.Core.zmag FP.Core.b64 (.fin false c q) ∧ FP.Core.zmag FP.Core.b64 (.fin false c q) ≤ 2 ^ E)
  | _ => false
theorem gtst6_ok {L E : Nat} {x : UInt64} (h : gtst6 L E x = true) : P64 L E x := by
  unfold gtst6 at h
  have hf := FP.Core.val64_fits x
  cases hd : FP.Core.val64 x with
  | nan => rw [hd] at h; cases h
  | inf s => rw [hd] at h; cases h
  | fin s c q =>
    rw [hd] at h hf
    cases s with
    | true => cases h
    | false =>
      have h := of_decide_eq_true h
      exact ⟨c, q, hd, hf, h.1, h.2⟩
theorem i2d_all : (List.range 12).all (fun i => gtst6 1074 1078 (FP.i2d (nI (i + 1)))) = true := by decide +kernel
theorem i2d_ok {k : Nat} (h0 : 0 < k) (h : k ≤ 12) : P64 1074 1078 (FP.i2d (nI k)) := by
  have h1 := List.all_eq_true.mp i2d_all (k - 1) (List.mem_range.mpr (by omega))
  rw [show k - 1 + 1 = k by omega] at h1
  exact gtst6_ok h1
def fokL (L : List (Int32 × UInt32)) : Prop := L.length ≤ 12 ∧ ∀ p ∈ L, p.1.toInt.natAbs ≤ 999 ∧ G32 61 176 p.2 ∧ FP.Core.sgn (FP.Core.val32 p.2) = false
def mn1 (p : Int32 × UInt32) : UInt32 := FP.fadd FP.fconst1 p.2
def mnS : List (Int32 × UInt32) → UInt32 × UInt32 := fun L => L.foldl (fun s p => (FP.fadd s.1 (FP.fdiv (valF p.1) (mn1 p)), FP.fadd s.2 (FP.fdiv FP.fconst1 (mn1 p)))) (FP.fconst0, FP.fconst0)
theorem mnS_snoc (L : List (Int32 × UInt32)) (p : Int32 × UInt32) : mnS (L ++ [p]) = (FP.fadd (mnS L).1 (FP.fdiv (valF p.1) (mn1 p)), FP.fadd (mnS L).2 (FP.fdiv FP.fconst1 (mn1 p))) := by
  unfold mnS
  rw [List.foldl_append]
  rfl
theorem sgn_1 : FP.Core.sgn (FP.Core.val32 FP.fconst1) = false := by decide +kernel
theorem mn1_ok {p : Int32 × UInt32} (h : G32 61 176 p.2) (hs : FP.Core.sgn (FP.Core.val32 p.2) = false) : G32 61 177 (mn1 p) ∧ P32 149 177 (mn1 p) := by
  have h1 : G32 61 176 FP.fconst1 := G32_mono G32_1 (by decide) (by decide)
  have a := h1.add h (by decide)
  have b := h1.addP (L := 149) h sgn_1 hs (by decide) (by decide) (Or.inl P32_1.lo)
  have c := h1.sgnAdd h sgn_1 hs
  exact ⟨a, a.p c b⟩
theorem mn_step {p : Int32 × UInt32} (hv : p.1.toInt.natAbs ≤ 999) (h : G32 61 176 p.2) (hs : FP.Core.sgn (FP.Core.val32 p.2) = false) : G32 71 156 (FP.fdiv (valF p.1) (mn1 p)) ∧ G32 98 149 (FP.fdiv FP.fconst1 (mn1 p)) ∧ FP.Core.sgn (FP.Core.val32 (FP.fdiv FP.fconst1 (mn1 p))) = false ∧ 2 ^ 121 ≤ FP.Core.zmag FP.Core.b32 (FP.Core.val32 (FP.fdiv FP.fconst1 (mn1 p))) := by
  obtain ⟨-, b⟩ := mn1_ok h hs
  have c := (valF_G hv).div (j := 71) (E := 156) b (by decide) (by decide) (by decide)
  have d := G32_1.div (j := 98) (E := 149) b (by decide) (by decide) (by decide)
  exact ⟨c.1, d.1, d.2.1.trans sgn_1, d.2.2 149 121 P32_1.lo (by decide) (by decide)⟩
theorem mnS_ok {L : List (Int32 × UInt32)} (h : fokL L) : ∀ k, k ≤ L.length → G32 71 (156 + k) (mnS (L.take k)).1 ∧ G32 98 (149 + k) (mnS (L.take k)).2 ∧ FP.Core.sgn (FP.Core.val32 (mnS (L.take k)).2) = false ∧ (0 < k → 2 ^ 121 ≤ FP.Core.zmag FP.Core.b32 (FP.Core.val32 (mnS (L.take k)).2)) := by
  intro k
  induction k with
  | zero => intro _; exact ⟨G32_0 _ _, G32_0 _ _, sgn_0, fun z => absurd z (by decide)⟩
  | succ k ih =>
    intro hk
    obtain ⟨i1, i2, i3, i4⟩ := ih (by omega)
    obtain ⟨a, ha⟩ : ∃ a, L[k]? = some a := ⟨_, List.getElem?_eq_getElem (by omega)⟩
    have ht : L.take (k + 1) = L.take k ++ [a] := by rw [List.take_add_one, ha]; rfl
    obtain ⟨q1, q2, q3⟩ := h.2 a (List.mem_of_getElem? ha)
    obtain ⟨s1, s2, s3, s4⟩ := mn_step q1 q2 q3
    have hL := h.1
    have s1' : G32 71 (156 + k) (FP.fdiv (valF a.1) (mn1 a)) := G32_mono s1 (Nat.le_refl _) (by omega)
    have s2' : G32 98 (149 + k) (FP.fdiv FP.fconst1 (mn1 a)) := G32_mono s2 (Nat.le_refl _) (by omega)
    rw [ht, mnS_snoc]
    exact ⟨i1.add s1' (by omega), i2.add s2' (by omega), i2.sgnAdd s2' i3 s3, fun _ => i2.addP s2' i3 s3 (by omega) (by decide) (Or.inr s4)⟩
def mnV (L : List (Int32 × UInt32)) : UInt32 := FP.fdiv (mnS L).1 (mnS L).2
theorem mnV_ok {L : List (Int32 × UInt32)} (h : fokL L) (h0 : 0 < L.length) : G32 36 196 (mnV L) ∧ P32 121 161 (mnS L).2 := by
  have hL := h.1
  have := mnS_ok h L.length (Nat.le_refl _)
  rw [List.take_length] at this
  obtain ⟨a, b, c, d⟩ := this
  have a' : G32 71 168 (mnS L).1 := G32_mono a (Nat.le_refl _) (by omega)
  have b' : G32 98 161 (mnS L).2 := G32_mono b (Nat.le_refl _) (by omega)
  have p := b'.p c (d h0)
  exact ⟨(a'.div (j := 36) (E := 196) p (by decide) (by decide) (by decide)).1, p⟩
theorem mvl_c {L : List (Int32 × UInt32)} {fo : Tfo} (h : fokL L) (hf : foP L fo) : lpF (bX1_meanValue_6 fo) FU (FP.fconst0, FP.fconst0, (0 : Int32)) = some (mnS L) := by
  obtain ⟨f1, f2, f3, -⟩ := hf
  have hL := h.1
  have key := lp_cnt (B := bX1_meanValue_6 fo) (fun (k : Nat) (z : UInt32 × UInt32 × Int32) => z = ((mnS (L.take k)).1, (mnS (L.take k)).2, nI k)) (fun (e : UInt32 × UInt32) => e = mnS L) L.length (by omega) ?_ ?_ (FP.fconst0, FP.fconst0, (0 : Int32)) rfl
  · obtain ⟨e, h1, h2⟩ := key
    rw [h1, h2]
  · rintro k z hk hz
    subst hz
    refine ⟨_, ?_, rfl⟩
    obtain ⟨a, ha⟩ : ∃ a, L[k]? = some a := ⟨_, List.getElem?_eq_getElem hk⟩
    have ht : L.take (k + 1) = L.take k ++ [a] := by rw [List.take_add_one, ha]; rfl
    obtain ⟨q1, q2, q3⟩ := h.2 a (List.mem_of_getElem? ha)
    obtain ⟨s1, s2, s3, s4⟩ := mn_step q1 q2 q3
    obtain ⟨o1, -⟩ := mn1_ok q2 q3
    obtain ⟨n1, n2, -⟩ := mnS_ok h (k + 1) hk
    rw [ht, mnS_snoc] at n1 n2
    have f2' : fo.1 k = a.1 := f2 k a ha
    have f3' : fo.2.1 k = a.2 := f3 k a ha
    have o1' : n32 (FP.fadd FP.fconst1 a.2) = true := G32.n o1
    have n1' := G32.n n1
    have n2' := G32.n n2
    have s1' := G32.n s1
    have s2' := G32.n s2
    unfold mn1 at n1' n2' s1' s2'
    unfold bX1_meanValue_6
    dsimp only
    rw [f1, if_neg (nI_ge hk (by omega)), gd_t (inB_nI (by omega) (by decide)), cl_nI (by omega), f2', f3', valueOf_ok, Option.bind_some, gd_t (inB_nI (by omega) (by decide)), gd_t o1', gd_t s1', gd_t n1', gd_t (inB_nI (by omega) (by decide)), gd_t o1', gd_t s2', gd_t n2', nI_1, ht, mnS_snoc]
    rfl
  · rintro z hz
    subst hz
    refine ⟨_, ?_, rfl⟩
    unfold bX1_meanValue_6
    dsimp only
    rw [f1, if_pos (nI_le (Nat.le_refl _) (by omega)), List.take_length]
theorem mvl_m {L : List (Int32 × UInt32)} {fl : Tfl} (h : fokL L) (hf : flP L fl) : lpF (bX6_meanNow_6 fl) FU (FP.fconst0, FP.fconst0, (0 : Int32)) = some (mnS L) := by
  obtain ⟨f1, f2, f3, -⟩ := hf
  have hL := h.1
  have key := lp_cnt (B := bX6_meanNow_6 fl) (fun (k : Nat) (z : UInt32 × UInt32 × Int32) => z = ((mnS (L.take k)).1, (mnS (L.take k)).2, nI k)) (fun (e : UInt32 × UInt32) => e = mnS L) L.length (by omega) ?_ ?_ (FP.fconst0, FP.fconst0, (0 : Int32)) rfl
  · obtain ⟨e, h1, h2⟩ := key
    rw [h1, h2]
  · rintro k z hk hz
    subst hz
    refine ⟨_, ?_, rfl⟩
    obtain ⟨a, ha⟩ : ∃ a, L[k]? = some a := ⟨_, List.getElem?_eq_getElem hk⟩
    have ht : L.take (k + 1) = L.take k ++ [a] := by rw [List.take_add_one, ha]; rfl
    obtain ⟨q1, q2, q3⟩ := h.2 a (List.mem_of_getElem? ha)
    obtain ⟨s1, s2, s3, s4⟩ := mn_step q1 q2 q3
    obtain ⟨o1, -⟩ := mn1_ok q2 q3
    obtain ⟨n1, n2, -⟩ := mnS_ok h (k + 1) hk
    rw [ht, mnS_snoc] at n1 n2
    have f2' : fl.2.1 k = a.1 := f2 k a ha
    have f3' : fl.2.2.1 k = a.2 := f3 k a ha
    have o1' : n32 (FP.fadd FP.fconst1 a.2) = true := G32.n o1
    have n1' := G32.n n1
    have n2' := G32.n n2
    have s1' := G32.n s1
    have s2' := G32.n s2
    unfold mn1 at n1' n2' s1' s2'
    unfold bX6_meanNow_6
    dsimp only
    rw [f1, if_neg (nI_ge hk (by omega)), gd_t (inB_nI (by omega) (by decide)), cl_nI (by omega), f2', f3', value_ok, Option.bind_some, gd_t (inB_nI (by omega) (by decide)), gd_t o1', gd_t s1', gd_t n1', gd_t (inB_nI (by omega) (by decide)), gd_t o1', gd_t s2', gd_t n2', nI_1, ht, mnS_snoc]
    rfl
  · rintro z hz
    subst hz
    refine ⟨_, ?_, rfl⟩
    unfold bX6_meanNow_6
    dsimp only
    rw [f1, if_pos (nI_le (Nat.le_refl _) (by omega)), List.take_length]
theorem mv_c {L : List (Int32 × UInt32)} {fo : Tfo} (h : fokL L) (h0 : 0 < L.length) (hf : foP L fo) : fX1_meanValue fo = some (mnV L) := by
  obtain ⟨a, b⟩ := mnV_ok h h0
  unfold fX1_meanValue
  rw [mvl_c h hf, Option.bind_some]
  have hz : ¬ Op.cmpValue (FP.fcmp (mnS L).2 FP.fconst0) CmpOp.l ≤ 0 := by
    rw [(fc_lt .l b.ne (G32_0 0 0).ne).2.1, z_zero32]
    obtain ⟨c, q, e1, e2, e3, e4⟩ := b
    intro z
    have z : FP.Core.zval FP.Core.b32 (FP.Core.val32 (mnS L).2) ≤ 0 := z
    rw [e1] at z
    have z : ((FP.Core.zmag FP.Core.b32 (.fin false c q) : Nat) : Int) ≤ 0 := z
    have := Nat.lt_of_lt_of_le (Nat.two_pow_pos 121) e3
    omega
  rw [if_neg hz, gd_t (show n32 (FP.fdiv (mnS L).1 (mnS L).2) = true from G32.n a)]
  rfl
theorem mv_m {L : List (Int32 × UInt32)} {fl : Tfl} (h : fokL L) (h0 : 0 < L.length) (hf : flP L fl) : fX6_meanNow fl = some (mnV L) := by
  obtain ⟨a, b⟩ := mnV_ok h h0
  unfold fX6_meanNow
  rw [mvl_m h hf, Option.bind_some, gd_t (show n32 (FP.fdiv (mnS L).1 (mnS L).2) = true from G32.n a)]
  rfl
/-! spreads -/
def vD (p : Int32 × UInt32) : UInt64 := FP.f2d (valF p.1)
def spS : List (Int32 × UInt32) → UInt64 × UInt64 := fun L => L.foldl (fun s p => (FP.dadd s.1 (vD p), FP.dadd s.2 (FP.dmul (vD p) (vD p)))) (FP.dconst0, FP.dconst0)
theorem spS_snoc (L : List (Int32 × UInt32)) (p : Int32 × UInt32) : spS (L ++ [p]) = (FP.dadd (spS L).1 (vD p), FP.dadd (spS L).2 (FP.dmul (vD p) (vD p))) := by
  unfold spS
  rw [List.foldl_append]
  rfl
theorem G64_mono {g g' E E' : Nat} {x : UInt64} (h : G64 g E x) (hg : g' ≤ g) (hE : E ≤ E') : G64 g' E' x := GD.mono h hg hE
theorem vD_ok {p : Int32 × UInt32} (hv : p.1.toInt.natAbs ≤ 999) : G64 1047 1081 (vD p) ∧ G64 1020 1088 (FP.dmul (vD p) (vD p)) := by
  have a : G64 1047 1081 (vD p) := G64_f2d (valF_G hv) (by decide)
  exact ⟨a, (a.mul (g := 1020) (E := 1088) a rfl (by decide) (by decide) (by decide)).1⟩
theorem spS_ok {L : List (Int32 × UInt32)} (h : fokL L) : ∀ k, k ≤ L.length → G64 1047 (1081 + k) (spS (L.take k)).1 ∧ G64 1020 (1088 + k) (spS (L.take k)).2 := by
  intro k
  induction k with
  | zero => intro _; exact ⟨G64_0 _ _, G64_0 _ _⟩
  | succ k ih =>
    intro hk
    obtain ⟨i1, i2⟩ := ih (by omega)
    obtain ⟨a, ha⟩ : ∃ a, L[k]? = some a := ⟨_, List.getElem?_eq_getElem (by omega)⟩
    have ht : L.take (k + 1) = L.take k ++ [a] := by rw [List.take_add_one, ha]; rfl
    obtain ⟨q1, q2, q3⟩ := h.2 a (List.mem_of_getElem? ha)
    obtain ⟨s1, s2⟩ := vD_ok q1
    have hL := h.1
    rw [ht, spS_snoc]
    exact ⟨i1.add (G64_mono s1 (Nat.le_refl _) (by omega)) (by omega), i2.add (G64_mono s2 (Nat.le_refl _) (by omega)) (by omega)⟩
def spR (L : List (Int32 × UInt32)) : UInt64 := FP.ddiv (spS L).2 (FP.i2d (nI L.length))
def spM (L : List (Int32 × UInt32)) : UInt64 := FP.ddiv (spS L).1 (FP.i2d (nI L.length))
def spV (L : List (Int32 × UInt32)) : UInt64 := FP.dsub (spR L) (FP.dmul (spM L) (spM L))
theorem spV_ok {L : List (Int32 × UInt32)} (h : fokL L) (h0 : 0 < L.length) : G64 964 1100 (spR L) ∧ G64 991 1093 (spM L) ∧ G64 908 1112 (FP.dmul (spM L) (spM L)) ∧ G64 908 1113 (spV L) := by
  have hL := h.1
  have := spS_ok h L.length (Nat.le_refl _)
  rw [List.take_length] at this
  obtain ⟨a, b⟩ := this
  have a' : G64 1047 1093 (spS L).1 := G64_mono a (Nat.le_refl _) (by omega)
  have b' : G64 1020 1100 (spS L).2 := G64_mono b (Nat.le_refl _) (by omega)
  have p := i2d_ok h0 hL
  have r : G64 964 1100 (spR L) := b'.div (j := 964) (E := 1100) p (by decide) (by decide) (by decide)
  have m : G64 991 1093 (spM L) := a'.div (j := 991) (E := 1093) p (by decide) (by decide) (by decide)
  have q := (m.mul (g := 908) (E := 1112) m rfl (by decide) (by decide) (by decide)).1
  exact ⟨r, m, q, (G64_mono r (by decide) (by decide)).sub q (by decide)⟩
theorem spl_c {L : List (Int32 × UInt32)} {fo : Tfo} (h : fokL L) (hf : foP L fo) : lpF (bX1_spreadOfValues_7 fo) FU (FP.dconst0, FP.dconst0, (0 : Int32)) = some (spS L) := by
  obtain ⟨f1, f2, f3, -⟩ := hf
  have hL := h.1
  have key := lp_cnt (B := bX1_spreadOfValues_7 fo) (fun (k : Nat) (z : UInt64 × UInt64 × Int32) => z = ((spS (L.take k)).1, (spS (L.take k)).2, nI k)) (fun (e : UInt64 × UInt64) => e = spS L) L.length (by omega) ?_ ?_ (FP.dconst0, FP.dconst0, (0 : Int32)) rfl
  · obtain ⟨e, h1, h2⟩ := key
    rw [h1, h2]
  · rintro k z hk hz
    subst hz
    refine ⟨_, ?_, rfl⟩
    obtain ⟨a, ha⟩ : ∃ a, L[k]? = some a := ⟨_, List.getElem?_eq_getElem hk⟩
    have ht : L.take (k + 1) = L.take k ++ [a] := by rw [List.take_add_one, ha]; rfl
    obtain ⟨q1, q2, q3⟩ := h.2 a (List.mem_of_getElem? ha)
    obtain ⟨s1, s2⟩ := vD_ok q1
    obtain ⟨n1, n2⟩ := spS_ok h (k + 1) hk
    rw [ht, spS_snoc] at n1 n2
    have f2' : fo.1 k = a.1 := f2 k a ha
    have n1' := G64.n n1
    have n2' := G64.n n2
    have s1' := G64.n s1
    have s2' := G64.n s2
    unfold vD at n1' n2' s1' s2'
    unfold bX1_spreadOfValues_7
    dsimp only
    rw [f1, if_neg (nI_ge hk (by omega)), gd_t (inB_nI (by omega) (by decide)), cl_nI (by omega), f2', valueOf_ok, Option.bind_some, gd_t s1', gd_t n1', gd_t s2', gd_t n2', nI_1, ht, spS_snoc]
    rfl
  · rintro z hz
    subst hz
    refine ⟨_, ?_, rfl⟩
    unfold bX1_spreadOfValues_7
    dsimp only
    rw [f1, if_pos (nI_le (Nat.le_refl _) (by omega)), List.take_length]
theorem spl_m {L : List (Int32 × UInt32)} {co : Tco} {rf : Nat → Int32} {cp : Int32} {lk : Tlk} {x7 : UInt64} {fl : Tfl} (h : fokL L) (hf : flP L fl) : lpF (bX6_spread_53 co rf cp lk fl x7) FU (FP.dconst0, FP.dconst0, (0 : Int32)) = some (spS L) := by
  obtain ⟨f1, f2, f3, -⟩ := hf
  have hL := h.1
  have key := lp_cnt (B := bX6_spread_53 co rf cp lk fl x7) (fun (k : Nat) (z : UInt64 × UInt64 × Int32) => z = ((spS (L.take k)).1, (spS (L.take k)).2, nI k)) (fun (e : UInt64 × UInt64) => e = spS L) L.length (by omega) ?_ ?_ (FP.dconst0, FP.dconst0, (0 : Int32)) rfl
  · obtain ⟨e, h1, h2⟩ := key
    rw [h1, h2]
  · rintro k z hk hz
    subst hz
    refine ⟨_, ?_, rfl⟩
    obtain ⟨a, ha⟩ : ∃ a, L[k]? = some a := ⟨_, List.getElem?_eq_getElem hk⟩
    have ht : L.take (k + 1) = L.take k ++ [a] := by rw [List.take_add_one, ha]; rfl
    obtain ⟨q1, q2, q3⟩ := h.2 a (List.mem_of_getElem? ha)
    obtain ⟨s1, s2⟩ := vD_ok q1
    obtain ⟨n1, n2⟩ := spS_ok h (k + 1) hk
    rw [ht, spS_snoc] at n1 n2
    have f2' : fl.2.1 k = a.1 := f2 k a ha
    have n1' := G64.n n1
    have n2' := G64.n n2
    have s1' := G64.n s1
    have s2' := G64.n s2
    unfold vD at n1' n2' s1' s2'
    unfold bX6_spread_53
    dsimp only
    rw [f1, if_neg (nI_ge hk (by omega)), gd_t (inB_nI (by omega) (by decide)), cl_nI (by omega), f2', value_ok, Option.bind_some, gd_t s1', gd_t n1', gd_t s2', gd_t n2', nI_1, ht, spS_snoc]
    rfl
  · rintro z hz
    subst hz
    refine ⟨_, ?_, rfl⟩
    unfold bX6_spread_53
    dsimp only
    rw [f1, if_pos (nI_le (Nat.le_refl _) (by omega)), List.take_length]
