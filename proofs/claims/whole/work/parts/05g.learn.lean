/-! ===== Likeness: what is learnt of the book ===== -/
abbrev m1F : UInt32 := 3212836864
/-- days, notes, values and weights of the likeness -/
def liV (n : Nat) (nt : Nat → Int32) (w : Nat → Nat) (li : Tli) : Prop := n ≤ 50 ∧ li.2.2.2.2.2.2.2.1 = nI n ∧ (∀ k, k < n * 4 → li.1 k = valF (nt k) ∧ li.2.1 k = b2I (decide (nt k ≠ MI))) ∧ (∀ m, m < 4 → li.2.2.1 m = wtF (w m))
theorem wt_cmp {k : Nat} (h : k ≤ 80) : Op.cmpValue (FP.fcmp (wtF k) FP.fconst0) CmpOp.l ≤ 0 ↔ k = 0 := by
  have hz : FP.Core.val32 FP.fconst0 ≠ .nan := (G32_0 0 0).ne
  rcases Nat.eq_zero_or_pos k with h0 | h0
  · subst h0
    rw [wtF_0]
    exact ⟨fun _ => rfl, fun _ => by decide +kernel⟩
  · obtain ⟨w1, w2⟩ := wtF_ok h0 h
    rw [(fc_lt .l w2.ne hz).2.1, z_zero32]
    obtain ⟨c, q, e1, e2, e3, e4⟩ := w1
    refine ⟨fun z => ?_, fun z => by omega⟩
    exfalso
    have z : FP.Core.zval FP.Core.b32 (FP.Core.val32 (wtF k)) ≤ 0 := z
    rw [e1] at z
    have z : ((FP.Core.zmag FP.Core.b32 (.fin false c q) : Nat) : Int) ≤ 0 := z
    have := Nat.lt_of_lt_of_le (Nat.two_pow_pos 146) e3
    omega
theorem noted_0 (v : Int32) : b2I (decide (v ≠ MI)) = 0 ↔ v = MI := by
  rw [b2I_0, decide_eq_false_iff_not]
  exact Decidable.not_not
set_option maxHeartbeats 1000000 in
theorem me_loop {n : Nat} {nt : Nat → Int32} {w : Nat → Nat} {li : Tli} (hm : liV n nt w li) (ho : okB n nt w) {a b : Nat} (ha : a < n) (hb : b < n) :
    lpF (bX2_measure_8 li (nI a) (nI b)) FU (FP.fconst0, FP.fconst0, (0 : Int32)) = some ((dstp nt w a b 4).1, (dstp nt w a b 4).2.1) := by
  obtain ⟨hn, -, hv, hw⟩ := hm
  have hd := ho.d ha hb
  have key := lp_cnt (B := bX2_measure_8 li (nI a) (nI b)) (fun (i : Nat) z => z = ((dstp nt w a b i).1, (dstp nt w a b i).2.1, nI i)) (fun e => e = ((dstp nt w a b 4).1, (dstp nt w a b 4).2.1)) 4 (by decide) ?_ ?_ (FP.fconst0, FP.fconst0, (0 : Int32)) rfl
  · obtain ⟨e, h1, h2⟩ := key
    rw [h1, h2]
  · intro i z hi hz
    subst hz
    have h4 : ¬ (4 : Int32) ≤ nI i := nI_ge (a := i) (b := 4) hi (by decide)
    have ia : nI a * (4 : Int32) + nI i = nI (a * 4 + i) := by rw [show (4 : Int32) = nI 4 from rfl, pk_mul, nI_add]
    have ib : nI b * (4 : Int32) + nI i = nI (b * 4 + i) := by rw [show (4 : Int32) = nI 4 from rfl, pk_mul, nI_add]
    have i1 : nI i + 1 = nI (i + 1) := nI_1 i
    have hw80 := ho.2 i hi
    refine ⟨((dstp nt w a b (i + 1)).1, (dstp nt w a b (i + 1)).2.1, nI (i + 1)), ?_, rfl⟩
    unfold bX2_measure_8
    dsimp only
    rw [if_neg h4, ia, ib, gd_t (inB_nI (by omega) (by decide)), cl_nI (by omega), cl_nI (by omega), cl_nI (by omega), (hv _ (by omega)).2, (hv _ (by omega)).2, (hv _ (by omega)).1, (hv _ (by omega)).1, hw i hi]
    unfold jX2_measure_8_107
    rw [i1]
    by_cases ca : nt (a * 4 + i) = MI
    · have hc : cnd nt w a b i = false := decide_eq_false (fun z => z.1 ca)
      rw [if_pos ((noted_0 _).mpr ca)]
      simp only [dstp, hc, cond_false]
    · rw [if_neg (fun z => ca ((noted_0 _).mp z)), gd_t (inB_nI (by omega) (by decide))]
      by_cases cb : nt (b * 4 + i) = MI
      · have hc : cnd nt w a b i = false := decide_eq_false (fun z => z.2.1 cb)
        rw [if_pos ((noted_0 _).mpr cb)]
        simp only [dstp, hc, cond_false]
      · rw [if_neg (fun z => cb ((noted_0 _).mp z)), gd_t (inB_nI (n := 4) hi (by decide))]
        by_cases cw : 0 < w i
        · have hc : cnd nt w a b i = true := decide_eq_true ⟨ca, cb, cw⟩
          obtain ⟨n1, n2, n3, n4, n5, n6⟩ := dstp_n hd hi hc
          rw [if_neg (fun z => by have := (wt_cmp hw80).mp z; omega)]
          rw [show FP.fsub (valF (nt (a * 4 + i))) (valF (nt (b * 4 + i))) = dif nt a b i from rfl]
          simp only [gd_t (inB_nI (show a * 4 + i < 200 by omega) (by decide)), gd_t (inB_nI (show b * 4 + i < 200 by omega) (by decide)), gd_t (inB_nI (n := 4) hi (by decide)), gd_t n1, gd_t n2, gd_t n3, gd_t n4, gd_t n5]
          simp only [dstp, hc, cond_true]
        · have hc : cnd nt w a b i = false := decide_eq_false (fun z => cw z.2.2)
          rw [if_pos ((wt_cmp hw80).mpr (by omega))]
          simp only [dstp, hc, cond_false]
  · intro z hz
    subst hz
    refine ⟨_, ?_, rfl⟩
    unfold bX2_measure_8
    dsimp only
    rw [if_pos (show (4 : Int32) ≤ nI 4 by decide)]
theorem me_ok {n : Nat} {nt : Nat → Int32} {w : Nat → Nat} {li : Tli} (hm : liV n nt w li) (ho : okB n nt w) {a b : Nat} (ha : a < n) (hb : b < n) : fX2_measure li (nI a) (nI b) = some ((dst0 nt w a b).getD m1F) := by
  unfold fX2_measure
  rw [me_loop hm ho ha hb, Option.bind_some]
  obtain ⟨i1, i2, i3, i4, i5, i6⟩ := dstp_ok (ho.d ha hb) 4 (by decide)
  have hf := @dst0_ok nt w a b (ho.d ha hb)
  have hz : FP.Core.val32 FP.fconst0 ≠ .nan := (G32_0 0 0).ne
  dsimp only
  unfold dst0 at hf ⊢
  cases hc : (dstp nt w a b 4).2.2 with
  | false =>
    obtain ⟨j1, j2⟩ := i6 hc
    rw [j2, if_pos (by decide +kernel)]
    rfl
  | true =>
    rw [hc] at hf
    obtain ⟨g1, -⟩ := hf rfl
    have hp := i5 hc
    rw [if_neg, gd_t g1.n]
    · rfl
    · rw [(fc_lt .l i3.ne hz).2.1, z_zero32]
      show ¬ FP.Core.signed (FP.Core.sgn (FP.Core.val32 (dstp nt w a b 4).2.1)) (FP.Core.zmag FP.Core.b32 (FP.Core.val32 (dstp nt w a b 4).2.1)) ≤ 0
      rw [i4]
      show ¬ ((FP.Core.zmag FP.Core.b32 (FP.Core.val32 (dstp nt w a b 4).2.1) : Nat) : Int) ≤ 0
      have := Nat.lt_of_lt_of_le (Nat.two_pow_pos 146) hp
      omega
