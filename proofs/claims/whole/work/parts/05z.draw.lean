/-! ===== draw on both sides ===== -/
def lcg (x : Int64) : Int64 := ((x * (1103515245 : Int64)) + (12345 : Int64)) - ((x * (1103515245 : Int64)) + (12345 : Int64)) / (2147483648 : Int64) * (2147483648 : Int64)
def isMs (x : Int64) : Int32 := lg_cmp ((x / (65536 : Int64)) - (x / (65536 : Int64)) / (16 : Int64) * (16 : Int64)) (0 : Int64)
def stp (x : Int64) : Int32 := ((x / (1024 : Int64)) - (x / (1024 : Int64)) / (41 : Int64) * (41 : Int64)).toInt32
def clC (v : Int32) : Int32 := if (-999 : Int32) < (if (999 : Int32) < v then (999 : Int32) else v) then (if (999 : Int32) < v then (999 : Int32) else v) else (-999 : Int32)
theorem fill_b (x6 : Int32) (z : Int64 × Int32 × Int32 × Tbk) : bX0_fillByChance_35 x6 z = if (4 : Int32) ≤ z.2.2.1 then (some (.inr (z.1, z.2.1, z.2.2.2))) else (if ¬ isMs (lcg z.1) = 0 then ((fX0_lastNoted z.2.2.2 x6 z.2.2.1).bind fun q4 => (fX0_put z.2.2.2 x6 z.2.2.1 (clC (q4 + (stp (lcg z.1) - (20 : Int32))))).bind fun q5 => jX0_fillByChance_35_132 q5 (lcg z.1) z.2.1 x6 z.2.2.1) else ((fX0_put z.2.2.2 x6 z.2.2.1 (-10000 : Int32)).bind fun q6 => jX0_fillByChance_35_132 q6 (lcg z.1) (z.2.1 + (1 : Int32)) x6 z.2.2.1)) := rfl
theorem draw_b (ke : Tke) (rf : Nat → Int32) (x2 : Int32) (z : Int64 × Int32 × Int32 × Tco) : bX6_draw_43 ke rf x2 z = if ((4 : Int32) * x2) ≤ z.2.2.1 then (some (.inr (z.2.1, z.2.2.2))) else (if ¬ isMs (lcg z.1) = 0 then ((fX6_before z.2.2.2 z.2.2.1).bind fun q9 => if ((q9 + stp (lcg z.1)) - (20 : Int32)) ≤ (999 : Int32) then (if (-999 : Int32) ≤ ((q9 + stp (lcg z.1)) - (20 : Int32)) then (jX6_draw_43_153 z.2.2.2 ke rf x2 (lcg z.1) z.2.1 z.2.2.1 z.2.2.1 ((q9 + stp (lcg z.1)) - (20 : Int32))) else (jX6_draw_43_153 z.2.2.2 ke rf x2 (lcg z.1) z.2.1 z.2.2.1 z.2.2.1 (-999 : Int32))) else (jX6_draw_43_153 z.2.2.2 ke rf x2 (lcg z.1) z.2.1 z.2.2.1 z.2.2.1 (999 : Int32))) else (gd (inB z.2.2.1 200) (jX6_draw_43_154 (z.2.2.2.1, z.2.2.2.2.1, (upd z.2.2.2.2.2 (z.2.2.1).toNatClampNeg (-10000 : Int32))) ke rf x2 (lcg z.1) (z.2.1 + (1 : Int32)) z.2.2.1))) := rfl
theorem clC_ok (v : Int32) : okV (clC v) := by
  right
  have e1 : ((999 : Int32)).toInt = 999 := rfl
  have e2 : ((-999 : Int32)).toInt = -999 := rfl
  unfold clC
  by_cases c : (999 : Int32) < v
  · rw [if_pos c, if_pos (by decide), e1]; decide
  · rw [if_neg c]
    have c' : ¬ (999 : Int32).toInt < v.toInt := fun z => c (Int32.lt_iff_toInt_lt.mpr z)
    rw [e1] at c'
    by_cases d : (-999 : Int32) < v
    · rw [if_pos d]
      have d' := Int32.lt_iff_toInt_lt.mp d
      rw [e2] at d'
      omega
    · rw [if_neg d, e2]; decide
theorem clM {α : Type} (v : Int32) (F : Int32 → α) : (if v ≤ (999 : Int32) then (if (-999 : Int32) ≤ v then F v else F (-999)) else F 999) = F (clC v) := by
  have e1 : ((999 : Int32)).toInt = 999 := rfl
  have e2 : ((-999 : Int32)).toInt = -999 := rfl
  unfold clC
  by_cases c : v ≤ (999 : Int32)
  · have c1 : ¬ (999 : Int32) < v := fun z => by
      have a := Int32.lt_iff_toInt_lt.mp z
      have b := Int32.le_iff_toInt_le.mp c
      omega
    rw [if_pos c, if_neg c1]
    by_cases d : (-999 : Int32) ≤ v
    · rw [if_pos d]
      by_cases d1 : (-999 : Int32) < v
      · rw [if_pos d1]
      · rw [if_neg d1]
        have : v = -999 := by
          have a := Int32.le_iff_toInt_le.mp d
          have b : ¬ (-999 : Int32).toInt < v.toInt := fun z => d1 (Int32.lt_iff_toInt_lt.mpr z)
          exact Int32.toInt_inj.mp (by omega)
        rw [this]
    · rw [if_neg d]
      have d1 : ¬ (-999 : Int32) < v := fun z => d (Int32.le_iff_toInt_le.mpr (by have := Int32.lt_iff_toInt_lt.mp z; omega))
      rw [if_neg d1]
  · have c1 : (999 : Int32) < v := Int32.lt_iff_toInt_lt.mpr (by
      have : ¬ v.toInt ≤ (999 : Int32).toInt := fun z => c (Int32.le_iff_toInt_le.mpr z)
      omega)
    rw [if_neg c, if_pos c1, if_pos (by decide)]
theorem add20 (q s : Int32) : (q + s) - (20 : Int32) = q + (s - (20 : Int32)) := by
  rw [Int32.sub_eq_add_neg, Int32.sub_eq_add_neg, Int32.add_assoc]
/-- the last noted value of a member before a day -/
def lastV (nt : Nat → Int32) (m : Nat) : Nat → Int32
  | 0 => 0
  | t + 1 => if nt (t * 4 + m) = MI then lastV nt m t else nt (t * 4 + m)
/-- the draws, over any chance: P says that a note is missing, N the next number, Q the step -/
def drG (P : Int64 → Bool) (N : Int64 → Int64) (Q : Int64 → Int32) (s : Int64) : Nat → Int64 × Nat × (Nat → Int32)
  | 0 => (s, 0, fun _ => 0)
  | j + 1 => bif P (drG P N Q s j).1 then (N (drG P N Q s j).1, (drG P N Q s j).2.1 + 1, upd (drG P N Q s j).2.2 j MI) else (N (drG P N Q s j).1, (drG P N Q s j).2.1, upd (drG P N Q s j).2.2 j (clC (lastV (drG P N Q s j).2.2 (j % 4) (j / 4) + (Q (drG P N Q s j).1 - (20 : Int32)))))
theorem ln_ok {n : Nat} {bk : Tbk} (hd : bk.2.2.1 = nI n) (hn : n ≤ 50) {nt : Nat → Int32} {t m : Nat} (ht : t < n) (hm : m < 4) (he : ∀ k, k < t * 4 → bk.1 k = nt k) : fX0_lastNoted bk (nI t) (nI m) = some (lastV nt m t) := by
  have key : ∀ (u : Nat), u ≤ t → ∀ fuel, u < fuel → ∃ e, lpF (bX0_lastNoted_4 bk (nI m)) fuel (nI u - (1 : Int32)) = some e ∧ (match e with | (.inl u4) => (some u4) | (.inr _) => (some (0 : Int32))) = some (lastV nt m u) := by
    intro u
    induction u with
    | zero =>
      intro _ fuel hf
      obtain ⟨k, rfl⟩ : ∃ k, fuel = k + 1 := ⟨fuel - 1, by omega⟩
      refine ⟨.inr (), ?_, rfl⟩
      unfold lpF bX0_lastNoted_4
      rw [if_pos (by decide)]
      rfl
    | succ u ih =>
      intro hu fuel hf
      obtain ⟨k, rfl⟩ : ∃ k, fuel = k + 1 := ⟨fuel - 1, by omega⟩
      have hmem : fX0_member bk (nI u) (nI m) = some (nt (u * 4 + m)) := by
        unfold fX0_member
        rw [has_c hd hn, isD_nI (show u < n by omega) (by omega), Option.bind_some, if_neg (by decide), member_c, isD_nI hm (by decide), Option.bind_some, if_neg (by decide), show nI u * (4 : Int32) + nI m = nI (u * 4 + m) by rw [show (4 : Int32) = nI 4 from rfl, pk_mul, nI_add], gd_t (inB_nI (by omega) (by decide)), cl_nI (by omega), he _ (by omega)]
        rfl
      rw [nI_pred]
      by_cases c : nt (u * 4 + m) = MI
      · obtain ⟨e, e1, e2⟩ := ih (by omega) k (by omega)
        refine ⟨e, ?_, ?_⟩
        · unfold lpF
          rw [show bX0_lastNoted_4 bk (nI m) (nI u) = some (.inl (nI u - (1 : Int32))) by
            unfold bX0_lastNoted_4
            rw [if_neg (nI_pos (by omega)), hmem, Option.bind_some, if_pos c, Int32.sub_eq_add_neg]]
          exact e1
        · rw [e2, lastV, if_pos c]
      · refine ⟨.inl (nt (u * 4 + m)), ?_, ?_⟩
        · unfold lpF
          rw [show bX0_lastNoted_4 bk (nI m) (nI u) = some (.inr (.inl (nt (u * 4 + m)))) by
            unfold bX0_lastNoted_4
            rw [if_neg (nI_pos (by omega)), hmem, Option.bind_some, if_neg c]]
          rfl
        · rw [lastV, if_neg c]
  obtain ⟨e, e1, e2⟩ := key t (Nat.le_refl t) FU (by rw [FU_eq]; omega)
  unfold fX0_lastNoted
  rw [e1, Option.bind_some]
  exact e2
theorem bf_ok {co : Tco} {nt : Nat → Int32} {t m : Nat} (ht : t < 50) (hm : m < 4) (he : ∀ k, k < t * 4 → co.2.2 k = nt k) : fX6_before co (nI (t * 4 + m)) = some (lastV nt m t) := by
  have key : ∀ (u : Nat), u ≤ t → ∀ fuel, u < fuel → ∃ e, lpF (bX6_before_4 co) fuel (nI (u * 4 + m) - (4 : Int32)) = some e ∧ (if 0 ≤ e then (gd (inB e 200) (jX6_before_40 co (co.2.2 (e).toNatClampNeg))) else (jX6_before_40 co (0 : Int32))) = some (lastV nt m u) := by
    intro u
    induction u with
    | zero =>
      intro _ fuel hf
      obtain ⟨k, rfl⟩ : ∃ k, fuel = k + 1 := ⟨fuel - 1, by omega⟩
      have hneg : nI (0 * 4 + m) - (4 : Int32) < 0 := by
        rw [Nat.zero_mul, Nat.zero_add, Int32.lt_iff_toInt_lt, show (4 : Int32) = nI 4 from rfl, pk_sub_toInt (by omega) (by decide)]
        have : ((0 : Int32)).toInt = 0 := rfl
        omega
      refine ⟨nI (0 * 4 + m) - (4 : Int32), ?_, ?_⟩
      · unfold lpF bX6_before_4
        rw [if_pos hneg]
        rfl
      · rw [if_neg (fun z => by
          have a := Int32.le_iff_toInt_le.mp z
          have b := Int32.lt_iff_toInt_lt.mp hneg
          omega)]
        rfl
    | succ u ih =>
      intro hu fuel hf
      obtain ⟨k, rfl⟩ : ∃ k, fuel = k + 1 := ⟨fuel - 1, by omega⟩
      rw [show nI ((u + 1) * 4 + m) - (4 : Int32) = nI (u * 4 + m) by rw [show (4 : Int32) = nI 4 from rfl, pk_sub (by omega), show (u + 1) * 4 + m - 4 = u * 4 + m by omega]]
      by_cases c : nt (u * 4 + m) = MI
      · obtain ⟨e, e1, e2⟩ := ih (by omega) k (by omega)
        refine ⟨e, ?_, ?_⟩
        · unfold lpF
          rw [show bX6_before_4 co (nI (u * 4 + m)) = some (.inl (nI (u * 4 + m) - (4 : Int32))) by
            unfold bX6_before_4
            rw [if_neg (nI_pos (by omega)), gd_t (inB_nI (by omega) (by decide)), cl_nI (by omega), he _ (by omega), if_neg (fun z => z c), Int32.sub_eq_add_neg]]
          exact e1
        · rw [e2, lastV, if_pos c]
      · refine ⟨nI (u * 4 + m), ?_, ?_⟩
        · unfold lpF
          rw [show bX6_before_4 co (nI (u * 4 + m)) = some (.inr (nI (u * 4 + m))) by
            unfold bX6_before_4
            rw [if_neg (nI_pos (by omega)), gd_t (inB_nI (by omega) (by decide)), cl_nI (by omega), he _ (by omega), if_pos c]]
          rfl
        · rw [if_pos (nI_pos' (by omega)), gd_t (inB_nI (by omega) (by decide)), cl_nI (by omega), he _ (by omega), lastV, if_neg c]
          rfl
  obtain ⟨e, e1, e2⟩ := key t (Nat.le_refl t) FU (by rw [FU_eq]; omega)
  unfold fX6_before
  rw [e1, Option.bind_some]
  exact e2
