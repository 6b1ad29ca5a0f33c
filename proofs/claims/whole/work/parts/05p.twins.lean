/-! ===== strangers and twins on both sides ===== -/
theorem orN_neg {g E : Nat} {o : Option UInt32} (h : gO g E o) : (0 ≤ Op.cmpValue (FP.fcmp (orN o) FP.fconst0) CmpOp.g ↔ o.isSome = true) ∧ (Op.cmpValue (FP.fcmp (orN o) FP.fconst0) CmpOp.g < 0 ↔ o.isSome = false) ∧ (Op.cmpValue (FP.fcmp (orN o) FP.fconst0) CmpOp.l < 0 ↔ o.isSome = false) := by
  cases o with
  | none =>
    show (0 ≤ Op.cmpValue (FP.fcmp m1F FP.fconst0) CmpOp.g ↔ _) ∧ (Op.cmpValue (FP.fcmp m1F FP.fconst0) CmpOp.g < 0 ↔ _) ∧ (Op.cmpValue (FP.fcmp m1F FP.fconst0) CmpOp.l < 0 ↔ _)
    refine ⟨?_, ?_, ?_⟩ <;> decide +kernel
  | some d =>
    obtain ⟨h1, h2⟩ := h d rfl
    have h3 := zf_nn h1 h2
    have a := fc_lt .g h1.ne (G32_0 0 0).ne
    have b := fc_lt .l h1.ne (G32_0 0 0).ne
    rw [z_zero32] at a b
    show (0 ≤ Op.cmpValue (FP.fcmp d FP.fconst0) CmpOp.g ↔ true = true) ∧ (Op.cmpValue (FP.fcmp d FP.fconst0) CmpOp.g < 0 ↔ true = false) ∧ (Op.cmpValue (FP.fcmp d FP.fconst0) CmpOp.l < 0 ↔ true = false)
    rw [a.2.2.1, a.1, b.1]
    refine ⟨⟨fun _ => rfl, fun _ => h3⟩, ⟨fun z => absurd z (by omega), fun z => absurd z (by decide)⟩, ⟨fun z => absurd z (by omega), fun z => absurd z (by decide)⟩⟩
def strN (nt : Nat → Int32) (w : Nat → Nat) (t : Nat) : Nat → Nat
  | 0 => 0
  | u + 1 => strN nt w t u + (if u = t then 0 else if (dist nt w t u).isSome = true then 0 else 1)
theorem q_strangers {n g f : Nat} {nt : Nat → Int32} {w : Nat → Nat} {bk : Tbk} {co : Tco} {li : Tli} {cn : Tcn} {rf : Nat → Int32} (h : BK n nt w g f bk co) (hl : LI n g nt w li) (hc : ctP cn rf) (cp : Int32) (x : Int32) :
    ∃ r cn' li' rf' cp', fX5_strangers cn bk li x = some (r, cn', li') ∧ fX6_strangers co rf cp x = some (r, rf', cp') ∧ ctP cn' rf' ∧ LI n g nt w li' := by
  obtain ⟨h1, h2, h3, h4, h5, h6⟩ := h
  have hn := h1.1
  have hcx := has_c h1.2.1 hn
  have hmx := isDay_m h2.1.2.1 hn
  cases hx : isD n x with
  | false =>
    refine ⟨-2, _, li, _, cp, ?_, ?_, hc.bad, hl⟩
    · unfold fX5_strangers; rw [hcx, hx, Option.bind_some, if_neg (by decide)]; rfl
    · unfold fX6_strangers; rw [hmx, hx, Option.bind_some, if_neg (by decide)]; rfl
  | true =>
    obtain ⟨l', p1, p2⟩ := le_ok h1 h3 h4 hl (x := -1) (by decide)
    obtain ⟨t, ht, rfl⟩ := isD_of hx (by omega)
    have kc := lp_cnt (B := bX5_strangers_34 cn bk l' (nI t)) (fun (u : Nat) (z : Int32 × Int32) => z = (nI (strN nt w t u), nI u)) (fun (e : Int32) => e = nI (strN nt w t n)) n (by omega) (by
      rintro u z hu hz
      subst hz
      refine ⟨_, ?_, rfl⟩
      unfold bX5_strangers_34 fX0_days
      dsimp only
      rw [Option.bind_some, h1.2.1, if_neg (nI_ge hu (by omega))]
      unfold jX5_strangers_34_67
      rw [nI_1, strN]
      by_cases c : u = t
      · rw [if_pos (by rw [c]), if_pos c]; rfl
      · rw [if_neg (fun z => c ((nI_eq (by omega) (by omega)).mp z)), if_neg c, bt2_ok p2.m1 hn ht hu (Ne.symm c), Option.bind_some]
        have := (orN_neg (gO_dist h3 ht hu)).1
        by_cases cs : (dist nt w t u).isSome = true
        · rw [if_pos (this.mpr cs), if_pos cs]; rfl
        · rw [if_neg (fun z => cs (this.mp z)), if_neg cs, nI_1]) (by
      rintro z hz
      subst hz
      refine ⟨_, ?_, rfl⟩
      unfold bX5_strangers_34 fX0_days
      dsimp only
      rw [Option.bind_some, h1.2.1, if_pos (nI_le (Nat.le_refl _) (by omega))]) ((0 : Int32), (0 : Int32)) rfl
    have km := lp_cnt (B := bX6_strangers_17 co rf (nI t)) (fun (u : Nat) (z : Int32 × Int32 × Int32) => z.1 = nI (strN nt w t u) ∧ z.2.1 = nI u) (fun (e : Int32 × Int32) => e.1 = nI (strN nt w t n)) n (by omega) (by
      rintro u ⟨z1, z2, z3⟩ hu ⟨e1, e2⟩
      have e1 : z1 = nI (strN nt w t u) := e1
      have e2 : z2 = nI u := e2
      subst e1 e2
      unfold bX6_strangers_17
      dsimp only
      rw [h2.1.2.1, if_neg (nI_ge hu (by omega))]
      by_cases c : u = t
      · refine ⟨(nI (strN nt w t (u + 1)), nI (u + 1), z3), ?_, rfl, rfl⟩
        rw [if_pos (by rw [c])]
        unfold jX6_strangers_17_52
        rw [nI_1, strN, if_pos c]; rfl
      · rw [if_neg (fun z => c ((nI_eq (by omega) (by omega)).mp z)), mo_dist h2.1 h3 z3 ht hu, Option.bind_some]
        dsimp only
        unfold jX6_strangers_17_50 jX6_strangers_17_52
        cases hs : (dist nt w t u).isSome with
        | true =>
          refine ⟨(nI (strN nt w t (u + 1)), nI (u + 1), 1), ?_, rfl, rfl⟩
          rw [if_neg (by decide), nI_1, strN, if_neg c, if_pos hs, show (0 : Int32) = nI 0 from rfl, nI_add]
          rfl
        | false =>
          refine ⟨(nI (strN nt w t (u + 1)), nI (u + 1), 0), ?_, rfl, rfl⟩
          rw [if_pos (by decide), nI_1, strN, if_neg c, if_neg (by rw [hs]; decide), nI_1]
          rfl) (by
      rintro ⟨z1, z2, z3⟩ ⟨e1, e2⟩
      have e1 : z1 = nI (strN nt w t n) := e1
      have e2 : z2 = nI n := e2
      subst e1 e2
      refine ⟨(nI (strN nt w t n), z3), ?_, rfl⟩
      unfold bX6_strangers_17
      dsimp only
      rw [h2.1.2.1, if_pos (nI_le (Nat.le_refl _) (by omega))]) ((0 : Int32), (0 : Int32), cp) ⟨rfl, rfl⟩
    obtain ⟨e, k1, k2⟩ := kc
    obtain ⟨⟨e1, e2⟩, k3, k4⟩ := km
    have k4 : e1 = nI (strN nt w t n) := k4
    subst k2 k4
    refine ⟨nI (strN nt w t n), cn, l', rf, e2, ?_, ?_, hc, p2.LI⟩
    · unfold fX5_strangers
      rw [hcx, hx, Option.bind_some, if_pos (by decide), p1, Option.bind_some, k1, Option.bind_some]
    · unfold fX6_strangers
      rw [hmx, hx, Option.bind_some, if_pos (by decide), k3, Option.bind_some]
/-- is the first less: none is less than nothing, and all that is there is less than none -/
def ltO (a b : Option UInt32) : Bool := match a, b with
  | none, _ => false
  | some _, none => true
  | some a, some b => decide (zf a < zf b)
theorem isl_ok {g E g' E' : Nat} {a b : Option UInt32} (ha : gO g E a) (hb : gO g' E' b) : fX5_isLess (orN a) (orN b) = some (b2I (ltO a b)) := by
  obtain ⟨-, -, a3⟩ := orN_neg ha
  obtain ⟨-, b2, -⟩ := orN_neg hb
  unfold fX5_isLess
  cases a with
  | none =>
    rw [if_pos (a3.mpr rfl)]
    rfl
  | some d =>
    rw [if_neg (fun z => Bool.noConfusion (a3.mp z))]
    cases b with
    | none =>
      rw [if_pos (b2.mpr rfl)]
      rfl
    | some e =>
      rw [if_neg (fun z => Bool.noConfusion (b2.mp z))]
      have : 0 ≤ Op.cmpValue (FP.fcmp (orN (some d)) (orN (some e))) CmpOp.g ↔ zf e ≤ zf d := (fc_lt .g (ha d rfl).1.ne (hb e rfl).1.ne).2.2.1
      by_cases c : zf e ≤ zf d
      · rw [if_pos (this.mpr c), show ltO (some d) (some e) = false from decide_eq_false (by omega)]
        rfl
      · rw [if_neg (fun z => c (this.mp z)), show ltO (some d) (some e) = true from decide_eq_true (by omega)]
        rfl
/-- the twins found up to a pair -/
abbrev Tw := Option (Nat × Nat × UInt32)
def twD (o : Tw) : Option UInt32 := o.map (fun p => p.2.2)
def twC (nt : Nat → Int32) (w : Nat → Nat) (o : Tw) (t u : Nat) : Tw := match dist nt w t u with
  | none => o
  | some d => bif ltO (some d) (twD o) then some (t, u, d) else o
def twI (nt : Nat → Int32) (w : Nat → Nat) (o : Tw) (t : Nat) : Nat → Tw
  | 0 => o
  | k + 1 => twC nt w (twI nt w o t k) t (t + 1 + k)
def twO (n : Nat) (nt : Nat → Int32) (w : Nat → Nat) : Nat → Tw
  | 0 => none
  | t + 1 => twI nt w (twO n nt w t) t (n - (t + 1))
def twG (n : Nat) (o : Tw) : Prop := ∀ a b d, o = some (a, b, d) → a < n ∧ b < n ∧ G32 61 176 d ∧ FP.Core.sgn (FP.Core.val32 d) = false
theorem twG.d {n : Nat} {o : Tw} (h : twG n o) : gO 61 176 (twD o) := by
  intro d hd
  cases o with
  | none => cases hd
  | some p =>
    obtain ⟨a, b, e⟩ := p
    have hd : some e = some d := hd
    cases hd
    exact (h a b _ rfl).2.2
theorem twC_G {n : Nat} {nt : Nat → Int32} {w : Nat → Nat} (ho : okB n nt w) {o : Tw} (h : twG n o) {t u : Nat} (ht : t < n) (hu : u < n) : twG n (twC nt w o t u) := by
  unfold twC
  cases hd : dist nt w t u with
  | none => exact h
  | some d =>
    dsimp only
    cases ltO (some d) (twD o) with
    | false => exact h
    | true =>
      intro a b e he
      cases he
      exact ⟨ht, hu, dist_n ho ht hu hd⟩
theorem twI_G {n : Nat} {nt : Nat → Int32} {w : Nat → Nat} (ho : okB n nt w) {o : Tw} (h : twG n o) {t : Nat} : ∀ k, t + k < n → twG n (twI nt w o t k)
  | 0, _ => h
  | k + 1, hk => twC_G ho (twI_G ho h k (by omega)) (by omega) (by omega)
theorem twO_G {n : Nat} {nt : Nat → Int32} {w : Nat → Nat} (ho : okB n nt w) : ∀ t, t ≤ n → twG n (twO n nt w t)
  | 0, _ => fun a b d h => by cases h
  | t + 1, ht => twI_G ho (twO_G ho t (by omega)) _ (by omega)
def tw1 (o : Tw) : Int32 := match o with
  | none => -1
  | some p => nI p.1
def tw2 (o : Tw) : Int32 := match o with
  | none => -1
  | some p => nI p.2.1
def tw3 (o : Tw) : UInt32 := match o with
  | none => FP.fconst0
  | some p => p.2.2
theorem nI_m1 {a : Nat} (h : a < 2 ^ 31) : ¬ nI a = -1 := by
  intro z
  have h1 := congrArg Int32.toInt z
  rw [nI_toInt h] at h1
  have h2 : ((-1 : Int32)).toInt = -1 := rfl
  omega
theorem tw1_m1 {n : Nat} (hn : n ≤ 50) {o : Tw} (h : twG n o) : tw1 o = -1 ↔ o = none := by
  cases o with
  | none => exact ⟨fun _ => rfl, fun _ => rfl⟩
  | some p =>
    obtain ⟨a, b, d⟩ := p
    have := (h a b d rfl).1
    exact ⟨fun z => absurd z (nI_m1 (by omega)), fun z => by cases z⟩
theorem tw_ci {n g : Nat} {nt : Nat → Int32} {w : Nat → Nat} {bk : Tbk} {li : Tli} {cn : Tcn} {x1 : Int32} (hb : bk.2.2.1 = nI n) (hn : n ≤ 50) (hl : lrW n g nt w li) (ho : okB n nt w) {o : Tw} (hG : twG n o) {t : Nat} (ht : t < n) :
    lpF (bX5_twins_57 cn bk li x1 (nI t)) FU (tw1 o, tw2 o, orN (twD o), nI (t + 1)) = some (tw1 (twI nt w o t (n - (t + 1))), tw2 (twI nt w o t (n - (t + 1))), orN (twD (twI nt w o t (n - (t + 1))))) := by
  have key := lp_cnt (B := bX5_twins_57 cn bk li x1 (nI t)) (fun (k : Nat) (z : Int32 × Int32 × UInt32 × Int32) => z = (tw1 (twI nt w o t k), tw2 (twI nt w o t k), orN (twD (twI nt w o t k)), nI (t + 1 + k))) (fun (e : Int32 × Int32 × UInt32) => e = (tw1 (twI nt w o t (n - (t + 1))), tw2 (twI nt w o t (n - (t + 1))), orN (twD (twI nt w o t (n - (t + 1)))))) (n - (t + 1)) (by omega) ?_ ?_ (tw1 o, tw2 o, orN (twD o), nI (t + 1)) rfl
  · obtain ⟨e, h1, h2⟩ := key
    rw [h1, h2]
  · rintro k z hk hz
    subst hz
    refine ⟨_, ?_, rfl⟩
    have hG' := twI_G ho hG k (t := t) (by omega)
    unfold bX5_twins_57 fX0_days
    dsimp only
    rw [Option.bind_some, hb, if_neg (nI_ge (by omega) (by omega)), bt2_ok hl hn ht (show t + 1 + k < n by omega) (by omega), Option.bind_some, isl_ok (gO_dist ho ht (by omega)) hG'.d, Option.bind_some]
    unfold jX5_twins_57_102
    rw [nI_1, twI, twC]
    cases hd : dist nt w t (t + 1 + k) with
    | none => rfl
    | some d =>
      dsimp only
      cases ltO (some d) (twD (twI nt w o t k)) with
      | false => rfl
      | true => rfl
  · rintro z hz
    subst hz
    refine ⟨_, ?_, rfl⟩
    unfold bX5_twins_57 fX0_days
    dsimp only
    rw [Option.bind_some, hb, if_pos (nI_le (by omega) (by omega))]
theorem tw_mi {n g f : Nat} {nt : Nat → Int32} {w : Nat → Nat} {co : Tco} {rf : Nat → Int32} {x1 : Int32} (hb : moA n nt w g f co) (ho : okB n nt w) {o : Tw} (hG : twG n o) {t : Nat} (ht : t < n) (cp : Int32) :
    ∃ cp', lpF (bX6_twins_39 co rf x1 (nI t)) FU (tw1 o, tw2 o, tw3 o, nI (t + 1), cp) = some (tw1 (twI nt w o t (n - (t + 1))), tw2 (twI nt w o t (n - (t + 1))), tw3 (twI nt w o t (n - (t + 1))), cp') := by
  have hn := hb.1.1
  have key := lp_cnt (B := bX6_twins_39 co rf x1 (nI t)) (fun (k : Nat) (z : Int32 × Int32 × UInt32 × Int32 × Int32) => ∃ c, z = (tw1 (twI nt w o t k), tw2 (twI nt w o t k), tw3 (twI nt w o t k), nI (t + 1 + k), c)) (fun (e : Int32 × Int32 × UInt32 × Int32) => ∃ c, e = (tw1 (twI nt w o t (n - (t + 1))), tw2 (twI nt w o t (n - (t + 1))), tw3 (twI nt w o t (n - (t + 1))), c)) (n - (t + 1)) (by omega) ?_ ?_ (tw1 o, tw2 o, tw3 o, nI (t + 1), cp) ⟨cp, rfl⟩
  · obtain ⟨e, h1, c, h2⟩ := key
    exact ⟨c, by rw [h1, h2]⟩
  · rintro k z hk ⟨c, hz⟩
    subst hz
    refine ⟨(tw1 (twI nt w o t (k + 1)), tw2 (twI nt w o t (k + 1)), tw3 (twI nt w o t (k + 1)), nI (t + 1 + (k + 1)), bif (dist nt w t (t + 1 + k)).isSome then 1 else 0), ?_, _, rfl⟩
    have hG' := twI_G ho hG k (t := t) (by omega)
    unfold bX6_twins_39
    dsimp only
    rw [hb.1.2.1, if_neg (nI_ge (by omega) (by omega)), mo_dist hb.1 ho c ht (show t + 1 + k < n by omega), Option.bind_some]
    unfold jX6_twins_39_78 jX6_twins_39_88
    rw [nI_1, twI, twC]
    cases hd : dist nt w t (t + 1 + k) with
    | none => rfl
    | some d =>
      dsimp only [Option.isSome_some, Option.getD_some]
      rw [if_neg (by decide)]
      cases ht3 : twI nt w o t k with
      | none => rfl
      | some p =>
        obtain ⟨a, b, e⟩ := p
        obtain ⟨g1, -, g2, -⟩ := hG' a b e ht3
        rw [if_neg (show ¬ tw1 (some (a, b, e)) = -1 from nI_m1 (by omega))]
        have : 0 ≤ Op.cmpValue (FP.fcmp d (tw3 (some (a, b, e)))) CmpOp.g ↔ zf e ≤ zf d := (fc_lt .g (dist_n ho ht (show t + 1 + k < n by omega) hd).1.ne g2.ne).2.2.1
        by_cases cc : zf e ≤ zf d
        · rw [show ltO (some d) (twD (some (a, b, e))) = false from decide_eq_false (show ¬ zf d < zf e by omega), if_pos (this.mpr cc)]
          rfl
        · rw [show ltO (some d) (twD (some (a, b, e))) = true from decide_eq_true (show zf d < zf e by omega), if_neg (fun z => cc (this.mp z))]
          rfl
  · rintro z ⟨c, hz⟩
    subst hz
    refine ⟨_, ?_, c, rfl⟩
    unfold bX6_twins_39
    dsimp only
    rw [hb.1.2.1, if_pos (nI_le (by omega) (by omega))]
theorem q_twins {n g f : Nat} {nt : Nat → Int32} {w : Nat → Nat} {bk : Tbk} {co : Tco} {li : Tli} {cn : Tcn} {rf : Nat → Int32} (h : BK n nt w g f bk co) (hl : LI n g nt w li) (hc : ctP cn rf) (cp : Int32) (x : Int32) :
    ∃ r cn' li' rf' cp', fX5_twins cn bk li x = some (r, cn', li') ∧ fX6_twins co rf cp x = some (r, rf', cp') ∧ ctP cn' rf' ∧ LI n g nt w li' := by
  obtain ⟨h1, h2, h3, h4, h5, h6⟩ := h
  have hn := h1.1
  cases hx : inR x 0 2 with
  | false =>
    refine ⟨-2, _, li, _, cp, ?_, ?_, hc.bad, hl⟩
    · unfold fX5_twins; rw [within_ok, hx, Option.bind_some, if_neg (by decide)]; rfl
    · unfold fX6_twins; rw [in_ok, hx, Option.bind_some, if_neg (by decide)]; rfl
  | true =>
    obtain ⟨l', p1, p2⟩ := le_ok h1 h3 h4 hl (x := -1) (by decide)
    have kc := lp_cnt (B := bX5_twins_39 cn bk l' x) (fun (t : Nat) (z : Int32 × Int32 × UInt32 × Int32) => z = (tw1 (twO n nt w t), tw2 (twO n nt w t), orN (twD (twO n nt w t)), nI t)) (fun (e : Int32 × Int32 × UInt32) => e = (tw1 (twO n nt w n), tw2 (twO n nt w n), orN (twD (twO n nt w n)))) n (by omega) (by
      rintro t z ht hz
      subst hz
      refine ⟨_, ?_, rfl⟩
      unfold bX5_twins_39 fX0_days
      dsimp only
      rw [Option.bind_some, h1.2.1, if_neg (nI_ge ht (by omega)), nI_1, tw_ci h1.2.1 hn p2.m1 h3 (twO_G h3 t (by omega)) ht, Option.bind_some]
      rfl) (by
      rintro z hz
      subst hz
      refine ⟨_, ?_, rfl⟩
      unfold bX5_twins_39 fX0_days
      dsimp only
      rw [Option.bind_some, h1.2.1, if_pos (nI_le (Nat.le_refl _) (by omega))]) ((-1 : Int32), (-1 : Int32), (3212836864 : UInt32), (0 : Int32)) rfl
    have km := lp_cnt (B := bX6_twins_24 co rf x) (fun (t : Nat) (z : Int32 × Int32 × UInt32 × Int32 × Int32) => ∃ c, z = (tw1 (twO n nt w t), tw2 (twO n nt w t), tw3 (twO n nt w t), nI t, c)) (fun (e : Int32 × Int32 × UInt32 × Int32) => ∃ c, e = (tw1 (twO n nt w n), tw2 (twO n nt w n), tw3 (twO n nt w n), c)) n (by omega) (by
      rintro t z ht ⟨c, hz⟩
      subst hz
      obtain ⟨c', e⟩ := tw_mi (rf := rf) (x1 := x) h2 h3 (twO_G h3 t (by omega)) ht c
      refine ⟨_, ?_, c', rfl⟩
      unfold bX6_twins_24
      dsimp only
      rw [h2.1.2.1, if_neg (nI_ge ht (by omega)), nI_1, e, Option.bind_some]
      rfl) (by
      rintro z ⟨c, hz⟩
      subst hz
      refine ⟨_, ?_, c, rfl⟩
      unfold bX6_twins_24
      dsimp only
      rw [h2.1.2.1, if_pos (nI_le (Nat.le_refl _) (by omega))]) ((-1 : Int32), (-1 : Int32), FP.fconst0, (0 : Int32), cp) ⟨cp, rfl⟩
    obtain ⟨e, k1, k2⟩ := kc
    obtain ⟨e1, k3, c, k4⟩ := km
    subst k2 k4
    have hG := twO_G h3 n (Nat.le_refl n)
    have ec : fX5_twins cn bk li x = (if ¬ x = (2 : Int32) then (if ¬ x = 0 then some (tw2 (twO n nt w n), cn, l') else some (tw1 (twO n nt w n), cn, l')) else some (bitN (twD (twO n nt w n)), cn, l')) := by
      unfold fX5_twins
      rw [within_ok, hx, Option.bind_some, if_pos (by decide), p1, Option.bind_some, k1, Option.bind_some]
      dsimp only
      rw [bn_ok hG.d (by decide), Option.bind_some]
      rfl
    have em : ∃ c', fX6_twins co rf cp x = (if ¬ x = (2 : Int32) then (if ¬ x = 0 then some (tw2 (twO n nt w n), rf, c') else some (tw1 (twO n nt w n), rf, c')) else some (bitN (twD (twO n nt w n)), rf, c')) := by
      refine ⟨c, ?_⟩
      unfold fX6_twins
      rw [in_ok, hx, Option.bind_some, if_pos (by decide), k3, Option.bind_some]
      dsimp only
      by_cases x0 : x = 0
      · subst x0
        rw [if_pos rfl, if_pos (by decide), if_neg (by decide)]
        rfl
      · rw [if_neg x0, if_pos x0]
        cases ht : twO n nt w n with
        | none =>
          rw [if_neg (fun z => z rfl)]
          by_cases x2 : x = 2
          · rw [if_neg (fun z => z x2)]; rfl
          · rw [if_pos x2]; rfl
        | some p =>
          obtain ⟨a, b, d⟩ := p
          rw [ht] at hG
          obtain ⟨g1, g2, g3, g4⟩ := hG a b d rfl
          rw [if_pos (show ¬ tw1 (some (a, b, d)) = -1 from nI_m1 (by omega))]
          by_cases x2 : x = 2
          · subst x2
            rw [if_pos (by decide), if_neg (by decide), show tw3 (some (a, b, d)) = d from rfl, fbits g3.ne]
            rfl
          · have x1 : x = 1 := by
              have hx' := of_decide_eq_true hx
              have a0 : ((0 : Int32)).toInt = 0 := rfl
              have a2 : ((2 : Int32)).toInt = 2 := rfl
              rw [a0, a2] at hx'
              have b0 : x.toInt ≠ 0 := fun z => x0 (Int32.toInt_inj.mp z)
              have b2 : x.toInt ≠ 2 := fun z => x2 (Int32.toInt_inj.mp z)
              exact Int32.toInt_inj.mp (show x.toInt = 1 by omega)
            subst x1
            rw [if_neg (by decide), if_pos (by decide)]
            rfl
    obtain ⟨c', em⟩ := em
    by_cases x2 : x = 2
    · rw [if_neg (fun z => z x2)] at ec em
      exact ⟨_, cn, l', rf, c', ec, em, hc, p2.LI⟩
    · rw [if_pos x2] at ec em
      by_cases x0 : x = 0
      · rw [if_neg (fun z => z x0)] at ec em
        exact ⟨_, cn, l', rf, c', ec, em, hc, p2.LI⟩
      · rw [if_pos x0] at ec em
        exact ⟨_, cn, l', rf, c', ec, em, hc, p2.LI⟩
