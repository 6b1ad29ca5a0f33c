/-! ===== best and spare on both sides ===== -/
abbrev Bs := Option (Nat × UInt32)
def bsD (o : Bs) : Option UInt32 := o.map (fun p => p.2)
def bsC (o : Bs) (k : Nat) (e : Option UInt32) : Bs := match e with
  | none => o
  | some d => bif ltO (some d) (bsD o) then some (k, d) else o
def bs1 (o : Bs) : Int32 := match o with
  | none => -1
  | some p => nI p.1
def bs3 (o : Bs) : UInt32 := match o with
  | none => FP.fconst0
  | some p => p.2
def bsG (o : Bs) : Prop := ∀ a d, o = some (a, d) → a ≤ 50 ∧ G32 7 246 d ∧ FP.Core.sgn (FP.Core.val32 d) = false ∧ fX5_floatBits d = some d.toInt32
theorem bsG.d {o : Bs} (h : bsG o) : gO 7 246 (bsD o) ∧ ∀ d, bsD o = some d → fX5_floatBits d = some d.toInt32 := by
  have key : ∀ d, bsD o = some d → (G32 7 246 d ∧ FP.Core.sgn (FP.Core.val32 d) = false) ∧ fX5_floatBits d = some d.toInt32 := by
    intro d hd
    cases o with
    | none => cases hd
    | some p =>
      obtain ⟨a, e⟩ := p
      have hd : some e = some d := hd
      cases hd
      obtain ⟨-, b, c, f⟩ := h a _ rfl
      exact ⟨⟨b, c⟩, f⟩
  exact ⟨fun d hd => (key d hd).1, fun d hd => (key d hd).2⟩
theorem bsC_G {o : Bs} (h : bsG o) {k : Nat} (hk : k ≤ 50) {e : Option UInt32} (he : gO 7 246 e) (hb : ∀ d, e = some d → fX5_floatBits d = some d.toInt32) : bsG (bsC o k e) := by
  unfold bsC
  cases e with
  | none => exact h
  | some d =>
    dsimp only
    cases ltO (some d) (bsD o) with
    | false => exact h
    | true =>
      intro a d' hd
      cases hd
      exact ⟨hk, (he d rfl).1, (he d rfl).2, hb d rfl⟩
theorem bs1_m1 {o : Bs} (h : bsG o) : bs1 o = -1 ↔ o = none := by
  cases o with
  | none => exact ⟨fun _ => rfl, fun _ => rfl⟩
  | some p =>
    obtain ⟨a, d⟩ := p
    have := (h a d rfl).1
    exact ⟨fun z => absurd z (nI_m1 (by omega)), fun z => by cases z⟩
/-- one comparison of the reference -/
theorem bs_cmp {o : Bs} (h : bsG o) {d : UInt32} (hd : FP.Core.val32 d ≠ .nan) (hn : ¬ bs1 o = -1) : (0 ≤ Op.cmpValue (FP.fcmp d (bs3 o)) CmpOp.g ↔ ltO (some d) (bsD o) = false) := by
  cases o with
  | none => exact absurd rfl hn
  | some p =>
    obtain ⟨a, e⟩ := p
    obtain ⟨-, b, -⟩ := h a e rfl
    have : 0 ≤ Op.cmpValue (FP.fcmp d (bs3 (some (a, e)))) CmpOp.g ↔ zf e ≤ zf d := (fc_lt .g hd b.ne).2.2.1
    rw [this]
    show _ ↔ decide (zf d < zf e) = false
    rw [decide_eq_false_iff_not]
    omega
theorem bs_none {d : UInt32} {o : Bs} (h : o = none) : ltO (some d) (bsD o) = true := by rw [h]; rfl
def bsF (n g : Nat) (nt : Nat → Int32) (w : Nat → Nat) (m : Nat) : Nat → Bs
  | 0 => none
  | i + 1 => bsC (bsF n g nt w m i) (i + 1) (errO n g (i + 1) nt w m)
theorem bsF_G {n g : Nat} {nt : Nat → Int32} {w : Nat → Nat} (hn : n ≤ 50) (ho : okB n nt w) {m : Nat} (hm : m < 4) : ∀ i, i ≤ 12 → bsG (bsF n g nt w m i)
  | 0, _ => fun a d h => by cases h
  | i + 1, hi => by
    obtain ⟨a, b⟩ := errO_ok (g := g) (f := i + 1) hn ho (by omega) hm
    exact bsC_G (bsF_G hn ho hm i (by omega)) (by omega) a b
theorem bst_c {n g f : Nat} {nt : Nat → Int32} {w : Nat → Nat} {bk : Tbk} {li : Tli} {cn : Tcn} {x2 : Int32} (h1 : clB n nt w g f bk) (h3 : okB n nt w) (hl : lrW n g nt w li) {m : Nat} (hm : m < 4) (fo : Tfo) :
    ∃ fo', lpF (bX5_best_44 cn bk li (nI m) x2) FU ((-1 : Int32), (3212836864 : UInt32), (1 : Int32), fo) = some (bs1 (bsF n g nt w m 12), orN (bsD (bsF n g nt w m 12)), fo') := by
  have hn := h1.1
  have key := lp_cnt (B := bX5_best_44 cn bk li (nI m) x2) (fun (i : Nat) (z : Int32 × UInt32 × Int32 × Tfo) => z.1 = bs1 (bsF n g nt w m i) ∧ z.2.1 = orN (bsD (bsF n g nt w m i)) ∧ z.2.2.1 = nI (i + 1)) (fun (e : Int32 × UInt32 × Tfo) => e.1 = bs1 (bsF n g nt w m 12) ∧ e.2.1 = orN (bsD (bsF n g nt w m 12))) 12 (by decide) ?_ ?_ ((-1 : Int32), (3212836864 : UInt32), (1 : Int32), fo) ⟨rfl, rfl, rfl⟩
  · obtain ⟨⟨e1, e2, e3⟩, k1, k2, k3⟩ := key
    have k2 : e1 = _ := k2
    have k3 : e2 = _ := k3
    subst k2 k3
    exact ⟨e3, k1⟩
  · rintro i ⟨z1, z2, z3, z4⟩ hi ⟨e1, e2, e3⟩
    have e1 : z1 = bs1 (bsF n g nt w m i) := e1
    have e2 : z2 = orN (bsD (bsF n g nt w m i)) := e2
    have e3 : z3 = nI (i + 1) := e3
    subst e1 e2 e3
    obtain ⟨fo', q1⟩ := me_c (f := i + 1) h1 hl h3 (by omega) hm z4
    obtain ⟨o1, o2⟩ := errO_ok (g := g) (f := i + 1) hn h3 (by omega) hm
    have hG := (bsF_G (g := g) hn h3 hm i (by omega)).d.1
    refine ⟨(bs1 (bsF n g nt w m (i + 1)), orN (bsD (bsF n g nt w m (i + 1))), nI (i + 1 + 1), fo'), ?_, rfl, rfl, rfl⟩
    unfold bX5_best_44
    dsimp only
    rw [if_neg (show ¬ (12 : Int32) < nI (i + 1) from nI_nlt (a := 12) (by omega) (by decide)), q1, Option.bind_some]
    dsimp only
    rw [isl_ok o1 hG, Option.bind_some, bsF]
    unfold bsC
    unfold jX5_best_44_77
    rw [nI_1]
    cases he : errO n g (i + 1) nt w m with
    | none => rfl
    | some d =>
      dsimp only
      cases ltO (some d) (bsD (bsF n g nt w m i)) with
      | false => rfl
      | true => rfl
  · rintro ⟨z1, z2, z3, z4⟩ ⟨e1, e2, e3⟩
    have e1 : z1 = _ := e1
    have e2 : z2 = _ := e2
    have e3 : z3 = nI (12 + 1) := e3
    subst e1 e2 e3
    refine ⟨(bs1 (bsF n g nt w m 12), orN (bsD (bsF n g nt w m 12)), z4), ?_, rfl, rfl⟩
    unfold bX5_best_44
    dsimp only
    rw [if_pos (by decide)]
theorem bst_m {n g f : Nat} {nt : Nat → Int32} {w : Nat → Nat} {co : Tco} {rf : Nat → Int32} {x2 x3 : Int32} (h2 : moA n nt w g f co) (h3 : okB n nt w) (h4 : g ≤ 9) {m : Nat} (hm : m < 4) (cp : Int32) (lk : Tlk) (fl : Tfl) (em : Int32) :
    ∃ co' cp' lk' fl' em', lpF (bX6_best_37 rf (nI m) x2 x3) FU ((-1 : Int32), FP.fconst0, (1 : Int32), co, cp, lk, fl, em) = some (bs1 (bsF n g nt w m 12), bs3 (bsF n g nt w m 12), co', cp', lk', fl', em') ∧ co'.1 = co.1 ∧ co'.2.2 = co.2.2 ∧ ∀ j, j ≠ 5 → co'.2.1 j = co.2.1 j := by
  have hn := h2.1.1
  have key := lp_cnt (B := bX6_best_37 rf (nI m) x2 x3) (fun (i : Nat) (z : Int32 × UInt32 × Int32 × Tco × Int32 × Tlk × Tfl × Int32) => z.1 = bs1 (bsF n g nt w m i) ∧ z.2.1 = bs3 (bsF n g nt w m i) ∧ z.2.2.1 = nI (i + 1) ∧ z.2.2.2.1.1 = co.1 ∧ z.2.2.2.1.2.2 = co.2.2 ∧ ∀ j, j ≠ 5 → z.2.2.2.1.2.1 j = co.2.1 j) (fun (e : Int32 × UInt32 × Tco × Int32 × Tlk × Tfl × Int32) => e.1 = bs1 (bsF n g nt w m 12) ∧ e.2.1 = bs3 (bsF n g nt w m 12) ∧ e.2.2.1.1 = co.1 ∧ e.2.2.1.2.2 = co.2.2 ∧ ∀ j, j ≠ 5 → e.2.2.1.2.1 j = co.2.1 j) 12 (by decide) ?_ ?_ ((-1 : Int32), FP.fconst0, (1 : Int32), co, cp, lk, fl, em) ⟨rfl, rfl, rfl, rfl, rfl, fun j _ => rfl⟩
  · obtain ⟨⟨e1, e2, e3, e4, e5, e6, e7⟩, k1, k2, k3, k4⟩ := key
    have k2 : e1 = _ := k2
    have k3 : e2 = _ := k3
    subst k2 k3
    exact ⟨e3, e4, e5, e6, e7, k1, k4⟩
  · rintro i ⟨z1, z2, z3, z4, z5, z6, z7, z8⟩ hi ⟨e1, e2, e3, e4, e5, e6⟩
    have e1 : z1 = bs1 (bsF n g nt w m i) := e1
    have e2 : z2 = bs3 (bsF n g nt w m i) := e2
    have e3 : z3 = nI (i + 1) := e3
    subst e1 e2 e3
    have e4 : z4.1 = co.1 := e4
    have e5 : z4.2.2 = co.2.2 := e5
    have e6 : ∀ j, j ≠ 5 → z4.2.1 j = co.2.1 j := e6
    have hA : moA n nt w g (i + 1) (z4.1, upd z4.2.1 5 (nI (i + 1)), z4.2.2) := by
      obtain ⟨⟨a1, a2, a3, a4⟩, a5, a6⟩ := h2
      refine ⟨⟨a1, ?_, ?_, ?_⟩, ?_, (show upd z4.2.1 5 (nI (i + 1)) 5 = nI (i + 1) by unfold upd; rw [if_pos rfl])⟩
      · exact e4.trans a2
      · intro k hk
        show z4.2.2 k = _
        rw [e5]; exact a3 k hk
      · intro k hk
        show upd z4.2.1 5 (nI (i + 1)) k = _
        unfold upd
        rw [if_neg (by omega), e6 k (by omega)]
        exact a4 k hk
      · show upd z4.2.1 5 (nI (i + 1)) 4 = _
        unfold upd
        rw [if_neg (by decide), e6 4 (by decide)]
        exact a5
    obtain ⟨c1, k1, f1, q1⟩ := me_m hA h3 h4 (by omega) hm z5 z6 z7 z8
    obtain ⟨o1, o2⟩ := errO_ok (g := g) (f := i + 1) hn h3 (by omega) hm
    have hG := bsF_G (g := g) hn h3 hm i (by omega)
    have hz := erN_0 (n := n) (g := g) (f := i + 1) (nt := nt) (w := w) (m := m)
    have hle := erN_le (g := g) (f := i + 1) hn h3 (by omega) hm
    refine ⟨(bs1 (bsF n g nt w m (i + 1)), bs3 (bsF n g nt w m (i + 1)), nI (i + 1 + 1), (z4.1, upd z4.2.1 5 (nI (i + 1)), z4.2.2), c1, k1, f1, nI (erN n g (i + 1) nt w m)), ?_, rfl, rfl, rfl, e4, e5, fun j hj => (if_neg hj).trans (e6 j hj)⟩
    unfold bX6_best_37
    dsimp only
    rw [if_neg (show ¬ (12 : Int32) < nI (i + 1) from nI_nlt (a := 12) (by omega) (by decide)), gd_t (by decide), show ((5 : Int32)).toNatClampNeg = 5 from rfl, q1, Option.bind_some]
    dsimp only
    unfold jX6_best_37_80 jX6_best_37_88
    rw [nI_1, bsF]
    unfold bsC
    cases he : errO n g (i + 1) nt w m with
    | none =>
      rw [hz.mpr he, if_pos (by decide)]
    | some d =>
      have h0 : 0 < erN n g (i + 1) nt w m := by
        rcases Nat.eq_zero_or_pos (erN n g (i + 1) nt w m) with z | z
        · rw [hz.mp z] at he; cases he
        · exact z
      dsimp only [Option.getD_some]
      rw [if_neg (nI_nle h0 (by omega))]
      by_cases cb : bs1 (bsF n g nt w m i) = -1
      · rw [if_pos cb, bs_none ((bs1_m1 hG).mp cb)]
        rfl
      · rw [if_neg cb]
        have := bs_cmp hG (o1 d he).1.ne cb
        cases hlt : ltO (some d) (bsD (bsF n g nt w m i)) with
        | false => rw [if_pos (this.mpr hlt)]; rfl
        | true => rw [if_neg (fun z => by rw [this.mp z] at hlt; cases hlt)]; rfl
  · rintro ⟨z1, z2, z3, z4, z5, z6, z7, z8⟩ ⟨e1, e2, e3, e4⟩
    have e1 : z1 = _ := e1
    have e2 : z2 = _ := e2
    have e3 : z3 = nI (12 + 1) := e3
    subst e1 e2 e3
    refine ⟨(bs1 (bsF n g nt w m 12), bs3 (bsF n g nt w m 12), z4, z5, z6, z7, z8), ?_, rfl, rfl, e4⟩
    unfold bX6_best_37
    dsimp only
    rw [if_pos (by decide)]
theorem bs_fin {o : Bs} (h : bsG o) : (if ¬ bs1 o = -1 then fJxf58ca_floatToIntBits_5c35a (bs3 o) else some (bs1 o)) = some (bitN (bsD o)) := by
  cases o with
  | none => rfl
  | some p =>
    obtain ⟨a, d⟩ := p
    obtain ⟨g1, g2, -⟩ := h a d rfl
    rw [if_pos (show ¬ bs1 (some (a, d)) = -1 from nI_m1 (by omega))]
    exact fbits g2.ne
theorem q_best {n g f : Nat} {nt : Nat → Int32} {w : Nat → Nat} {bk : Tbk} {co : Tco} {li : Tli} {cn : Tcn} {rf : Nat → Int32} (h : BK n nt w g f bk co) (hl : LI n g nt w li) (hc : ctP cn rf) (fo : Tfo) (cp : Int32) (lk : Tlk) (fl : Tfl) (em : Int32) (x1 x2 : Int32) :
    ∃ r cn' li' fo' co' rf' cp' lk' fl' em', fX5_best cn bk li fo x1 x2 = some (r, cn', li', fo') ∧ fX6_best co rf cp lk fl em x1 x2 = some (r, co', rf', cp', lk', fl', em') ∧ ctP cn' rf' ∧ LI n g nt w li' ∧ BK n nt w g f bk co' := by
  have hB := h
  obtain ⟨h1, h2, h3, h4, h5, h6⟩ := h
  have hn := h1.1
  cases hx1 : isD 4 x1 with
  | false =>
    refine ⟨-2, _, li, fo, co, _, cp, lk, fl, em, ?_, ?_, hc.bad, hl, hB⟩
    · unfold fX5_best; rw [member_c, hx1, Option.bind_some, if_pos (by decide)]; rfl
    · unfold fX6_best; rw [member_m, hx1, Option.bind_some, if_pos (by decide)]; rfl
  | true =>
    cases hx2 : inR x2 0 1 with
    | false =>
      refine ⟨-2, _, li, fo, co, _, cp, lk, fl, em, ?_, ?_, hc.bad, hl, hB⟩
      · unfold fX5_best; rw [member_c, hx1, Option.bind_some, if_neg (by decide), within_ok, hx2, Option.bind_some, if_neg (by decide)]; rfl
      · unfold fX6_best; rw [member_m, hx1, Option.bind_some, if_neg (by decide), in_ok, hx2, Option.bind_some, if_neg (by decide)]; rfl
    | true =>
      obtain ⟨m, hm, rfl⟩ := isD_of hx1 (by decide)
      obtain ⟨l', p1, p2⟩ := le_ok h1 h3 h4 hl (x := -1) (by decide)
      obtain ⟨fo', e1⟩ := bst_c (cn := cn) (x2 := x2) h1 h3 p2.m1 hm fo
      obtain ⟨co', c1, k1, f1, m1, e2, e3, e4, e5⟩ := bst_m (rf := rf) (x2 := x2) (x3 := co.2.1 5) h2 h3 h4 hm cp lk fl em
      have hG := bsF_G (g := g) hn h3 hm 12 (by decide)
      have hB' : BK n nt w g f bk (co'.1, upd co'.2.1 5 (co.2.1 5), co'.2.2) := by
        obtain ⟨⟨a1, a2, a3, a4⟩, a5, a6⟩ := h2
        refine ⟨h1, ⟨⟨a1, e3.trans a2, ?_, ?_⟩, ?_, ?_⟩, h3, h4, h5, h6⟩
        · intro k hk
          show co'.2.2 k = _
          rw [e4]; exact a3 k hk
        · intro k hk
          show upd co'.2.1 5 (co.2.1 5) k = _
          unfold upd
          rw [if_neg (by omega), e5 k (by omega)]
          exact a4 k hk
        · show upd co'.2.1 5 (co.2.1 5) 4 = _
          unfold upd
          rw [if_neg (by decide), e5 4 (by decide)]
          exact a5
        · show upd co'.2.1 5 (co.2.1 5) 5 = _
          unfold upd
          rw [if_pos rfl]
          exact a6
      have em1 : fX6_best co rf cp lk fl em (nI m) x2 = if x2 = 0 then some (bs1 (bsF n g nt w m 12), (co'.1, upd co'.2.1 5 (co.2.1 5), co'.2.2), rf, c1, k1, f1, m1) else (if ¬ bs1 (bsF n g nt w m 12) = -1 then (fJxf58ca_floatToIntBits_5c35a (bs3 (bsF n g nt w m 12))).bind fun q17 => some (q17, (co'.1, upd co'.2.1 5 (co.2.1 5), co'.2.2), rf, c1, k1, f1, m1) else some (bs1 (bsF n g nt w m 12), (co'.1, upd co'.2.1 5 (co.2.1 5), co'.2.2), rf, c1, k1, f1, m1)) := by
        unfold fX6_best
        rw [member_m, hx1, Option.bind_some, if_neg (by decide), in_ok, hx2, Option.bind_some, if_pos (by decide), gd_t (by decide), show ((5 : Int32)).toNatClampNeg = 5 from rfl, e2, Option.bind_some, gd_t (by decide)]
        rfl
      have ec1 : fX5_best cn bk li fo (nI m) x2 = if ¬ x2 = 0 then some (bitN (bsD (bsF n g nt w m 12)), cn, l', fo') else some (bs1 (bsF n g nt w m 12), cn, l', fo') := by
        unfold fX5_best
        rw [member_c, hx1, Option.bind_some, if_neg (by decide), within_ok, hx2, Option.bind_some, if_pos (by decide), p1, Option.bind_some, e1, Option.bind_some]
        dsimp only
        rw [bn2_ok hG.d.1 hG.d.2, Option.bind_some]
        rfl
      by_cases x0 : x2 = 0
      · rw [if_pos x0] at em1
        rw [if_neg (fun z => z x0)] at ec1
        exact ⟨_, cn, l', fo', _, rf, c1, k1, f1, m1, ec1, em1, hc, p2.LI, hB'⟩
      · rw [if_neg x0] at em1
        rw [if_pos x0] at ec1
        have hf := bs_fin hG
        refine ⟨_, cn, l', fo', _, rf, c1, k1, f1, m1, ec1, ?_, hc, p2.LI, hB'⟩
        rw [em1]
        by_cases cb : bs1 (bsF n g nt w m 12) = -1
        · rw [if_neg (fun z => z cb)] at hf ⊢
          rw [← Option.some.inj hf]
        · rw [if_pos cb] at hf ⊢
          rw [hf]
          rfl
def bsP (n g f : Nat) (nt : Nat → Int32) (w : Nat → Nat) (m : Nat) : Nat → Bs
  | 0 => none
  | i + 1 => bsC (bsP n g f nt w m i) i (errO n g f nt (wo (nI i) w) m)
theorem bsP_G {n g f : Nat} {nt : Nat → Int32} {w : Nat → Nat} (hn : n ≤ 50) (ho : okB n nt w) (hf : f ≤ 12) {m : Nat} (hm : m < 4) : ∀ i, i ≤ 4 → bsG (bsP n g f nt w m i)
  | 0, _ => fun a d h => by cases h
  | i + 1, hi => by
    obtain ⟨a, b⟩ := errO_ok (g := g) (f := f) hn (ho.wo (nI i)) hf hm
    exact bsC_G (bsP_G hn ho hf hm i (by omega)) (by omega) a b
theorem sp_c {n g f : Nat} {nt : Nat → Int32} {w : Nat → Nat} {bk : Tbk} {li : Tli} {cn : Tcn} (h1 : clB n nt w g f bk) (h3 : okB n nt w) (h4 : g ≤ 9) (h6 : f ≤ 12) (hl : LI n g nt w li) {m : Nat} (hm : m < 4) (fo : Tfo) :
    ∃ li' fo', lpF (bX5_spare_22 cn bk (nI m)) FU ((-1 : Int32), (3212836864 : UInt32), (0 : Int32), li, fo) = some (bs1 (bsP n g f nt w m 4), li', fo') ∧ LI n g nt w li' := by
  have hn := h1.1
  have key := lp_cnt (B := bX5_spare_22 cn bk (nI m)) (fun (i : Nat) (z : Int32 × UInt32 × Int32 × Tli × Tfo) => z.1 = bs1 (bsP n g f nt w m i) ∧ z.2.1 = orN (bsD (bsP n g f nt w m i)) ∧ z.2.2.1 = nI i ∧ LI n g nt w z.2.2.2.1) (fun (e : Int32 × Tli × Tfo) => e.1 = bs1 (bsP n g f nt w m 4) ∧ LI n g nt w e.2.1) 4 (by decide) ?_ ?_ ((-1 : Int32), (3212836864 : UInt32), (0 : Int32), li, fo) ⟨rfl, rfl, rfl, hl⟩
  · obtain ⟨⟨e1, e2, e3⟩, k1, k2, k3⟩ := key
    have k2 : e1 = _ := k2
    subst k2
    exact ⟨e2, e3, k1, k3⟩
  · rintro i ⟨z1, z2, z3, z4, z5⟩ hi ⟨e1, e2, e3, e4⟩
    have e1 : z1 = bs1 (bsP n g f nt w m i) := e1
    have e2 : z2 = orN (bsD (bsP n g f nt w m i)) := e2
    have e3 : z3 = nI i := e3
    subst e1 e2 e3
    have e4 : LI n g nt w z4 := e4
    obtain ⟨l', p1, p2⟩ := le_ok h1 h3 h4 e4 (x := nI i) (by
      intro z
      have h1 := congrArg Int32.toInt z
      rw [nI_toInt (by omega)] at h1
      have h2 : ((-2 : Int32)).toInt = -2 := rfl
      omega)
    obtain ⟨fo', q1⟩ := me_c (f := f) h1 p2.W (h3.wo (nI i)) h6 hm z5
    obtain ⟨o1, o2⟩ := errO_ok (g := g) (f := f) hn (h3.wo (nI i)) h6 hm
    have hG := (bsP_G (g := g) hn h3 h6 hm i (by omega)).d.1
    refine ⟨(bs1 (bsP n g f nt w m (i + 1)), orN (bsD (bsP n g f nt w m (i + 1))), nI (i + 1), l', fo'), ?_, rfl, rfl, rfl, p2.LI⟩
    unfold bX5_spare_22 fX0_few
    dsimp only
    rw [if_neg (show ¬ (4 : Int32) ≤ nI i from nI_ge (b := 4) hi (by decide)), p1, Option.bind_some, Option.bind_some, h1.2.2.2.2.2, q1, Option.bind_some]
    dsimp only
    rw [isl_ok o1 hG, Option.bind_some, bsP]
    unfold bsC
    unfold jX5_spare_22_70
    rw [nI_1]
    cases he : errO n g f nt (wo (nI i) w) m with
    | none => rfl
    | some d =>
      dsimp only
      cases ltO (some d) (bsD (bsP n g f nt w m i)) with
      | false => rfl
      | true => rfl
  · rintro ⟨z1, z2, z3, z4, z5⟩ ⟨e1, e2, e3, e4⟩
    have e1 : z1 = _ := e1
    have e3 : z3 = nI 4 := e3
    subst e1 e3
    refine ⟨(bs1 (bsP n g f nt w m 4), z4, z5), ?_, rfl, e4⟩
    unfold bX5_spare_22
    dsimp only
    rw [if_pos (by decide)]
theorem sp_m {n g f : Nat} {nt : Nat → Int32} {w : Nat → Nat} {co : Tco} {rf : Nat → Int32} (h2 : moA n nt w g f co) (h3 : okB n nt w) (h4 : g ≤ 9) (h6 : f ≤ 12) {m : Nat} (hm : m < 4) (cp : Int32) (lk : Tlk) (fl : Tfl) (em : Int32) :
    ∃ co' cp' lk' fl' em', lpF (bX6_spare_19 rf (nI m)) FU ((-1 : Int32), FP.fconst0, (0 : Int32), co, cp, lk, fl, em) = some (bs1 (bsP n g f nt w m 4), co', cp', lk', fl', em') ∧ co'.1 = co.1 ∧ co'.2.2 = co.2.2 ∧ ∀ j, co'.2.1 j = co.2.1 j := by
  have hn := h2.1.1
  have key := lp_cnt (B := bX6_spare_19 rf (nI m)) (fun (i : Nat) (z : Int32 × UInt32 × Int32 × Tco × Int32 × Tlk × Tfl × Int32) => z.1 = bs1 (bsP n g f nt w m i) ∧ z.2.1 = bs3 (bsP n g f nt w m i) ∧ z.2.2.1 = nI i ∧ z.2.2.2.1.1 = co.1 ∧ z.2.2.2.1.2.2 = co.2.2 ∧ ∀ j, z.2.2.2.1.2.1 j = co.2.1 j) (fun (e : Int32 × Tco × Int32 × Tlk × Tfl × Int32) => e.1 = bs1 (bsP n g f nt w m 4) ∧ e.2.1.1 = co.1 ∧ e.2.1.2.2 = co.2.2 ∧ ∀ j, e.2.1.2.1 j = co.2.1 j) 4 (by decide) ?_ ?_ ((-1 : Int32), FP.fconst0, (0 : Int32), co, cp, lk, fl, em) ⟨rfl, rfl, rfl, rfl, rfl, fun j => rfl⟩
  · obtain ⟨⟨e1, e3, e4, e5, e6, e7⟩, k1, k2, k4⟩ := key
    have k2 : e1 = _ := k2
    subst k2
    exact ⟨e3, e4, e5, e6, e7, k1, k4⟩
  · rintro i ⟨z1, z2, z3, z4, z5, z6, z7, z8⟩ hi ⟨e1, e2, e3, e4, e5, e6⟩
    have e1 : z1 = bs1 (bsP n g f nt w m i) := e1
    have e2 : z2 = bs3 (bsP n g f nt w m i) := e2
    have e3 : z3 = nI i := e3
    subst e1 e2 e3
    have e4 : z4.1 = co.1 := e4
    have e5 : z4.2.2 = co.2.2 := e5
    have e6 : ∀ j, z4.2.1 j = co.2.1 j := e6
    have hA : moA n nt (wo (nI i) w) g f (z4.1, upd z4.2.1 i (0 : Int32), z4.2.2) := by
      obtain ⟨⟨a1, a2, a3, a4⟩, a5, a6⟩ := h2
      refine ⟨⟨a1, e4.trans a2, ?_, ?_⟩, ?_, ?_⟩
      · intro k hk
        show z4.2.2 k = _
        rw [e5]; exact a3 k hk
      · intro k hk
        show upd z4.2.1 i (0 : Int32) k = _
        unfold upd wo
        by_cases c : k = i
        · rw [if_pos c, if_pos (by rw [c])]; rfl
        · rw [if_neg c, if_neg (fun z => c ((nI_eq (by omega) (by omega)).mp z)), e6 k]
          exact a4 k hk
      · show upd z4.2.1 i (0 : Int32) 4 = _
        unfold upd
        rw [if_neg (by omega), e6 4]
        exact a5
      · show upd z4.2.1 i (0 : Int32) 5 = _
        unfold upd
        rw [if_neg (by omega), e6 5]
        exact a6
    have how := h3.wo (nI i)
    obtain ⟨c1, k1, f1, q1⟩ := me_m hA how h4 h6 hm z5 z6 z7 z8
    obtain ⟨o1, o2⟩ := errO_ok (g := g) (f := f) hn how h6 hm
    have hG := bsP_G (g := g) hn h3 h6 hm i (by omega)
    have hz := erN_0 (n := n) (g := g) (f := f) (nt := nt) (w := wo (nI i) w) (m := m)
    have hle := erN_le (g := g) (f := f) hn how h6 hm
    refine ⟨(bs1 (bsP n g f nt w m (i + 1)), bs3 (bsP n g f nt w m (i + 1)), nI (i + 1), (z4.1, upd (upd z4.2.1 i (0 : Int32)) i (z4.2.1 i), z4.2.2), c1, k1, f1, nI (erN n g f nt (wo (nI i) w) m)), ?_, rfl, rfl, rfl, e4, e5, fun j => ?_⟩
    · unfold bX6_spare_19
      dsimp only
      rw [if_neg (show ¬ (4 : Int32) ≤ nI i from nI_ge (b := 4) hi (by decide)), gd_t (inB_nI (by omega) (by decide)), gd_t (inB_nI (by omega) (by decide)), cl_nI (by omega), q1, Option.bind_some, gd_t (inB_nI (by omega) (by decide))]
      dsimp only
      unfold jX6_spare_19_77 jX6_spare_19_83
      rw [nI_1, bsP]
      unfold bsC
      cases he : errO n g f nt (wo (nI i) w) m with
      | none =>
        rw [hz.mpr he, if_pos (by decide)]
      | some d =>
        have h0 : 0 < erN n g f nt (wo (nI i) w) m := by
          rcases Nat.eq_zero_or_pos (erN n g f nt (wo (nI i) w) m) with z | z
          · rw [hz.mp z] at he; cases he
          · exact z
        dsimp only [Option.getD_some]
        rw [if_neg (nI_nle h0 (by omega))]
        by_cases cb : bs1 (bsP n g f nt w m i) = -1
        · rw [if_pos cb, bs_none ((bs1_m1 hG).mp cb)]
          rfl
        · rw [if_neg cb]
          have := bs_cmp hG (o1 d he).1.ne cb
          cases hlt : ltO (some d) (bsD (bsP n g f nt w m i)) with
          | false => rw [if_pos (this.mpr hlt)]; rfl
          | true => rw [if_neg (fun z => by rw [this.mp z] at hlt; cases hlt)]; rfl
    · show upd (upd z4.2.1 i (0 : Int32)) i (z4.2.1 i) j = _
      unfold upd
      by_cases c : j = i
      · rw [if_pos c, ← e6 j, c]
      · rw [if_neg c, if_neg c]
        exact e6 j
  · rintro ⟨z1, z2, z3, z4, z5, z6, z7, z8⟩ ⟨e1, e2, e3, e4⟩
    have e1 : z1 = _ := e1
    have e3 : z3 = nI 4 := e3
    subst e1 e3
    refine ⟨(bs1 (bsP n g f nt w m 4), z4, z5, z6, z7, z8), ?_, rfl, e4⟩
    unfold bX6_spare_19
    dsimp only
    rw [if_pos (by decide)]
theorem q_spare {n g f : Nat} {nt : Nat → Int32} {w : Nat → Nat} {bk : Tbk} {co : Tco} {li : Tli} {cn : Tcn} {rf : Nat → Int32} (h : BK n nt w g f bk co) (hl : LI n g nt w li) (hc : ctP cn rf) (fo : Tfo) (cp : Int32) (lk : Tlk) (fl : Tfl) (em : Int32) (x1 : Int32) :
    ∃ r cn' li' fo' co' rf' cp' lk' fl' em', fX5_spare cn bk li fo x1 = some (r, cn', li', fo') ∧ fX6_spare co rf cp lk fl em x1 = some (r, co', rf', cp', lk', fl', em') ∧ ctP cn' rf' ∧ LI n g nt w li' ∧ BK n nt w g f bk co' := by
  have hB := h
  obtain ⟨h1, h2, h3, h4, h5, h6⟩ := h
  have hn := h1.1
  cases hx1 : isD 4 x1 with
  | false =>
    refine ⟨-2, _, li, fo, co, _, cp, lk, fl, em, ?_, ?_, hc.bad, hl, hB⟩
    · unfold fX5_spare; rw [member_c, hx1, Option.bind_some, if_neg (by decide)]; rfl
    · unfold fX6_spare; rw [member_m, hx1, Option.bind_some, if_neg (by decide)]; rfl
  | true =>
    obtain ⟨m, hm, rfl⟩ := isD_of hx1 (by decide)
    obtain ⟨l', fo', p1, p2⟩ := sp_c (cn := cn) h1 h3 h4 h6 hl hm fo
    obtain ⟨co', c1, k1, f1, m1, e2, e3, e4, e5⟩ := sp_m (rf := rf) h2 h3 h4 h6 hm cp lk fl em
    refine ⟨bs1 (bsP n g f nt w m 4), cn, l', fo', co', rf, c1, k1, f1, m1, ?_, ?_, hc, p2, ?_⟩
    · unfold fX5_spare
      rw [member_c, hx1, Option.bind_some, if_pos (by decide), p1, Option.bind_some]
    · unfold fX6_spare
      rw [member_m, hx1, Option.bind_some, if_pos (by decide), e2, Option.bind_some]
    · obtain ⟨⟨a1, a2, a3, a4⟩, a5, a6⟩ := h2
      refine ⟨h1, ⟨⟨a1, e3.trans a2, ?_, ?_⟩, ?_, ?_⟩, h3, h4, h5, h6⟩
      · intro k hk
        rw [e4]; exact a3 k hk
      · intro k hk
        rw [e5]; exact a4 k hk
      · rw [e5]; exact a5
      · rw [e5]; exact a6
