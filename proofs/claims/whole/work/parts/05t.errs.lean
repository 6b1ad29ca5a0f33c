/-! ===== holds and errs on both sides ===== -/
def hdS (n g f : Nat) (nt : Nat → Int32) (w : Nat → Nat) (m q : Nat) : Nat → Nat × Nat
  | 0 => (0, 0)
  | t + 1 => if nt ((t + 1) * 4 + m) = MI ∨ (folL nt m (nearL n g f nt w t)).length ≤ 2 * q then hdS n g f nt w m q t else ((hdS n g f nt w m q t).1 + 1, (hdS n g f nt w m q t).2 + if nt ((t + 1) * 4 + m) < lsV (folL nt m (nearL n g f nt w t)) q ∨ grV (folL nt m (nearL n g f nt w t)) q < nt ((t + 1) * 4 + m) then 0 else 1)
theorem inR_iff (x a b : Int32) : inR x a b = false ↔ x < a ∨ b < x := by
  unfold inR
  rw [decide_eq_false_iff_not, Int32.lt_iff_toInt_lt, Int32.lt_iff_toInt_lt]
  omega
theorem hd_c {n g f : Nat} {nt : Nat → Int32} {w : Nat → Nat} {bk : Tbk} {co : Tco} {li : Tli} {cn : Tcn} (h : BK n nt w g f bk co) (hl : LI n g nt w li) {m q : Nat} (hm : m < 4) (hq : q ≤ 5) (x3 : Int32) (fo : Tfo) :
    ∃ li' fo', lpF (bX5_holds_41 cn bk (nI m) (nI q) x3) FU ((0 : Int32), (0 : Int32), (0 : Int32), li, fo) = some (nI (hdS n g f nt w m q (n - 1)).1, nI (hdS n g f nt w m q (n - 1)).2, li', fo') ∧ LI n g nt w li' := by
  have hB := h
  obtain ⟨h1, h2, h3, h4, h5, h6⟩ := h
  have hn := h1.1
  have key := lp_cnt (B := bX5_holds_41 cn bk (nI m) (nI q) x3) (fun (t : Nat) (z : Int32 × Int32 × Int32 × Tli × Tfo) => z.1 = nI (hdS n g f nt w m q t).1 ∧ z.2.1 = nI (hdS n g f nt w m q t).2 ∧ z.2.2.1 = nI t ∧ LI n g nt w z.2.2.2.1) (fun (e : Int32 × Int32 × Tli × Tfo) => e.1 = nI (hdS n g f nt w m q (n - 1)).1 ∧ e.2.1 = nI (hdS n g f nt w m q (n - 1)).2 ∧ LI n g nt w e.2.2.1) (n - 1) (by omega) ?_ ?_ ((0 : Int32), (0 : Int32), (0 : Int32), li, fo) ⟨rfl, rfl, rfl, hl⟩
  · obtain ⟨⟨e1, e2, e3, e4⟩, k1, k2, k3, k4⟩ := key
    have k2 : e1 = _ := k2
    have k3 : e2 = _ := k3
    subst k2 k3
    exact ⟨e3, e4, k1, k4⟩
  · rintro t ⟨z1, z2, z3, z4, z5⟩ ht ⟨e1, e2, e3, e4⟩
    have e1 : z1 = nI (hdS n g f nt w m q t).1 := e1
    have e2 : z2 = nI (hdS n g f nt w m q t).2 := e2
    have e3 : z3 = nI t := e3
    subst e1 e2 e3
    obtain ⟨l', fo', p1, p2, p3⟩ := gf_ok hB e4 (show t < n by omega) hm z5
    have hL := (fok_ok (g := g) (f := f) h3 h6 (show t < n by omega) hm).1
    unfold bX5_holds_41 fX0_days
    dsimp only
    rw [Option.bind_some, h1.2.1, nI_1, if_neg (nI_ge (by omega) (by omega)), member_ok h1 (show t + 1 < n by omega) hm, Option.bind_some]
    rw [show fX5_gatherFollowers bk z4 z5 (nI t) (nI m) = some (l', fo') from p1, Option.bind_some]
    refine ⟨(nI (hdS n g f nt w m q (t + 1)).1, nI (hdS n g f nt w m q (t + 1)).2, nI (t + 1), l', fo'), ?_, rfl, rfl, rfl, p2.LI⟩
    rw [hdS]
    generalize nt ((t + 1) * 4 + m) = v at *
    generalize folL nt m (nearL n g f nt w t) = L at *
    dsimp only
    by_cases c1 : v = MI
    · rw [if_pos c1, if_pos (Or.inl c1)]
      unfold jX5_holds_41_134
      rw [nI_1]
    · rw [if_neg c1, spz_ok p3.1 (by omega) (by omega), Option.bind_some]
      by_cases c2 : L.length ≤ 2 * q
      · rw [if_pos (show nI (L.length - 2 * q) ≤ 0 by rw [show L.length - 2 * q = 0 by omega]; decide), if_pos (Or.inr c2)]
        unfold jX5_holds_41_134
        rw [nI_1]
      · rw [if_neg (nI_nle (by omega) (by omega)), if_neg (fun z => z.elim c1 c2), ls_c hL p3 (by omega), Option.bind_some, gr_c hL p3 (by omega), Option.bind_some]
        unfold jX5_holds_41_130 jX5_holds_41_131 jX5_holds_41_134
        rw [nI_1, nI_1, nI_1, show (0 : Int32) = nI 0 from rfl, nI_add]
        by_cases c3 : v < lsV L q
        · rw [if_pos c3, if_pos (Or.inl c3)]
        · rw [if_neg c3]
          by_cases c4 : grV L q < v
          · rw [if_pos c4, if_pos (Or.inr c4)]
          · rw [if_neg c4, if_neg (fun z => z.elim c3 c4)]
  · rintro ⟨z1, z2, z3, z4, z5⟩ ⟨e1, e2, e3, e4⟩
    have e1 : z1 = nI (hdS n g f nt w m q (n - 1)).1 := e1
    have e2 : z2 = nI (hdS n g f nt w m q (n - 1)).2 := e2
    have e3 : z3 = nI (n - 1) := e3
    subst e1 e2 e3
    refine ⟨(nI (hdS n g f nt w m q (n - 1)).1, nI (hdS n g f nt w m q (n - 1)).2, z4, z5), ?_, rfl, rfl, e4⟩
    unfold bX5_holds_41 fX0_days
    dsimp only
    rw [Option.bind_some, h1.2.1, nI_1, if_pos (nI_le (by omega) (by omega))]
theorem mix {t m : Nat} : (4 : Int32) * (nI t + (1 : Int32)) + nI m = nI ((t + 1) * 4 + m) := by
  rw [nI_1, show (4 : Int32) = nI 4 from rfl, pk_mul, nI_add, Nat.mul_comm]
theorem hd_m {n g f : Nat} {nt : Nat → Int32} {w : Nat → Nat} {bk : Tbk} {co : Tco} {rf : Nat → Int32} (h : BK n nt w g f bk co) {m q : Nat} (hm : m < 4) (hq : q ≤ 5) (x3 cp : Int32) (lk : Tlk) (fl : Tfl) :
    ∃ cp' lk' fl', lpF (bX6_holds_39 co rf (nI m) (nI q) x3) FU ((0 : Int32), (0 : Int32), (0 : Int32), cp, lk, fl) = some (nI (hdS n g f nt w m q (n - 1)).1, nI (hdS n g f nt w m q (n - 1)).2, cp', lk', fl') := by
  obtain ⟨h1, h2, h3, h4, h5, h6⟩ := h
  have hn := h1.1
  have key := lp_cnt (B := bX6_holds_39 co rf (nI m) (nI q) x3) (fun (t : Nat) (z : Int32 × Int32 × Int32 × Int32 × Tlk × Tfl) => z.1 = nI (hdS n g f nt w m q t).1 ∧ z.2.1 = nI (hdS n g f nt w m q t).2 ∧ z.2.2.1 = nI t) (fun (e : Int32 × Int32 × Int32 × Tlk × Tfl) => e.1 = nI (hdS n g f nt w m q (n - 1)).1 ∧ e.2.1 = nI (hdS n g f nt w m q (n - 1)).2) (n - 1) (by omega) ?_ ?_ ((0 : Int32), (0 : Int32), (0 : Int32), cp, lk, fl) ⟨rfl, rfl, rfl⟩
  · obtain ⟨⟨e1, e2, e3, e4, e5⟩, k1, k2, k3⟩ := key
    have k2 : e1 = _ := k2
    have k3 : e2 = _ := k3
    subst k2 k3
    exact ⟨e3, e4, e5, k1⟩
  · rintro t ⟨z1, z2, z3, z4, z5, z6⟩ ht ⟨e1, e2, e3⟩
    have e1 : z1 = nI (hdS n g f nt w m q t).1 := e1
    have e2 : z2 = nI (hdS n g f nt w m q t).2 := e2
    have e3 : z3 = nI t := e3
    subst e1 e2 e3
    obtain ⟨c1, k1, f1, s1, s2⟩ := sf_ok h2 h3 h4 h6 (show t < n by omega) hm z4 z5 z6
    have hL := (fok_ok (g := g) (f := f) h3 h6 (show t < n by omega) hm).1
    refine ⟨(nI (hdS n g f nt w m q (t + 1)).1, nI (hdS n g f nt w m q (t + 1)).2, nI (t + 1), c1, k1, f1), ?_, rfl, rfl, rfl⟩
    unfold bX6_holds_39
    dsimp only
    rw [h2.1.2.1, show nI t + (1 : Int32) = nI (t + 1) from nI_1 t, if_neg (nI_ge (by omega) (by omega)), ← nI_1 t, mix, gd_t (inB_nI (by omega) (by decide)), s1, Option.bind_some, cl_nI (by omega), h2.1.2.2.1 _ (by omega), noted_ok, Option.bind_some]
    dsimp only
    rw [hdS, s2.1, two_nI]
    generalize nt ((t + 1) * 4 + m) = v at *
    generalize folL nt m (nearL n g f nt w t) = L at *
    unfold jX6_holds_39_127 jX6_holds_39_130
    rw [nI_1]
    by_cases cv : v = MI
    · rw [if_pos (by rw [if_pos cv]), if_pos (Or.inl cv)]
    · rw [if_neg (by rw [if_neg cv]; decide)]
      by_cases c2 : L.length ≤ 2 * q
      · rw [if_pos (nI_le c2 (by omega)), if_pos (Or.inr c2)]
      · rw [if_neg (nI_ge (by omega) (by omega)), if_neg (fun z => z.elim cv c2), gd_t (inB_nI (by omega) (by decide)), sub1 (by omega), pk_sub (by omega), gd_t (inB_nI (by omega) (by decide)), cl_nI (by omega), cl_nI (by omega), rep_getD s2.2.2.2 (i := q) (by rw [srtV_len]; omega), rep_getD s2.2.2.2 (i := L.length - 1 - q) (by rw [srtV_len]; omega), in_ok, Option.bind_some]
        have l1 : ((srtV L)[q]?).getD MI = lsV L q := by unfold lsV; rw [if_neg c2]
        have l2 : ((srtV L)[L.length - 1 - q]?).getD MI = grV L q := by unfold grV; rw [if_neg c2]
        rw [l1, l2, nI_1, nI_1, show (0 : Int32) = nI 0 from rfl, nI_add]
        cases ci : inR v (lsV L q) (grV L q) with
        | false => rw [if_pos (by decide), if_pos ((inR_iff _ _ _).mp ci)]
        | true => rw [if_neg (by decide), if_neg (fun z => by have := (inR_iff _ _ _).mpr z; rw [ci] at this; cases this)]
  · rintro ⟨z1, z2, z3, z4, z5, z6⟩ ⟨e1, e2, e3⟩
    have e1 : z1 = nI (hdS n g f nt w m q (n - 1)).1 := e1
    have e2 : z2 = nI (hdS n g f nt w m q (n - 1)).2 := e2
    have e3 : z3 = nI (n - 1) := e3
    subst e1 e2 e3
    refine ⟨(nI (hdS n g f nt w m q (n - 1)).1, nI (hdS n g f nt w m q (n - 1)).2, z4, z5, z6), ?_, rfl, rfl⟩
    unfold bX6_holds_39
    dsimp only
    rw [h2.1.2.1, nI_1, if_pos (nI_le (by omega) (by omega))]
theorem q_holds {n g f : Nat} {nt : Nat → Int32} {w : Nat → Nat} {bk : Tbk} {co : Tco} {li : Tli} {cn : Tcn} {rf : Nat → Int32} (h : BK n nt w g f bk co) (hl : LI n g nt w li) (hc : ctP cn rf) (fo : Tfo) (cp : Int32) (lk : Tlk) (fl : Tfl) (x1 x2 x3 : Int32) :
    ∃ r cn' li' fo' rf' cp' lk' fl', fX5_holds cn bk li fo x1 x2 x3 = some (r, cn', li', fo') ∧ fX6_holds co rf cp lk fl x1 x2 x3 = some (r, rf', cp', lk', fl') ∧ ctP cn' rf' ∧ LI n g nt w li' := by
  cases hx1 : isD 4 x1 with
  | false =>
    refine ⟨-2, _, li, fo, _, cp, lk, fl, ?_, ?_, hc.bad, hl⟩
    · unfold fX5_holds; rw [member_c, hx1, Option.bind_some, if_pos (by decide)]; rfl
    · unfold fX6_holds; rw [member_m, hx1, Option.bind_some, if_pos (by decide)]; rfl
  | true =>
    cases hx2 : inR x2 0 5 with
    | false =>
      refine ⟨-2, _, li, fo, _, cp, lk, fl, ?_, ?_, hc.bad, hl⟩
      · unfold fX5_holds; rw [member_c, hx1, Option.bind_some, if_neg (by decide), within_ok, hx2, Option.bind_some, if_pos (by decide)]; rfl
      · unfold fX6_holds; rw [member_m, hx1, Option.bind_some, if_neg (by decide), in_ok, hx2, Option.bind_some, if_pos (by decide)]; rfl
    | true =>
      cases hx3 : inR x3 0 2 with
      | false =>
        refine ⟨-2, _, li, fo, _, cp, lk, fl, ?_, ?_, hc.bad, hl⟩
        · unfold fX5_holds; rw [member_c, hx1, Option.bind_some, if_neg (by decide), within_ok, hx2, Option.bind_some, if_neg (by decide), within_ok, hx3, Option.bind_some, if_neg (by decide)]; rfl
        · unfold fX6_holds; rw [member_m, hx1, Option.bind_some, if_neg (by decide), in_ok, hx2, Option.bind_some, if_neg (by decide), in_ok, hx3, Option.bind_some, if_neg (by decide)]; rfl
      | true =>
        obtain ⟨m, hm, rfl⟩ := isD_of hx1 (by decide)
        obtain ⟨q, hq, rfl⟩ := inR_nI (n := 5) rfl hx2
        obtain ⟨v, hv, rfl⟩ := inR_nI (n := 2) rfl hx3
        obtain ⟨l', fo', p1, p2⟩ := hd_c (cn := cn) h hl hm hq (nI v) fo
        obtain ⟨c1, k1, f1, s1⟩ := hd_m (rf := rf) h hm hq (nI v) cp lk fl
        generalize hdS n g f nt w m q (n - 1) = H at *
        have ec : fX5_holds cn bk li fo (nI m) (nI q) (nI v) = (if ¬ nI v = (2 : Int32) then (if ¬ nI v = 0 then (jX5_holds_175 cn bk l' fo' (nI H.2)) else (jX5_holds_175 cn bk l' fo' (nI H.1))) else (if ¬ nI H.1 = 0 then (gd (decide (¬ nI H.1 = 0)) (jX5_holds_163 cn bk l' fo' ((nI H.2 * (1000 : Int32)) / nI H.1))) else (jX5_holds_163 cn bk l' fo' (0 : Int32)))) := by
          unfold fX5_holds
          rw [member_c, hx1, Option.bind_some, if_neg (by decide), within_ok, hx2, Option.bind_some, if_neg (by decide), within_ok, hx3, Option.bind_some, if_pos (by decide), p1, Option.bind_some]
        have em : fX6_holds co rf cp lk fl (nI m) (nI q) (nI v) = (if ¬ nI v = 0 then (if ¬ nI v = (1 : Int32) then (if ¬ nI H.1 = 0 then (gd (decide (¬ nI H.1 = 0)) (jX6_holds_173 co rf c1 k1 f1 (((1000 : Int32) * nI H.2) / nI H.1))) else (jX6_holds_173 co rf c1 k1 f1 (0 : Int32))) else (jX6_holds_173 co rf c1 k1 f1 (nI H.2))) else (jX6_holds_173 co rf c1 k1 f1 (nI H.1))) := by
          unfold fX6_holds
          rw [member_m, hx1, Option.bind_some, if_neg (by decide), in_ok, hx2, Option.bind_some, if_neg (by decide), in_ok, hx3, Option.bind_some, if_pos (by decide), s1, Option.bind_some]
        have v3 : v = 0 ∨ v = 1 ∨ v = 2 := by omega
        rcases v3 with rfl | rfl | rfl
        · rw [if_pos (by decide), if_neg (by decide)] at ec
          rw [if_neg (by decide)] at em
          exact ⟨_, cn, l', fo', rf, c1, k1, f1, ec, em, hc, p2⟩
        · rw [if_pos (by decide), if_pos (by decide)] at ec
          rw [if_pos (by decide), if_neg (by decide)] at em
          exact ⟨_, cn, l', fo', rf, c1, k1, f1, ec, em, hc, p2⟩
        · rw [if_neg (by decide)] at ec
          rw [if_pos (by decide), if_pos (by decide)] at em
          by_cases c0 : nI H.1 = 0
          · rw [if_neg (fun z => z c0)] at ec em
            exact ⟨_, cn, l', fo', rf, c1, k1, f1, ec, em, hc, p2⟩
          · rw [if_pos c0, gd_t (decide_eq_true c0)] at ec em
            rw [Int32.mul_comm] at em
            exact ⟨_, cn, l', fo', rf, c1, k1, f1, ec, em, hc, p2⟩
