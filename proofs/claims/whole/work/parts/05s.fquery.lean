/-! ===== follows, mean, spread, holds on both sides ===== -/
theorem fok_ok {n g f : Nat} {nt : Nat → Int32} {w : Nat → Nat} (ho : okB n nt w) (hf : f ≤ 12) {t m : Nat} (ht : t < n) (hm : m < 4) : fokL (folL nt m (nearL n g f nt w t)) := by
  refine ⟨?_, folL_ok ho ht hm⟩
  have h1 := folL_len (nt := nt) (m := m) (l := nearL n g f nt w t)
  rw [nearL_len] at h1
  omega
theorem gf_ok {n g f : Nat} {nt : Nat → Int32} {w : Nat → Nat} {bk : Tbk} {co : Tco} {li : Tli} (h : BK n nt w g f bk co) (hl : LI n g nt w li) {t m : Nat} (ht : t < n) (hm : m < 4) (fo : Tfo) : ∃ li' fo', fX5_gatherFollowers bk li fo (nI t) (nI m) = some (li', fo') ∧ lrn n g nt w (-1) li' ∧ foP (folL nt m (nearL n g f nt w t)) fo' := by
  obtain ⟨h1, h2, h3, h4, h5, h6⟩ := h
  obtain ⟨l', p1, p2⟩ := le_ok h1 h3 h4 hl (x := -1) (by decide)
  obtain ⟨fo', q1, q2⟩ := ga_ok h1 p2.m1 h6 ht hm fo
  refine ⟨l', fo', ?_, p2, q2⟩
  unfold fX5_gatherFollowers fX0_few
  rw [p1, Option.bind_some, Option.bind_some, h1.2.2.2.2.2, q1, Option.bind_some]
def qOf (n : Nat) (x : Int32) : Prop := ∃ q, q ≤ n ∧ x = nI q
theorem inR_nI {x M : Int32} {n : Nat} (hM : M.toInt = n) (h : inR x 0 M = true) : ∃ q, q ≤ n ∧ x = nI q := by
  have h1 := of_decide_eq_true h
  have h0 : ((0 : Int32)).toInt = 0 := rfl
  rw [h0, hM] at h1
  refine nI_of2 hM ?_ ?_
  · intro z
    have := Int32.lt_iff_toInt_lt.mp z
    rw [h0] at this
    omega
  · exact Int32.le_iff_toInt_le.mpr (by rw [hM]; exact h1.2)
theorem two_nI (q : Nat) : (2 : Int32) * nI q = nI (2 * q) := by rw [show (2 : Int32) = nI 2 from rfl, pk_mul]
theorem spz_ok {fo : Tfo} {k q : Nat} (h : fo.2.2.2 = nI k) (hk : k ≤ 50) (hq : q ≤ 50) : fX1_spanSize fo (nI q) = some (nI (k - 2 * q)) := by
  unfold fX1_spanSize
  rw [h, two_nI]
  by_cases c : 2 * q < k
  · rw [pk_sub (by omega), if_pos (show (0 : Int32) < nI (k - 2 * q) from nI_lt (a := 0) (by omega) (by omega))]
  · rw [if_neg (by
      intro z
      have := Int32.lt_iff_toInt_lt.mp z
      rw [pk_sub_toInt (by omega) (by omega)] at this
      have h0 : ((0 : Int32)).toInt = 0 := rfl
      rw [h0] at this
      omega), show k - 2 * q = 0 by omega]
    rfl
def lsV (L : List (Int32 × UInt32)) (q : Nat) : Int32 := if L.length ≤ 2 * q then MI else ((srtV L)[q]?).getD MI
def grV (L : List (Int32 × UInt32)) (q : Nat) : Int32 := if L.length ≤ 2 * q then MI else ((srtV L)[L.length - 1 - q]?).getD MI
theorem rep_getD {f : Nat → Int32} {S : List Int32} (h : repL f id S) {i : Nat} (hi : i < S.length) : f i = (S[i]?).getD MI := by
  have e : S[i]? = some S[i] := List.getElem?_eq_getElem hi
  rw [e]
  exact h i _ e
theorem ls_c {L : List (Int32 × UInt32)} {fo : Tfo} (hL : L.length ≤ 12) (h : foP L fo) {q : Nat} (hq : q ≤ 50) : fX1_least fo (nI q) = some (lsV L q) := by
  unfold fX1_least
  rw [if_neg (nI_pos (by omega)), spz_ok h.1 (by omega) (by omega), Option.bind_some]
  unfold lsV
  by_cases c : L.length ≤ 2 * q
  · rw [if_pos c, show L.length - 2 * q = 0 by omega, if_pos (by decide)]
    rfl
  · rw [if_neg c, if_neg (nI_nle (by omega) (by omega)), gd_t (inB_nI (by omega) (by decide)), cl_nI (by omega), rep_getD h.2.2.2 (by rw [srtV_len]; omega)]
    rfl
theorem gr_c {L : List (Int32 × UInt32)} {fo : Tfo} (hL : L.length ≤ 12) (h : foP L fo) {q : Nat} (hq : q ≤ 50) : fX1_greatest fo (nI q) = some (grV L q) := by
  unfold fX1_greatest
  rw [if_neg (nI_pos (by omega)), spz_ok h.1 (by omega) (by omega), Option.bind_some]
  unfold grV
  by_cases c : L.length ≤ 2 * q
  · rw [if_pos c, show L.length - 2 * q = 0 by omega, if_pos (by decide)]
    rfl
  · rw [if_neg c, if_neg (nI_nle (by omega) (by omega)), h.1, sub1 (by omega), pk_sub (by omega), gd_t (inB_nI (by omega) (by decide)), cl_nI (by omega), rep_getD h.2.2.2 (by rw [srtV_len]; omega)]
    rfl
theorem q_follows {n g f : Nat} {nt : Nat → Int32} {w : Nat → Nat} {bk : Tbk} {co : Tco} {li : Tli} {cn : Tcn} {rf : Nat → Int32} (h : BK n nt w g f bk co) (hl : LI n g nt w li) (hc : ctP cn rf) (fo : Tfo) (cp : Int32) (lk : Tlk) (fl : Tfl) (x1 x2 x3 x4 : Int32) :
    ∃ r cn' li' fo' rf' cp' lk' fl', fX5_follows cn bk li fo x1 x2 x3 x4 = some (r, cn', li', fo') ∧ fX6_follows co rf cp lk fl x1 x2 x3 x4 = some (r, rf', cp', lk', fl') ∧ ctP cn' rf' ∧ LI n g nt w li' := by
  have hB := h
  obtain ⟨h1, h2, h3, h4, h5, h6⟩ := h
  have hn := h1.1
  have hcx := has_c h1.2.1 hn
  have hmx := isDay_m h2.1.2.1 hn
  cases hx1 : isD n x1 with
  | false =>
    refine ⟨-20000, _, li, fo, _, cp, lk, fl, ?_, ?_, hc.bad, hl⟩
    · unfold fX5_follows; rw [hcx, hx1, Option.bind_some, if_pos (by decide)]; rfl
    · unfold fX6_follows; rw [hmx, hx1, Option.bind_some, if_pos (by decide)]; rfl
  | true =>
    cases hx2 : isD 4 x2 with
    | false =>
      refine ⟨-20000, _, li, fo, _, cp, lk, fl, ?_, ?_, hc.bad, hl⟩
      · unfold fX5_follows; rw [hcx, hx1, Option.bind_some, if_neg (by decide), member_c, hx2, Option.bind_some, if_pos (by decide)]; rfl
      · unfold fX6_follows; rw [hmx, hx1, Option.bind_some, if_neg (by decide), member_m, hx2, Option.bind_some, if_pos (by decide)]; rfl
    | true =>
      cases hx3 : inR x3 0 5 with
      | false =>
        refine ⟨-20000, _, li, fo, _, cp, lk, fl, ?_, ?_, hc.bad, hl⟩
        · unfold fX5_follows; rw [hcx, hx1, Option.bind_some, if_neg (by decide), member_c, hx2, Option.bind_some, if_neg (by decide), within_ok, hx3, Option.bind_some, if_pos (by decide)]; rfl
        · unfold fX6_follows; rw [hmx, hx1, Option.bind_some, if_neg (by decide), member_m, hx2, Option.bind_some, if_neg (by decide), in_ok, hx3, Option.bind_some, if_pos (by decide)]; rfl
      | true =>
        cases hx4 : inR x4 0 3 with
        | false =>
          refine ⟨-20000, _, li, fo, _, cp, lk, fl, ?_, ?_, hc.bad, hl⟩
          · unfold fX5_follows; rw [hcx, hx1, Option.bind_some, if_neg (by decide), member_c, hx2, Option.bind_some, if_neg (by decide), within_ok, hx3, Option.bind_some, if_neg (by decide), within_ok, hx4, Option.bind_some, if_neg (by decide)]; rfl
          · unfold fX6_follows; rw [hmx, hx1, Option.bind_some, if_neg (by decide), member_m, hx2, Option.bind_some, if_neg (by decide), in_ok, hx3, Option.bind_some, if_neg (by decide), in_ok, hx4, Option.bind_some, if_neg (by decide)]; rfl
        | true =>
          obtain ⟨t, ht, rfl⟩ := isD_of hx1 (by omega)
          obtain ⟨m, hm, rfl⟩ := isD_of hx2 (by decide)
          obtain ⟨q, hq, rfl⟩ := inR_nI (n := 5) rfl hx3
          obtain ⟨l', fo', p1, p2, p3⟩ := gf_ok hB hl ht hm fo
          obtain ⟨c1, k1, f1, s1, s2⟩ := sf_ok h2 h3 h4 h6 ht hm cp lk fl
          have hL := (fok_ok (g := g) (f := f) h3 h6 ht hm).1
          generalize folL nt m (nearL n g f nt w t) = L at *
          have ec : fX5_follows cn bk li fo (nI t) (nI m) (nI q) x4 = (if x4 = 0 then some (nI L.length, cn, l', fo') else if x4 = 1 then some (lsV L q, cn, l', fo') else if x4 = 2 then some (grV L q, cn, l', fo') else some (nI (L.length - 2 * q), cn, l', fo')) := by
            unfold fX5_follows fX1_size
            rw [hcx, hx1, Option.bind_some, if_neg (by decide), member_c, hx2, Option.bind_some, if_neg (by decide), within_ok, hx3, Option.bind_some, if_neg (by decide), within_ok, hx4, Option.bind_some, if_pos (by decide), p1, Option.bind_some]
            dsimp only
            rw [Option.bind_some, p3.1, ls_c hL p3 (by omega), Option.bind_some, gr_c hL p3 (by omega), Option.bind_some, spz_ok p3.1 (by omega) (by omega), Option.bind_some]
          have em : fX6_follows co rf cp lk fl (nI t) (nI m) (nI q) x4 = jX6_follows_67 co rf c1 k1 f1 (nI q) x4 (nI (L.length - 2 * q)) := by
            unfold fX6_follows
            rw [hmx, hx1, Option.bind_some, if_neg (by decide), member_m, hx2, Option.bind_some, if_neg (by decide), in_ok, hx3, Option.bind_some, if_neg (by decide), in_ok, hx4, Option.bind_some, if_pos (by decide), s1, Option.bind_some]
            dsimp only
            rw [s2.1, two_nI]
            by_cases c : L.length ≤ 2 * q
            · rw [if_pos (nI_le c (by omega)), show L.length - 2 * q = 0 by omega]; rfl
            · rw [if_neg (nI_ge (by omega) (by omega)), pk_sub (by omega)]
          by_cases x0 : x4 = 0
          · rw [if_pos x0] at ec
            refine ⟨_, cn, l', fo', rf, c1, k1, f1, ec, ?_, hc, p2.LI⟩
            rw [em]
            unfold jX6_follows_67 jX6_follows_80
            rw [if_pos x0, if_neg (fun z => z x0), s2.1]
            rfl
          · rw [if_neg x0] at ec
            have em2 : x4 ≠ 3 → fX6_follows co rf cp lk fl (nI t) (nI m) (nI q) x4 = some (if x4 = 1 then lsV L q else grV L q, rf, c1, k1, f1) := by
              intro x3
              rw [em]
              unfold jX6_follows_67
              rw [if_neg x0, if_pos x3]
              unfold lsV grV
              by_cases c : L.length ≤ 2 * q
              · rw [if_neg (fun z => z (by rw [show L.length - 2 * q = 0 by omega]; rfl)), if_pos c, if_pos c, ite_self]
                rfl
              · rw [if_pos (nI_ne0 (by omega) (by omega)), if_neg c, if_neg c, s2.1, sub1 (by omega), pk_sub (by omega), gd_t (inB_nI (by omega) (by decide)), gd_t (inB_nI (by omega) (by decide)), cl_nI (by omega), cl_nI (by omega), rep_getD s2.2.2.2 (i := q) (by rw [srtV_len]; omega), rep_getD s2.2.2.2 (i := L.length - 1 - q) (by rw [srtV_len]; omega)]
                by_cases c1 : x4 = 1
                · rw [if_neg (fun z => z c1), if_pos c1]
                  rfl
                · rw [if_pos c1, if_neg c1]
                  rfl
            by_cases x1 : x4 = 1
            · rw [if_pos x1] at ec
              refine ⟨_, cn, l', fo', rf, c1, k1, f1, ec, ?_, hc, p2.LI⟩
              rw [em2 (by rw [x1]; decide), if_pos x1]
            · rw [if_neg x1] at ec
              by_cases x2 : x4 = 2
              · rw [if_pos x2] at ec
                refine ⟨_, cn, l', fo', rf, c1, k1, f1, ec, ?_, hc, p2.LI⟩
                rw [em2 (by rw [x2]; decide), if_neg x1]
              · rw [if_neg x2] at ec
                have x3 : x4 = 3 := by
                  obtain ⟨v, hv, rfl⟩ := inR_nI (n := 3) rfl hx4
                  have a0 : v ≠ 0 := fun z => x0 (by rw [z]; rfl)
                  have a1 : v ≠ 1 := fun z => x1 (by rw [z]; rfl)
                  have a2 : v ≠ 2 := fun z => x2 (by rw [z]; rfl)
                  rw [show v = 3 by omega]; rfl
                refine ⟨_, cn, l', fo', rf, c1, k1, f1, ec, ?_, hc, p2.LI⟩
                rw [em]
                unfold jX6_follows_67 jX6_follows_80
                rw [if_neg x0, if_neg (fun z => z x3), if_pos x0]
                rfl
theorem q_mean {n g f : Nat} {nt : Nat → Int32} {w : Nat → Nat} {bk : Tbk} {co : Tco} {li : Tli} {cn : Tcn} {rf : Nat → Int32} (h : BK n nt w g f bk co) (hl : LI n g nt w li) (hc : ctP cn rf) (fo : Tfo) (cp : Int32) (lk : Tlk) (fl : Tfl) (x1 x2 : Int32) :
    ∃ r cn' li' fo' rf' cp' lk' fl', fX5_mean cn bk li fo x1 x2 = some (r, cn', li', fo') ∧ fX6_mean co rf cp lk fl x1 x2 = some (r, rf', cp', lk', fl') ∧ ctP cn' rf' ∧ LI n g nt w li' := by
  have hB := h
  obtain ⟨h1, h2, h3, h4, h5, h6⟩ := h
  have hn := h1.1
  have hcx := has_c h1.2.1 hn
  have hmx := isDay_m h2.1.2.1 hn
  cases hx1 : isD n x1 with
  | false =>
    refine ⟨-2, _, li, fo, _, cp, lk, fl, ?_, ?_, hc.bad, hl⟩
    · unfold fX5_mean; rw [hcx, hx1, Option.bind_some, if_pos (by decide)]; rfl
    · unfold fX6_mean; rw [hmx, hx1, Option.bind_some, if_pos (by decide)]; rfl
  | true =>
    cases hx2 : isD 4 x2 with
    | false =>
      refine ⟨-2, _, li, fo, _, cp, lk, fl, ?_, ?_, hc.bad, hl⟩
      · unfold fX5_mean; rw [hcx, hx1, Option.bind_some, if_neg (by decide), member_c, hx2, Option.bind_some, if_neg (by decide)]; rfl
      · unfold fX6_mean; rw [hmx, hx1, Option.bind_some, if_neg (by decide), member_m, hx2, Option.bind_some, if_neg (by decide)]; rfl
    | true =>
      obtain ⟨t, ht, rfl⟩ := isD_of hx1 (by omega)
      obtain ⟨m, hm, rfl⟩ := isD_of hx2 (by decide)
      obtain ⟨l', fo', p1, p2, p3⟩ := gf_ok hB hl ht hm fo
      obtain ⟨c1, k1, f1, s1, s2⟩ := sf_ok h2 h3 h4 h6 ht hm cp lk fl
      have hL := fok_ok (g := g) (f := f) h3 h6 ht hm
      generalize folL nt m (nearL n g f nt w t) = L at *
      have hL12 := hL.1
      refine ⟨if L.length = 0 then -1 else (mnV L).toInt32, cn, l', fo', rf, c1, k1, f1, ?_, ?_, hc, p2.LI⟩
      · unfold fX5_mean fX1_size
        rw [hcx, hx1, Option.bind_some, if_neg (by decide), member_c, hx2, Option.bind_some, if_pos (by decide), p1, Option.bind_some]
        dsimp only
        rw [Option.bind_some, p3.1]
        by_cases c : L.length = 0
        · rw [if_neg (fun z => z (by rw [c]; rfl)), if_pos c]; rfl
        · rw [if_pos (nI_ne0 (by omega) (by omega)), mv_c hL (by omega) p3, Option.bind_some, bits_G32 (mnV_ok hL (by omega)).1 (by decide), Option.bind_some, if_neg c]; rfl
      · unfold fX6_mean
        rw [hmx, hx1, Option.bind_some, if_neg (by decide), member_m, hx2, Option.bind_some, if_pos (by decide), s1, Option.bind_some]
        dsimp only
        rw [s2.1]
        by_cases c : L.length = 0
        · rw [if_neg (fun z => z (by rw [c]; rfl)), if_pos c]; rfl
        · rw [if_pos (nI_ne0 (by omega) (by omega)), mv_m hL (by omega) s2, Option.bind_some, fbits (mnV_ok hL (by omega)).1.ne, Option.bind_some, if_neg c]; rfl
theorem q_spread {n g f : Nat} {nt : Nat → Int32} {w : Nat → Nat} {bk : Tbk} {co : Tco} {li : Tli} {cn : Tcn} {rf : Nat → Int32} (h : BK n nt w g f bk co) (hl : LI n g nt w li) (hc : ctP cn rf) (fo : Tfo) (cp : Int32) (lk : Tlk) (fl : Tfl) (x1 x2 : Int32) :
    ∃ r cn' li' fo' rf' cp' lk' fl', fX5_spread cn bk li fo x1 x2 = some (r, cn', li', fo') ∧ fX6_spread co rf cp lk fl x1 x2 = some (r, rf', cp', lk', fl') ∧ ctP cn' rf' ∧ LI n g nt w li' := by
  have hB := h
  obtain ⟨h1, h2, h3, h4, h5, h6⟩ := h
  have hn := h1.1
  have hcx := has_c h1.2.1 hn
  have hmx := isDay_m h2.1.2.1 hn
  cases hx1 : isD n x1 with
  | false =>
    refine ⟨((-2 : Int32)).toInt64, _, li, fo, _, cp, lk, fl, ?_, ?_, hc.bad, hl⟩
    · unfold fX5_spread; rw [hcx, hx1, Option.bind_some, if_pos (by decide)]; rfl
    · unfold fX6_spread; rw [hmx, hx1, Option.bind_some, if_pos (by decide)]; rfl
  | true =>
    cases hx2 : isD 4 x2 with
    | false =>
      refine ⟨((-2 : Int32)).toInt64, _, li, fo, _, cp, lk, fl, ?_, ?_, hc.bad, hl⟩
      · unfold fX5_spread; rw [hcx, hx1, Option.bind_some, if_neg (by decide), member_c, hx2, Option.bind_some, if_neg (by decide)]; rfl
      · unfold fX6_spread; rw [hmx, hx1, Option.bind_some, if_neg (by decide), member_m, hx2, Option.bind_some, if_neg (by decide)]; rfl
    | true =>
      obtain ⟨t, ht, rfl⟩ := isD_of hx1 (by omega)
      obtain ⟨m, hm, rfl⟩ := isD_of hx2 (by decide)
      obtain ⟨l', fo', p1, p2, p3⟩ := gf_ok hB hl ht hm fo
      obtain ⟨c1, k1, f1, s1, s2⟩ := sf_ok h2 h3 h4 h6 ht hm cp lk fl
      have hL := fok_ok (g := g) (f := f) h3 h6 ht hm
      generalize folL nt m (nearL n g f nt w t) = L at *
      have hL12 := hL.1
      refine ⟨if L.length = 0 then -1 else (spV L).toInt64, cn, l', fo', rf, c1, k1, f1, ?_, ?_, hc, p2.LI⟩
      · unfold fX5_spread fX1_size
        rw [hcx, hx1, Option.bind_some, if_neg (by decide), member_c, hx2, Option.bind_some, if_pos (by decide), p1, Option.bind_some]
        dsimp only
        rw [Option.bind_some, p3.1]
        by_cases c : L.length = 0
        · rw [if_neg (fun z => z (by rw [c]; rfl)), if_pos c]; rfl
        · obtain ⟨v1, v2, v3, v4⟩ := spV_ok hL (by omega)
          have e : fX1_spreadOfValues fo' = some (spV L) := by
            unfold fX1_spreadOfValues
            rw [spl_c hL p3, Option.bind_some, p3.1, if_neg (nI_nle (by omega) (by omega)), gd_t (show n64 (FP.ddiv (spS L).2 (FP.i2d (nI L.length))) = true from G64.n v1), gd_t (show n64 (FP.ddiv (spS L).1 (FP.i2d (nI L.length))) = true from G64.n v2), gd_t (show n64 (FP.ddiv (spS L).1 (FP.i2d (nI L.length))) = true from G64.n v2), gd_t (show n64 (FP.dmul (FP.ddiv (spS L).1 (FP.i2d (nI L.length))) (FP.ddiv (spS L).1 (FP.i2d (nI L.length)))) = true from G64.n v3), gd_t (show n64 (FP.dsub (FP.ddiv (spS L).2 (FP.i2d (nI L.length))) (FP.dmul (FP.ddiv (spS L).1 (FP.i2d (nI L.length))) (FP.ddiv (spS L).1 (FP.i2d (nI L.length))))) = true from G64.n v4)]
            rfl
          rw [if_pos (nI_ne0 (by omega) (by omega)), e, Option.bind_some, bits_G64 v4 (by decide), Option.bind_some, if_neg c]; rfl
      · unfold fX6_spread
        rw [hmx, hx1, Option.bind_some, if_neg (by decide), member_m, hx2, Option.bind_some, if_pos (by decide), s1, Option.bind_some]
        dsimp only
        rw [s2.1]
        by_cases c : L.length = 0
        · rw [if_neg (fun z => z (by rw [c]; rfl)), if_pos c]
        · obtain ⟨v1, v2, v3, v4⟩ := spV_ok hL (by omega)
          rw [if_pos (nI_ne0 (by omega) (by omega)), spl_m hL s2, Option.bind_some, gd_t (show n64 (FP.ddiv (spS L).2 (FP.i2d (nI L.length))) = true from G64.n v1), gd_t (show n64 (FP.ddiv (spS L).1 (FP.i2d (nI L.length))) = true from G64.n v2), gd_t (show n64 (FP.ddiv (spS L).1 (FP.i2d (nI L.length))) = true from G64.n v2), gd_t (show n64 (FP.dmul (FP.ddiv (spS L).1 (FP.i2d (nI L.length))) (FP.ddiv (spS L).1 (FP.i2d (nI L.length)))) = true from G64.n v3), gd_t (show n64 (FP.dsub (FP.ddiv (spS L).2 (FP.i2d (nI L.length))) (FP.dmul (FP.ddiv (spS L).1 (FP.i2d (nI L.length))) (FP.ddiv (spS L).1 (FP.i2d (nI L.length))))) = true from G64.n v4), dbits (x := FP.dsub (FP.ddiv (spS L).2 (FP.i2d (nI L.length))) (FP.dmul (FP.ddiv (spS L).1 (FP.i2d (nI L.length))) (FP.ddiv (spS L).1 (FP.i2d (nI L.length))))) v4.ne, Option.bind_some, if_neg c]
          rfl
