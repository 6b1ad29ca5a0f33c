/-! ===== distance, nearest, likes, serves, strangers on both sides ===== -/
theorem q_distance {n g f : Nat} {nt : Nat → Int32} {w : Nat → Nat} {bk : Tbk} {co : Tco} {li : Tli} {cn : Tcn} {rf : Nat → Int32} (h : BK n nt w g f bk co) (hl : LI n g nt w li) (hc : ctP cn rf) (cp x y : Int32) :
    ∃ r cn' li' rf' cp', fX5_distance cn bk li x y = some (r, cn', li') ∧ fX6_distance co rf cp x y = some (r, rf', cp') ∧ ctP cn' rf' ∧ LI n g nt w li' := by
  obtain ⟨h1, h2, h3, h4, h5, h6⟩ := h
  have hn := h1.1
  have hcx := has_c h1.2.1 hn
  have hmx := isDay_m h2.1.2.1 hn
  cases hx : isD n x with
  | false =>
    refine ⟨-2, _, li, _, cp, ?_, ?_, hc.bad, hl⟩
    · unfold fX5_distance; rw [hcx, hx, Option.bind_some, if_pos (by decide)]; rfl
    · unfold fX6_distance; rw [hmx, hx, Option.bind_some, if_pos (by decide)]; rfl
  | true =>
    cases hy : isD n y with
    | false =>
      refine ⟨-2, _, li, _, cp, ?_, ?_, hc.bad, hl⟩
      · unfold fX5_distance; rw [hcx, hx, Option.bind_some, if_neg (by decide), hcx, hy, Option.bind_some, if_pos (by decide)]; rfl
      · unfold fX6_distance; rw [hmx, hx, Option.bind_some, if_neg (by decide), hmx, hy, Option.bind_some, if_pos (by decide)]; rfl
    | true =>
      by_cases e : x = y
      · refine ⟨-2, _, li, _, cp, ?_, ?_, hc.bad, hl⟩
        · unfold fX5_distance; rw [hcx, hx, Option.bind_some, if_neg (by decide), hcx, hy, Option.bind_some, if_neg (by decide), if_neg (fun z => z e)]; rfl
        · unfold fX6_distance; rw [hmx, hx, Option.bind_some, if_neg (by decide), hmx, hy, Option.bind_some, if_neg (by decide), if_neg (fun z => z e)]; rfl
      · obtain ⟨l', p1, p2⟩ := le_ok h1 h3 h4 hl (x := -1) (by decide)
        obtain ⟨t, ht, rfl⟩ := isD_of hx (by omega)
        obtain ⟨u, hu, rfl⟩ := isD_of hy (by omega)
        have htu : t ≠ u := fun z => e (by rw [z])
        refine ⟨bitN (dist nt w t u), cn, l', rf, (bif (dist nt w t u).isSome then (1 : Int32) else 0), ?_, ?_, hc, p2.LI⟩
        · unfold fX5_distance
          rw [hcx, hx, Option.bind_some, if_neg (by decide), hcx, hy, Option.bind_some, if_neg (by decide), if_pos e, p1, Option.bind_some, bt2_ok p2.m1 hn ht hu htu, Option.bind_some, bn_ok (gO_dist h3 ht hu) (by decide), Option.bind_some]
        · unfold fX6_distance
          rw [hmx, hx, Option.bind_some, if_neg (by decide), hmx, hy, Option.bind_some, if_neg (by decide), if_pos e, mo_dist h2.1 h3 cp ht hu, Option.bind_some]
          cases hd : dist nt w t u with
          | none => rfl
          | some d =>
            rw [if_neg (by show ¬ (1 : Int32) = 0; decide)]
            dsimp only [Option.getD_some]
            rw [fbits (dist_n h3 ht hu hd).1.ne]
            rfl
theorem q_nearest {n g f : Nat} {nt : Nat → Int32} {w : Nat → Nat} {bk : Tbk} {co : Tco} {li : Tli} {cn : Tcn} {rf : Nat → Int32} (h : BK n nt w g f bk co) (hl : LI n g nt w li) (hc : ctP cn rf) (cp : Int32) (lk : Tlk) (x y v : Int32) :
    ∃ r cn' li' rf' cp' lk', fX5_nearest cn bk li x y v = some (r, cn', li') ∧ fX6_nearest co rf cp lk x y v = some (r, rf', cp', lk') ∧ ctP cn' rf' ∧ LI n g nt w li' := by
  obtain ⟨h1, h2, h3, h4, h5, h6⟩ := h
  have hn := h1.1
  have hcx := has_c h1.2.1 hn
  have hmx := isDay_m h2.1.2.1 hn
  cases hx : isD n x with
  | false =>
    refine ⟨-2, _, li, _, cp, lk, ?_, ?_, hc.bad, hl⟩
    · unfold fX5_nearest; rw [hcx, hx, Option.bind_some, if_pos (by decide)]; rfl
    · unfold fX6_nearest; rw [hmx, hx, Option.bind_some, if_pos (by decide)]; rfl
  | true =>
    by_cases hy : y < 0
    · refine ⟨-2, _, li, _, cp, lk, ?_, ?_, hc.bad, hl⟩
      · unfold fX5_nearest; rw [hcx, hx, Option.bind_some, if_neg (by decide), if_pos hy]; rfl
      · unfold fX6_nearest; rw [hmx, hx, Option.bind_some, if_neg (by decide), if_pos hy]; rfl
    · cases hv : inR v 0 1 with
      | false =>
        refine ⟨-2, _, li, _, cp, lk, ?_, ?_, hc.bad, hl⟩
        · unfold fX5_nearest; rw [hcx, hx, Option.bind_some, if_neg (by decide), if_neg hy, within_ok, hv, Option.bind_some, if_neg (by decide)]; rfl
        · unfold fX6_nearest; rw [hmx, hx, Option.bind_some, if_neg (by decide), if_neg hy, in_ok, hv, Option.bind_some, if_neg (by decide)]; rfl
      | true =>
        obtain ⟨l', p1, p2⟩ := le_ok h1 h3 h4 hl (x := -1) (by decide)
        obtain ⟨t, ht, rfl⟩ := isD_of hx (by omega)
        obtain ⟨c1, k1, s1, s2, s3, s4⟩ := sn_ok h2 h3 h4 h6 ht cp lk
        have hlen : (nearL n g f nt w t).length ≤ 12 := by rw [nearL_len]; omega
        have ec : fX5_nearest cn bk li (nI t) y v = (if y < nI (nearL n g f nt w t).length then (fX2_near l' (nI t) y).bind fun q11 => if ¬ v = 0 then ((fX2_between l' (nI t) q11).bind fun q13 => (fX5_bitsOrNone q13).bind fun q14 => jX5_nearest_97 cn bk l' q14) else (jX5_nearest_97 cn bk l' q11) else some ((-1 : Int32), cn, l')) := by
          unfold fX5_nearest fX0_few
          rw [hcx, hx, Option.bind_some, if_neg (by decide), if_neg hy, within_ok, hv, Option.bind_some, if_pos (by decide), p1, Option.bind_some, Option.bind_some, h1.2.2.2.2.2, no_ok p2.m1 hn h6 ht, Option.bind_some]
        have em : fX6_nearest co rf cp lk (nI t) y v = (if y < nI (nearL n g f nt w t).length then (if ¬ v = 0 then (gd (inB y 50) ((fJxf58ca_floatToIntBits_5c35a (k1.2.2 (y).toNatClampNeg)).bind fun q11 => jX6_nearest_63 co rf c1 k1 q11)) else (gd (inB y 50) (jX6_nearest_63 co rf c1 k1 (k1.2.1 (y).toNatClampNeg)))) else some ((-1 : Int32), rf, c1, k1)) := by
          unfold fX6_nearest
          rw [hmx, hx, Option.bind_some, if_neg (by decide), if_neg hy, in_ok, hv, Option.bind_some, if_pos (by decide), s1, Option.bind_some]
          dsimp only
          rw [s2]
        by_cases hk : y < nI (nearL n g f nt w t).length
        · obtain ⟨k, hk2, rfl⟩ := nI_of hy
          have hk3 : k < (nearL n g f nt w t).length := by
            rcases Nat.lt_or_ge k (nearL n g f nt w t).length with a | a
            · exact a
            · exact absurd hk (nI_nlt a hk2)
          obtain ⟨a, ha⟩ : ∃ a, (nearL n g f nt w t)[k]? = some a := ⟨_, List.getElem?_eq_getElem hk3⟩
          obtain ⟨m1, m2, m3⟩ := nearL_mem (List.mem_of_getElem? ha)
          have m4 : a.1 < n := by omega
          rw [if_pos hk, ne_ok p2.m1 hn h6 ht ha, Option.bind_some] at ec
          rw [if_pos hk, gd_t (inB_nI (by omega) (by decide)), gd_t (inB_nI (by omega) (by decide)), cl_nI (by omega), s3 k a ha, s4 k a ha] at em
          by_cases v0 : v = 0
          · rw [if_neg (fun z => z v0)] at ec em
            exact ⟨nI a.1, cn, l', rf, c1, k1, ec, em, hc, p2.LI⟩
          · rw [if_pos v0, bt2_ok p2.m1 hn ht m4 (Ne.symm m2), Option.bind_some, bn_ok (gO_dist h3 ht m4) (by decide), Option.bind_some, m3] at ec
            rw [if_pos v0, fbits (dist_n h3 ht m4 m3).1.ne, Option.bind_some] at em
            exact ⟨a.2.toInt32, cn, l', rf, c1, k1, ec, em, hc, p2.LI⟩
        · rw [if_neg hk] at ec em
          exact ⟨-1, cn, l', rf, c1, k1, ec, em, hc, p2.LI⟩
theorem q_likes {n g f : Nat} {nt : Nat → Int32} {w : Nat → Nat} {bk : Tbk} {co : Tco} {li : Tli} {cn : Tcn} {rf : Nat → Int32} (h : BK n nt w g f bk co) (hl : LI n g nt w li) (hc : ctP cn rf) (cp : Int32) (lk : Tlk) (x : Int32) :
    ∃ r cn' li' rf' cp' lk', fX5_likes cn bk li x = some (r, cn', li') ∧ fX6_likes co rf cp lk x = some (r, rf', cp', lk') ∧ ctP cn' rf' ∧ LI n g nt w li' := by
  obtain ⟨h1, h2, h3, h4, h5, h6⟩ := h
  have hn := h1.1
  have hcx := has_c h1.2.1 hn
  have hmx := isDay_m h2.1.2.1 hn
  cases hx : isD n x with
  | false =>
    refine ⟨-2, _, li, _, cp, lk, ?_, ?_, hc.bad, hl⟩
    · unfold fX5_likes; rw [hcx, hx, Option.bind_some, if_neg (by decide)]; rfl
    · unfold fX6_likes; rw [hmx, hx, Option.bind_some, if_neg (by decide)]; rfl
  | true =>
    obtain ⟨l', p1, p2⟩ := le_ok h1 h3 h4 hl (x := -1) (by decide)
    obtain ⟨t, ht, rfl⟩ := isD_of hx (by omega)
    obtain ⟨c1, k1, s1, s2, -⟩ := sl_ok h2 h3 h4 ht cp lk
    refine ⟨nI (likeL n g nt w t n).length, cn, l', rf, c1, k1, ?_, ?_, hc, p2.LI⟩
    · unfold fX5_likes
      rw [hcx, hx, Option.bind_some, if_pos (by decide), p1, Option.bind_some, lo_ok p2.m1 hn ht, Option.bind_some]
    · unfold fX6_likes
      rw [hmx, hx, Option.bind_some, if_pos (by decide), s1, Option.bind_some]
      dsimp only
      rw [s2]
/-- how many days have a day among their near ones -/
def srvN (n g f : Nat) (nt : Nat → Int32) (w : Nat → Nat) (u : Nat) : Nat → Nat
  | 0 => 0
  | t + 1 => srvN n g f nt w u t + cntL (nearL n g f nt w t) u
theorem srv_in {co : Tco} {rf : Nat → Int32} {cp x3 : Int32} {lk : Tlk} {l : List (Nat × UInt32)} (h : lkP l lk) (hl : l.length ≤ 50) (hm : ∀ p ∈ l, p.1 < 2 ^ 31) {u : Nat} (hu : u < 2 ^ 31) (a : Nat) : lpF (bX6_serves_33 co rf cp lk (nI u) x3) FU (nI a, (0 : Int32)) = some (nI (a + cntL l u)) := by
  obtain ⟨s2, s3, s4⟩ := h
  have key := lp_cnt (B := bX6_serves_33 co rf cp lk (nI u) x3) (fun (k : Nat) (z : Int32 × Int32) => z = (nI (a + cntL (l.take k) u), nI k)) (fun (e : Int32) => e = nI (a + cntL l u)) l.length (by omega) ?_ ?_ (nI a, (0 : Int32)) rfl
  · obtain ⟨e, h1, h2⟩ := key
    rw [h1, h2]
  · rintro k z hk hz
    subst hz
    obtain ⟨b, hb⟩ : ∃ b, l[k]? = some b := ⟨_, List.getElem?_eq_getElem hk⟩
    refine ⟨_, ?_, rfl⟩
    unfold bX6_serves_33
    dsimp only
    rw [s2, if_neg (nI_ge hk (by omega)), gd_t (inB_nI (by omega) (by decide)), cl_nI (by omega), s3 k b hb]
    unfold jX6_serves_33_59
    have e1 : cntL (l.take (k + 1)) u = cntL (l.take k) u + if b.1 = u then 1 else 0 := by
      unfold cntL
      rw [List.take_add_one, hb, List.countP_append]
      by_cases c : b.1 = u
      · simp [c]
      · simp [c]
    rw [nI_1]
    by_cases c : b.1 = u
    · rw [if_neg (fun z => z (by show nI b.1 = _; rw [c])), e1, if_pos c, nI_1, Nat.add_assoc]
    · rw [if_pos (fun z => c ((nI_eq (hm b (List.mem_of_getElem? hb)) hu).mp z)), e1, if_neg c, show (0 : Int32) = nI 0 from rfl, nI_add, Nat.add_zero]; rfl
  · rintro z hz
    subst hz
    refine ⟨_, ?_, rfl⟩
    unfold bX6_serves_33
    dsimp only
    rw [s2, if_pos (nI_le (Nat.le_refl _) (by omega)), List.take_length]
theorem q_serves {n g f : Nat} {nt : Nat → Int32} {w : Nat → Nat} {bk : Tbk} {co : Tco} {li : Tli} {cn : Tcn} {rf : Nat → Int32} (h : BK n nt w g f bk co) (hl : LI n g nt w li) (hc : ctP cn rf) (cp : Int32) (lk : Tlk) (x : Int32) :
    ∃ r cn' li' rf' cp' lk', fX5_serves cn bk li x = some (r, cn', li') ∧ fX6_serves co rf cp lk x = some (r, rf', cp', lk') ∧ ctP cn' rf' ∧ LI n g nt w li' := by
  obtain ⟨h1, h2, h3, h4, h5, h6⟩ := h
  have hn := h1.1
  have hcx := has_c h1.2.1 hn
  have hmx := isDay_m h2.1.2.1 hn
  cases hx : isD n x with
  | false =>
    refine ⟨-2, _, li, _, cp, lk, ?_, ?_, hc.bad, hl⟩
    · unfold fX5_serves; rw [hcx, hx, Option.bind_some, if_neg (by decide)]; rfl
    · unfold fX6_serves; rw [hmx, hx, Option.bind_some, if_neg (by decide)]; rfl
  | true =>
    obtain ⟨l', p1, p2⟩ := le_ok h1 h3 h4 hl (x := -1) (by decide)
    obtain ⟨u, hu, rfl⟩ := isD_of hx (by omega)
    have kc := lp_cnt (B := bX5_serves_34 cn bk l' (nI u)) (fun (t : Nat) (z : Int32 × Int32) => z = (nI (srvN n g f nt w u t), nI t)) (fun (e : Int32) => e = nI (srvN n g f nt w u n)) n (by omega) (by
      rintro t z ht hz
      subst hz
      refine ⟨_, ?_, rfl⟩
      unfold bX5_serves_34 fX0_days fX0_few
      dsimp only
      rw [Option.bind_some, h1.2.1, if_neg (nI_ge ht (by omega)), Option.bind_some, h1.2.2.2.2.2, isn_ok p2.m1 hn h6 ht hu, Option.bind_some]
      unfold jX5_serves_34_67
      rw [nI_1, srvN]
      have hc := cntL_near (n := n) (g := g) (f := f) (nt := nt) (w := w) (t := t) (v := u)
      by_cases c : cntL (nearL n g f nt w t) u = 0
      · rw [c, if_pos (by decide)]; rfl
      · rw [show cntL (nearL n g f nt w t) u = 1 by omega, if_neg (by decide), nI_1]) (by
      rintro z hz
      subst hz
      refine ⟨_, ?_, rfl⟩
      unfold bX5_serves_34 fX0_days
      dsimp only
      rw [Option.bind_some, h1.2.1, if_pos (nI_le (Nat.le_refl _) (by omega))]) ((0 : Int32), (0 : Int32)) rfl
    have km := lp_cnt (B := bX6_serves_17 co rf (nI u)) (fun (t : Nat) (z : Int32 × Int32 × Int32 × Tlk) => z.1 = nI (srvN n g f nt w u t) ∧ z.2.1 = nI t) (fun (e : Int32 × Int32 × Tlk) => e.1 = nI (srvN n g f nt w u n)) n (by omega) (by
      rintro t ⟨z1, z2, z3, z4⟩ ht ⟨e1, e2⟩
      have e1 : z1 = nI (srvN n g f nt w u t) := e1
      have e2 : z2 = nI t := e2
      subst e1 e2
      obtain ⟨c1, k1, s1, s2⟩ := sn_ok h2 h3 h4 h6 ht z3 z4
      refine ⟨(nI (srvN n g f nt w u (t + 1)), nI (t + 1), c1, k1), ?_, rfl, rfl⟩
      unfold bX6_serves_17
      dsimp only
      rw [h2.1.2.1, if_neg (nI_ge ht (by omega)), s1, Option.bind_some, srv_in s2 (by rw [nearL_len]; omega) (fun p hp => by have := (nearL_mem hp).1; omega) (by omega), Option.bind_some, nI_1]
      rfl) (by
      rintro ⟨z1, z2, z3, z4⟩ ⟨e1, e2⟩
      have e1 : z1 = nI (srvN n g f nt w u n) := e1
      have e2 : z2 = nI n := e2
      subst e1 e2
      refine ⟨(nI (srvN n g f nt w u n), z3, z4), ?_, rfl⟩
      unfold bX6_serves_17
      dsimp only
      rw [h2.1.2.1, if_pos (nI_le (Nat.le_refl _) (by omega))]) ((0 : Int32), (0 : Int32), cp, lk) ⟨rfl, rfl⟩
    obtain ⟨e, k1, k2⟩ := kc
    obtain ⟨⟨e1, e2, e3⟩, k3, k4⟩ := km
    have k4 : e1 = nI (srvN n g f nt w u n) := k4
    subst k2 k4
    refine ⟨nI (srvN n g f nt w u n), cn, l', rf, e2, e3, ?_, ?_, hc, p2.LI⟩
    · unfold fX5_serves
      rw [hcx, hx, Option.bind_some, if_pos (by decide), p1, Option.bind_some, k1, Option.bind_some]
    · unfold fX6_serves
      rw [hmx, hx, Option.bind_some, if_pos (by decide), k3, Option.bind_some]
