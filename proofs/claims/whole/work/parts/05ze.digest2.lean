/-! ===== digest: the nearest ===== -/
def nr0 (n g f : Nat) (nt : Nat → Int32) (w : Nat → Nat) (t : Nat) : Int32 := match (nearL n g f nt w t)[0]? with
  | none => -1
  | some a => nI a.1
def nr1 (n g f : Nat) (nt : Nat → Int32) (w : Nat → Nat) (t : Nat) : Int32 := match (nearL n g f nt w t)[0]? with
  | none => -1
  | some a => a.2.toInt32
theorem nr_c {n g f : Nat} {nt : Nat → Int32} {w : Nat → Nat} {bk : Tbk} {co : Tco} {li : Tli} {cn : Tcn} (h : BK n nt w g f bk co) (hl : LI n g nt w li) {t : Nat} (ht : t < n) : ∃ l' l'', fX5_nearest cn bk li (nI t) 0 0 = some (nr0 n g f nt w t, cn, l') ∧ fX5_nearest cn bk l' (nI t) 0 1 = some (nr1 n g f nt w t, cn, l'') ∧ LI n g nt w l'' := by
  obtain ⟨h1, h2, h3, h4, h5, h6⟩ := h
  have hn := h1.1
  have hcx := has_c h1.2.1 hn
  have key : ∀ (li : Tli), LI n g nt w li → ∀ v : Int32, inR v 0 1 = true → ∃ l', lrn n g nt w (-1) l' ∧ fX5_nearest cn bk li (nI t) 0 v = (if (0 : Int32) < nI (nearL n g f nt w t).length then (fX2_near l' (nI t) 0).bind fun q11 => if ¬ v = 0 then ((fX2_between l' (nI t) q11).bind fun q13 => (fX5_bitsOrNone q13).bind fun q14 => jX5_nearest_97 cn bk l' q14) else (jX5_nearest_97 cn bk l' q11) else some ((-1 : Int32), cn, l')) := by
    intro li hl v hv
    obtain ⟨l', p1, p2⟩ := le_ok h1 h3 h4 hl (x := -1) (by decide)
    refine ⟨l', p2, ?_⟩
    unfold fX5_nearest fX0_few
    rw [hcx, isD_nI ht (by omega), Option.bind_some, if_neg (by decide), if_neg (by decide), within_ok, hv, Option.bind_some, if_pos (by decide), p1, Option.bind_some, Option.bind_some, h1.2.2.2.2.2, no_ok p2.m1 hn h6 ht, Option.bind_some]
  obtain ⟨l', p1, p2⟩ := key li hl 0 (by decide)
  obtain ⟨l'', q1, q2⟩ := key l' p1.LI 1 (by decide)
  have hlen : (nearL n g f nt w t).length ≤ 12 := by rw [nearL_len]; omega
  refine ⟨l', l'', ?_, ?_, q1.LI⟩
  · rw [p2]
    unfold nr0
    cases hL : (nearL n g f nt w t)[0]? with
    | none =>
      have h0 : (nearL n g f nt w t).length = 0 := by have := List.getElem?_eq_none_iff.mp hL; omega
      rw [h0, if_neg (by decide)]
    | some a =>
      have h0 : 0 < (nearL n g f nt w t).length := (List.getElem?_eq_some_iff.mp hL).1
      rw [if_pos (show (0 : Int32) < nI (nearL n g f nt w t).length from nI_lt (a := 0) h0 (by omega)), show fX2_near l' (nI t) 0 = some (nI a.1) from ne_ok p1.m1 hn h6 ht hL, Option.bind_some, if_neg (by decide)]
      rfl
  · rw [q2]
    unfold nr1
    cases hL : (nearL n g f nt w t)[0]? with
    | none =>
      have h0 : (nearL n g f nt w t).length = 0 := by have := List.getElem?_eq_none_iff.mp hL; omega
      rw [h0, if_neg (by decide)]
    | some a =>
      have h0 : 0 < (nearL n g f nt w t).length := (List.getElem?_eq_some_iff.mp hL).1
      obtain ⟨m1, m2, m3⟩ := nearL_mem (List.mem_of_getElem? hL)
      have m4 : a.1 < n := by omega
      rw [if_pos (show (0 : Int32) < nI (nearL n g f nt w t).length from nI_lt (a := 0) h0 (by omega)), show fX2_near l'' (nI t) 0 = some (nI a.1) from ne_ok q1.m1 hn h6 ht hL, Option.bind_some, if_pos (by decide), bt2_ok q1.m1 hn ht m4 (Ne.symm m2), Option.bind_some, bn_ok (gO_dist h3 ht m4) (by decide), Option.bind_some, m3]
      rfl
def dgR (n g f : Nat) (nt : Nat → Int32) (w : Nat → Nat) (h : Int64) : Nat → Int64
  | 0 => h
  | t + 1 => (31 : Int64) * ((31 : Int64) * dgR n g f nt w h t + (nr0 n g f nt w t).toInt64) + (nr1 n g f nt w t).toInt64
theorem dg114 {n g f : Nat} {nt : Nat → Int32} {w : Nat → Nat} {bk : Tbk} {co : Tco} {li : Tli} {cn : Tcn} {st : Tst} {fo : Tfo} {tx : Ttx} (h : BK n nt w g f bk co) (hl : LI n g nt w li) (h0 : Int64) : ∃ l', lpF (bX5_digest_114 bk st fo tx) FU (h0, (0 : Int32), cn, li) = some (dgR n g f nt w h0 n, cn, l') ∧ LI n g nt w l' := by
  have hn := h.1.1
  have hd := h.1.2.1
  have key := lp_cnt (B := bX5_digest_114 bk st fo tx) (fun (t : Nat) (z : Int64 × Int32 × Tcn × Tli) => ∃ l', z = (dgR n g f nt w h0 t, nI t, cn, l') ∧ LI n g nt w l') (fun (e : Int64 × Tcn × Tli) => ∃ l', e = (dgR n g f nt w h0 n, cn, l') ∧ LI n g nt w l') n (by omega) ?_ ?_ (h0, (0 : Int32), cn, li) ⟨li, rfl, hl⟩
  · obtain ⟨e, k1, l', k2, k3⟩ := key
    exact ⟨l', by rw [k1, k2], k3⟩
  · rintro t z ht ⟨l', hz, hl'⟩
    subst hz
    obtain ⟨l1, l2, p1, p2, p3⟩ := nr_c (cn := cn) h hl' ht
    refine ⟨_, ?_, l2, rfl, p3⟩
    unfold bX5_digest_114 fX0_days
    dsimp only
    rw [Option.bind_some, hd, if_neg (nI_ge ht (by omega)), p1, Option.bind_some]
    dsimp only
    rw [p2, Option.bind_some, nI_1]
    rfl
  · rintro z ⟨l', hz, hl'⟩
    subst hz
    refine ⟨_, ?_, l', rfl, hl'⟩
    unfold bX5_digest_114 fX0_days
    dsimp only
    rw [Option.bind_some, hd, if_pos (nI_le (Nat.le_refl _) (by omega))]
theorem dg92 {n g f : Nat} {nt : Nat → Int32} {w : Nat → Nat} {bk : Tbk} {co : Tco} {ke : Tke} {rf : Nat → Int32} {fl : Tfl} {em : Int32} {tm : Ttm} (h : BK n nt w g f bk co) (h0 : Int64) (cp : Int32) (lk : Tlk) : ∃ cp' lk', lpF (bX6_digest_92 co ke rf fl em tm) FU (h0, (0 : Int32), cp, lk) = some (dgR n g f nt w h0 n, cp', lk') := by
  obtain ⟨h1, h2, h3, h4, h5, h6⟩ := h
  have hn := h1.1
  have key := lp_cnt (B := bX6_digest_92 co ke rf fl em tm) (fun (t : Nat) (z : Int64 × Int32 × Int32 × Tlk) => ∃ c l', z = (dgR n g f nt w h0 t, nI t, c, l')) (fun (e : Int64 × Int32 × Tlk) => ∃ c l', e = (dgR n g f nt w h0 n, c, l')) n (by omega) ?_ ?_ (h0, (0 : Int32), cp, lk) ⟨cp, lk, rfl⟩
  · obtain ⟨e, k1, c, l', k2⟩ := key
    exact ⟨c, l', by rw [k1, k2]⟩
  · rintro t z ht ⟨c, l', hz⟩
    subst hz
    obtain ⟨c1, k1, s1, s2, s3, s4⟩ := sn_ok h2 h3 h4 h6 ht c l'
    have hlen : (nearL n g f nt w t).length ≤ 12 := by rw [nearL_len]; omega
    refine ⟨(dgR n g f nt w h0 (t + 1), nI (t + 1), c1, k1), ?_, c1, k1, rfl⟩
    unfold bX6_digest_92
    dsimp only
    rw [h2.1.2.1, if_neg (nI_ge ht (by omega)), s1, Option.bind_some]
    dsimp only
    unfold jX6_digest_92_127 jX6_digest_92_155
    rw [s2, nI_1, dgR]
    unfold nr0 nr1
    cases hL : (nearL n g f nt w t)[0]? with
    | none =>
      have e0 : (nearL n g f nt w t).length = 0 := by have := List.getElem?_eq_none_iff.mp hL; omega
      rw [e0, if_neg (by decide), if_neg (by decide)]
    | some a =>
      have e0 : 0 < (nearL n g f nt w t).length := (List.getElem?_eq_some_iff.mp hL).1
      obtain ⟨m1, m2, m3⟩ := nearL_mem (List.mem_of_getElem? hL)
      have m4 : a.1 < n := by omega
      rw [if_pos (nI_ne0 e0 (by omega)), gd_t (by decide), if_pos (nI_ne0 e0 (by omega)), gd_t (by decide), show k1.2.1 ((0 : Int32)).toNatClampNeg = nI a.1 from s3 0 a hL, show k1.2.2 ((0 : Int32)).toNatClampNeg = a.2 from s4 0 a hL, fbits (dist_n h3 ht m4 m3).1.ne, Option.bind_some]
  · rintro z ⟨c, l', hz⟩
    subst hz
    refine ⟨_, ?_, c, l', rfl⟩
    unfold bX6_digest_92
    dsimp only
    rw [h2.1.2.1, if_pos (nI_le (Nat.le_refl _) (by omega))]
theorem q_digest {a : TA} {S : List TA} {cn : Tcn} {bk : Tbk} {st : Tst} {li : Tli} {fo : Tfo} {co : Tco} {ke : Tke} {rf : Nat → Int32} {l : Nat} {tx : Ttx} {tm : Ttm} (h : BT a bk co) (hl : LT a li) (h3 : st.2 = nI S.length) (h4 : ke.1 = nI S.length) (h5 : tx.2.2.1 = nI l) (h6 : tm.2 = nI l) (hc : ctP cn rf) (cp : Int32) (lk : Tlk) (fl : Tfl) (em : Int32) :
    ∃ r li' fo' cp' lk' fl' em', fX5_digest cn bk st li fo tx = some (r, cn, li', fo') ∧ fX6_digest co ke rf cp lk fl em tm = some (r, cp', lk', fl', em') ∧ LT a li' := by
  obtain ⟨l1, a1, a2⟩ := dg114 (cn := cn) (st := st) (fo := fo) (tx := tx) h.k hl (dgF a.2.1 (dgF (fun m => nI (a.2.2.1 m)) (dgF (tdV a S l cn) 2161 8) 4) (a.1 * 4))
  obtain ⟨c1, k1, b1⟩ := dg92 (ke := ke) (rf := rf) (fl := fl) (em := em) (tm := tm) h.k (dgF a.2.1 (dgF (fun m => nI (a.2.2.1 m)) (dgF (tdV a S l cn) 2161 8) 4) (a.1 * 4)) cp lk
  obtain ⟨r, cn', li', fo', rf', c2, k2, f2, e2, p1, p2, p3, p4⟩ := q_errs h.k a2 hc fo c1 k1 fl em 0
  have hcn : cn' = cn ∧ fX6_errsTold co c1 k1 fl em 0 = some (r, c2, k2, f2, e2) := by
    have q1 := p1
    have q2 := p2
    unfold fX5_errs at q1
    unfold fX6_errs at q2
    rw [member_c, show isD 4 0 = true by decide, Option.bind_some, if_pos (by decide)] at q1
    rw [member_m, show isD 4 0 = true by decide, Option.bind_some, if_neg (by decide)] at q2
    refine ⟨?_, ?_⟩
    · obtain ⟨x1, y1, q1⟩ := Option.bind_eq_some_iff.mp q1
      obtain ⟨x2, y2, q1⟩ := Option.bind_eq_some_iff.mp q1
      obtain ⟨x3, y3, q1⟩ := Option.bind_eq_some_iff.mp q1
      obtain ⟨x4, y4, q1⟩ := Option.bind_eq_some_iff.mp q1
      injection q1 with q1
      injection q1 with _ q1
      injection q1 with q1 _
      exact q1.symm
    · obtain ⟨x1, y1, q2⟩ := Option.bind_eq_some_iff.mp q2
      rw [y1]
      unfold jX6_errs_19 at q2
      injection q2 with q2
      injection q2 with g1 q2
      injection q2 with _ q2
      injection q2 with g2 q2
      injection q2 with g3 q2
      injection q2 with g4 g5
      rw [← g1, ← g2, ← g3, ← g4, ← g5]
  obtain ⟨rfl, he⟩ := hcn
  refine ⟨(31 : Int64) * dgR a.1 a.2.2.2.1 a.2.2.2.2 a.2.1 a.2.2.1 (dgF a.2.1 (dgF (fun m => nI (a.2.2.1 m)) (dgF (tdV a S l cn') 2161 8) 4) (a.1 * 4)) a.1 + r.toInt64, li', fo', c2, k2, f2, e2, ?_, ?_, p4⟩
  rotate_left
  · unfold fX6_digest
    rw [dg6_m (cn := cn') h.2.1 h4 h6 hc, Option.bind_some, dg33_m h.2.1, Option.bind_some, dg60_m h.2.1, Option.bind_some, b1, Option.bind_some, he, Option.bind_some]
  · unfold fX5_digest
    rw [dg6_c (S := S) h.1 h3 h5, Option.bind_some, dg33_c h.1, Option.bind_some, dg62_c h.1, Option.bind_some, a1, Option.bind_some, p1, Option.bind_some]
