/-! ===== rules and back on both sides ===== -/
def isR (x v : Int32) : Bool := if x = 4 then inR v 0 9 else if x = 5 then inR v 1 12 else (isD 4 x && inR v 0 80)
theorem rule_c (x v : Int32) : fX5_isRule x v = some (b2I (isR x v)) := by
  unfold fX5_isRule isR
  by_cases c4 : x = 4
  · rw [if_neg (fun z => z c4), if_pos c4, within_ok, Option.bind_some, gd_b2I]
  · rw [if_pos c4, if_neg c4]
    by_cases c5 : x = 5
    · rw [if_neg (fun z => z c5), if_pos c5, within_ok, Option.bind_some, gd_b2I]
    · rw [if_pos c5, if_neg c5, member_c, Option.bind_some]
      cases isD 4 x with
      | false => rfl
      | true =>
        rw [if_neg (by decide), within_ok, Option.bind_some]
        cases inR v 0 80 with
        | false => rfl
        | true => rfl
theorem rule_m (co : Tco) (ke : Tke) (rf : Nat → Int32) (x v : Int32) : fX6_rules co ke rf x v = jX6_rules_52 co ke rf x v (b2I (isR x v)) := by
  unfold fX6_rules isR
  by_cases c4 : x = 4
  · rw [if_neg (fun z => z c4), if_pos c4, in_ok, Option.bind_some]
  · rw [if_pos c4, if_neg c4]
    by_cases c5 : x = 5
    · rw [if_neg (fun z => z c5), if_pos c5, in_ok, Option.bind_some]
    · rw [if_pos c5, if_neg c5, member_m, Option.bind_some]
      cases isD 4 x with
      | false => rfl
      | true =>
        rw [if_neg (by decide), in_ok, Option.bind_some]
        cases inR v 0 80 with
        | false => rfl
        | true => rfl
theorem q_rules {a : TA} {S : List TA} {cn : Tcn} {bk : Tbk} {st : Tst} {r0 r1 r2 r3 r4 : Tbk} {li : Tli} {co : Tco} {ke : Tke} {rf : Nat → Int32} (h : WI a S cn bk st r0 r1 r2 r3 r4 li co ke rf) (x v : Int32) :
    ∃ r a' S' cn' bk' st' r0' r1' r2' r3' r4' li' co' ke' rf', fX5_rules cn bk st r0 r1 r2 r3 r4 li x v = some (r, cn', bk', st', r0', r1', r2', r3', r4', li') ∧ fX6_rules co ke rf x v = some (r, co', ke', rf') ∧ WI a' S' cn' bk' st' r0' r1' r2' r3' r4' li' co' ke' rf' := by
  obtain ⟨st', s0, s1, s2, s3, s4, li', ke', k1, k2, k3, k4, k5, k6⟩ := keep_ok h
  obtain ⟨hB, h4, h5, h6, h7, h8⟩ := h
  cases hr : isR x v with
  | false =>
    refine ⟨-2, a, S, _, bk, st, r0, r1, r2, r3, r4, li, co, ke, _, ?_, ?_, hB, h4, h5, h6, h7, h8.bad⟩
    · unfold fX5_rules; rw [rule_c, hr, Option.bind_some, if_neg (by decide)]; rfl
    · rw [rule_m, hr]; unfold jX6_rules_52; rw [if_neg (by decide)]; rfl
  | true =>
    have ec : fX5_rules cn bk st r0 r1 r2 r3 r4 li x v = ((fX0_rule bk x).bind fun q3 => (fX0_setRule bk x v).bind fun q5 => some (q3, cn, q5, st', s0, s1, s2, s3, s4, li')) := by
      unfold fX5_rules
      rw [rule_c, hr, Option.bind_some, if_pos (by decide), k1]
      rfl
    have em : fX6_rules co ke rf x v = gd (inB x 6) (gd (inB x 6) (some ((co.2.1 (x).toNatClampNeg), (co.1, (upd co.2.1 (x).toNatClampNeg v), co.2.2), ke', rf))) := by
      rw [rule_m, hr]
      unfold jX6_rules_52
      rw [if_pos (by decide), k2]
      rfl
    obtain ⟨⟨a1, a2, a3, a4, a5, a6⟩, ⟨⟨b1, b2, b3, b4⟩, b5, b6⟩, c1, c2, c3, c4, c5⟩ := hB
    unfold isR at hr
    by_cases x4 : x = 4
    · subst x4
      rw [if_pos rfl] at hr
      obtain ⟨k, hk, rfl⟩ := inR_nI (n := 9) rfl hr
      refine ⟨nI a.2.2.2.1, (a.1, a.2.1, a.2.2.1, k, a.2.2.2.2), (a :: S).take 5, cn, (bk.1, bk.2.1, bk.2.2.1, nI k, bk.2.2.2.2), st', s0, s1, s2, s3, s4, li', (co.1, upd co.2.1 4 (nI k), co.2.2), ke', rf, ?_, ?_, ⟨⟨a1, a2, a3, a4, rfl, a6⟩, ⟨⟨b1, b2, b3, fun m hm => ?_⟩, ?_, ?_⟩, c1, c2, hk, c4, c5⟩, k6 _, k3, k4, k5, h8⟩
      · rw [ec]
        unfold fX0_rule fX0_setRule
        rw [if_neg (by decide), if_neg (by decide), a5]
        rfl
      · rw [em, gd_t (by decide), gd_t (by decide), show ((4 : Int32)).toNatClampNeg = 4 from rfl, b5]
      · show upd co.2.1 4 (nI k) m = _
        unfold upd; rw [if_neg (by omega)]; exact b4 m hm
      · show upd co.2.1 4 (nI k) 4 = _
        unfold upd; rw [if_pos rfl]
      · show upd co.2.1 4 (nI k) 5 = _
        unfold upd; rw [if_neg (by decide)]; exact b6
    · rw [if_neg x4] at hr
      by_cases x5 : x = 5
      · subst x5
        rw [if_pos rfl] at hr
        have hr2 : inR v 0 12 = true := by
          have h1 := of_decide_eq_true hr
          have e1 : ((1 : Int32)).toInt = 1 := rfl
          have e0 : ((0 : Int32)).toInt = 0 := rfl
          refine decide_eq_true ?_
          rw [e1] at h1
          rw [e0]
          omega
        obtain ⟨k, hk, rfl⟩ := inR_nI (n := 12) rfl hr2
        have hk1 : 1 ≤ k := by
          have h1 := (of_decide_eq_true hr).1
          have e1 : ((1 : Int32)).toInt = 1 := rfl
          rw [e1, nI_toInt (by omega)] at h1
          omega
        refine ⟨nI a.2.2.2.2, (a.1, a.2.1, a.2.2.1, a.2.2.2.1, k), (a :: S).take 5, cn, (bk.1, bk.2.1, bk.2.2.1, bk.2.2.2.1, nI k), st', s0, s1, s2, s3, s4, li', (co.1, upd co.2.1 5 (nI k), co.2.2), ke', rf, ?_, ?_, ⟨⟨a1, a2, a3, a4, a5, rfl⟩, ⟨⟨b1, b2, b3, fun m hm => ?_⟩, ?_, ?_⟩, c1, c2, c3, hk1, hk⟩, k6 _, k3, k4, k5, h8⟩
        · rw [ec]
          unfold fX0_rule fX0_setRule
          rw [if_pos (by decide), if_neg (by decide), if_pos (by decide), if_neg (by decide), a6]
          rfl
        · rw [em, gd_t (by decide), gd_t (by decide), show ((5 : Int32)).toNatClampNeg = 5 from rfl, b6]
        · show upd co.2.1 5 (nI k) m = _
          unfold upd; rw [if_neg (by omega)]; exact b4 m hm
        · show upd co.2.1 5 (nI k) 4 = _
          unfold upd; rw [if_neg (by decide)]; exact b5
        · show upd co.2.1 5 (nI k) 5 = _
          unfold upd; rw [if_pos rfl]
      · rw [if_neg x5] at hr
        obtain ⟨hx, hv⟩ := Bool.and_eq_true_iff.mp hr
        obtain ⟨m, hm, rfl⟩ := isD_of hx (by decide)
        obtain ⟨k, hk, rfl⟩ := inR_nI (n := 80) rfl hv
        refine ⟨nI (a.2.2.1 m), (a.1, a.2.1, (fun i => if i = m then k else a.2.2.1 i), a.2.2.2.1, a.2.2.2.2), (a :: S).take 5, cn, (bk.1, upd bk.2.1 m (nI k), bk.2.2.1, bk.2.2.2.1, bk.2.2.2.2), st', s0, s1, s2, s3, s4, li', (co.1, upd co.2.1 m (nI k), co.2.2), ke', rf, ?_, ?_, ⟨⟨a1, a2, a3, fun i hi => ?_, a5, a6⟩, ⟨⟨b1, b2, b3, fun i hi => ?_⟩, ?_, ?_⟩, c1, ⟨c2.1, fun i hi => ?_⟩, c3, c4, c5⟩, k6 _, k3, k4, k5, h8⟩
        · rw [ec]
          unfold fX0_rule fX0_setRule
          rw [if_pos x4, if_pos x5, member_c, hx, Option.bind_some, if_neg (by decide), gd_t (inB_nI hm (by decide)), if_pos x4, if_pos x5, Option.bind_some, if_neg (by decide), gd_t (inB_nI hm (by decide)), cl_nI (by omega), a4 m hm]
          rfl
        · rw [em, gd_t (inB_nI (by omega) (by decide)), gd_t (inB_nI (by omega) (by decide)), cl_nI (by omega), b4 m hm]
        · show upd bk.2.1 m (nI k) i = nI (if i = m then k else a.2.2.1 i)
          unfold upd
          by_cases c : i = m
          · rw [if_pos c, if_pos c]
          · rw [if_neg c, if_neg c]; exact a4 i hi
        · show upd co.2.1 m (nI k) i = nI (if i = m then k else a.2.2.1 i)
          unfold upd
          by_cases c : i = m
          · rw [if_pos c, if_pos c]
          · rw [if_neg c, if_neg c]; exact b4 i hi
        · show upd co.2.1 m (nI k) 4 = _
          unfold upd; rw [if_neg (by omega)]; exact b5
        · show upd co.2.1 m (nI k) 5 = _
          unfold upd; rw [if_neg (by omega)]; exact b6
        · show (if i = m then k else a.2.2.1 i) ≤ 80
          by_cases c : i = m
          · rw [if_pos c]; exact hk
          · rw [if_neg c]; exact c2.2 i hi
theorem bk51 {ke : Tke} {rf : Nat → Int32} {co : Tco} {b : Nat} (hb : b + 207 ≤ 1035) : ∃ r', lpF (bX6_back_51 ke rf (nI b)) FU ((0 : Int32), co) = some (co.1, r', co.2.2) ∧ ∀ i, i < 6 → r' i = ke.2 (b + 1 + i) := by
  have key := lp_cnt (B := bX6_back_51 ke rf (nI b)) (fun (j : Nat) (z : Int32 × Tco) => z.1 = nI j ∧ z.2.1 = co.1 ∧ z.2.2.2 = co.2.2 ∧ ∀ i, i < j → z.2.2.1 i = ke.2 (b + 1 + i)) (fun (e : Tco) => e.1 = co.1 ∧ e.2.2 = co.2.2 ∧ ∀ i, i < 6 → e.2.1 i = ke.2 (b + 1 + i)) 6 (by decide) ?_ ?_ ((0 : Int32), co) ⟨rfl, rfl, rfl, fun i hi => absurd hi (Nat.not_lt_zero i)⟩
  · obtain ⟨⟨e1, e2, e3⟩, k1, k2, k3, k4⟩ := key
    have k2 : e1 = co.1 := k2
    have k3 : e3 = co.2.2 := k3
    subst k2 k3
    exact ⟨e2, k1, k4⟩
  · rintro j ⟨z1, z2⟩ hj ⟨e1, e2, e3, e4⟩
    have e1 : z1 = nI j := e1
    subst e1
    refine ⟨(nI (j + 1), (z2.1, upd z2.2.1 j (ke.2 (b + 1 + j)), z2.2.2)), ?_, rfl, e2, e3, fun i hi => ?_⟩
    · unfold bX6_back_51
      dsimp only
      rw [if_neg (show ¬ (6 : Int32) ≤ nI j from nI_ge (b := 6) hj (by decide)), nI_1, nI_add, gd_t (inB_nI (by omega) (by decide)), gd_t (inB_nI (by omega) (by decide)), cl_nI (by omega), cl_nI (by omega), nI_1]
    · show upd z2.2.1 j (ke.2 (b + 1 + j)) i = _
      unfold upd
      by_cases c : i = j
      · rw [if_pos c, c]
      · rw [if_neg c]; exact e4 i (by omega)
  · rintro ⟨z1, z2⟩ ⟨e1, e2, e3, e4⟩
    have e1 : z1 = nI 6 := e1
    subst e1
    refine ⟨z2, ?_, e2, e3, e4⟩
    unfold bX6_back_51
    dsimp only
    rw [if_pos (by decide)]
theorem bk81 {ke : Tke} {rf : Nat → Int32} {co : Tco} {b : Nat} (hb : b + 207 ≤ 1035) : ∃ r', lpF (bX6_back_81 ke rf (nI b)) FU ((0 : Int32), co) = some (co.1, co.2.1, r') ∧ ∀ i, i < 200 → r' i = ke.2 (b + 7 + i) := by
  have key := lp_cnt (B := bX6_back_81 ke rf (nI b)) (fun (j : Nat) (z : Int32 × Tco) => z.1 = nI j ∧ z.2.1 = co.1 ∧ z.2.2.1 = co.2.1 ∧ ∀ i, i < j → z.2.2.2 i = ke.2 (b + 7 + i)) (fun (e : Tco) => e.1 = co.1 ∧ e.2.1 = co.2.1 ∧ ∀ i, i < 200 → e.2.2 i = ke.2 (b + 7 + i)) 200 (by decide) ?_ ?_ ((0 : Int32), co) ⟨rfl, rfl, rfl, fun i hi => absurd hi (Nat.not_lt_zero i)⟩
  · obtain ⟨⟨e1, e2, e3⟩, k1, k2, k3, k4⟩ := key
    have k2 : e1 = co.1 := k2
    have k3 : e2 = co.2.1 := k3
    subst k2 k3
    exact ⟨e3, k1, k4⟩
  · rintro j ⟨z1, z2⟩ hj ⟨e1, e2, e3, e4⟩
    have e1 : z1 = nI j := e1
    subst e1
    refine ⟨(nI (j + 1), (z2.1, z2.2.1, upd z2.2.2 j (ke.2 (b + 7 + j)))), ?_, rfl, e2, e3, fun i hi => ?_⟩
    · unfold bX6_back_81
      dsimp only
      rw [if_neg (show ¬ (200 : Int32) ≤ nI j from nI_ge (b := 200) hj (by decide)), show (7 : Int32) = nI 7 from rfl, nI_add, nI_add, gd_t (inB_nI (by omega) (by decide)), gd_t (inB_nI (by omega) (by decide)), cl_nI (by omega), cl_nI (by omega), nI_1]
    · show upd z2.2.2 j (ke.2 (b + 7 + j)) i = _
      unfold upd
      by_cases c : i = j
      · rw [if_pos c, c]
      · rw [if_neg c]; exact e4 i (by omega)
  · rintro ⟨z1, z2⟩ ⟨e1, e2, e3, e4⟩
    have e1 : z1 = nI 200 := e1
    subst e1
    refine ⟨z2, ?_, e2, e3, e4⟩
    unfold bX6_back_81
    dsimp only
    rw [if_pos (by decide)]
theorem q_back {a : TA} {S : List TA} {cn : Tcn} {bk : Tbk} {st : Tst} {r0 r1 r2 r3 r4 : Tbk} {li : Tli} {co : Tco} {ke : Tke} {rf : Nat → Int32} (h : WI a S cn bk st r0 r1 r2 r3 r4 li co ke rf) :
    ∃ r a' S' cn' bk' st' li' co' ke' rf', fX5_back cn bk st r0 r1 r2 r3 r4 li = some (r, cn', bk', st', li') ∧ fX6_back co ke rf = some (r, co', ke', rf') ∧ WI a' S' cn' bk' st' r0 r1 r2 r3 r4 li' co' ke' rf' := by
  obtain ⟨hB, h4, h5, h6, h7, h8⟩ := h
  cases S with
  | nil =>
    have e1 : st.2 = 0 := by
      obtain ⟨c, -, -, h3, -⟩ := h5
      exact h3
    have e2 : ke.1 = 0 := h6.1
    refine ⟨-3, a, [], (cn.1, cn.2.1 + 1, cn.2.2), bk, st, li, co, ke, upd rf 1 (rf 1 + 1), ?_, ?_, hB, h4, h5, h6, h7, ?_⟩
    · unfold fX5_back fX3_count
      rw [Option.bind_some, if_neg (fun z => z e1)]
    · unfold fX6_back
      rw [if_neg (fun z => z e2), gd_t (by decide), gd_t (by decide)]
      rfl
    · obtain ⟨g1, g2, g3⟩ := h8
      refine ⟨g1, ?_, g3⟩
      show cn.2.1 + 1 = if 1 = 1 then _ else _
      rw [if_pos rfl, g2]
  | cons b S =>
    obtain ⟨bk', st', p1, p2, p3, p4⟩ := po_ok (bk := bk) h5
    obtain ⟨k1, k2, k3⟩ := h6
    rw [List.length_cons] at k1 k2
    have kb := k3 0 b rfl
    rw [List.length_cons, show S.length + 1 - 1 - 0 = S.length by omega] at kb
    obtain ⟨g1, g2, g3, g4, g5, g6⟩ := kb
    obtain ⟨c, -, -, s3, -⟩ := h5
    rw [List.length_cons] at s3
    have e0 : ke.1 - (1 : Int32) = nI S.length := by rw [k1, nI_pred]
    obtain ⟨rr, q1, q2⟩ := bk51 (ke := (nI S.length, ke.2)) (rf := rf) (co := (ke.2 (207 * S.length), co.2.1, co.2.2)) (b := 207 * S.length) (by omega)
    obtain ⟨rn, q3, q4⟩ := bk81 (ke := (nI S.length, ke.2)) (rf := rf) (co := (ke.2 (207 * S.length), rr, co.2.2)) (b := 207 * S.length) (by omega)
    refine ⟨nI S.length, b, S, cn, bk', st', (li.1, li.2.1, li.2.2.1, li.2.2.2.1, li.2.2.2.2.1, li.2.2.2.2.2.1, li.2.2.2.2.2.2.1, li.2.2.2.2.2.2.2.1, (-2 : Int32)), (ke.2 (207 * S.length), rr, rn), (nI S.length, ke.2), rf, ?_, ?_, ⟨p2, ⟨⟨g1, g2, fun k hk => ?_, fun m hm => ?_⟩, ?_, ?_⟩, h7 b (List.mem_cons_self ..)⟩, Or.inl rfl, p3, ⟨rfl, by omega, fun j d hd => ?_⟩, fun d hd => h7 d (List.mem_cons_of_mem _ hd), h8⟩
    · unfold fX5_back fX3_count
      rw [Option.bind_some, if_pos (by rw [s3]; exact nI_ne0 (by omega) (by omega)), p1, Option.bind_some]
      show some (st'.2, _) = _
      rw [p4]
    · unfold fX6_back
      rw [if_pos (by rw [k1]; exact nI_ne0 (by omega) (by omega)), e0, m207, gd_t (inB_nI (by omega) (by decide)), cl_nI (by omega), q1, Option.bind_some, q3, Option.bind_some]
    · show rn k = _
      rw [q4 k (by omega)]
      exact g6 k hk
    · show rr m = _
      rw [q2 m (by omega)]
      exact g3 m hm
    · show rr 4 = _
      rw [q2 4 (by omega)]
      exact g4
    · show rr 5 = _
      rw [q2 5 (by omega)]
      exact g5
    · have hj : j < S.length := (List.getElem?_eq_some_iff.mp hd).1
      have := k3 (j + 1) d (by simpa using hd)
      rw [List.length_cons, show S.length + 1 - 1 - (j + 1) = S.length - 1 - j by omega] at this
      exact this
