/-! ===== what changes the book, on both sides ===== -/
def BT (a : TA) (bk : Tbk) (co : Tco) : Prop := clT a bk ∧ moT a co ∧ okT a
theorem BT.k {a : TA} {bk : Tbk} {co : Tco} (h : BT a bk co) : BK a.1 a.2.1 a.2.2.1 a.2.2.2.1 a.2.2.2.2 bk co := ⟨h.1, h.2.1, h.2.2.2.1, h.2.2.2.2.1, h.2.2.2.2.2.1, h.2.2.2.2.2.2⟩
def LT (a : TA) (li : Tli) : Prop := LI a.1 a.2.2.2.1 a.2.1 a.2.2.1 li
def WI (a : TA) (S : List TA) (cn : Tcn) (bk : Tbk) (st : Tst) (r0 r1 r2 r3 r4 : Tbk) (li : Tli) (co : Tco) (ke : Tke) (rf : Nat → Int32) : Prop := BT a bk co ∧ LT a li ∧ stP S st r0 r1 r2 r3 r4 ∧ keS S ke ∧ (∀ b ∈ S, okT b) ∧ ctP cn rf
theorem keep_ok {a : TA} {S : List TA} {cn : Tcn} {bk : Tbk} {st : Tst} {r0 r1 r2 r3 r4 : Tbk} {li : Tli} {co : Tco} {ke : Tke} {rf : Nat → Int32} (h : WI a S cn bk st r0 r1 r2 r3 r4 li co ke rf) :
    ∃ st' r0' r1' r2' r3' r4' li' ke', fX5_keepState bk st r0 r1 r2 r3 r4 li = some (st', r0', r1', r2', r3', r4', li') ∧ fX6_leavesState co ke = some ke' ∧ stP ((a :: S).take 5) st' r0' r1' r2' r3' r4' ∧ keS ((a :: S).take 5) ke' ∧ (∀ b ∈ (a :: S).take 5, okT b) ∧ ∀ a', LT a' li' := by
  obtain ⟨⟨h1, h2, h3⟩, h4, h5, h6, h7, h8⟩ := h
  obtain ⟨st', s0, s1, s2, s3, s4, p1, p2⟩ := pu_ok h5 h1
  obtain ⟨ke', q1, q2⟩ := ls_ok h6 h2
  refine ⟨st', s0, s1, s2, s3, s4, (li.1, li.2.1, li.2.2.1, li.2.2.2.1, li.2.2.2.2.1, li.2.2.2.2.2.1, li.2.2.2.2.2.2.1, li.2.2.2.2.2.2.2.1, (-2 : Int32)), ke', ?_, q1, p2, q2, ?_, ?_⟩
  · unfold fX5_keepState
    rw [p1]
    rfl
  · intro b hb
    rcases List.mem_cons.mp (List.mem_of_mem_take hb) with e | e
    · rw [e]; exact h3
    · exact h7 b e
  · intro a'
    exact Or.inl rfl
theorem upd_ag {f h : Nat → Int32} {i : Nat} {v : Int32} {k : Nat} (hk : k ≠ i → f k = h k) : upd f i v k = upd h i v k := by
  unfold upd
  by_cases c : k = i
  · rw [if_pos c, if_pos c]
  · rw [if_neg c, if_neg c]; exact hk c
theorem put_ok {n : Nat} {bk : Tbk} (hd : bk.2.2.1 = nI n) (hn : n ≤ 50) {t m : Nat} (ht : t < n) (hm : m < 4) (v : Int32) : fX0_put bk (nI t) (nI m) v = some (upd bk.1 (t * 4 + m) v, bk.2.1, bk.2.2.1, bk.2.2.2.1, bk.2.2.2.2) := by
  unfold fX0_put
  rw [has_c hd hn, isD_nI ht (by omega), Option.bind_some, if_neg (by decide), member_c, isD_nI hm (by decide), Option.bind_some, if_neg (by decide), show nI t * (4 : Int32) + nI m = nI (t * 4 + m) by rw [show (4 : Int32) = nI 4 from rfl, pk_mul, nI_add], gd_t (inB_nI (by omega) (by decide)), cl_nI (by omega)]
  rfl
theorem q_at {a : TA} {bk : Tbk} {co : Tco} {cn : Tcn} {rf : Nat → Int32} (h : BT a bk co) (hc : ctP cn rf) (x1 x2 : Int32) : ∃ r cn' rf', fX5_at cn bk x1 x2 = some (r, cn') ∧ fX6_at co rf x1 x2 = some (r, rf') ∧ ctP cn' rf' := by
  obtain ⟨h1, h2, h3⟩ := h
  have hn := h1.1
  have hcx := has_c h1.2.1 hn
  have hmx := isDay_m h2.1.2.1 hn
  cases hx1 : isD a.1 x1 with
  | false =>
    refine ⟨-20000, _, _, ?_, ?_, hc.bad⟩
    · unfold fX5_at; rw [hcx, hx1, Option.bind_some, if_pos (by decide)]; rfl
    · unfold fX6_at; rw [hmx, hx1, Option.bind_some, if_pos (by decide)]; rfl
  | true =>
    cases hx2 : isD 4 x2 with
    | false =>
      refine ⟨-20000, _, _, ?_, ?_, hc.bad⟩
      · unfold fX5_at; rw [hcx, hx1, Option.bind_some, if_neg (by decide), member_c, hx2, Option.bind_some, if_neg (by decide)]; rfl
      · unfold fX6_at; rw [hmx, hx1, Option.bind_some, if_neg (by decide), member_m, hx2, Option.bind_some, if_pos (by decide)]; rfl
    | true =>
      obtain ⟨t, ht, rfl⟩ := isD_of hx1 (by omega)
      obtain ⟨m, hm, rfl⟩ := isD_of hx2 (by decide)
      refine ⟨a.2.1 (t * 4 + m), cn, rf, ?_, ?_, hc⟩
      · unfold fX5_at; rw [hcx, hx1, Option.bind_some, if_neg (by decide), member_c, hx2, Option.bind_some, if_pos (by decide), member_ok h1 ht hm, Option.bind_some]
      · unfold fX6_at
        rw [hmx, hx1, Option.bind_some, if_neg (by decide), member_m, hx2, Option.bind_some, if_neg (by decide), show (4 : Int32) * nI t + nI m = nI (t * 4 + m) by rw [show (4 : Int32) = nI 4 from rfl, pk_mul, nI_add, Nat.mul_comm], gd_t (inB_nI (by omega) (by decide)), cl_nI (by omega), h2.1.2.2.1 _ (by omega)]
        rfl
theorem q_empties {a : TA} {S : List TA} {cn : Tcn} {bk : Tbk} {st : Tst} {r0 r1 r2 r3 r4 : Tbk} {li : Tli} {co : Tco} {ke : Tke} {rf : Nat → Int32} (h : WI a S cn bk st r0 r1 r2 r3 r4 li co ke rf) :
    ∃ r a' S' bk' st' r0' r1' r2' r3' r4' li' co' ke', fX5_empties bk st r0 r1 r2 r3 r4 li = some (r, bk', st', r0', r1', r2', r3', r4', li') ∧ fX6_empties co ke = some (r, co', ke') ∧ WI a' S' cn bk' st' r0' r1' r2' r3' r4' li' co' ke' rf := by
  obtain ⟨st', s0, s1, s2, s3, s4, li', ke', k1, k2, k3, k4, k5, k6⟩ := keep_ok h
  obtain ⟨⟨⟨a1, a2, a3, a4, a5, a6⟩, ⟨⟨b1, b2, b3, b4⟩, b5, b6⟩, c1, c2, c3, c4, c5⟩, h4, h5, h6, h7, h8⟩ := h
  refine ⟨nI a.1, (0, a.2), (a :: S).take 5, (bk.1, bk.2.1, (0 : Int32), bk.2.2.2.1, bk.2.2.2.2), st', s0, s1, s2, s3, s4, li', ((0 : Int32), co.2.1, co.2.2), ke', ?_, ?_, ⟨⟨Nat.zero_le _, rfl, fun k hk => absurd hk (by omega), a4, a5, a6⟩, ⟨⟨Nat.zero_le _, rfl, fun k hk => absurd hk (by omega), b4⟩, b5, b6⟩, Nat.zero_le _, ⟨fun k hk => absurd hk (by omega), c2.2⟩, c3, c4, c5⟩, k6 _, k3, k4, k5, h8⟩
  · unfold fX5_empties fX0_days
    rw [Option.bind_some, a2, k1]
    rfl
  · unfold fX6_empties
    rw [k2, b2]
    rfl
theorem q_sets {a : TA} {S : List TA} {cn : Tcn} {bk : Tbk} {st : Tst} {r0 r1 r2 r3 r4 : Tbk} {li : Tli} {co : Tco} {ke : Tke} {rf : Nat → Int32} (h : WI a S cn bk st r0 r1 r2 r3 r4 li co ke rf) (x1 x2 x3 : Int32) :
    ∃ r a' S' cn' bk' st' r0' r1' r2' r3' r4' li' co' ke' rf', fX5_sets cn bk st r0 r1 r2 r3 r4 li x1 x2 x3 = some (r, cn', bk', st', r0', r1', r2', r3', r4', li') ∧ fX6_sets co ke rf x1 x2 x3 = some (r, co', ke', rf') ∧ WI a' S' cn' bk' st' r0' r1' r2' r3' r4' li' co' ke' rf' := by
  have hW := h
  obtain ⟨st', s0, s1, s2, s3, s4, li', ke', k1, k2, k3, k4, k5, k6⟩ := keep_ok h
  obtain ⟨⟨hA, hM, c1, c2, c3, c4, c5⟩, h4, h5, h6, h7, h8⟩ := h
  have hcx := has_c hA.2.1 c1
  have hmx := isDay_m hM.1.2.1 c1
  cases hx1 : isD a.1 x1 with
  | false =>
    refine ⟨-20000, a, S, _, bk, st, r0, r1, r2, r3, r4, li, co, ke, _, ?_, ?_, hW.1, hW.2.1, hW.2.2.1, hW.2.2.2.1, hW.2.2.2.2.1, h8.bad⟩
    · unfold fX5_sets; rw [hcx, hx1, Option.bind_some, if_pos (by decide)]; rfl
    · unfold fX6_sets; rw [hmx, hx1, Option.bind_some, if_pos (by decide)]; rfl
  | true =>
    cases hx2 : isD 4 x2 with
    | false =>
      refine ⟨-20000, a, S, _, bk, st, r0, r1, r2, r3, r4, li, co, ke, _, ?_, ?_, hW.1, hW.2.1, hW.2.2.1, hW.2.2.2.1, hW.2.2.2.2.1, h8.bad⟩
      · unfold fX5_sets; rw [hcx, hx1, Option.bind_some, if_neg (by decide), member_c, hx2, Option.bind_some, if_pos (by decide)]; rfl
      · unfold fX6_sets; rw [hmx, hx1, Option.bind_some, if_neg (by decide), member_m, hx2, Option.bind_some, if_pos (by decide)]; rfl
    | true =>
      cases hx3 : isN x3 with
      | false =>
        refine ⟨-20000, a, S, _, bk, st, r0, r1, r2, r3, r4, li, co, ke, _, ?_, ?_, hW.1, hW.2.1, hW.2.2.1, hW.2.2.2.1, hW.2.2.2.2.1, h8.bad⟩
        · unfold fX5_sets; rw [hcx, hx1, Option.bind_some, if_neg (by decide), member_c, hx2, Option.bind_some, if_neg (by decide), isNote_c, hx3, Option.bind_some, if_neg (by decide)]; rfl
        · unfold fX6_sets; rw [hmx, hx1, Option.bind_some, if_neg (by decide), member_m, hx2, Option.bind_some, if_neg (by decide), may_m, hx3, Option.bind_some, if_neg (by decide)]; rfl
      | true =>
        obtain ⟨t, ht, rfl⟩ := isD_of hx1 (by omega)
        obtain ⟨m, hm, rfl⟩ := isD_of hx2 (by decide)
        refine ⟨a.2.1 (t * 4 + m), (a.1, upd a.2.1 (t * 4 + m) x3, a.2.2), (a :: S).take 5, cn, (upd bk.1 (t * 4 + m) x3, bk.2.1, bk.2.2.1, bk.2.2.2.1, bk.2.2.2.2), st', s0, s1, s2, s3, s4, li', (co.1, co.2.1, upd co.2.2 (t * 4 + m) x3), ke', rf, ?_, ?_, ⟨?_, ?_, c1, ⟨?_, c2.2⟩, c3, c4, c5⟩, k6 _, k3, k4, k5, h8⟩
        · unfold fX5_sets
          rw [hcx, hx1, Option.bind_some, if_neg (by decide), member_c, hx2, Option.bind_some, if_neg (by decide), isNote_c, hx3, Option.bind_some, if_pos (by decide), member_ok hA ht hm, Option.bind_some, k1, Option.bind_some, put_ok hA.2.1 c1 ht hm, Option.bind_some]
        · unfold fX6_sets
          rw [hmx, hx1, Option.bind_some, if_neg (by decide), member_m, hx2, Option.bind_some, if_neg (by decide), may_m, hx3, Option.bind_some, if_pos (by decide), k2, Option.bind_some, show (4 : Int32) * nI t + nI m = nI (t * 4 + m) by rw [show (4 : Int32) = nI 4 from rfl, pk_mul, nI_add, Nat.mul_comm], gd_t (inB_nI (by omega) (by decide)), gd_t (inB_nI (by omega) (by decide)), cl_nI (by omega), hM.1.2.2.1 _ (by omega)]
        · obtain ⟨a1, a2, a3, a4, a5, a6⟩ := hA
          exact ⟨a1, a2, fun k hk => upd_ag (fun _ => a3 k hk), a4, a5, a6⟩
        · obtain ⟨⟨b1, b2, b3, b4⟩, b5, b6⟩ := hM
          exact ⟨⟨b1, b2, fun k hk => upd_ag (fun _ => b3 k hk), b4⟩, b5, b6⟩
        · intro k hk
          show okV (upd a.2.1 (t * 4 + m) x3 k)
          unfold upd
          by_cases c : k = t * 4 + m
          · rw [if_pos c]; exact isN_ok hx3
          · rw [if_neg c]; exact c2.1 k hk
theorem ap_ok {n : Nat} {bk : Tbk} (hd : bk.2.2.1 = nI n) (hn : n < 50) (x1 x2 x3 x4 : Int32) : fX0_append bk x1 x2 x3 x4 = some (nI n, (upd (upd (upd (upd bk.1 (n * 4) x1) (n * 4 + 1) x2) (n * 4 + 2) x3) (n * 4 + 3) x4, bk.2.1, nI (n + 1), bk.2.2.2.1, bk.2.2.2.2)) := by
  unfold fX0_append
  rw [hd, if_pos (show nI n < (50 : Int32) from nI_lt (b := 50) hn (by decide)), nI_1]
  rw [show (0 : Int32) = nI 0 from rfl, put_ok (n := n + 1) rfl (by omega) (by omega) (by decide), Option.bind_some, show (1 : Int32) = nI 1 from rfl, put_ok (n := n + 1) rfl (by omega) (by omega) (by decide), Option.bind_some, show (2 : Int32) = nI 2 from rfl, put_ok (n := n + 1) rfl (by omega) (by omega) (by decide), Option.bind_some, show (3 : Int32) = nI 3 from rfl, put_ok (n := n + 1) rfl (by omega) (by omega) (by decide), Option.bind_some]
  rfl
theorem co_ok {n : Nat} {co : Tco} (hd : co.1 = nI n) (hn : n < 50) (x1 x2 x3 x4 : Int32) : fX6_comes co x1 x2 x3 x4 = some (nI (n + 1), co.2.1, upd (upd (upd (upd co.2.2 (n * 4) x1) (n * 4 + 1) x2) (n * 4 + 2) x3) (n * 4 + 3) x4) := by
  unfold fX6_comes
  rw [hd, show (4 : Int32) * nI n = nI (n * 4) by rw [show (4 : Int32) = nI 4 from rfl, pk_mul, Nat.mul_comm], show nI (n * 4) + (1 : Int32) = nI (n * 4 + 1) from nI_1 _, show nI (n * 4) + (2 : Int32) = nI (n * 4 + 2) from nI_add _ 2, show nI (n * 4) + (3 : Int32) = nI (n * 4 + 3) from nI_add _ 3, gd_t (inB_nI (by omega) (by decide)), gd_t (inB_nI (by omega) (by decide)), gd_t (inB_nI (by omega) (by decide)), gd_t (inB_nI (by omega) (by decide)), cl_nI (by omega), cl_nI (by omega), cl_nI (by omega), cl_nI (by omega), nI_1]
def ntD (nt : Nat → Int32) (n : Nat) (x1 x2 x3 x4 : Int32) : Nat → Int32 := upd (upd (upd (upd nt (n * 4) x1) (n * 4 + 1) x2) (n * 4 + 2) x3) (n * 4 + 3) x4
theorem ntD_ag {f h : Nat → Int32} {n : Nat} (he : ∀ k, k < n * 4 → f k = h k) (x1 x2 x3 x4 : Int32) : ∀ k, k < (n + 1) * 4 → ntD f n x1 x2 x3 x4 k = ntD h n x1 x2 x3 x4 k := by
  intro k hk
  exact upd_ag (fun c1 => upd_ag (fun c2 => upd_ag (fun c3 => upd_ag (fun c4 => he k (by omega)))))
theorem ntD_okV {nt : Nat → Int32} {n : Nat} (he : ∀ k, k < n * 4 → okV (nt k)) {x1 x2 x3 x4 : Int32} (h1 : okV x1) (h2 : okV x2) (h3 : okV x3) (h4 : okV x4) : ∀ k, k < (n + 1) * 4 → okV (ntD nt n x1 x2 x3 x4 k) := by
  intro k hk
  unfold ntD upd
  by_cases c4 : k = n * 4 + 3
  · rw [if_pos c4]; exact h4
  · rw [if_neg c4]
    by_cases c3 : k = n * 4 + 2
    · rw [if_pos c3]; exact h3
    · rw [if_neg c3]
      by_cases c2 : k = n * 4 + 1
      · rw [if_pos c2]; exact h2
      · rw [if_neg c2]
        by_cases c1 : k = n * 4
        · rw [if_pos c1]; exact h1
        · rw [if_neg c1]; exact he k (by omega)
/-- a day that comes: one step of both books -/
theorem dayT {a : TA} {bk : Tbk} {co : Tco} (h : BT a bk co) (hn : a.1 < 50) {x1 x2 x3 x4 : Int32} (h1 : okV x1) (h2 : okV x2) (h3 : okV x3) (h4 : okV x4) : ∃ bk' co', fX0_append bk x1 x2 x3 x4 = some (nI a.1, bk') ∧ fX6_comes co x1 x2 x3 x4 = some co' ∧ co'.1 = nI (a.1 + 1) ∧ BT (a.1 + 1, ntD a.2.1 a.1 x1 x2 x3 x4, a.2.2) bk' co' := by
  obtain ⟨⟨a1, a2, a3, a4, a5, a6⟩, ⟨⟨b1, b2, b3, b4⟩, b5, b6⟩, c1, c2, c3, c4, c5⟩ := h
  refine ⟨_, _, ap_ok a2 hn x1 x2 x3 x4, co_ok b2 hn x1 x2 x3 x4, rfl, ⟨hn, rfl, ntD_ag a3 x1 x2 x3 x4, a4, a5, a6⟩, ⟨⟨hn, rfl, ntD_ag b3 x1 x2 x3 x4, b4⟩, b5, b6⟩, hn, ⟨ntD_okV c2.1 h1 h2 h3 h4, c2.2⟩, c3, c4, c5⟩
theorem q_day {a : TA} {S : List TA} {cn : Tcn} {bk : Tbk} {st : Tst} {r0 r1 r2 r3 r4 : Tbk} {li : Tli} {co : Tco} {ke : Tke} {rf : Nat → Int32} (h : WI a S cn bk st r0 r1 r2 r3 r4 li co ke rf) (x1 x2 x3 x4 : Int32) :
    ∃ r a' S' cn' bk' st' r0' r1' r2' r3' r4' li' co' ke' rf', fX5_day cn bk st r0 r1 r2 r3 r4 li x1 x2 x3 x4 = some (r, cn', bk', st', r0', r1', r2', r3', r4', li') ∧ fX6_day co ke rf x1 x2 x3 x4 = some (r, co', ke', rf') ∧ WI a' S' cn' bk' st' r0' r1' r2' r3' r4' li' co' ke' rf' := by
  have hW := h
  obtain ⟨st', s0, s1, s2, s3, s4, li', ke', k1, k2, k3, k4, k5, k6⟩ := keep_ok h
  obtain ⟨hB, h4, h5, h6, h7, h8⟩ := h
  have hA := hB.1
  have hM := hB.2.1
  have hn := hB.2.2.1
  have bad : fX5_day cn bk st r0 r1 r2 r3 r4 li x1 x2 x3 x4 = jX5_day_29 cn bk st r0 r1 r2 r3 r4 li → fX6_day co ke rf x1 x2 x3 x4 = jX6_day_29 co ke rf → ∃ r a' S' cn' bk' st' r0' r1' r2' r3' r4' li' co' ke' rf', fX5_day cn bk st r0 r1 r2 r3 r4 li x1 x2 x3 x4 = some (r, cn', bk', st', r0', r1', r2', r3', r4', li') ∧ fX6_day co ke rf x1 x2 x3 x4 = some (r, co', ke', rf') ∧ WI a' S' cn' bk' st' r0' r1' r2' r3' r4' li' co' ke' rf' := by
    intro e1 e2
    rw [e1, e2]
    exact ⟨-2, a, S, _, bk, st, r0, r1, r2, r3, r4, li, co, ke, _, rfl, rfl, hB, h4, h5, h6, h7, h8.bad⟩
  cases y1 : isN x1 with
  | false => exact bad (by unfold fX5_day; rw [isNote_c, y1, Option.bind_some, if_pos (by decide)]) (by unfold fX6_day; rw [may_m, y1, Option.bind_some, if_pos (by decide)])
  | true =>
    cases y2 : isN x2 with
    | false => exact bad (by unfold fX5_day; rw [isNote_c, y1, Option.bind_some, if_neg (by decide), isNote_c, y2, Option.bind_some, if_pos (by decide)]) (by unfold fX6_day; rw [may_m, y1, Option.bind_some, if_neg (by decide), may_m, y2, Option.bind_some, if_pos (by decide)])
    | true =>
      cases y3 : isN x3 with
      | false => exact bad (by unfold fX5_day; rw [isNote_c, y1, Option.bind_some, if_neg (by decide), isNote_c, y2, Option.bind_some, if_neg (by decide), isNote_c, y3, Option.bind_some, if_pos (by decide)]) (by unfold fX6_day; rw [may_m, y1, Option.bind_some, if_neg (by decide), may_m, y2, Option.bind_some, if_neg (by decide), may_m, y3, Option.bind_some, if_pos (by decide)])
      | true =>
        cases y4 : isN x4 with
        | false => exact bad (by unfold fX5_day; rw [isNote_c, y1, Option.bind_some, if_neg (by decide), isNote_c, y2, Option.bind_some, if_neg (by decide), isNote_c, y3, Option.bind_some, if_neg (by decide), isNote_c, y4, Option.bind_some, if_neg (by decide)]) (by unfold fX6_day; rw [may_m, y1, Option.bind_some, if_neg (by decide), may_m, y2, Option.bind_some, if_neg (by decide), may_m, y3, Option.bind_some, if_neg (by decide), may_m, y4, Option.bind_some, if_neg (by decide)])
        | true =>
          have ec : fX5_day cn bk st r0 r1 r2 r3 r4 li x1 x2 x3 x4 = (if nI a.1 < (50 : Int32) then ((fX5_keepState bk st r0 r1 r2 r3 r4 li).bind fun q12 => (fX0_append bk x1 x2 x3 x4).bind fun q13 => some (q13.1, cn, q13.2, q12.1, q12.2.1, q12.2.2.1, q12.2.2.2.1, q12.2.2.2.2.1, q12.2.2.2.2.2.1, q12.2.2.2.2.2.2)) else ((fX5_refuseFull cn).bind fun q14 => some (q14.1, q14.2, bk, st, r0, r1, r2, r3, r4, li))) := by
            unfold fX5_day fX0_days
            rw [isNote_c, y1, Option.bind_some, if_neg (by decide), isNote_c, y2, Option.bind_some, if_neg (by decide), isNote_c, y3, Option.bind_some, if_neg (by decide), isNote_c, y4, Option.bind_some, if_pos (by decide), Option.bind_some, hA.2.1]
          have em : fX6_day co ke rf x1 x2 x3 x4 = (if ¬ nI a.1 = (50 : Int32) then ((fX6_leavesState co ke).bind fun q11 => (fX6_comes co x1 x2 x3 x4).bind fun q12 => some ((q12.1 - (1 : Int32)), q12, q11, rf)) else ((fX6_full rf).bind fun q13 => some (q13.1, co, ke, q13.2))) := by
            unfold fX6_day
            rw [may_m, y1, Option.bind_some, if_neg (by decide), may_m, y2, Option.bind_some, if_neg (by decide), may_m, y3, Option.bind_some, if_neg (by decide), may_m, y4, Option.bind_some, if_pos (by decide), hM.1.2.1]
          by_cases c : a.1 < 50
          · obtain ⟨bk', co', d1, d2, d3, d4⟩ := dayT hB c (isN_ok y1) (isN_ok y2) (isN_ok y3) (isN_ok y4)
            refine ⟨nI a.1, _, (a :: S).take 5, cn, bk', st', s0, s1, s2, s3, s4, li', co', ke', rf, ?_, ?_, d4, k6 _, k3, k4, k5, h8⟩
            · rw [ec, if_pos (show nI a.1 < (50 : Int32) from nI_lt (b := 50) c (by decide)), k1, Option.bind_some, d1, Option.bind_some]
            · rw [em, if_pos (show ¬ nI a.1 = (50 : Int32) from fun z => absurd ((nI_eq (a := a.1) (b := 50) (by omega) (by decide)).mp z) (by omega)), k2, Option.bind_some, d2, Option.bind_some, d3, nI_pred]
          · have e50 : a.1 = 50 := by omega
            refine ⟨-4, a, S, _, bk, st, r0, r1, r2, r3, r4, li, co, ke, _, ?_, ?_, hB, h4, h5, h6, h7, h8.full⟩
            · rw [ec, e50, if_neg (by decide)]; rfl
            · rw [em, e50, if_neg (by decide)]; rfl
