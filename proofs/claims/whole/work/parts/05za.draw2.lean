/-! ===== draw: the loops ===== -/
theorem drG_ms {P : Int64 → Bool} {N : Int64 → Int64} {Q : Int64 → Int32} {s : Int64} {j : Nat} (h : P (drG P N Q s j).1 = true) : drG P N Q s (j + 1) = (N (drG P N Q s j).1, (drG P N Q s j).2.1 + 1, upd (drG P N Q s j).2.2 j MI) := by
  rw [drG, h]; rfl
theorem drG_st {P : Int64 → Bool} {N : Int64 → Int64} {Q : Int64 → Int32} {s : Int64} {j : Nat} (h : P (drG P N Q s j).1 = false) : drG P N Q s (j + 1) = (N (drG P N Q s j).1, (drG P N Q s j).2.1, upd (drG P N Q s j).2.2 j (clC (lastV (drG P N Q s j).2.2 (j % 4) (j / 4) + (Q (drG P N Q s j).1 - (20 : Int32))))) := by
  rw [drG, h]; rfl
theorem drG_okV {P : Int64 → Bool} {N : Int64 → Int64} {Q : Int64 → Int32} (s : Int64) : ∀ j k, k < j → okV ((drG P N Q s j).2.2 k) := by
  intro j
  induction j with
  | zero => intro k h; exact absurd h (Nat.not_lt_zero k)
  | succ j ih =>
    intro k h
    cases c : P (drG P N Q s j).1 with
    | true =>
      rw [drG_ms c]
      show okV (upd (drG P N Q s j).2.2 j MI k)
      unfold upd
      by_cases e : k = j
      · rw [if_pos e]; exact Or.inl rfl
      · rw [if_neg e]; exact ih k (by omega)
    | false =>
      rw [drG_st c]
      show okV (upd (drG P N Q s j).2.2 j _ k)
      unfold upd
      by_cases e : k = j
      · rw [if_pos e]; exact clC_ok _
      · rw [if_neg e]; exact ih k (by omega)
theorem dm {t m : Nat} (hm : m < 4) : (t * 4 + m) % 4 = m ∧ (t * 4 + m) / 4 = t := by omega
theorem fl_in {P : Int64 → Bool} {N : Int64 → Int64} {Q : Int64 → Int32} (hP : ∀ x, isMs (lcg x) = 0 ↔ P x = true) (hN : ∀ x, lcg x = N x) (hQ : ∀ x, stp (lcg x) = Q x) {n : Nat} (hn : n ≤ 50) {s : Int64} {t : Nat} (ht : t < n) {bk : Tbk} (hd : bk.2.2.1 = nI n) (he : ∀ k, k < t * 4 → bk.1 k = (drG P N Q s (t * 4)).2.2 k) :
    ∃ f', lpF (bX0_fillByChance_35 (nI t)) FU ((drG P N Q s (t * 4)).1, nI (drG P N Q s (t * 4)).2.1, (0 : Int32), bk) = some ((drG P N Q s (t * 4 + 4)).1, nI (drG P N Q s (t * 4 + 4)).2.1, (f', bk.2)) ∧ ∀ k, k < t * 4 + 4 → f' k = (drG P N Q s (t * 4 + 4)).2.2 k := by
  have key := lp_cnt (B := bX0_fillByChance_35 (nI t)) (fun (m : Nat) (z : Int64 × Int32 × Int32 × Tbk) => ∃ f', z = ((drG P N Q s (t * 4 + m)).1, nI (drG P N Q s (t * 4 + m)).2.1, nI m, (f', bk.2)) ∧ ∀ k, k < t * 4 + m → f' k = (drG P N Q s (t * 4 + m)).2.2 k) (fun (e : Int64 × Int32 × Tbk) => ∃ f', e = ((drG P N Q s (t * 4 + 4)).1, nI (drG P N Q s (t * 4 + 4)).2.1, (f', bk.2)) ∧ ∀ k, k < t * 4 + 4 → f' k = (drG P N Q s (t * 4 + 4)).2.2 k) 4 (by decide) ?_ ?_ ((drG P N Q s (t * 4)).1, nI (drG P N Q s (t * 4)).2.1, (0 : Int32), bk) ⟨bk.1, rfl, he⟩
  · obtain ⟨e, h1, f', h2, h3⟩ := key
    exact ⟨f', by rw [h1, h2], h3⟩
  · rintro m z hm ⟨f', hz, hf⟩
    subst hz
    obtain ⟨d1, d2⟩ := dm (t := t) hm
    rw [fill_b]
    dsimp only
    rw [if_neg (show ¬ (4 : Int32) ≤ nI m from nI_ge (b := 4) hm (by decide))]
    cases c : P (drG P N Q s (t * 4 + m)).1 with
    | true =>
      rw [if_neg (fun z => z ((hP _).mpr c)), put_ok (n := n) (bk := (f', bk.2)) hd hn ht hm, Option.bind_some, hN, ← Nat.add_assoc, drG_ms c]
      refine ⟨_, ?_, upd f' (t * 4 + m) MI, rfl, fun k hk => upd_ag (fun e => hf k (by omega))⟩
      unfold jX0_fillByChance_35_132
      rw [nI_1, nI_1]
    | false =>
      rw [if_pos (fun z => by rw [(hP _).mp z] at c; cases c), ln_ok (n := n) (bk := (f', bk.2)) (nt := (drG P N Q s (t * 4 + m)).2.2) hd hn ht hm (fun k hk => hf k (by omega)), Option.bind_some, put_ok (n := n) (bk := (f', bk.2)) hd hn ht hm, Option.bind_some, hQ, hN, ← Nat.add_assoc, drG_st c, d1, d2]
      refine ⟨_, ?_, upd f' (t * 4 + m) _, rfl, fun k hk => upd_ag (fun e => hf k (by omega))⟩
      unfold jX0_fillByChance_35_132
      rw [nI_1]
  · rintro z ⟨f', hz, hf⟩
    subst hz
    refine ⟨_, ?_, f', rfl, hf⟩
    rw [fill_b]
    dsimp only
    rw [if_pos (by decide)]
theorem fl_ok {P : Int64 → Bool} {N : Int64 → Int64} {Q : Int64 → Int32} (hP : ∀ x, isMs (lcg x) = 0 ↔ P x = true) (hN : ∀ x, lcg x = N x) (hQ : ∀ x, stp (lcg x) = Q x) {n : Nat} (hn : n ≤ 50) (h1 : 1 ≤ n) {x1 : Int32} {bk : Tbk} : ∃ f', fX0_fillByChance bk x1 (nI n) = some (nI (drG P N Q x1.toInt64 (n * 4)).2.1, (f', bk.2.1, nI n, bk.2.2.2.1, bk.2.2.2.2)) ∧ ∀ k, k < n * 4 → f' k = (drG P N Q x1.toInt64 (n * 4)).2.2 k := by
  have key := lp_cnt (B := bX0_fillByChance_23) (fun (t : Nat) (z : Int64 × Int32 × Int32 × Tbk) => ∃ f', z = ((drG P N Q x1.toInt64 (t * 4)).1, nI (drG P N Q x1.toInt64 (t * 4)).2.1, nI t, (f', bk.2.1, nI n, bk.2.2.2.1, bk.2.2.2.2)) ∧ ∀ k, k < t * 4 → f' k = (drG P N Q x1.toInt64 (t * 4)).2.2 k) (fun (e : Int32 × Tbk) => ∃ f', e = (nI (drG P N Q x1.toInt64 (n * 4)).2.1, (f', bk.2.1, nI n, bk.2.2.2.1, bk.2.2.2.2)) ∧ ∀ k, k < n * 4 → f' k = (drG P N Q x1.toInt64 (n * 4)).2.2 k) n (by omega) ?_ ?_ (x1.toInt64, (0 : Int32), (0 : Int32), (bk.1, bk.2.1, nI n, bk.2.2.2.1, bk.2.2.2.2)) ⟨bk.1, rfl, fun k hk => absurd hk (by omega)⟩
  · obtain ⟨e, k1, f', k2, k3⟩ := key
    refine ⟨f', ?_, k3⟩
    unfold fX0_fillByChance
    rw [if_neg (show ¬ (50 : Int32) < nI n from nI_nlt (a := 50) hn (by decide)), if_pos (show (0 : Int32) < nI n from nI_lt (a := 0) (by omega) (by omega)), k1, k2]
    rfl
  · rintro t z ht ⟨f', hz, hf⟩
    subst hz
    obtain ⟨f2, p1, p2⟩ := fl_in hP hN hQ hn (s := x1.toInt64) ht (bk := (f', bk.2.1, nI n, bk.2.2.2.1, bk.2.2.2.2)) rfl hf
    rw [show t * 4 + 4 = (t + 1) * 4 by omega] at p1 p2
    refine ⟨_, ?_, f2, rfl, p2⟩
    unfold bX0_fillByChance_23
    dsimp only
    rw [if_neg (nI_ge ht (by omega)), p1, Option.bind_some, nI_1]
  · rintro z ⟨f', hz, hf⟩
    subst hz
    refine ⟨_, ?_, f', rfl, hf⟩
    unfold bX0_fillByChance_23
    dsimp only
    rw [if_pos (nI_le (Nat.le_refl _) (by omega))]
theorem dl_m {P : Int64 → Bool} {N : Int64 → Int64} {Q : Int64 → Int32} (hP : ∀ x, isMs (lcg x) = 0 ↔ P x = true) (hN : ∀ x, lcg x = N x) (hQ : ∀ x, stp (lcg x) = Q x) {n : Nat} (hn : n ≤ 50) {x1 : Int32} {ke : Tke} {rf : Nat → Int32} {co : Tco} : ∃ f', lpF (bX6_draw_43 ke rf (nI n)) FU (x1.toInt64, (0 : Int32), (0 : Int32), (nI n, co.2.1, co.2.2)) = some (nI (drG P N Q x1.toInt64 (n * 4)).2.1, (nI n, co.2.1, f')) ∧ ∀ k, k < n * 4 → f' k = (drG P N Q x1.toInt64 (n * 4)).2.2 k := by
  have key := lp_cnt (B := bX6_draw_43 ke rf (nI n)) (fun (j : Nat) (z : Int64 × Int32 × Int32 × Tco) => ∃ f', z = ((drG P N Q x1.toInt64 j).1, nI (drG P N Q x1.toInt64 j).2.1, nI j, (nI n, co.2.1, f')) ∧ ∀ k, k < j → f' k = (drG P N Q x1.toInt64 j).2.2 k) (fun (e : Int32 × Tco) => ∃ f', e = (nI (drG P N Q x1.toInt64 (n * 4)).2.1, (nI n, co.2.1, f')) ∧ ∀ k, k < n * 4 → f' k = (drG P N Q x1.toInt64 (n * 4)).2.2 k) (n * 4) (by omega) ?_ ?_ (x1.toInt64, (0 : Int32), (0 : Int32), (nI n, co.2.1, co.2.2)) ⟨co.2.2, rfl, fun k hk => absurd hk (Nat.not_lt_zero k)⟩
  · obtain ⟨e, k1, f', k2, k3⟩ := key
    exact ⟨f', by rw [k1, k2], k3⟩
  · rintro j z hj ⟨f', hz, hf⟩
    subst hz
    rw [draw_b]
    dsimp only
    rw [show (4 : Int32) * nI n = nI (n * 4) by rw [show (4 : Int32) = nI 4 from rfl, pk_mul, Nat.mul_comm], if_neg (nI_ge hj (by omega))]
    cases c : P (drG P N Q x1.toInt64 j).1 with
    | true =>
      rw [if_neg (fun z => z ((hP _).mpr c)), gd_t (inB_nI (by omega) (by decide)), cl_nI (by omega), hN, drG_ms c]
      refine ⟨_, ?_, upd f' j MI, rfl, fun k hk => upd_ag (fun e => hf k (by omega))⟩
      unfold jX6_draw_43_154
      rw [nI_1, nI_1]
    | false =>
      have hb := bf_ok (co := (nI n, co.2.1, f')) (nt := (drG P N Q x1.toInt64 j).2.2) (t := j / 4) (m := j % 4) (by omega) (by omega) (fun k hk => hf k (by omega))
      rw [show j / 4 * 4 + j % 4 = j by omega] at hb
      rw [if_pos (fun z => by rw [(hP _).mp z] at c; cases c), hb, Option.bind_some, add20, clM (lastV (drG P N Q x1.toInt64 j).2.2 (j % 4) (j / 4) + (stp (lcg (drG P N Q x1.toInt64 j).1) - (20 : Int32))) (fun v => jX6_draw_43_153 (nI n, co.2.1, f') ke rf (nI n) (lcg (drG P N Q x1.toInt64 j).1) (nI (drG P N Q x1.toInt64 j).2.1) (nI j) (nI j) v), hQ, hN, drG_st c]
      refine ⟨_, ?_, upd f' j _, rfl, fun k hk => upd_ag (fun e => hf k (by omega))⟩
      unfold jX6_draw_43_153 jX6_draw_43_154
      rw [gd_t (inB_nI (by omega) (by decide)), cl_nI (by omega), nI_1]
  · rintro z ⟨f', hz, hf⟩
    subst hz
    refine ⟨_, ?_, f', rfl, hf⟩
    rw [draw_b]
    dsimp only
    rw [show (4 : Int32) * nI n = nI (n * 4) by rw [show (4 : Int32) = nI 4 from rfl, pk_mul, Nat.mul_comm], if_pos (nI_le (Nat.le_refl _) (by omega))]
theorem q_drawG {P : Int64 → Bool} {N : Int64 → Int64} {Q : Int64 → Int32} (hP : ∀ x, isMs (lcg x) = 0 ↔ P x = true) (hN : ∀ x, lcg x = N x) (hQ : ∀ x, stp (lcg x) = Q x) {a : TA} {S : List TA} {cn : Tcn} {bk : Tbk} {st : Tst} {r0 r1 r2 r3 r4 : Tbk} {li : Tli} {co : Tco} {ke : Tke} {rf : Nat → Int32} (h : WI a S cn bk st r0 r1 r2 r3 r4 li co ke rf) (x1 x2 : Int32) :
    ∃ r a' S' cn' bk' st' r0' r1' r2' r3' r4' li' co' ke' rf', fX5_draw cn bk st r0 r1 r2 r3 r4 li x1 x2 = some (r, cn', bk', st', r0', r1', r2', r3', r4', li') ∧ fX6_draw co ke rf x1 x2 = some (r, co', ke', rf') ∧ WI a' S' cn' bk' st' r0' r1' r2' r3' r4' li' co' ke' rf' := by
  obtain ⟨st', s0, s1, s2, s3, s4, li', ke', k1, k2, k3, k4, k5, k6⟩ := keep_ok h
  obtain ⟨hB, h4, h5, h6, h7, h8⟩ := h
  cases hx1 : inR x1 0 999999 with
  | false =>
    refine ⟨-2, a, S, _, bk, st, r0, r1, r2, r3, r4, li, co, ke, _, ?_, ?_, hB, h4, h5, h6, h7, h8.bad⟩
    · unfold fX5_draw; rw [within_ok, hx1, Option.bind_some, if_pos (by decide)]; rfl
    · unfold fX6_draw; rw [in_ok, hx1, Option.bind_some, if_pos (by decide)]; rfl
  | true =>
    cases hx2 : inR x2 1 50 with
    | false =>
      refine ⟨-2, a, S, _, bk, st, r0, r1, r2, r3, r4, li, co, ke, _, ?_, ?_, hB, h4, h5, h6, h7, h8.bad⟩
      · unfold fX5_draw; rw [within_ok, hx1, Option.bind_some, if_neg (by decide), within_ok, hx2, Option.bind_some, if_neg (by decide)]; rfl
      · unfold fX6_draw; rw [in_ok, hx1, Option.bind_some, if_neg (by decide), in_ok, hx2, Option.bind_some, if_neg (by decide)]; rfl
    | true =>
      have e1 : ((1 : Int32)).toInt = 1 := rfl
      have e0 : ((0 : Int32)).toInt = 0 := rfl
      have hr2 : inR x2 0 50 = true := by
        have h1 := of_decide_eq_true hx2
        refine decide_eq_true ?_
        rw [e1] at h1
        rw [e0]
        omega
      obtain ⟨n, hn, rfl⟩ := inR_nI (n := 50) rfl hr2
      have hn1 : 1 ≤ n := by
        have h1 := (of_decide_eq_true hx2).1
        rw [e1, nI_toInt (by omega)] at h1
        omega
      obtain ⟨f1, p1, p2⟩ := fl_ok hP hN hQ hn hn1 (x1 := x1) (bk := bk)
      obtain ⟨f2, q1, q2⟩ := dl_m hP hN hQ hn (x1 := x1) (ke := ke') (rf := rf) (co := co)
      obtain ⟨⟨a1, a2, a3, a4, a5, a6⟩, ⟨⟨b1, b2, b3, b4⟩, b5, b6⟩, c1, c2, c3, c4, c5⟩ := hB
      refine ⟨nI (drG P N Q x1.toInt64 (n * 4)).2.1, (n, (drG P N Q x1.toInt64 (n * 4)).2.2, a.2.2), (a :: S).take 5, cn, (f1, bk.2.1, nI n, bk.2.2.2.1, bk.2.2.2.2), st', s0, s1, s2, s3, s4, li', (nI n, co.2.1, f2), ke', rf, ?_, ?_, ⟨⟨hn, rfl, p2, a4, a5, a6⟩, ⟨⟨hn, rfl, q2, b4⟩, b5, b6⟩, hn, ⟨fun k hk => drG_okV _ _ k hk, c2.2⟩, c3, c4, c5⟩, k6 _, k3, k4, k5, h8⟩
      · unfold fX5_draw
        rw [within_ok, hx1, Option.bind_some, if_neg (by decide), within_ok, hx2, Option.bind_some, if_pos (by decide), k1, Option.bind_some, p1, Option.bind_some]
      · unfold fX6_draw
        rw [in_ok, hx1, Option.bind_some, if_neg (by decide), in_ok, hx2, Option.bind_some, if_pos (by decide), k2, Option.bind_some, q1, Option.bind_some]
