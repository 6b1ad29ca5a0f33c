/-! ===== reads on both sides ===== -/
/-- the book with d days more, noted by F -/
def rxA (a : TA) (F : Nat → Int32) (d : Nat) : TA := (a.1 + d, (fun j => if j < a.1 * 4 then a.2.1 j else F (j - a.1 * 4)), a.2.2)
theorem rxA_add {a : TA} {G : Nat → Int32} {d : Nat} {f : Nat → Int32} (h : ∀ k, k < (a.1 + d) * 4 → f k = (rxA a G d).2.1 k) : ∀ k, k < (a.1 + d + 1) * 4 → ntD f (a.1 + d) (G (d * 4)) (G (d * 4 + 1)) (G (d * 4 + 2)) (G (d * 4 + 3)) k = (rxA a G (d + 1)).2.1 k := by
  intro k hk
  have e : ∀ m, k = (a.1 + d) * 4 + m → (rxA a G (d + 1)).2.1 k = G (d * 4 + m) := by
    intro m hm
    show (if k < a.1 * 4 then a.2.1 k else G (k - a.1 * 4)) = _
    rw [if_neg (by omega), show k - a.1 * 4 = d * 4 + m by omega]
  unfold ntD upd
  by_cases c4 : k = (a.1 + d) * 4 + 3
  · rw [if_pos c4, e 3 c4]
  · rw [if_neg c4]
    by_cases c3 : k = (a.1 + d) * 4 + 2
    · rw [if_pos c3, e 2 c3]
    · rw [if_neg c3]
      by_cases c2 : k = (a.1 + d) * 4 + 1
      · rw [if_pos c2, e 1 c2]
      · rw [if_neg c2]
        by_cases c1 : k = (a.1 + d) * 4
        · rw [if_pos c1, e 0 c1]
          rfl
        · rw [if_neg c1]
          exact h k (by omega)
theorem rxA_cl {a : TA} {G : Nat → Int32} {d : Nat} {bk : Tbk} (h : clT (rxA a G d) bk) (hn : a.1 + d < 50) : ∃ bk', fX0_append bk (G (d * 4)) (G (d * 4 + 1)) (G (d * 4 + 2)) (G (d * 4 + 3)) = some (nI (a.1 + d), bk') ∧ clT (rxA a G (d + 1)) bk' := by
  obtain ⟨a1, a2, a3, a4, a5, a6⟩ := h
  exact ⟨_, ap_ok a2 hn _ _ _ _, by show a.1 + (d + 1) ≤ 50; omega, rfl, rxA_add a3, a4, a5, a6⟩
theorem rxA_mo {a : TA} {G : Nat → Int32} {d : Nat} {co : Tco} (h : moT (rxA a G d) co) (hn : a.1 + d < 50) : ∃ co', fX6_comes co (G (d * 4)) (G (d * 4 + 1)) (G (d * 4 + 2)) (G (d * 4 + 3)) = some co' ∧ moT (rxA a G (d + 1)) co' := by
  obtain ⟨⟨b1, b2, b3, b4⟩, b5, b6⟩ := h
  exact ⟨_, co_ok b2 hn _ _ _ _, ⟨by show a.1 + (d + 1) ≤ 50; omega, rfl, rxA_add b3, b4⟩, b5, b6⟩
theorem rxA_eq {a : TA} {F G : Nat → Int32} {d : Nat} (h : ∀ j, j < d * 4 → F j = G j) : ∀ k, k < (a.1 + d) * 4 → (rxA a F d).2.1 k = (rxA a G d).2.1 k := by
  intro k hk
  show (if k < a.1 * 4 then a.2.1 k else F (k - a.1 * 4)) = (if k < a.1 * 4 then a.2.1 k else G (k - a.1 * 4))
  by_cases c : k < a.1 * 4
  · rw [if_pos c, if_pos c]
  · rw [if_neg c, if_neg c]; exact h _ (by omega)
theorem rxA_mo2 {a : TA} {F G : Nat → Int32} {d : Nat} {co : Tco} (h : moT (rxA a F d) co) (he : ∀ j, j < d * 4 → F j = G j) : moT (rxA a G d) co := by
  obtain ⟨⟨b1, b2, b3, b4⟩, b5, b6⟩ := h
  exact ⟨⟨b1, b2, fun k hk => (b3 k hk).trans (rxA_eq he k hk), b4⟩, b5, b6⟩
theorem rxA_0c {a : TA} {bk : Tbk} (h : clT a bk) (G : Nat → Int32) : clT (rxA a G 0) bk := by
  obtain ⟨a1, a2, a3, a4, a5, a6⟩ := h
  exact ⟨a1, a2, fun k hk => by
    have hk : k < a.1 * 4 := hk
    show _ = (if k < a.1 * 4 then a.2.1 k else G (k - a.1 * 4))
    rw [if_pos hk]; exact a3 k hk, a4, a5, a6⟩
theorem rxA_0m {a : TA} {co : Tco} (h : moT a co) (G : Nat → Int32) : moT (rxA a G 0) co := by
  obtain ⟨⟨b1, b2, b3, b4⟩, b5, b6⟩ := h
  exact ⟨⟨b1, b2, fun k hk => by
    have hk : k < a.1 * 4 := hk
    show _ = (if k < a.1 * 4 then a.2.1 k else G (k - a.1 * 4))
    rw [if_pos hk]; exact b3 k hk, b4⟩, b5, b6⟩
theorem rxA_ok {a : TA} (h : okT a) {G : Nat → Int32} {d : Nat} (hn : a.1 + d ≤ 50) (hG : ∀ j, j < d * 4 → okV (G j)) : okT (rxA a G d) := by
  obtain ⟨c1, c2, c3, c4, c5⟩ := h
  refine ⟨hn, ⟨fun k hk => ?_, c2.2⟩, c3, c4, c5⟩
  have hk : k < (a.1 + d) * 4 := hk
  show okV (if k < a.1 * 4 then a.2.1 k else G (k - a.1 * 4))
  by_cases c : k < a.1 * 4
  · rw [if_pos c]; exact c2.1 k c
  · rw [if_neg c]; exact hG _ (by omega)
/-- one day, the reference, that only looks (x1 = 0) or takes it (x1 = 1) -/
theorem rx_day {l : Nat} {ch : Nat → Int32} {tm : Ttm} (h : ttM l ch tm) {p : Nat} (hp : p ≤ l) (hs : rxS l ch p = p) (co : Tco) (x1 : Int32) {c : Nat} (hc : c ≤ 50) (y1 : Int32) (y3 : Nat → Int32) :
    (c = 50 → ∃ rd', fX6_readsDay co tm (nI p, y1, nI c, y3) x1 = some ((0 : Int32), co, rd') ∧ rd'.2.1 = nI p) ∧
    (∀ x, ¬ c = 50 → rxD l ch 4 p (fun _ => 0) = .inl x → ∃ rd', fX6_readsDay co tm (nI p, y1, nI c, y3) x1 = some ((0 : Int32), co, rd') ∧ rd'.2.1 = nI x) ∧
    (∀ g q, ¬ c = 50 → rxD l ch 4 p (fun _ => 0) = .inr (g, q) → x1 = 0 → ∃ z1 z3, fX6_readsDay co tm (nI p, y1, nI c, y3) x1 = some ((1 : Int32), co, (nI q, z1, nI (c + 1), z3))) ∧
    (∀ g q co', ¬ c = 50 → rxD l ch 4 p (fun _ => 0) = .inr (g, q) → x1 = 1 → fX6_comes co (g 0) (g 1) (g 2) (g 3) = some co' → ∃ z1 z3, fX6_readsDay co tm (nI p, y1, nI c, y3) x1 = some ((1 : Int32), co', (nI q, z1, nI (c + 1), z3))) := by
  have h1 : fX6_skips tm (nI p, y1, nI c, y3) = some (nI p, nI p, nI c, y3) := by
    have z := sb_m (rd := (nI p, y1, nI c, y3)) h hp rfl
    have e : sk ch (l - p) p = p := hs
    rw [e] at z
    exact z
  obtain ⟨d1, d2⟩ := rxD_m h co x1 (nI c) 4 p FU (nI p) y3 (fun _ => 0) (by decide) hp (fun m hm => absurd hm (by omega)) (by rw [FU_eq]; omega)
  have n50 : ¬ c = 50 → ¬ nI c = (50 : Int32) := fun n z => n ((nI_eq (a := c) (b := 50) (by omega) (by decide)).mp z)
  refine ⟨fun e => ?_, fun x e hD => ?_, fun g q e hD ex => ?_, fun g q co' e hD ex hco => ?_⟩
  · refine ⟨(nI p, nI p, nI c, y3), (rx_bind h1).trans ?_, rfl⟩
    exact if_neg (fun z => z (by show nI c = 50; rw [e]; rfl))
  · obtain ⟨eo, u, e1, e2, e3, e4⟩ := d1 x hD
    refine ⟨u, ?_, e3⟩
    refine (rx_bind h1).trans ((if_pos (n50 e)).trans ((rx_bind e1).trans ?_))
    rcases e2 with rfl | rfl
    · rfl
    · rfl
  · obtain ⟨z1, z3, e1, e2⟩ := d2 g q hD
    refine ⟨z1, z3, ?_⟩
    refine (rx_bind h1).trans ((if_pos (n50 e)).trans ((rx_bind e1).trans ?_))
    refine (if_pos ex).trans ?_
    show some ((1 : Int32), co, (nI q, z1, nI c + 1, z3)) = _
    rw [nI_1]
  · obtain ⟨z1, z3, e1, e2⟩ := d2 g q hD
    refine ⟨z1, z3, ?_⟩
    refine (rx_bind h1).trans ((if_pos (n50 e)).trans ((rx_bind e1).trans ?_))
    refine (if_neg (by rw [ex]; decide)).trans ((gd_t (by decide)).trans ((gd_t (by decide)).trans ((gd_t (by decide)).trans ((gd_t (by decide)).trans ?_))))
    show (fX6_comes co (z3 0) (z3 1) (z3 2) (z3 3)).bind (fun q16 => some ((1 : Int32), q16, (nI q, z1, nI c + 1, z3))) = _
    rw [e2 0 (by decide), e2 1 (by decide), e2 2 (by decide), e2 3 (by decide), hco, nI_1]
    rfl
theorem rxT_m {l : Nat} {ch : Nat → Int32} {tm : Ttm} (h : ttM l ch tm) {n room : Nat} (hn : n + room = 50) (co : Tco) (x2 : Int32) : ∀ k p d fuel y1 y3 F, p ≤ l → rxS l ch p = p → d ≤ room → l - p < k → l - p < fuel →
    (∀ x, rxT l ch room k p d F = .inl x → ∃ rd', lpF (bX6_goesThrough_41 tm 0 x2) fuel (co, (nI p, y1, nI (n + d), y3)) = some (.inl (co, rd')) ∧ rd'.2.1 = nI x) ∧
    (∀ D G, rxT l ch room k p d F = .inr (D, G) → ∃ rd', lpF (bX6_goesThrough_41 tm 0 x2) fuel (co, (nI p, y1, nI (n + d), y3)) = some (.inr (co, rd')) ∧ rd'.2.2.1 = nI (n + D)) := by
  intro k
  induction k with
  | zero => intro p d fuel y1 y3 F hp hs hd hk; omega
  | succ k ih =>
    intro p d fuel y1 y3 F hp hs hd hk hu
    have hl := h.1
    obtain ⟨j, rfl⟩ : ∃ j, fuel = j + 1 := ⟨fuel - 1, by omega⟩
    by_cases c : l ≤ p
    · rw [rxT_e c]
      refine ⟨(fun x z => by cases z), fun D G z => ?_⟩
      cases z
      exact ⟨_, rx_inr (by exact if_pos (show tm.2 ≤ nI p by rw [h.2.1]; exact nI_le c (by omega))) j, rfl⟩
    · have g1 : ¬ tm.2 ≤ nI p := by rw [h.2.1]; exact nI_ge (by omega) (by omega)
      obtain ⟨d1, d2, d3, d4⟩ := rx_day h hp hs co 0 (c := n + d) (by omega) y1 y3
      by_cases c2 : room ≤ d
      · rw [rxT_f c c2]
        refine ⟨fun x z => ?_, fun D G z => by cases z⟩
        cases z
        obtain ⟨rd', e1, e2⟩ := d1 (by omega)
        refine ⟨rd', rx_inr ?_ j, e2⟩
        exact (if_neg g1).trans ((rx_bind e1).trans (if_neg (fun z => z rfl)))
      · cases hD : rxD l ch 4 p (fun _ => 0) with
        | inl y =>
          rw [rxT_l c c2 hD]
          refine ⟨fun x z => ?_, fun D G z => by cases z⟩
          cases z
          obtain ⟨rd', e1, e2⟩ := d2 y (by omega) hD
          refine ⟨rd', rx_inr ?_ j, e2⟩
          exact (if_neg g1).trans ((rx_bind e1).trans (if_neg (fun z => z rfl)))
        | inr r =>
          obtain ⟨g, q⟩ := r
          rw [rxT_r c c2 hD]
          obtain ⟨z1, z3, e1⟩ := d3 g q (by omega) hD rfl
          obtain ⟨a1, a2, a3⟩ := rxD_ok 4 p _ g q (by decide) hp (fun m hm => absurd hm (by omega)) hD
          have hs2 := rxS_le ch a2
          have hsk : fX6_skips tm (nI q, z1, nI (n + d + 1), z3) = some (nI (rxS l ch q), nI (rxS l ch q), nI (n + d + 1), z3) := sb_m (rd := (nI q, z1, nI (n + d + 1), z3)) h a2 rfl
          have e : bX6_goesThrough_41 tm 0 x2 (co, (nI p, y1, nI (n + d), y3)) = some (.inl (co, (nI (rxS l ch q), nI (rxS l ch q), nI (n + (d + 1)), z3))) := by
            refine (if_neg g1).trans ((rx_bind e1).trans ((if_pos (by show ¬ (1 : Int32) = 0; decide)).trans ?_))
            exact rx_bind hsk
          rw [rx_inl e j]
          exact ih (rxS l ch q) (d + 1) j (nI (rxS l ch q)) z3 (rxR F d g) hs2.2 (rxS_idem ch a2) (by omega) (by omega) (by omega)
theorem rxT_a {l : Nat} {ch : Nat → Int32} {tm : Ttm} (h : ttM l ch tm) {a : TA} {room : Nat} (hn : a.1 + room = 50) (x2 : Int32) : ∀ k p d fuel y1 y3 F co D G, p ≤ l → rxS l ch p = p → d ≤ room → l - p < k → l - p < fuel → moT (rxA a F d) co → rxT l ch room k p d F = .inr (D, G) → ∃ co' rd', lpF (bX6_goesThrough_41 tm 1 x2) fuel (co, (nI p, y1, nI (a.1 + d), y3)) = some (.inr (co', rd')) ∧ rd'.2.2.1 = nI (a.1 + D) ∧ moT (rxA a G D) co' := by
  intro k
  induction k with
  | zero => intro p d fuel y1 y3 F co D G hp hs hd hk; omega
  | succ k ih =>
    intro p d fuel y1 y3 F co D G hp hs hd hk hu hco hT
    have hl := h.1
    obtain ⟨j, rfl⟩ : ∃ j, fuel = j + 1 := ⟨fuel - 1, by omega⟩
    by_cases c : l ≤ p
    · rw [rxT_e c] at hT
      cases hT
      exact ⟨_, _, rx_inr (by exact if_pos (show tm.2 ≤ nI p by rw [h.2.1]; exact nI_le c (by omega))) j, rfl, hco⟩
    · have g1 : ¬ tm.2 ≤ nI p := by rw [h.2.1]; exact nI_ge (by omega) (by omega)
      by_cases c2 : room ≤ d
      · rw [rxT_f c c2] at hT
        cases hT
      · cases hD : rxD l ch 4 p (fun _ => 0) with
        | inl y =>
          rw [rxT_l c c2 hD] at hT
          cases hT
        | inr r =>
          obtain ⟨g, q⟩ := r
          rw [rxT_r c c2 hD] at hT
          obtain ⟨d1, d2, d3, d4⟩ := rx_day h hp hs co 1 (c := a.1 + d) (by omega) y1 y3
          obtain ⟨co', k1, k2⟩ := rxA_mo (rxA_mo2 (G := rxR F d g) hco (fun j hj => (rxR_o hj).symm)) (by omega)
          rw [show rxR F d g (d * 4) = g 0 from rxR_n F g d 0, rxR_n, rxR_n, rxR_n] at k1
          obtain ⟨z1, z3, e1⟩ := d4 g q co' (by omega) hD rfl k1
          obtain ⟨a1, a2, a3⟩ := rxD_ok 4 p _ g q (by decide) hp (fun m hm => absurd hm (by omega)) hD
          have hs2 := rxS_le ch a2
          have hsk : fX6_skips tm (nI q, z1, nI (a.1 + d + 1), z3) = some (nI (rxS l ch q), nI (rxS l ch q), nI (a.1 + d + 1), z3) := sb_m (rd := (nI q, z1, nI (a.1 + d + 1), z3)) h a2 rfl
          have e : bX6_goesThrough_41 tm 1 x2 (co, (nI p, y1, nI (a.1 + d), y3)) = some (.inl (co', (nI (rxS l ch q), nI (rxS l ch q), nI (a.1 + (d + 1)), z3))) := by
            refine (if_neg g1).trans ((rx_bind e1).trans ((if_pos (by show ¬ (1 : Int32) = 0; decide)).trans ?_))
            exact rx_bind hsk
          rw [rx_inl e j]
          exact ih (rxS l ch q) (d + 1) j (nI (rxS l ch q)) z3 (rxR F d g) co' D G hs2.2 (rxS_idem ch a2) (by omega) (by omega) (by omega) k2 hT
/-- the class takes the days that it was told -/
theorem rx_app {a : TA} {D : Nat} (hn : a.1 + D ≤ 50) {tx : Ttx} (h5 : tx.2.2.2.2 = nI D) {G : Nat → Int32} (hG : ∀ j, j < D * 4 → tx.2.1 j = G j) {bk : Tbk} (h : clT a bk) (st : Tst) (r0 r1 r2 r3 r4 : Tbk) (li : Tli) : ∃ bk', lpF (bX5_reads_34 st r0 r1 r2 r3 r4 li tx) FU ((0 : Int32), bk) = some bk' ∧ clT (rxA a G D) bk' := by
  have note : ∀ i m, i < D → m < 4 → fX4_note tx (nI i) (nI m) = some (G (i * 4 + m)) := by
    intro i m hi hm
    refine (if_neg (nI_pos (by omega))).trans ((if_neg (show ¬ tx.2.2.2.2 ≤ nI i by rw [h5]; exact nI_ge hi (by omega))).trans ((rx_bind (member_c _)).trans ?_))
    refine (if_neg (by rw [isD_nI hm (by decide)]; decide)).trans ?_
    rw [show nI i * (4 : Int32) + nI m = nI (i * 4 + m) by rw [show (4 : Int32) = nI 4 from rfl, pk_mul, nI_add], gd_t (inB_nI (by omega) (by decide)), cl_nI (by omega), hG _ (by omega)]
    rfl
  refine lp_cnt (fun i (z : Int32 × Tbk) => z.1 = nI i ∧ clT (rxA a G i) z.2) (fun e => clT (rxA a G D) e) D (by omega) ?_ ?_ ((0 : Int32), bk) ⟨rfl, rxA_0c h G⟩
  · rintro i ⟨zi, b⟩ hi ⟨h1, h2⟩
    have h1 : zi = nI i := h1
    subst h1
    obtain ⟨b', k1, k2⟩ := rxA_cl h2 (by omega)
    refine ⟨(nI (i + 1), b'), ?_, rfl, k2⟩
    refine (rx_bind (show fX4_daysTold tx = some (nI D) by rw [← h5]; rfl)).trans ((if_neg (nI_ge hi (by omega))).trans ?_)
    refine (rx_bind (note i 0 hi (by decide))).trans ((rx_bind (note i 1 hi (by decide))).trans ((rx_bind (note i 2 hi (by decide))).trans ((rx_bind (note i 3 hi (by decide))).trans ((rx_bind k1).trans ?_))))
    show some (Sum.inl (nI i + 1, b')) = _
    rw [nI_1]
  · rintro ⟨zi, b⟩ ⟨h1, h2⟩
    have h1 : zi = nI D := h1
    subst h1
    refine ⟨b, ?_, h2⟩
    refine (rx_bind (show fX4_daysTold tx = some (nI D) by rw [← h5]; rfl)).trans ?_
    exact if_pos (nI_le (Nat.le_refl D) (by omega))
theorem rx_10 : ∀ x, x ≤ 120 → ¬ (0 : Int32) ≤ (-10 : Int32) - nI x := by
  intro x hx
  have : ∀ j : Fin 121, ¬ (0 : Int32) ≤ (-10 : Int32) - nI j.val := by decide +kernel
  exact this ⟨x, by omega⟩
theorem q_reads {a : TA} {S : List TA} {cn : Tcn} {bk : Tbk} {st : Tst} {r0 r1 r2 r3 r4 : Tbk} {li : Tli} {co : Tco} {ke : Tke} {rf : Nat → Int32} (h : WI a S cn bk st r0 r1 r2 r3 r4 li co ke rf) {l : Nat} {ch : Nat → Int32} {tx : Ttx} {tm : Ttm} (ht : txP l ch tx tm) (rd : Trd) :
    ∃ r a' S' bk' st' r0' r1' r2' r3' r4' li' tx' co' ke' rd', fX5_reads bk st r0 r1 r2 r3 r4 li tx = some (r, bk', st', r0', r1', r2', r3', r4', li', tx') ∧ fX6_reads co ke tm rd = some (r, co', ke', rd') ∧ WI a' S' cn bk' st' r0' r1' r2' r3' r4' li' co' ke' rf ∧ txP l ch tx' tm := by
  have hW := h
  obtain ⟨st', s0, s1, s2, s3, s4, li', ke', k1, k2, k3, k4, k5, k6⟩ := keep_ok h
  obtain ⟨⟨hA, hM, hO⟩, h4, h5, h6, h7, h8⟩ := h
  obtain ⟨t1, t2, t3, t4, t5⟩ := ht
  have n50 : a.1 ≤ 50 := hO.1
  have hX : ttX l ch tx := ⟨t1, t2, fun i hi => (t4 i hi).1⟩
  have hMt : ttM l ch tm := ⟨t1, t3, fun i hi => (t4 i hi).2⟩
  have back : ∀ tx', ttX l ch tx' → txP l ch tx' tm := fun tx' q => ⟨t1, q.2.1, t3, fun i hi => ⟨q.2.2 i hi, (t4 i hi).2⟩, t5⟩
  have hs := rxS_le ch (Nat.zero_le l)
  have hi := rxS_idem ch (Nat.zero_le l)
  have hco : co.1 = nI a.1 := hM.1.2.1
  -- the class: its start
  have hX0 : ttX l ch (tx.1, tx.2.1, tx.2.2.1, (0 : Int32), (0 : Int32)) := hX
  have c1 : fX4_skipBlanks (tx.1, tx.2.1, tx.2.2.1, (0 : Int32), (0 : Int32)) = some (sPl (tx.1, tx.2.1, tx.2.2.1, (0 : Int32), (0 : Int32)) (rxS l ch 0)) := sb_c hX0 (Nat.zero_le l) rfl
  have c2 : (50 : Int32) - bk.2.2.1 = nI (50 - a.1) := by
    rw [hA.2.1]
    exact pk_sub (a := 50) n50
  -- the reference: its start, whatever rd
  have m1 : ∀ rd : Trd, fX6_skips tm ((0 : Int32), rd.2.1, co.1, rd.2.2.2) = some (nI (rxS l ch 0), nI (rxS l ch 0), co.1, rd.2.2.2) := fun rd => sb_m (rd := ((0 : Int32), rd.2.1, co.1, rd.2.2.2)) hMt (Nat.zero_le l) rfl
  generalize rxS l ch 0 = q at *
  have fault : ∀ x tx', x ≤ l → fX4_parse tx ((50 : Int32) - bk.2.2.1) = some (nI x, tx') → ttX l ch tx' → (∃ rd', fX6_goesThrough co tm rd 0 = some ((-10 : Int32) - nI x, co, rd')) → ∃ r a' S' bk' st' r0' r1' r2' r3' r4' li' tx' co' ke' rd', fX5_reads bk st r0 r1 r2 r3 r4 li tx = some (r, bk', st', r0', r1', r2', r3', r4', li', tx') ∧ fX6_reads co ke tm rd = some (r, co', ke', rd') ∧ WI a' S' cn bk' st' r0' r1' r2' r3' r4' li' co' ke' rf ∧ txP l ch tx' tm := by
    intro x tx' hx e1 e2 ⟨rd', e3⟩
    refine ⟨(-10 : Int32) - nI x, a, S, bk, st, r0, r1, r2, r3, r4, li, tx', co, ke, rd', ?_, ?_, hW, back _ e2⟩
    · refine (rx_bind (show fX0_days bk = some bk.2.2.1 from rfl)).trans ((rx_bind e1).trans ?_)
      exact if_neg (rx_nm1 (by omega))
    · refine (rx_bind e3).trans ?_
      exact if_neg (rx_10 x (by omega))
  by_cases cq : l ≤ q
  · have ql : q = l := by omega
    refine fault l (sPl (tx.1, tx.2.1, tx.2.2.1, (0 : Int32), (0 : Int32)) q) (Nat.le_refl l) ?_ hX0 ⟨(nI q, nI q, co.1, rd.2.2.2), ?_⟩
    · refine (rx_bind c1).trans ((if_pos (show tx.2.2.1 ≤ nI q by rw [t2]; exact nI_le cq (by omega))).trans ?_)
      show (lpF (bX4_parse_36 _) FU (tx.2.2.1, (0 : Int32), _)).bind _ = _
      rw [t2]
      exact rx_bind (rx_end _ t1 _ _ 3999)
    · refine (rx_bind (m1 rd)).trans ((if_neg (fun z => z (by show nI q = tm.2; rw [ql, t3]))).trans ?_)
      rw [t3]
  · have cp : ∀ r, lpF (bX4_parse_36 (nI (50 - a.1))) FU ((-1 : Int32), nI 0, sPl (tx.1, tx.2.1, tx.2.2.1, (0 : Int32), (0 : Int32)) q) = some r → fX4_parse tx ((50 : Int32) - bk.2.2.1) = some r := by
      intro r hq
      rw [c2]
      refine (rx_bind c1).trans ((if_neg (show ¬ tx.2.2.1 ≤ nI q by rw [t2]; exact nI_ge (by omega) (by omega))).trans ?_)
      exact rx_bind hq
    have mp : ∀ (x1 : Int32) (rd : Trd) r, lpF (bX6_goesThrough_41 tm x1 co.1) FU (co, (nI q, nI q, nI (a.1 + 0), rd.2.2.2)) = some r → fX6_goesThrough co tm rd x1 = (match r with | (.inl u7) => (some (((-10 : Int32) - u7.2.2.1), u7.1, u7.2)) | (.inr u7) => (some ((u7.2.2.2.1 - co.1), u7.1, u7.2))) := by
      intro x1 rd r hq
      refine (rx_bind (m1 rd)).trans ((if_pos (show ¬ nI q = tm.2 by rw [t3]; exact fun z => absurd ((nI_eq (by omega) (by omega)).mp z) (by omega))).trans ?_)
      rw [show nI (a.1 + 0) = co.1 from hco.symm] at hq
      exact rx_bind hq
    obtain ⟨p1, p2⟩ := rxT_c (room := 50 - a.1) (by omega) 121 q 0 0 FU (tx.1, tx.2.1, tx.2.2.1, (0 : Int32), (0 : Int32)) (fun _ => 0) hX0 hs.2 (Nat.zero_le _) (Nat.zero_le _) (by omega) (by rw [FU_eq]; omega) rfl (fun j hj => absurd hj (by omega))
    obtain ⟨v1, v2⟩ := rxT_m hMt (n := a.1) (room := 50 - a.1) (by omega) co co.1 121 q 0 FU (nI q) rd.2.2.2 (fun _ => 0) hs.2 hi (Nat.zero_le _) (by omega) (by rw [FU_eq]; omega)
    cases hT : rxT l ch (50 - a.1) 121 q 0 (fun _ => 0) with
    | inl x =>
      obtain ⟨tx', e1, e2⟩ := p1 x hT
      obtain ⟨rd', f1, f2⟩ := v1 x hT
      refine fault x tx' (rxT_x 121 q 0 _ x hs.2 hT) (cp _ e1) e2 ⟨rd', ?_⟩
      rw [mp 0 rd _ f1, ← f2]
    | inr r =>
      obtain ⟨D, G⟩ := r
      obtain ⟨w1, w2, w3, w4⟩ := rxT_ok 121 q 0 _ D G hs.2 (Nat.zero_le _) (fun j hj => absurd hj (by omega)) hT
      obtain ⟨tx', e1, e2, e3, e4⟩ := p2 D G hT
      obtain ⟨rd1, f1, f2⟩ := v2 D G hT
      obtain ⟨co', rd2, g1, g2, g3⟩ := rxT_a hMt (a := a) (room := 50 - a.1) (by omega) co.1 121 q 0 FU (nI q) rd1.2.2.2 (fun _ => 0) co D G hs.2 hi (Nat.zero_le _) (by omega) (by rw [FU_eq]; omega) (rxA_0m hM _) hT
      obtain ⟨bk', b1, b2⟩ := rx_app (a := a) (D := D) (by omega) e3 e4 hA st' s0 s1 s2 s3 s4 li'
      have eD : nI (a.1 + D) - co.1 = nI D := by
        rw [hco, pk_sub (by omega), Nat.add_sub_cancel_left]
      refine ⟨nI D, rxA a G D, (a :: S).take 5, bk', st', s0, s1, s2, s3, s4, li', tx', co', ke', rd2, ?_, ?_, ⟨⟨b2, g3, rxA_ok hO (by omega) w3⟩, k6 _, k3, k4, k5, h8⟩, back _ e2⟩
      · refine (rx_bind (show fX0_days bk = some bk.2.2.1 from rfl)).trans ((rx_bind (cp _ e1)).trans ((if_pos rfl).trans ((rx_bind k1).trans ((rx_bind b1).trans ?_))))
        show some (tx'.2.2.2.2, _) = _
        rw [e3]
      · have m0 : fX6_goesThrough co tm rd 0 = some (nI D, co, rd1) := by
          rw [mp 0 rd _ f1]
          show some (rd1.2.2.1 - co.1, co, rd1) = _
          rw [f2, eD]
        have m2 : fX6_goesThrough co tm rd1 1 = some (nI D, co', rd2) := by
          rw [mp 1 rd1 _ g1]
          show some (rd2.2.2.1 - co.1, co', rd2) = _
          rw [g2, eD]
        refine (rx_bind m0).trans ((if_pos (nI_pos' (by omega))).trans ((rx_bind k2).trans ((rx_bind m2).trans ?_)))
        rfl
