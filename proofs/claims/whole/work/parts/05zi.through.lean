/-! ===== reading the text: days, and the whole of it, on both sides ===== -/
/-- k members more from p on, behind those of f: a fault's place, or all four and the place behind -/
def rxD (l : Nat) (ch : Nat → Int32) : Nat → Nat → (Nat → Int32) → Nat ⊕ ((Nat → Int32) × Nat)
  | 0, p, f => .inr (f, p)
  | k + 1, p, f => match rxL l ch (rxK (3 - k)) p with
    | .inl x => .inl x
    | .inr r => rxD l ch k r.2 (upd f (3 - k) r.1)
theorem rxD_l {l : Nat} {ch : Nat → Int32} {k p x : Nat} (h : rxL l ch (rxK (3 - k)) p = .inl x) (f : Nat → Int32) : rxD l ch (k + 1) p f = .inl x := by
  show (match rxL l ch (rxK (3 - k)) p with
    | .inl x => Sum.inl x
    | .inr r => rxD l ch k r.2 (upd f (3 - k) r.1)) = _
  rw [h]
theorem rxD_r {l : Nat} {ch : Nat → Int32} {k p q : Nat} {v : Int32} (h : rxL l ch (rxK (3 - k)) p = .inr (v, q)) (f : Nat → Int32) : rxD l ch (k + 1) p f = rxD l ch k q (upd f (3 - k) v) := by
  show (match rxL l ch (rxK (3 - k)) p with
    | .inl x => Sum.inl x
    | .inr r => rxD l ch k r.2 (upd f (3 - k) r.1)) = _
  rw [h]
theorem rxD_x {l : Nat} {ch : Nat → Int32} : ∀ k p f x, p ≤ l → rxD l ch k p f = .inl x → x ≤ l := by
  intro k
  induction k with
  | zero => intro p f x hp h; cases h
  | succ k ih =>
    intro p f x hp h
    cases hL : rxL l ch (rxK (3 - k)) p with
    | inl y =>
      rw [rxD_l hL] at h
      cases h
      exact rxL_x hp hL
    | inr r =>
      obtain ⟨v, q⟩ := r
      rw [rxD_r hL] at h
      exact ih q _ x (rxL_ok (rxK_n _) hp hL).2.2 h
theorem rxD_ok {l : Nat} {ch : Nat → Int32} : ∀ k p f g q, k ≤ 4 → p ≤ l → (∀ m, m < 4 - k → okV (f m)) → rxD l ch k p f = .inr (g, q) → p + k ≤ q ∧ q ≤ l ∧ ∀ m, m < 4 → okV (g m) := by
  intro k
  induction k with
  | zero =>
    intro p f g q hk hp hf h
    cases h
    exact ⟨Nat.le_refl _, hp, hf⟩
  | succ k ih =>
    intro p f g q hk hp hf h
    cases hL : rxL l ch (rxK (3 - k)) p with
    | inl y =>
      rw [rxD_l hL] at h
      cases h
    | inr r =>
      obtain ⟨v, q'⟩ := r
      rw [rxD_r hL] at h
      obtain ⟨a1, a2, a3⟩ := rxL_ok (rxK_n _) hp hL
      obtain ⟨b1, b2, b3⟩ := ih q' _ g q (by omega) a3 (fun m hm => by
        unfold upd
        by_cases c : m = 3 - k
        · rw [if_pos c]; exact a1
        · rw [if_neg c]; exact hf m (by omega)) h
      exact ⟨by omega, b2, b3⟩
theorem rx_out (x1 : Int32) {x : Nat} (hx : x ≤ 120) (m : Int32) (tx : Ttx) (j : Nat) : lpF (bX4_parseDay_4 x1) (j + 1) (nI x, m, tx) = some (nI x, tx) := by
  refine rx_inr ?_ j
  by_cases c : (4 : Int32) ≤ m
  · exact if_pos c
  · refine (if_neg c).trans ?_
    exact if_pos (rx_nm1 (by omega))
theorem rxD_c {l : Nat} {ch : Nat → Int32} {d : Nat} (hd : d < 50) : ∀ k p fuel tx f, k ≤ 4 → ttX l ch tx → p ≤ l → (∀ m, m < 4 - k → tx.2.1 (d * 4 + m) = f m) → k + 1 < fuel →
    (∀ x, rxD l ch k p f = .inl x → ∃ tx', lpF (bX4_parseDay_4 (nI d)) fuel ((-1 : Int32), nI (4 - k), sPl tx p) = some (nI x, tx') ∧ ttX l ch tx') ∧
    (∀ g q, rxD l ch k p f = .inr (g, q) → ∃ tx', lpF (bX4_parseDay_4 (nI d)) fuel ((-1 : Int32), nI (4 - k), sPl tx p) = some ((-1 : Int32), sPl tx' q) ∧ ttX l ch tx' ∧ tx'.2.2.2.2 = tx.2.2.2.2 ∧ (∀ m, m < 4 → tx'.2.1 (d * 4 + m) = g m) ∧ ∀ j, j < d * 4 → tx'.2.1 j = tx.2.1 j) := by
  intro k
  induction k with
  | zero =>
    intro p fuel tx f hk h hp hf hu
    obtain ⟨j, rfl⟩ : ∃ j, fuel = j + 1 := ⟨fuel - 1, by omega⟩
    refine ⟨(fun x z => by cases z), fun g q z => ?_⟩
    cases z
    exact ⟨tx, rx_inr (by exact if_pos (by show (4 : Int32) ≤ nI 4; decide)) j, h, rfl, hf, fun _ _ => rfl⟩
  | succ k ih =>
    intro p fuel tx f hk h hp hf hu
    have hl := h.1
    obtain ⟨j, rfl⟩ : ∃ j, fuel = j + 2 := ⟨fuel - 2, by omega⟩
    have em : 4 - (k + 1) = 3 - k := by omega
    have em2 : 3 - k + 1 = 4 - k := by omega
    rw [em] at hf ⊢
    obtain ⟨c1, c2⟩ := rxL_c h hp hd (m := 3 - k) (by omega)
    cases hL : rxL l ch (rxK (3 - k)) p with
    | inl y =>
      rw [rxD_l hL]
      refine ⟨fun x z => ?_, fun g q z => by cases z⟩
      cases z
      obtain ⟨tx', e1, e2⟩ := c1 y hL
      refine ⟨tx', ?_, e2⟩
      rw [rx_inl e1 (j + 1)]
      exact rx_out _ (by have := rxL_x hp hL; omega) _ _ _
    | inr r =>
      obtain ⟨v, q⟩ := r
      obtain ⟨a1, a2, a3⟩ := rxL_ok (rxK_n _) hp hL
      have e1 := c2 v q hL
      rw [em2] at e1
      rw [rxD_r hL, rx_inl e1 (j + 1)]
      have hT : ttX l ch (rxP tx (d * 4 + (3 - k)) v) := h
      obtain ⟨i1, i2⟩ := ih q (j + 1) (rxP tx (d * 4 + (3 - k)) v) (upd f (3 - k) v) (by omega) hT a3 (fun m hm => by
        show upd tx.2.1 (d * 4 + (3 - k)) v (d * 4 + m) = upd f (3 - k) v m
        unfold upd
        by_cases c : m = 3 - k
        · rw [if_pos c, if_pos (by omega)]
        · rw [if_neg c, if_neg (by omega)]; exact hf m (by omega)) (by omega)
      refine ⟨i1, fun g q' z => ?_⟩
      obtain ⟨tx', t1, t2, t3, t4, t5⟩ := i2 g q' z
      refine ⟨tx', t1, t2, t3, t4, fun i hi => ?_⟩
      rw [t5 i hi]
      show upd tx.2.1 (d * 4 + (3 - k)) v i = tx.2.1 i
      unfold upd
      rw [if_neg (by omega)]
theorem rxD_m {l : Nat} {ch : Nat → Int32} {tm : Ttm} (h : ttM l ch tm) (co : Tco) (x1 y2 : Int32) : ∀ k p fuel y1 y3 f, k ≤ 4 → p ≤ l → (∀ m, m < 4 - k → y3 m = f m) → k < fuel →
    (∀ x, rxD l ch k p f = .inl x → ∃ e u, lpF (bX6_readsDay_17 co tm x1) fuel (nI (4 - k), (nI p, y1, y2, y3)) = some e ∧ (e = .inl u ∨ e = .inr (.inl u)) ∧ u.2.1 = nI x ∧ u.2.2.1 = y2) ∧
    (∀ g q, rxD l ch k p f = .inr (g, q) → ∃ z1 z3, lpF (bX6_readsDay_17 co tm x1) fuel (nI (4 - k), (nI p, y1, y2, y3)) = some (.inr (.inr (nI q, z1, y2, z3))) ∧ ∀ m, m < 4 → z3 m = g m) := by
  intro k
  induction k with
  | zero =>
    intro p fuel y1 y3 f hk hp hf hu
    obtain ⟨j, rfl⟩ : ∃ j, fuel = j + 1 := ⟨fuel - 1, by omega⟩
    refine ⟨(fun x z => by cases z), fun g q z => ?_⟩
    cases z
    exact ⟨y1, y3, rx_inr (by exact if_pos (by show (4 : Int32) ≤ nI 4; decide)) j, hf⟩
  | succ k ih =>
    intro p fuel y1 y3 f hk hp hf hu
    obtain ⟨j, rfl⟩ : ∃ j, fuel = j + 1 := ⟨fuel - 1, by omega⟩
    have em : 4 - (k + 1) = 3 - k := by omega
    have em2 : 3 - k + 1 = 4 - k := by omega
    rw [em] at hf ⊢
    obtain ⟨c1, c2⟩ := rxL_m h co x1 hp (m := 3 - k) (by omega) y1 y2 y3
    cases hL : rxL l ch (rxK (3 - k)) p with
    | inl y =>
      rw [rxD_l hL]
      refine ⟨fun x z => ?_, fun g q z => by cases z⟩
      cases z
      obtain ⟨e, u, e1, e2, e3, e4⟩ := c1 y hL
      exact ⟨e, u, rx_inr e1 j, e2, e3, e4⟩
    | inr r =>
      obtain ⟨v, q⟩ := r
      obtain ⟨a1, a2, a3⟩ := rxL_ok (rxK_n _) hp hL
      obtain ⟨z1, e1⟩ := c2 v q hL
      rw [em2] at e1
      rw [rxD_r hL, rx_inl e1 j]
      exact ih q j z1 (upd y3 (3 - k) v) (upd f (3 - k) v) (by omega) a3 (fun m hm => upd_ag (fun c => hf m (by omega))) (by omega)
/-- a row of four behind d rows -/
def rxR (F : Nat → Int32) (d : Nat) (g : Nat → Int32) : Nat → Int32 := fun j => if j < d * 4 then F j else g (j - d * 4)
theorem rxR_o {F g : Nat → Int32} {d j : Nat} (h : j < d * 4) : rxR F d g j = F j := if_pos h
theorem rxR_n (F g : Nat → Int32) (d m : Nat) : rxR F d g (d * 4 + m) = g m := by
  unfold rxR
  rw [if_neg (by omega), Nat.add_sub_cancel_left]
/-- the whole text from p on, d days told, room for so many: a fault's place, or how many days and their notes -/
def rxT (l : Nat) (ch : Nat → Int32) (room : Nat) : Nat → Nat → Nat → (Nat → Int32) → Nat ⊕ (Nat × (Nat → Int32))
  | 0, _, d, F => .inr (d, F)
  | k + 1, p, d, F => if l ≤ p then .inr (d, F) else if room ≤ d then .inl p else match rxD l ch 4 p (fun _ => 0) with
    | .inl x => .inl x
    | .inr r => rxT l ch room k (rxS l ch r.2) (d + 1) (rxR F d r.1)
theorem rxT_e {l : Nat} {ch : Nat → Int32} {room k p : Nat} (h : l ≤ p) (d : Nat) (F : Nat → Int32) : rxT l ch room (k + 1) p d F = .inr (d, F) := if_pos h
theorem rxT_f {l : Nat} {ch : Nat → Int32} {room k p d : Nat} (h : ¬ l ≤ p) (h2 : room ≤ d) (F : Nat → Int32) : rxT l ch room (k + 1) p d F = .inl p := (if_neg h).trans (if_pos h2)
theorem rxT_l {l : Nat} {ch : Nat → Int32} {room k p d x : Nat} (h : ¬ l ≤ p) (h2 : ¬ room ≤ d) (h3 : rxD l ch 4 p (fun _ => 0) = .inl x) (F : Nat → Int32) : rxT l ch room (k + 1) p d F = .inl x := by
  refine (if_neg h).trans ((if_neg h2).trans ?_)
  rw [h3]
theorem rxT_r {l : Nat} {ch : Nat → Int32} {room k p d q : Nat} {g : Nat → Int32} (h : ¬ l ≤ p) (h2 : ¬ room ≤ d) (h3 : rxD l ch 4 p (fun _ => 0) = .inr (g, q)) (F : Nat → Int32) : rxT l ch room (k + 1) p d F = rxT l ch room k (rxS l ch q) (d + 1) (rxR F d g) := by
  refine (if_neg h).trans ((if_neg h2).trans ?_)
  rw [h3]
theorem rxT_x {l : Nat} {ch : Nat → Int32} {room : Nat} : ∀ k p d F x, p ≤ l → rxT l ch room k p d F = .inl x → x ≤ l := by
  intro k
  induction k with
  | zero => intro p d F x hp h; cases h
  | succ k ih =>
    intro p d F x hp h
    by_cases c : l ≤ p
    · rw [rxT_e c] at h; cases h
    · by_cases c2 : room ≤ d
      · rw [rxT_f c c2] at h; cases h; exact hp
      · cases hD : rxD l ch 4 p (fun _ => 0) with
        | inl y =>
          rw [rxT_l c c2 hD] at h
          cases h
          exact rxD_x 4 p _ x hp hD
        | inr r =>
          obtain ⟨g, q⟩ := r
          rw [rxT_r c c2 hD] at h
          have a := rxD_ok 4 p _ g q (by decide) hp (fun m hm => absurd hm (by omega)) hD
          exact ih _ _ _ x (rxS_le ch a.2.1).2 h
theorem rxT_ok {l : Nat} {ch : Nat → Int32} {room : Nat} : ∀ k p d F D G, p ≤ l → d ≤ room → (∀ j, j < d * 4 → okV (F j)) → rxT l ch room k p d F = .inr (D, G) → d ≤ D ∧ D ≤ room ∧ (∀ j, j < D * 4 → okV (G j)) ∧ ∀ j, j < d * 4 → G j = F j := by
  intro k
  induction k with
  | zero =>
    intro p d F D G hp hd hF h
    cases h
    exact ⟨Nat.le_refl _, hd, hF, fun _ _ => rfl⟩
  | succ k ih =>
    intro p d F D G hp hd hF h
    by_cases c : l ≤ p
    · rw [rxT_e c] at h
      cases h
      exact ⟨Nat.le_refl _, hd, hF, fun _ _ => rfl⟩
    · by_cases c2 : room ≤ d
      · rw [rxT_f c c2] at h; cases h
      · cases hD : rxD l ch 4 p (fun _ => 0) with
        | inl y =>
          rw [rxT_l c c2 hD] at h
          cases h
        | inr r =>
          obtain ⟨g, q⟩ := r
          rw [rxT_r c c2 hD] at h
          obtain ⟨a1, a2, a3⟩ := rxD_ok 4 p _ g q (by decide) hp (fun m hm => absurd hm (by omega)) hD
          obtain ⟨b1, b2, b3, b4⟩ := ih _ _ _ D G (rxS_le ch a2).2 (by omega) (fun j hj => by
            by_cases c3 : j < d * 4
            · rw [rxR_o c3]; exact hF j c3
            · rw [show j = d * 4 + (j - d * 4) by omega, rxR_n]
              exact a3 _ (by omega)) h
          exact ⟨by omega, b2, b3, fun j hj => by rw [b4 j (by omega), rxR_o hj]⟩
/-- a fault ends the class's loop -/
theorem rx_end (x1 : Int32) {x : Nat} (hx : x ≤ 120) (i : Int32) (tx : Ttx) (j : Nat) : lpF (bX4_parse_36 x1) (j + 1) (nI x, i, tx) = some (nI x, tx) := by
  refine rx_inr ?_ j
  by_cases c : (120 : Int32) ≤ i
  · exact if_pos c
  · refine (if_neg c).trans ?_
    by_cases c2 : tx.2.2.1 ≤ tx.2.2.2.1
    · exact if_pos c2
    · refine (if_neg c2).trans ?_
      exact if_pos (rx_nm1 (by omega))
theorem rxT_c {l : Nat} {ch : Nat → Int32} {room : Nat} (hrm : room ≤ 50) : ∀ k p d i fuel tx F, ttX l ch tx → p ≤ l → d ≤ room → i ≤ p → l - p < k → l - p + 1 < fuel → tx.2.2.2.2 = nI d → (∀ j, j < d * 4 → tx.2.1 j = F j) →
    (∀ x, rxT l ch room k p d F = .inl x → ∃ tx', lpF (bX4_parse_36 (nI room)) fuel ((-1 : Int32), nI i, sPl tx p) = some (nI x, tx') ∧ ttX l ch tx') ∧
    (∀ D G, rxT l ch room k p d F = .inr (D, G) → ∃ tx', lpF (bX4_parse_36 (nI room)) fuel ((-1 : Int32), nI i, sPl tx p) = some ((-1 : Int32), tx') ∧ ttX l ch tx' ∧ tx'.2.2.2.2 = nI D ∧ ∀ j, j < D * 4 → tx'.2.1 j = G j) := by
  intro k
  induction k with
  | zero => intro p d i fuel tx F h hp hd hi hk; omega
  | succ k ih =>
    intro p d i fuel tx F h hp hd hi hk hu h5 hF
    have hl := h.1
    by_cases c : l ≤ p
    · obtain ⟨j, rfl⟩ : ∃ j, fuel = j + 1 := ⟨fuel - 1, by omega⟩
      rw [rxT_e c]
      refine ⟨(fun x z => by cases z), fun D G z => ?_⟩
      cases z
      refine ⟨sPl tx p, rx_inr ?_ j, h, h5, hF⟩
      by_cases c0 : (120 : Int32) ≤ nI i
      · exact if_pos c0
      · refine (if_neg c0).trans ?_
        exact if_pos (show tx.2.2.1 ≤ nI p by rw [h.2.1]; exact nI_le c (by omega))
    · obtain ⟨j, rfl⟩ : ∃ j, fuel = j + 2 := ⟨fuel - 2, by omega⟩
      have g1 : ¬ (120 : Int32) ≤ nI i := nI_ge (b := 120) (by omega) (by decide)
      have g2 : ¬ tx.2.2.1 ≤ nI p := by rw [h.2.1]; exact nI_ge (by omega) (by omega)
      by_cases c2 : room ≤ d
      · rw [rxT_f c c2]
        refine ⟨fun x z => ?_, fun D G z => by cases z⟩
        cases z
        refine ⟨sPl tx p, ?_, h⟩
        have e : bX4_parse_36 (nI room) ((-1 : Int32), nI i, sPl tx p) = some (.inl (nI p, nI i + 1, sPl tx p)) := by
          refine (if_neg g1).trans ((if_neg g2).trans ((if_neg (fun z => z rfl)).trans ?_))
          refine (if_pos (show nI room ≤ tx.2.2.2.2 by rw [h5]; exact nI_le c2 (by omega))).trans ?_
          exact if_pos (rx_nm1 (by omega))
        rw [rx_inl e (j + 1)]
        exact rx_end _ (by omega) _ _ _
      · have g3 : ¬ nI room ≤ tx.2.2.2.2 := by rw [h5]; exact nI_ge (by omega) (by omega)
        have g4 : ¬ (50 : Int32) ≤ tx.2.2.2.2 := by rw [h5]; exact nI_ge (b := 50) (by omega) (by decide)
        have start : ∀ r, fX4_parseDay (sPl tx p) (nI d) = some r → bX4_parse_36 (nI room) ((-1 : Int32), nI i, sPl tx p) = jX4_parse_36_90 r.2 (nI room) (nI i) r.1 := by
          intro r hq
          rw [← h5] at hq
          exact (if_neg g1).trans ((if_neg g2).trans ((if_neg (fun z => z rfl)).trans ((if_neg g3).trans ((if_neg g4).trans (rx_bind hq)))))
        obtain ⟨d1, d2⟩ := rxD_c (d := d) (by omega) 4 p FU tx (fun _ => 0) (by decide) h hp (fun m hm => absurd hm (by omega)) (by rw [FU_eq]; omega)
        cases hD : rxD l ch 4 p (fun _ => 0) with
        | inl y =>
          rw [rxT_l c c2 hD]
          refine ⟨fun x z => ?_, fun D G z => by cases z⟩
          cases z
          obtain ⟨tx', e1, e2⟩ := d1 y hD
          have hy := rxD_x 4 p _ y hp hD
          refine ⟨tx', ?_, e2⟩
          have e3 : fX4_parseDay (sPl tx p) (nI d) = some (nI y, tx') := rx_bind e1
          have e : bX4_parse_36 (nI room) ((-1 : Int32), nI i, sPl tx p) = some (.inl (nI y, nI i + 1, tx')) := by
            rw [start _ e3]
            exact if_pos (rx_nm1 (by omega))
          rw [rx_inl e (j + 1)]
          exact rx_end _ (by omega) _ _ _
        | inr r =>
          obtain ⟨g, q⟩ := r
          rw [rxT_r c c2 hD]
          obtain ⟨tx', e1, e2, e3, e4, e5⟩ := d2 g q hD
          obtain ⟨a1, a2, a3⟩ := rxD_ok 4 p _ g q (by decide) hp (fun m hm => absurd hm (by omega)) hD
          have hs := rxS_le ch a2
          have e6 : fX4_parseDay (sPl tx p) (nI d) = some ((-1 : Int32), sPl tx' q) := rx_bind e1
          have hT : ttX l ch (tx'.1, tx'.2.1, tx'.2.2.1, nI q, nI (d + 1)) := e2
          have hsk : fX4_skipBlanks (tx'.1, tx'.2.1, tx'.2.2.1, nI q, nI (d + 1)) = some (sPl (tx'.1, tx'.2.1, tx'.2.2.1, nI q, nI (d + 1)) (rxS l ch q)) := sb_c hT a2 rfl
          have e : bX4_parse_36 (nI room) ((-1 : Int32), nI i, sPl tx p) = some (.inl ((-1 : Int32), nI (i + 1), sPl (tx'.1, tx'.2.1, tx'.2.2.1, nI q, nI (d + 1)) (rxS l ch q))) := by
            rw [start _ e6]
            refine (if_neg (fun z => z rfl)).trans ?_
            show (fX4_skipBlanks (tx'.1, tx'.2.1, tx'.2.2.1, nI q, tx'.2.2.2.2 + 1)).bind _ = _
            rw [e3, h5, nI_1]
            refine (rx_bind hsk).trans ?_
            show some (Sum.inl ((-1 : Int32), nI i + 1, _)) = _
            rw [nI_1]
          rw [rx_inl e (j + 1)]
          exact ih (rxS l ch q) (d + 1) (i + 1) (j + 1) (tx'.1, tx'.2.1, tx'.2.2.1, nI q, nI (d + 1)) (rxR F d g) hT hs.2 (by omega) (by omega) (by omega) (by omega) rfl (fun i2 hi2 => by
            show tx'.2.1 i2 = _
            by_cases c3 : i2 < d * 4
            · rw [rxR_o c3, e5 i2 c3]; exact hF i2 c3
            · rw [show i2 = d * 4 + (i2 - d * 4) by omega, rxR_n]
              exact e4 _ (by omega))
