/-! ===== reading the text: numbers on both sides ===== -/
theorem rx_bind {α β : Type} {o : Option α} {a : α} {f : α → Option β} (h : o = some a) : o.bind f = f a := by rw [h]; rfl
theorem rx_nm1 {x : Nat} (hx : x < 2 ^ 31) : ¬ nI x = (-1 : Int32) := by
  intro h
  rw [fa_eq, nI_toInt hx, show (-1 : Int32).toInt = -1 from rfl] at h
  omega
theorem rx_inl {σ ε : Type} {B : σ → Option (σ ⊕ ε)} {s s' : σ} (h : B s = some (.inl s')) (j : Nat) : lpF B (j + 1) s = lpF B j s' := by
  show (B s).bind (fun r => match r with
    | .inl s' => lpF B j s'
    | .inr e => some e) = _
  rw [h]
  rfl
theorem rx_inr {σ ε : Type} {B : σ → Option (σ ⊕ ε)} {s : σ} {e : ε} (h : B s = some (.inr e)) (j : Nat) : lpF B (j + 1) s = some e := by
  unfold lpF
  rw [h]
  rfl
/-- the first place from p on that is not blank -/
def rxS (l : Nat) (ch : Nat → Int32) (p : Nat) : Nat := sk ch (l - p) p
theorem rxS_le {l : Nat} (ch : Nat → Int32) {p : Nat} (h : p ≤ l) : p ≤ rxS l ch p ∧ rxS l ch p ≤ l := by
  have := sk_le ch (l - p) p
  unfold rxS
  omega
theorem sk_stop (ch : Nat → Int32) : ∀ k p, sk ch k p < p + k → ¬ ch (sk ch k p) = 32 := by
  intro k
  induction k with
  | zero => intro p h; exact absurd h (by show ¬ p < p + 0; omega)
  | succ k ih =>
    intro p h
    by_cases c : ch p = 32
    · have e : sk ch (k + 1) p = sk ch k (p + 1) := by
        show (if ch p = 32 then sk ch k (p + 1) else p) = _
        rw [if_pos c]
      rw [e] at h ⊢
      exact ih (p + 1) (by omega)
    · have e : sk ch (k + 1) p = p := by
        show (if ch p = 32 then sk ch k (p + 1) else p) = _
        rw [if_neg c]
      rw [e]
      exact c
theorem sk_fix (ch : Nat → Int32) {k p : Nat} (h : k = 0 ∨ ¬ ch p = 32) : sk ch k p = p := by
  cases k with
  | zero => rfl
  | succ k =>
    show (if ch p = 32 then sk ch k (p + 1) else p) = _
    rw [if_neg (h.resolve_left (by omega))]
theorem rxS_idem {l : Nat} (ch : Nat → Int32) {p : Nat} (hp : p ≤ l) : rxS l ch (rxS l ch p) = rxS l ch p := by
  have h1 := rxS_le ch hp
  have h2 := sk_stop ch (l - p) p
  apply sk_fix
  by_cases c : rxS l ch p = l
  · left; omega
  · right
    exact h2 (by unfold rxS at h1 c; omega)
abbrev rxF (x : Int32) : Bool := inR x 48 57
theorem rxF_of {x : Int32} (h : rxF x = true) : ∃ b, 48 ≤ b ∧ b ≤ 57 ∧ x = nI b := by
  have h := of_decide_eq_true h
  have h1 : (48 : Int) ≤ x.toInt := h.1
  have h2 : x.toInt ≤ (57 : Int) := h.2
  refine ⟨x.toInt.toNat, by omega, by omega, ?_⟩
  rw [fa_eq, nI_toInt (by omega)]
  omega
/-- the figures from p on: how many (and n), the class's number, the reference's, the place behind -/
def rxG (ch : Nat → Int32) : Nat → Nat → Int32 → Int32 → Nat → Nat × Int32 × Int32 × Nat
  | 0, n, v, w, p => (n, v, w, p)
  | k + 1, n, v, w, p => bif rxF (ch p) then rxG ch k (n + 1) (v * 10 + ch p - 48) (if 3 ≤ n then w else 10 * w + ch p - 48) (p + 1) else (n, v, w, p)
theorem rxG_n {ch : Nat → Int32} {p : Nat} (h : rxF (ch p) = false) (k n : Nat) (v w : Int32) : rxG ch (k + 1) n v w p = (n, v, w, p) := by
  show (bif rxF (ch p) then rxG ch k (n + 1) (v * 10 + ch p - 48) (if 3 ≤ n then w else 10 * w + ch p - 48) (p + 1) else (n, v, w, p)) = _
  rw [h]
  rfl
theorem rxG_y {ch : Nat → Int32} {p : Nat} (h : rxF (ch p) = true) (k n : Nat) (v w : Int32) : rxG ch (k + 1) n v w p = rxG ch k (n + 1) (v * 10 + ch p - 48) (if 3 ≤ n then w else 10 * w + ch p - 48) (p + 1) := by
  show (bif rxF (ch p) then rxG ch k (n + 1) (v * 10 + ch p - 48) (if 3 ≤ n then w else 10 * w + ch p - 48) (p + 1) else (n, v, w, p)) = _
  rw [h]
  rfl
theorem rxG_ok (ch : Nat → Int32) : ∀ (k n : Nat) (v w : Int32) (p : Nat), (n ≤ 3 → ∃ a, a < 10 ^ n ∧ v = nI a ∧ w = nI a) → n ≤ (rxG ch k n v w p).1 ∧ (rxG ch k n v w p).1 ≤ n + k ∧ (rxG ch k n v w p).2.2.2 + n = p + (rxG ch k n v w p).1 ∧ ((rxG ch k n v w p).1 ≤ 3 → ∃ a, a < 10 ^ (rxG ch k n v w p).1 ∧ (rxG ch k n v w p).2.1 = nI a ∧ (rxG ch k n v w p).2.2.1 = nI a) := by
  intro k
  induction k with
  | zero => intro n v w p h; exact ⟨Nat.le_refl n, Nat.le_refl n, rfl, h⟩
  | succ k ih =>
    intro n v w p h
    cases hF : rxF (ch p) with
    | false =>
      rw [rxG_n hF]
      exact ⟨Nat.le_refl n, by show n ≤ n + (k + 1); omega, rfl, h⟩
    | true =>
      rw [rxG_y hF]
      have h2 := ih (n + 1) (v * 10 + ch p - 48) (if 3 ≤ n then w else 10 * w + ch p - 48) (p + 1) (fun hn => by
        obtain ⟨a, h1, hv, hw⟩ := h (by omega)
        obtain ⟨b, hb1, hb2, hb⟩ := rxF_of hF
        refine ⟨a * 10 + b - 48, ?_, ?_, ?_⟩
        · rw [Nat.pow_succ]
          generalize 10 ^ n = z at *
          omega
        · rw [hv, hb, show (10 : Int32) = nI 10 from rfl, show (48 : Int32) = nI 48 from rfl, pk_mul, nI_add, pk_sub (by omega)]
        · rw [if_neg (by omega), hw, hb, show (10 : Int32) = nI 10 from rfl, show (48 : Int32) = nI 48 from rfl, pk_mul, nI_add, pk_sub (by omega), Nat.mul_comm 10 a])
      obtain ⟨a1, a2, a3, a4⟩ := h2
      exact ⟨by omega, by omega, by omega, a4⟩
theorem rxG0 (ch : Nat → Int32) (k p : Nat) : (rxG ch k 0 0 0 p).1 ≤ k ∧ (rxG ch k 0 0 0 p).2.2.2 = p + (rxG ch k 0 0 0 p).1 ∧ ((rxG ch k 0 0 0 p).1 ≤ 3 → ∃ a, a ≤ 999 ∧ (rxG ch k 0 0 0 p).2.1 = nI a ∧ (rxG ch k 0 0 0 p).2.2.1 = nI a) := by
  obtain ⟨h1, h2, h3, h4⟩ := rxG_ok ch k 0 0 0 p (fun _ => ⟨0, by decide, rfl, rfl⟩)
  refine ⟨by omega, by omega, fun h => ?_⟩
  obtain ⟨a, b1, b2, b3⟩ := h4 h
  refine ⟨a, ?_, b2, b3⟩
  have : 10 ^ (rxG ch k 0 0 0 p).1 ≤ 10 ^ 3 := Nat.pow_le_pow_right (by decide) h
  have e : (10 : Nat) ^ 3 = 1000 := rfl
  omega
/-- the class's figures -/
theorem rxG_c {l : Nat} {ch : Nat → Int32} {tx : Ttx} (h : ttX l ch tx) (x1 x2 x3 : Int32) : ∀ k p fuel n v w, p + k = l → k < fuel → lpF (bX4_parseNumber_40 x1 x2 x3) fuel (nI n, v, sPl tx p) = some (nI (rxG ch k n v w p).1, (rxG ch k n v w p).2.1, sPl tx (rxG ch k n v w p).2.2.2) := by
  intro k
  induction k with
  | zero =>
    intro p fuel n v w hp hf
    obtain ⟨j, rfl⟩ : ∃ j, fuel = j + 1 := ⟨fuel - 1, by omega⟩
    exact rx_inr (by exact if_pos (show tx.2.2.1 ≤ nI p by rw [h.2.1]; exact nI_le (by omega) (by have := h.1; omega))) j
  | succ k ih =>
    intro p fuel n v w hp hf
    have hl := h.1
    obtain ⟨j, rfl⟩ : ∃ j, fuel = j + 1 := ⟨fuel - 1, by omega⟩
    have hh : fX4_here (sPl tx p) = some (ch p) := by
      rw [he_c (tx := sPl tx p) h (p := p) (by omega) rfl]
      unfold hr
      rw [if_pos (by omega)]
    have hn : ¬ tx.2.2.1 ≤ nI p := by rw [h.2.1]; exact nI_ge (by omega) (by omega)
    cases hF : rxF (ch p) with
    | false =>
      rw [rxG_n hF]
      refine rx_inr ?_ j
      refine (if_neg hn).trans ((rx_bind hh).trans ((rx_bind (within_ok _ _ _)).trans ?_))
      exact if_pos ((b2I_0 _).mpr hF)
    | true =>
      rw [rxG_y hF, ← ih (p + 1) j (n + 1) _ _ (by omega) (by omega)]
      refine rx_inl ?_ j
      refine (if_neg hn).trans ((rx_bind hh).trans ((rx_bind (within_ok _ _ _)).trans ?_))
      refine (if_neg (fun z => absurd ((b2I_0 _).mp z) (by show ¬ rxF (ch p) = false; rw [hF]; decide))).trans ((rx_bind hh).trans ?_)
      show some (Sum.inl (nI n + 1, v * 10 + ch p - 48, (tx.1, tx.2.1, tx.2.2.1, nI p + 1, tx.2.2.2.2))) = _
      rw [nI_1, nI_1]
      rfl
/-- the reference's figures -/
theorem rxG_m {l : Nat} {ch : Nat → Int32} {tm : Ttm} (h : ttM l ch tm) (x1 x2 y1 y2 : Int32) (y3 : Nat → Int32) : ∀ k p fuel n v w, p + k = l → k < fuel → n + k < 2 ^ 30 → lpF (bX6_readsMember_72 tm x1 x2) fuel (nI n, w, (nI p, y1, y2, y3)) = some (nI (rxG ch k n v w p).1, (rxG ch k n v w p).2.2.1, (nI (rxG ch k n v w p).2.2.2, y1, y2, y3)) := by
  intro k
  induction k with
  | zero =>
    intro p fuel n v w hp hf hn
    obtain ⟨j, rfl⟩ : ∃ j, fuel = j + 1 := ⟨fuel - 1, by omega⟩
    have hh : fX6_here tm (nI p, y1, y2, y3) = some (-1) := by
      rw [he_m (rd := (nI p, y1, y2, y3)) h (p := p) (by omega) rfl]
      unfold hr
      rw [if_neg (by omega)]
    refine rx_inr ?_ j
    refine (rx_bind hh).trans ((rx_bind (in_ok _ _ _)).trans ?_)
    exact if_pos (by decide)
  | succ k ih =>
    intro p fuel n v w hp hf hn
    have hl := h.1
    obtain ⟨j, rfl⟩ : ∃ j, fuel = j + 1 := ⟨fuel - 1, by omega⟩
    have hh : fX6_here tm (nI p, y1, y2, y3) = some (ch p) := by
      rw [he_m (rd := (nI p, y1, y2, y3)) h (p := p) (by omega) rfl]
      unfold hr
      rw [if_pos (by omega)]
    cases hF : rxF (ch p) with
    | false =>
      rw [rxG_n hF]
      refine rx_inr ?_ j
      refine (rx_bind hh).trans ((rx_bind (in_ok _ _ _)).trans ?_)
      exact if_pos ((b2I_0 _).mpr hF)
    | true =>
      rw [rxG_y hF, ← ih (p + 1) j (n + 1) _ _ (by omega) (by omega) (by omega)]
      refine rx_inl ?_ j
      refine (rx_bind hh).trans ((rx_bind (in_ok _ _ _)).trans ?_)
      refine (if_neg (fun z => absurd ((b2I_0 _).mp z) (by show ¬ rxF (ch p) = false; rw [hF]; decide))).trans ?_
      by_cases c : 3 ≤ n
      · refine (if_pos (show (3 : Int32) ≤ nI n from nI_le (a := 3) c (by omega))).trans ?_
        rw [if_pos c]
        show some (Sum.inl (nI n + 1, w, (nI p + 1, y1, y2, y3))) = _
        rw [nI_1, nI_1]
      · refine (if_neg (show ¬ (3 : Int32) ≤ nI n from nI_ge (b := 3) (by omega) (by decide))).trans ((rx_bind hh).trans ?_)
        rw [if_neg c]
        show some (Sum.inl (nI n + 1, 10 * w + ch p - 48, (nI p + 1, y1, y2, y3))) = _
        rw [nI_1, nI_1]
theorem rx_13 {n : Nat} (hn : n < 2 ^ 31) : inR (nI n) 1 3 = decide (1 ≤ n ∧ n ≤ 3) := by
  unfold inR
  rw [decide_eq_decide, nI_toInt hn, show (1 : Int32).toInt = 1 from rfl, show (3 : Int32).toInt = 3 from rfl]
  omega
theorem rx_neg : ∀ a, a ≤ 999 → (-(nI a)).toInt.natAbs ≤ 999 := by
  intro a ha
  have : ∀ j : Fin 1000, (-(nI j.val)).toInt.natAbs ≤ 999 := by decide +kernel
  exact this ⟨a, by omega⟩
/-- a number at q: its value and the place behind it -/
def rxB (r : Nat × Int32 × Int32 × Nat) (mi : Bool) : Option (Int32 × Nat) := if 1 ≤ r.1 ∧ r.1 ≤ 3 then some (bif mi then -r.2.1 else r.2.1, r.2.2.2) else none
def rxN (l : Nat) (ch : Nat → Int32) (q : Nat) : Option (Int32 × Nat) := if hr l ch q = 45 then rxB (rxG ch (l - (q + 1)) 0 0 0 (q + 1)) true else rxB (rxG ch (l - q) 0 0 0 q) false
/-- a member from p on -/
def rxM (l : Nat) (ch : Nat → Int32) (p : Nat) : Option (Int32 × Nat) := if hr l ch (rxS l ch p) = 46 then some (-10000, rxS l ch p + 1) else rxN l ch (rxS l ch p)
theorem hr_lt {l : Nat} {ch : Nat → Int32} {q : Nat} {x : Int32} (h : hr l ch q = x) (hx : ¬ x = -1) : q < l := by
  by_cases c : q < l
  · exact c
  · unfold hr at h
    rw [if_neg c] at h
    exact absurd h.symm hx
theorem rxB_ok {ch : Nat → Int32} {k p : Nat} {mi : Bool} {v : Int32} {q : Nat} (h : rxB (rxG ch k 0 0 0 p) mi = some (v, q)) : okV v ∧ p < q ∧ q ≤ p + k := by
  obtain ⟨g1, g2, g3⟩ := rxG0 ch k p
  unfold rxB at h
  by_cases c : 1 ≤ (rxG ch k 0 0 0 p).1 ∧ (rxG ch k 0 0 0 p).1 ≤ 3
  · rw [if_pos c] at h
    obtain ⟨a, b1, b2, b3⟩ := g3 c.2
    cases h
    refine ⟨Or.inr ?_, by omega, by omega⟩
    cases mi with
    | false =>
      show (rxG ch k 0 0 0 p).2.1.toInt.natAbs ≤ 999
      rw [b2, nI_toInt (by omega)]
      omega
    | true =>
      show (-(rxG ch k 0 0 0 p).2.1).toInt.natAbs ≤ 999
      rw [b2]
      exact rx_neg a b1
  · rw [if_neg c] at h
    cases h
theorem rxM_ok {l : Nat} {ch : Nat → Int32} {p : Nat} (hp : p ≤ l) {v : Int32} {q : Nat} (h : rxM l ch p = some (v, q)) : okV v ∧ p < q ∧ q ≤ l := by
  have hs := rxS_le ch hp
  unfold rxM at h
  by_cases c : hr l ch (rxS l ch p) = 46
  · rw [if_pos c] at h
    have := hr_lt c (by decide)
    cases h
    exact ⟨Or.inl rfl, by omega, by omega⟩
  · rw [if_neg c] at h
    unfold rxN at h
    by_cases c2 : hr l ch (rxS l ch p) = 45
    · rw [if_pos c2] at h
      have := hr_lt c2 (by decide)
      obtain ⟨a1, a2, a3⟩ := rxB_ok h
      exact ⟨a1, by omega, by omega⟩
    · rw [if_neg c2] at h
      obtain ⟨a1, a2, a3⟩ := rxB_ok h
      exact ⟨a1, by omega, by omega⟩
