/-! ===== reading the text: here and skips on both sides ===== -/
def hr (l : Nat) (ch : Nat → Int32) (p : Nat) : Int32 := if p < l then ch p else -1
/-- the first place from p on that is not blank, k places at most -/
def sk (ch : Nat → Int32) : Nat → Nat → Nat
  | 0, p => p
  | k + 1, p => if ch p = 32 then sk ch k (p + 1) else p
theorem sk_le (ch : Nat → Int32) : ∀ k p, p ≤ sk ch k p ∧ sk ch k p ≤ p + k
  | 0, p => ⟨Nat.le_refl p, Nat.le_refl p⟩
  | k + 1, p => by
    have := sk_le ch k (p + 1)
    unfold sk
    by_cases c : ch p = 32
    · rw [if_pos c]; omega
    · rw [if_neg c]; omega
def ttX (l : Nat) (ch : Nat → Int32) (tx : Ttx) : Prop := l ≤ 120 ∧ tx.2.2.1 = nI l ∧ ∀ i, i < l → tx.1 i = ch i
def ttM (l : Nat) (ch : Nat → Int32) (tm : Ttm) : Prop := l ≤ 120 ∧ tm.2 = nI l ∧ ∀ i, i < l → tm.1 i = ch i
theorem he_c {l : Nat} {ch : Nat → Int32} {tx : Ttx} (h : ttX l ch tx) {p : Nat} (hp : p ≤ l) (he : tx.2.2.2.1 = nI p) : fX4_here tx = some (hr l ch p) := by
  obtain ⟨h1, h2, h3⟩ := h
  unfold fX4_here hr
  rw [he, if_neg (nI_pos (by omega)), h2]
  by_cases c : p < l
  · rw [if_neg (nI_ge c (by omega)), gd_t (inB_nI (by omega) (by decide)), cl_nI (by omega), if_pos c, h3 p c]
    rfl
  · rw [if_pos (nI_le (by omega) (by omega)), if_neg c]
    rfl
theorem he_m {l : Nat} {ch : Nat → Int32} {tm : Ttm} {rd : Trd} (h : ttM l ch tm) {p : Nat} (hp : p ≤ l) (he : rd.1 = nI p) : fX6_here tm rd = some (hr l ch p) := by
  obtain ⟨h1, h2, h3⟩ := h
  unfold fX6_here hr
  rw [he, h2]
  by_cases c : p < l
  · rw [if_neg (nI_ge c (by omega)), gd_t (inB_nI (by omega) (by decide)), cl_nI (by omega), if_pos c, h3 p c]
    rfl
  · rw [if_pos (nI_le (by omega) (by omega)), if_neg c]
    rfl
def sPl (tx : Ttx) (p : Nat) : Ttx := (tx.1, tx.2.1, tx.2.2.1, nI p, tx.2.2.2.2)
theorem sbl_c {l : Nat} {ch : Nat → Int32} {tx : Ttx} (h : ttX l ch tx) : ∀ k p fuel, p + k = l → k < fuel → lpF bX4_skipBlanks_0 fuel (sPl tx p) = some (sPl tx (sk ch k p)) := by
  intro k
  induction k with
  | zero =>
    intro p fuel hp hf
    obtain ⟨j, rfl⟩ : ∃ j, fuel = j + 1 := ⟨fuel - 1, by omega⟩
    unfold lpF
    rw [show bX4_skipBlanks_0 (sPl tx p) = some (.inr (sPl tx p)) by
      unfold bX4_skipBlanks_0
      rw [if_pos (show (sPl tx p).2.2.1 ≤ (sPl tx p).2.2.2.1 by show tx.2.2.1 ≤ nI p; rw [h.2.1]; exact nI_le (by omega) (by have := h.1; omega))]]
    rfl
  | succ k ih =>
    intro p fuel hp hf
    have hl := h.1
    obtain ⟨j, rfl⟩ : ∃ j, fuel = j + 1 := ⟨fuel - 1, by omega⟩
    have hh : fX4_here (sPl tx p) = some (ch p) := by
      rw [he_c (tx := sPl tx p) h (p := p) (by omega) rfl]
      unfold hr
      rw [if_pos (by omega)]
    have hb : bX4_skipBlanks_0 (sPl tx p) = if ¬ ch p = 32 then some (.inr (sPl tx p)) else some (.inl (sPl tx (p + 1))) := by
      unfold bX4_skipBlanks_0
      rw [if_neg (show ¬ (sPl tx p).2.2.1 ≤ (sPl tx p).2.2.2.1 by show ¬ tx.2.2.1 ≤ nI p; rw [h.2.1]; exact nI_ge (by omega) (by omega)), hh, Option.bind_some]
      show (if ¬ ch p = 32 then some (Sum.inr (sPl tx p)) else some (Sum.inl (tx.1, tx.2.1, tx.2.2.1, nI p + (1 : Int32), tx.2.2.2.2))) = _
      rw [nI_1]
      rfl
    unfold lpF sk
    rw [hb]
    by_cases c : ch p = 32
    · rw [if_neg (fun z => z c), if_pos c]
      exact ih (p + 1) j (by omega) (by omega)
    · rw [if_pos c, if_neg c]
      rfl
theorem sb_c {l : Nat} {ch : Nat → Int32} {tx : Ttx} (h : ttX l ch tx) {p : Nat} (hp : p ≤ l) (he : tx.2.2.2.1 = nI p) : fX4_skipBlanks tx = some (sPl tx (sk ch (l - p) p)) := by
  have hl := h.1
  have hq : sPl tx p = tx := by unfold sPl; rw [← he]
  unfold fX4_skipBlanks
  rw [h.2.1, he]
  by_cases c : l ≤ p
  · rw [if_pos (nI_le c (by omega)), show l - p = 0 by omega]
    unfold sk
    rw [hq]
  · rw [if_neg (nI_ge (by omega) (by omega)), he_c h hp he, Option.bind_some]
    obtain ⟨k, hk⟩ : ∃ k, l - p = k + 1 := ⟨l - p - 1, by omega⟩
    rw [hk]
    unfold sk hr
    rw [if_pos (show p < l by omega)]
    by_cases c2 : ch p = 32
    · rw [if_neg (fun z => z c2), if_pos c2, nI_1, ← h.2.1]
      have := sbl_c h k (p + 1) FU (by omega) (by rw [FU_eq]; omega)
      unfold sPl at this
      rw [this]
      rfl
    · rw [if_pos c2, if_neg c2, hq]
theorem sbl_m {l : Nat} {ch : Nat → Int32} {tm : Ttm} (h : ttM l ch tm) (y1 y2 : Int32) (y3 : Nat → Int32) : ∀ k p fuel, p + k = l → k < fuel → lpF (bX6_skips_0 tm) fuel (nI p, y1, y2, y3) = some (nI (sk ch k p), y1, y2, y3) := by
  intro k
  induction k with
  | zero =>
    intro p fuel hp hf
    obtain ⟨j, rfl⟩ : ∃ j, fuel = j + 1 := ⟨fuel - 1, by omega⟩
    unfold lpF
    rw [show bX6_skips_0 tm (nI p, y1, y2, y3) = some (.inr (nI p, y1, y2, y3)) by
      unfold bX6_skips_0
      rw [he_m (rd := (nI p, y1, y2, y3)) h (p := p) (by omega) rfl, Option.bind_some]
      unfold hr
      rw [if_neg (show ¬ p < l by omega), if_pos (by decide)]]
    rfl
  | succ k ih =>
    intro p fuel hp hf
    have hl := h.1
    obtain ⟨j, rfl⟩ : ∃ j, fuel = j + 1 := ⟨fuel - 1, by omega⟩
    have hb : bX6_skips_0 tm (nI p, y1, y2, y3) = if ¬ ch p = 32 then some (.inr (nI p, y1, y2, y3)) else some (.inl (nI (p + 1), y1, y2, y3)) := by
      unfold bX6_skips_0
      rw [he_m (rd := (nI p, y1, y2, y3)) h (p := p) (by omega) rfl, Option.bind_some]
      unfold hr
      rw [if_pos (show p < l by omega)]
      dsimp only
      rw [nI_1]
    unfold lpF sk
    rw [hb]
    by_cases c : ch p = 32
    · rw [if_neg (fun z => z c), if_pos c]
      exact ih (p + 1) j (by omega) (by omega)
    · rw [if_pos c, if_neg c]
      rfl
theorem sb_m {l : Nat} {ch : Nat → Int32} {tm : Ttm} (h : ttM l ch tm) {rd : Trd} {p : Nat} (hp : p ≤ l) (he : rd.1 = nI p) : fX6_skips tm rd = some (nI (sk ch (l - p) p), nI (sk ch (l - p) p), rd.2.2.1, rd.2.2.2) := by
  have hl := h.1
  unfold fX6_skips
  rw [he_m h hp he, Option.bind_some, he]
  unfold hr
  by_cases c : p < l
  · rw [if_pos c]
    obtain ⟨k, hk⟩ : ∃ k, l - p = k + 1 := ⟨l - p - 1, by omega⟩
    rw [hk]
    unfold sk
    by_cases c2 : ch p = 32
    · rw [if_neg (fun z => z c2), if_pos c2, nI_1, sbl_m h _ _ _ k (p + 1) FU (by omega) (by rw [FU_eq]; omega)]
      rfl
    · rw [if_pos c2, if_neg c2]
  · rw [if_neg c, if_pos (by decide), show l - p = 0 by omega]
    rfl
