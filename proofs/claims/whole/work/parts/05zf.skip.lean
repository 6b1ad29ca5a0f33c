/-! ===== reading the text: here and skips on both sides ===== -/
def hr (l : Nat) (ch : Nat → Int32) (p : Nat) : Int32 := if p < l then ch p else -1
/-- the first place from p on that is not blank, k places at most -/
def sk (ch : Nat → Int32) : Nat → Nat → Nat
  | 0, p => p
  | k + 1, p => if ch p = 32 then sk ch k (p + 1) else p
theorem sk_le (ch : Nat → Int32) : ∀ k p, p ≤ sk ch k p ∧ sk ch k p ≤ p + k
  | 0, p => ⟨Nat.le_refl p, Nat.le_refl p⟩
  | k + 1, p => by
    have := sk_le ch k (p + 1)
    unfold sk
    by_cases c : ch p = 32
    · rw [if_pos c]; omega
    · rw [if_neg c]; omega
def ttX (l : Nat) (ch : Nat → Int32) (tx : Ttx) : Prop := l ≤ 120 ∧ tx.2.2.1 = nI l ∧ ∀ i, i < l → tx.1 i = ch i
def ttM (l : Nat) (ch : Nat → Int32) (tm : Ttm) : Prop := l ≤ 120 ∧ tm.2 = nI l ∧ ∀ i, i < l → tm.1 i = ch i
theorem he_c {l : Nat} {ch : Nat → Int32} {tx : Ttx} (h : ttX l ch tx) {p : Nat} (hp : p ≤ l) (he : tx.2.2.2.1 = nI p) : fX4_here tx = some (hr l ch p) := by
  obtain ⟨h1, h2, h3⟩ := h
  unfold fX4_here hr
  rw [he, if_neg (nI_pos (by omega)), h2]
  by_cases c : p < l
  · rw [if_neg (nI_ge c (by omega)), gd_t (inB_nI (by omega) (by decide)), cl_nI (by omega), if_pos c, h3 p c]
    rfl
  · rw [if_pos (nI_le (by omega) (by omega)), if_neg c]
    rfl
theorem he_m {l : Nat} {ch : Nat → Int32} {tm : Ttm} {rd : Trd} (h : ttM l ch tm) {p : Nat} (hp : p ≤ l) (he : rd.1 = nI p) : fX6_here tm rd = some (hr l ch p) := by
  obtain ⟨h1, h2, h3⟩ := h
  unfold fX6_here hr
  rw [he, h2]
  by_cases c : p < l
  · rw [if_neg (nI_ge c (by omega)), gd_t (inB_nI (by omega) (by decide)), cl_nI (by omega), if_pos c, h3 p c]
    rfl
  · rw [if_pos (nI_le (by omega) (by omega)), if_neg c]
    rfl
