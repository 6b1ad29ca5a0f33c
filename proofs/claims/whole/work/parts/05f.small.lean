/-! ===== small methods: ranges, days, members ===== -/
def b2I (b : Bool) : Int32 := bif b then 1 else 0
theorem b2I_0 (b : Bool) : b2I b = 0 ↔ b = false := by cases b <;> decide
theorem b2I_n0 (b : Bool) : ¬ b2I b = 0 ↔ b = true := by cases b <;> decide
theorem b2I_1 (b : Bool) : b2I b &&& 1 = b2I b := by cases b <;> decide
theorem gd_b2I {α : Type} (b : Bool) (k : Option α) : gd (decide (b2I b &&& 1 = b2I b)) k = k := gd_t (decide_eq_true (b2I_1 b))
def inR (x a b : Int32) : Bool := decide (a.toInt ≤ x.toInt ∧ x.toInt ≤ b.toInt)
theorem within_ok (x a b : Int32) : fX5_isWithin x a b = some (b2I (inR x a b)) := by
  unfold fX5_isWithin
  by_cases h1 : x < a
  · rw [if_pos h1, show inR x a b = false from decide_eq_false (fun z => by rw [fa_lt] at h1; omega)]; rfl
  · rw [if_neg h1]
    by_cases h2 : b < x
    · rw [if_pos h2, show inR x a b = false from decide_eq_false (fun z => by rw [fa_lt] at h2; omega)]; rfl
    · rw [if_neg h2, show inR x a b = true from decide_eq_true (by rw [fa_lt] at h1 h2; omega)]; rfl
theorem in_ok (x a b : Int32) : fX6_in x a b = some (b2I (inR x a b)) := by
  unfold fX6_in
  by_cases h1 : x < a
  · rw [if_pos h1, show inR x a b = false from decide_eq_false (fun z => by rw [fa_lt] at h1; omega)]; rfl
  · rw [if_neg h1]
    by_cases h2 : b < x
    · rw [if_pos h2, show inR x a b = false from decide_eq_false (fun z => by rw [fa_lt] at h2; omega)]; rfl
    · rw [if_neg h2, show inR x a b = true from decide_eq_true (by rw [fa_lt] at h1 h2; omega)]; rfl
/-- one of the first n numbers -/
def isD (n : Nat) (x : Int32) : Bool := decide (0 ≤ x.toInt ∧ x.toInt < n)
theorem isD_nI {n t : Nat} (h : t < n) (hn : n < 2 ^ 31) : isD n (nI t) = true := decide_eq_true (by rw [nI_toInt (by omega)]; omega)
theorem isD_of {n : Nat} {x : Int32} (h : isD n x = true) (hn : n < 2 ^ 31) : ∃ t, t < n ∧ x = nI t := by
  have h := of_decide_eq_true h
  refine ⟨x.toInt.toNat, by omega, ?_⟩
  rw [fa_eq, nI_toInt (by omega)]
  omega
theorem isD_4 (x : Int32) : inR x 0 3 = isD 4 x := by
  unfold inR isD
  rw [decide_eq_decide, show (0 : Int32).toInt = 0 from rfl, show (3 : Int32).toInt = 3 from rfl]
  omega
theorem member_c (x : Int32) : fX5_isMember x = some (b2I (isD 4 x)) := by
  unfold fX5_isMember
  rw [within_ok, Option.bind_some, gd_b2I, isD_4]
theorem member_m (x : Int32) : fX6_isMember x = some (b2I (isD 4 x)) := by
  unfold fX6_isMember
  rw [in_ok, Option.bind_some, gd_b2I, isD_4]
theorem has_c {n : Nat} {bk : Tbk} (hd : bk.2.2.1 = nI n) (hn : n ≤ 50) (x : Int32) : fX0_has bk x = some (b2I (isD n x)) := by
  unfold fX0_has
  rw [hd]
  by_cases h1 : x < 0
  · rw [if_pos h1, show isD n x = false from decide_eq_false (fun z => by rw [fa_lt, show (0 : Int32).toInt = 0 from rfl] at h1; omega)]; rfl
  · rw [if_neg h1]
    by_cases h2 : nI n ≤ x
    · rw [if_pos h2, show isD n x = false from decide_eq_false (fun z => by rw [fa_le, nI_toInt (by omega)] at h2; omega)]; rfl
    · rw [if_neg h2, show isD n x = true from decide_eq_true (by rw [fa_lt, show (0 : Int32).toInt = 0 from rfl] at h1; rw [fa_le, nI_toInt (by omega)] at h2; omega)]; rfl
theorem has_l {n : Nat} {li : Tli} (hd : li.2.2.2.2.2.2.2.1 = nI n) (hn : n ≤ 50) (x : Int32) : fX2_has li x = some (b2I (isD n x)) := by
  unfold fX2_has
  rw [hd]
  by_cases h1 : x < 0
  · rw [if_pos h1, show isD n x = false from decide_eq_false (fun z => by rw [fa_lt, show (0 : Int32).toInt = 0 from rfl] at h1; omega)]; rfl
  · rw [if_neg h1]
    by_cases h2 : nI n ≤ x
    · rw [if_pos h2, show isD n x = false from decide_eq_false (fun z => by rw [fa_le, nI_toInt (by omega)] at h2; omega)]; rfl
    · rw [if_neg h2, show isD n x = true from decide_eq_true (by rw [fa_lt, show (0 : Int32).toInt = 0 from rfl] at h1; rw [fa_le, nI_toInt (by omega)] at h2; omega)]; rfl
theorem sub1_toInt {n : Nat} (hn : n < 2 ^ 30) : (nI n - 1).toInt = (n : Int) - 1 := pk_sub_toInt (a := n) (b := 1) hn (by decide)
theorem isDay_m {n : Nat} {co : Tco} (hd : co.1 = nI n) (hn : n ≤ 50) (x : Int32) : fX6_isDay co x = some (b2I (isD n x)) := by
  unfold fX6_isDay
  rw [hd, in_ok, Option.bind_some, gd_b2I]
  congr 2
  unfold inR isD
  rw [decide_eq_decide, sub1_toInt (by omega), show (0 : Int32).toInt = 0 from rfl]
  omega
def isN (v : Int32) : Bool := decide (v = MI ∨ (-999 ≤ v.toInt ∧ v.toInt ≤ 999))
theorem isN_ok {v : Int32} (h : isN v = true) : okV v := by
  rcases of_decide_eq_true h with h | h
  · exact Or.inl h
  · exact Or.inr (by omega)
theorem inR_N (v : Int32) : inR v (-999) 999 = decide (-999 ≤ v.toInt ∧ v.toInt ≤ 999) := rfl
theorem isNote_c (v : Int32) : fX5_isNote v = some (b2I (isN v)) := by
  unfold fX5_isNote
  by_cases h : v = -10000
  · rw [if_pos h, show isN v = true from decide_eq_true (Or.inl h)]; rfl
  · rw [if_neg h, within_ok, Option.bind_some]
    cases hc : inR v (-999) 999 with
    | false =>
      rw [if_pos (by decide), show isN v = false from decide_eq_false (fun z => z.elim h (of_decide_eq_false hc))]; rfl
    | true =>
      rw [if_neg (by decide), show isN v = true from decide_eq_true (Or.inr (of_decide_eq_true hc))]; rfl
theorem may_m (v : Int32) : fX6_may v = some (b2I (isN v)) := by
  unfold fX6_may
  by_cases h : v = -10000
  · rw [if_pos h, show isN v = true from decide_eq_true (Or.inl h)]; rfl
  · rw [if_neg h, in_ok, Option.bind_some]
    cases hc : inR v (-999) 999 with
    | false =>
      rw [if_pos (by decide), show isN v = false from decide_eq_false (fun z => z.elim h (of_decide_eq_false hc))]; rfl
    | true =>
      rw [if_neg (by decide), show isN v = true from decide_eq_true (Or.inr (of_decide_eq_true hc))]; rfl
/-- what the class's book must hold -/
def clB (n : Nat) (nt : Nat → Int32) (w : Nat → Nat) (g f : Nat) (bk : Tbk) : Prop := n ≤ 50 ∧ bk.2.2.1 = nI n ∧ (∀ k, k < n * 4 → bk.1 k = nt k) ∧ (∀ m, m < 4 → bk.2.1 m = nI (w m)) ∧ bk.2.2.2.1 = nI g ∧ bk.2.2.2.2 = nI f
theorem member_ok {n g f : Nat} {nt : Nat → Int32} {w : Nat → Nat} {bk : Tbk} (h : clB n nt w g f bk) {t m : Nat} (ht : t < n) (hm : m < 4) : fX0_member bk (nI t) (nI m) = some (nt (t * 4 + m)) := by
  obtain ⟨h1, h2, h3, -⟩ := h
  have e : nI t * (4 : Int32) + nI m = nI (t * 4 + m) := by rw [show (4 : Int32) = nI 4 from rfl, pk_mul, nI_add]
  unfold fX0_member
  rw [has_c h2 h1, isD_nI ht (by omega), Option.bind_some, if_neg (by decide), member_c, isD_nI hm (by decide), Option.bind_some, if_neg (by decide), e, gd_t (inB_nI (by omega) (by decide)), cl_nI (by omega), h3 _ (by omega)]
  rfl
theorem member_no {n g f : Nat} {nt : Nat → Int32} {w : Nat → Nat} {bk : Tbk} (h : clB n nt w g f bk) {x m : Int32} (hx : isD n x = false ∨ isD 4 m = false) : fX0_member bk x m = some MI := by
  obtain ⟨h1, h2, h3, -⟩ := h
  unfold fX0_member
  rw [has_c h2 h1, Option.bind_some]
  cases hd : isD n x with
  | false => rw [if_pos (by decide)]; rfl
  | true =>
    rw [if_neg (by decide), member_c, Option.bind_some, (hx.resolve_left (by rw [hd]; decide)), if_pos (by decide)]
    rfl
theorem rule_ok {n g f : Nat} {nt : Nat → Int32} {w : Nat → Nat} {bk : Tbk} (h : clB n nt w g f bk) {m : Nat} (hm : m < 4) : fX0_rule bk (nI m) = some (nI (w m)) := by
  obtain ⟨h1, h2, h3, h4, -⟩ := h
  unfold fX0_rule
  have e4 : ¬ nI m = (4 : Int32) := fun z => by have := (nI_eq (a := m) (b := 4) (by omega) (by decide)).mp z; omega
  have e5 : ¬ nI m = (5 : Int32) := fun z => by have := (nI_eq (a := m) (b := 5) (by omega) (by decide)).mp z; omega
  rw [if_pos e4, if_pos e5, member_c, isD_nI hm (by decide), Option.bind_some, if_neg (by decide), gd_t (inB_nI hm (by decide)), cl_nI (by omega), h4 m hm]
  rfl
