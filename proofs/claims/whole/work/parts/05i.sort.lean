/-! ===== insertion: lists by keys, arrays by shifting ===== -/
def insK {α : Type} (key : α → Int) (x : α) : List α → List α
  | [] => [x]
  | y :: r => if key x < key y then x :: y :: r else y :: insK key x r
def srtK {α : Type} (key : α → Int) (l : List α) : Prop := ∀ (i j : Nat) (a b : α), i ≤ j → l[i]? = some a → l[j]? = some b → key a ≤ key b
theorem insK_at {α : Type} (key : α → Int) (x : α) : ∀ (l : List α) (p : Nat), p ≤ l.length → (∀ (i : Nat) (a : α), i < p → l[i]? = some a → key a ≤ key x) → (∀ (i : Nat) (a : α), p ≤ i → l[i]? = some a → key x < key a) → insK key x l = l.take p ++ x :: l.drop p
  | [], p, hp, h1, h2 => by
    have : p = 0 := by simpa using hp
    subst this
    rfl
  | y :: r, 0, hp, h1, h2 => by
    simp only [insK, List.take_zero, List.drop_zero, List.nil_append]
    rw [if_pos (h2 0 y (Nat.le_refl 0) rfl)]
  | y :: r, p + 1, hp, h1, h2 => by
    have h3 := h1 0 y (by omega) rfl
    simp only [insK, List.take_succ_cons, List.drop_succ_cons, List.cons_append]
    rw [if_neg (by omega), insK_at key x r p (by simpa using hp) (fun i a hi ha => h1 (i + 1) a (by omega) (by simpa using ha)) (fun i a hi ha => h2 (i + 1) a (by omega) (by simpa using ha))]
theorem insK_len {α : Type} (key : α → Int) (x : α) : ∀ (l : List α), (insK key x l).length = l.length + 1
  | [] => rfl
  | y :: r => by
    simp only [insK]
    split
    · rfl
    · simp [insK_len key x r]
theorem insK_take {α : Type} (key : α → Int) (x : α) : ∀ (k : Nat) (l : List α), (insK key x (l.take k)).take k = (insK key x l).take k
  | 0, l => by simp
  | k + 1, [] => by simp
  | k + 1, y :: r => by
    simp only [List.take_succ_cons, insK]
    split
    · simp only [List.take_succ_cons, List.cons.injEq, true_and]
      cases k with
      | zero => rfl
      | succ k => simp [List.take_take, Nat.min_eq_left (Nat.le_succ k)]
    · simp only [List.take_succ_cons, insK_take key x k r]
theorem insK_mem {α : Type} (key : α → Int) (x y : α) : ∀ (l : List α), y ∈ insK key x l ↔ y = x ∨ y ∈ l
  | [] => by simp [insK]
  | z :: r => by
    simp only [insK]
    split
    · simp
    · simp only [List.mem_cons, insK_mem key x y r]
      constructor
      · rintro (h | h | h)
        · exact Or.inr (Or.inl h)
        · exact Or.inl h
        · exact Or.inr (Or.inr h)
      · rintro (h | h | h)
        · exact Or.inr (Or.inl h)
        · exact Or.inl h
        · exact Or.inr (Or.inr h)
theorem srtK_nil {α : Type} (key : α → Int) : srtK key ([] : List α) := fun i j a b _ h => by simp at h
theorem srtK_cons {α : Type} {key : α → Int} {y : α} {r : List α} : srtK key (y :: r) ↔ (∀ z ∈ r, key y ≤ key z) ∧ srtK key r := by
  constructor
  · intro h
    refine ⟨fun z hz => ?_, fun i j a b hij ha hb => h (i + 1) (j + 1) a b (by omega) (by simpa using ha) (by simpa using hb)⟩
    obtain ⟨i, hi⟩ := List.getElem?_of_mem hz
    exact h 0 (i + 1) y z (by omega) rfl (by simpa using hi)
  · rintro ⟨h1, h2⟩ i j a b hij ha hb
    cases i with
    | zero =>
      simp at ha
      subst ha
      cases j with
      | zero => simp at hb; subst hb; exact Int.le_refl _
      | succ j => exact h1 b (List.mem_of_getElem? (by simpa using hb))
    | succ i =>
      cases j with
      | zero => omega
      | succ j => exact h2 i j a b (by omega) (by simpa using ha) (by simpa using hb)
theorem insK_srt {α : Type} {key : α → Int} {x : α} : ∀ {l : List α}, srtK key l → srtK key (insK key x l)
  | [], _ => srtK_cons.mpr ⟨fun z hz => by simp at hz, srtK_nil key⟩
  | y :: r, h => by
    obtain ⟨h1, h2⟩ := srtK_cons.mp h
    simp only [insK]
    split
    · rename_i hc
      refine srtK_cons.mpr ⟨fun z hz => ?_, h⟩
      rcases List.mem_cons.mp hz with rfl | hz
      · omega
      · have := h1 z hz; omega
    · rename_i hc
      refine srtK_cons.mpr ⟨fun z hz => ?_, insK_srt h2⟩
      rcases (insK_mem key x z r).mp hz with rfl | hz
      · omega
      · exact h1 z hz
theorem srtK_take {α : Type} {key : α → Int} {l : List α} (h : srtK key l) (k : Nat) : srtK key (l.take k) := by
  intro i j a b hij ha hb
  rw [List.getElem?_take] at ha hb
  split at ha
  · split at hb
    · exact h i j a b hij ha hb
    · cases hb
  · cases ha
/-- an array that shows a list -/
def repL {α β : Type} (f : Nat → β) (m : α → β) (l : List α) : Prop := ∀ (i : Nat) (a : α), l[i]? = some a → f i = m a
def shf {β : Type} (p L : Nat) (f : Nat → β) : Nat → β := fun i => if p < i ∧ i ≤ L then f (i - 1) else f i
theorem repL_ins {α β : Type} {f f' : Nat → β} {m : α → β} {l : List α} {p : Nat} (x : α) (h : repL f m l) (hp : p ≤ l.length) (hf : ∀ i, i ≤ l.length → f' i = if i = p then m x else shf p l.length f i) : repL f' m (l.take p ++ x :: l.drop p) := by
  have hl : (l.take p).length = p := by rw [List.length_take]; omega
  intro i a ha
  have hi : i ≤ l.length := by
    have := (List.getElem?_eq_some_iff.mp ha).1
    simp at this
    omega
  rw [hf i hi]
  by_cases c : i < p
  · rw [List.getElem?_append_left (by omega), List.getElem?_take, if_pos c] at ha
    rw [if_neg (by omega)]
    unfold shf
    rw [if_neg (by omega)]
    exact h i a ha
  · rw [List.getElem?_append_right (by omega), hl] at ha
    by_cases c2 : i = p
    · subst c2
      rw [Nat.sub_self] at ha
      simp at ha
      subst ha
      rw [if_pos rfl]
    · rw [show i - p = (i - p - 1) + 1 by omega, List.getElem?_cons_succ, List.getElem?_drop, show p + (i - p - 1) = i - 1 by omega] at ha
      rw [if_neg c2]
      unfold shf
      rw [if_pos (by omega)]
      exact h (i - 1) a ha
theorem repL_ext {α β : Type} {f f' : Nat → β} {m : α → β} {l : List α} (h : repL f m l) (hf : ∀ i, i < l.length → f' i = f i) : repL f' m l := fun i a ha => (hf i (List.getElem?_eq_some_iff.mp ha).1).trans (h i a ha)
theorem shf_step {β : Type} {p L : Nat} {f : Nat → β} (h : 0 < p) (hp : p ≤ L) (i : Nat) : (if i = p then f (p - 1) else shf p L f i) = shf (p - 1) L f i := by
  unfold shf
  by_cases c : i = p
  · subst c
    rw [if_pos rfl, if_pos (by omega)]
  · rw [if_neg c]
    by_cases c2 : p < i ∧ i ≤ L
    · rw [if_pos c2, if_pos (by omega)]
    · rw [if_neg c2, if_neg (by omega)]
theorem shf_self {β : Type} (L : Nat) (f : Nat → β) : shf L L f = f := by
  funext i
  unfold shf
  rw [if_neg (by omega)]
theorem shf_lt {β : Type} {p L i : Nat} {f : Nat → β} (h : i ≤ p) : shf p L f i = f i := by
  unfold shf
  rw [if_neg (by omega)]
/-- the DAYS like t among the first u: by distance, then by numbers -/
def mayL (n g t u : Nat) : Bool := decide (g < (u - t) + (t - u) ∧ u + 1 < n ∧ u + 1 ≠ t)
def cnL (n g : Nat) (nt : Nat → Int32) (w : Nat → Nat) (t u : Nat) : Option UInt32 := bif mayL n g t u then dist nt w t u else none
def kyL (p : Nat × UInt32) : Int := zf p.2
def likeL (n g : Nat) (nt : Nat → Int32) (w : Nat → Nat) (t : Nat) : Nat → List (Nat × UInt32)
  | 0 => []
  | u + 1 => match cnL n g nt w t u with
    | some d => insK kyL (u, d) (likeL n g nt w t u)
    | none => likeL n g nt w t u
theorem likeL_srt (n g : Nat) (nt : Nat → Int32) (w : Nat → Nat) (t : Nat) : ∀ u, srtK kyL (likeL n g nt w t u)
  | 0 => srtK_nil _
  | u + 1 => by
    simp only [likeL]
    split
    · exact insK_srt (likeL_srt n g nt w t u)
    · exact likeL_srt n g nt w t u
theorem likeL_len (n g : Nat) (nt : Nat → Int32) (w : Nat → Nat) (t : Nat) : ∀ u, (likeL n g nt w t u).length ≤ u
  | 0 => Nat.le_refl 0
  | u + 1 => by
    have := likeL_len n g nt w t u
    simp only [likeL]
    split
    · rw [insK_len]; omega
    · omega
/-- each of them: its distance, and that it may be like -/
theorem likeL_mem (n g : Nat) (nt : Nat → Int32) (w : Nat → Nat) (t : Nat) : ∀ u p, p ∈ likeL n g nt w t u → p.1 < u ∧ mayL n g t p.1 = true ∧ dist nt w t p.1 = some p.2
  | 0, p, h => by cases h
  | u + 1, p, h => by
    simp only [likeL] at h
    cases hc : cnL n g nt w t u with
    | none =>
      rw [hc] at h
      obtain ⟨a, b⟩ := likeL_mem n g nt w t u p h
      exact ⟨by omega, b⟩
    | some d =>
      rw [hc] at h
      rcases (insK_mem kyL (u, d) p _).mp h with rfl | h
      · unfold cnL at hc
        cases hm : mayL n g t u with
        | false => rw [hm] at hc; cases hc
        | true => rw [hm] at hc; exact ⟨Nat.lt_succ_self u, rfl, hc⟩
      · obtain ⟨a, b⟩ := likeL_mem n g nt w t u p h
        exact ⟨by omega, b⟩
