/-! small words for checks that a walk meets -/
def n32 (r : UInt32) : Bool := decide (r &&& 0x7fffffff ≤ 0x7f800000)
def n64 (r : UInt64) : Bool := decide (r &&& 0x7fffffffffffffff ≤ 0x7ff0000000000000)
def inB (i : Int32) (n : Nat) : Bool := decide (¬ (i < 0 ∨ n ≤ i.toNatClampNeg))
theorem n32_ok {r : UInt32} (h : n32 r = true) : vf_n32 r := by unfold vf_n32; exact of_decide_eq_true h
theorem n64_ok {r : UInt64} (h : n64 r = true) : vf_n64 r := by unfold vf_n64; exact of_decide_eq_true h
theorem inB_ok {i : Int32} {n : Nat} (h : inB i n = true) : vp_in i n := by unfold vp_in; exact of_decide_eq_true h
/-- a check, and what is behind it -/
def gd {α : Type} (b : Bool) (k : Option α) : Option α := bif b then k else none
theorem gdP {α : Type} {b : Bool} {k : Option α} {r : α} (h : gd b k = some r) : b = true ∧ k = some r := by
  cases b
  · cases h
  · exact ⟨rfl, h⟩
theorem bnd {α β : Type} {o : Option α} {f : α → Option β} {b : β} (h : o.bind f = some b) : ∃ a, o = some a ∧ f a = some b := by
  cases o with
  | none => cases h
  | some a => exact ⟨a, rfl, h⟩
theorem ifP {c : Prop} [Decidable c] {α : Type} {a b r : α} (hc : c) (h : (if c then a else b) = r) : a = r := by rwa [if_pos hc] at h
theorem ifN {c : Prop} [Decidable c] {α : Type} {a b r : α} (hc : ¬ c) (h : (if c then a else b) = r) : b = r := by rwa [if_neg hc] at h
/-- a loop: a body that says 'again, with this' or 'out, with this' -/
def lpF {σ ε : Type} (B : σ → Option (σ ⊕ ε)) : Nat → σ → Option ε
  | 0, _ => none
  | n + 1, s => (B s).bind fun r => match r with
    | .inl s' => lpF B n s'
    | .inr e => some e
def FU : Nat := 4000
/-! ===== the mini logic: abstract heaps (places instead of addresses), one judgement Wg over the kit's W ===== -/
abbrev aE : Type := (Nat × vp_A) ⊕ (Nat × List Value)
abbrev aH : Type := List aE
def cv (ad : Nat → Nat) : Value → Value
  | .ref k => .ref (ad k)
  | v => v
def cE (ca : Nat → ClassId) (ad : Nat → Nat) : aE → va_E
  | .inl (t, n, .inl f) => .inl (ca t, n, .inl f)
  | .inl (t, n, .inr (.inl f)) => .inl (ca t, n, .inr (.inl f))
  | .inl (t, n, .inr (.inr (.inl f))) => .inl (ca t, n, .inr (.inr (.inl f)))
  | .inl (t, n, .inr (.inr (.inr (.inl f)))) => .inl (ca t, n, .inr (.inr (.inr (.inl f))))
  | .inl (t, n, .inr (.inr (.inr (.inr f)))) => .inl (ca t, n, .inr (.inr (.inr (.inr (fun j => (f j).map ad)))))
  | .inr (c, fs) => .inr (c, fs.map (cv ad))
def cH (ca : Nat → ClassId) (ad : Nat → Nat) (hp : aH) : va_W := hp.mapIdx (fun k e => (ad k, cE ca ad e))
theorem cH_at {ca : Nat → ClassId} {ad : Nat → Nat} {hp : aH} {k : Nat} {e : aE} (h : hp[k]? = some e) : (cH ca ad hp)[k]? = some (ad k, cE ca ad e) := by
  simp [cH, h]
theorem cH_set (ca : Nat → ClassId) (ad : Nat → Nat) (hp : aH) (k : Nat) (e : aE) : (cH ca ad hp).set k (ad k, cE ca ad e) = cH ca ad (hp.set k e) := by
  apply List.ext_getElem?
  intro i
  simp only [cH, List.getElem?_set, List.getElem?_mapIdx, List.length_mapIdx]
  by_cases h : k = i
  · subst h
    by_cases h2 : k < hp.length
    · simp [h2]
    · simp [h2]
  · simp [h]
abbrev tyA (ca : Nat → ClassId) : List (ClassId × FieldType) := [(ca 0, .int), (ca 1, .float), (ca 2, .boolean), (ca 3, .object "AnalogDays$Book")]
def LH (ad : Nat → Nat) (ls : Array Slot) (nL : Nat) (lv : List (Option Value)) : Prop := lv.length = nL ∧ ls.size = nL ∧ lv_wf ls ∧ ∀ (i : Nat) (v : Value), lv[i]? = some (some v) → ls[i]? = some (.val (cv ad v))
def c2 : Option Value → Bool
  | some v => v.category == 2
  | none => false
def clr : List (Option Value) → List (Option Value)
  | [] => []
  | _ :: r => none :: r
def stL : List (Option Value) → Nat → Value → List (Option Value)
  | [], _, _ => []
  | _ :: r, 0, v => some v :: r
  | o :: r, 1, v => (bif c2 o then none else o) :: stL r 0 v
  | o :: r, i + 2, v => o :: stL r (i + 1) v
def stL2 : List (Option Value) → Nat → Value → List (Option Value)
  | [], _, _ => []
  | _ :: r, 0, v => some v :: clr r
  | o :: r, 1, v => (bif c2 o then none else o) :: stL2 r 0 v
  | o :: r, i + 2, v => o :: stL2 r (i + 1) v
def dropL : List (Option Value) → Nat → List (Option Value)
  | [], _ => []
  | _ :: r, 0 => none :: r
  | o :: r, i + 1 => o :: dropL r i
def dropLs (lv : List (Option Value)) : List Nat → List (Option Value)
  | [] => lv
  | k :: ks => dropLs (dropL lv k) ks
theorem stL_len : ∀ (lv : List (Option Value)) (i : Nat) (v : Value), (stL lv i v).length = lv.length
  | [], _, _ => rfl
  | _ :: _, 0, _ => rfl
  | o :: r, 1, v => by simp [stL, stL_len r 0 v]
  | o :: r, i + 2, v => by simp [stL, stL_len r (i + 1) v]
theorem clr_len (r : List (Option Value)) : (clr r).length = r.length := by cases r <;> rfl
theorem stL2_len : ∀ (lv : List (Option Value)) (i : Nat) (v : Value), (stL2 lv i v).length = lv.length
  | [], _, _ => rfl
  | _ :: r, 0, _ => by simp [stL2, clr_len]
  | o :: r, 1, v => by simp [stL2, stL2_len r 0 v]
  | o :: r, i + 2, v => by simp [stL2, stL2_len r (i + 1) v]
theorem dropL_len : ∀ (lv : List (Option Value)) (i : Nat), (dropL lv i).length = lv.length
  | [], _ => rfl
  | _ :: _, 0 => rfl
  | o :: r, i + 1 => by simp [dropL, dropL_len r i]
theorem stL_at : ∀ (lv : List (Option Value)) (i : Nat) (v : Value) (j : Nat) (w : Value), (stL lv i v)[j]? = some (some w) → (j = i ∧ w = v) ∨ (j ≠ i ∧ lv[j]? = some (some w) ∧ ¬ (j + 1 = i ∧ w.category = 2))
  | [], _, _, j, w, h => by simp [stL] at h
  | o :: r, 0, v, j, w, h => by
    cases j with
    | zero => simp [stL] at h; exact Or.inl ⟨rfl, h.symm⟩
    | succ j => simp [stL] at h; exact Or.inr ⟨by omega, by simpa using h, by omega⟩
  | o :: r, 1, v, j, w, h => by
    cases j with
    | zero =>
      refine Or.inr ⟨by omega, ?_, ?_⟩
      · cases hc : c2 o <;> simp [stL, hc] at h
        simpa using h
      · intro ⟨_, hw⟩
        cases hc : c2 o <;> simp [stL, hc] at h
        subst h
        simp [c2, hw] at hc
    | succ j =>
      simp only [stL, List.getElem?_cons_succ] at h
      rcases stL_at r 0 v j w h with ⟨a, b⟩ | ⟨a, b, c⟩
      · exact Or.inl ⟨by omega, b⟩
      · exact Or.inr ⟨by omega, by simpa using b, by omega⟩
  | o :: r, i + 2, v, j, w, h => by
    cases j with
    | zero => simp [stL] at h; exact Or.inr ⟨by omega, by simpa using h, by omega⟩
    | succ j =>
      simp only [stL, List.getElem?_cons_succ] at h
      rcases stL_at r (i + 1) v j w h with ⟨a, b⟩ | ⟨a, b, c⟩
      · exact Or.inl ⟨by omega, b⟩
      · exact Or.inr ⟨by omega, by simpa using b, fun ⟨q1, q2⟩ => c ⟨by omega, q2⟩⟩
theorem clr_at {r : List (Option Value)} {j : Nat} {w : Value} (h : (clr r)[j]? = some (some w)) : j ≠ 0 ∧ r[j]? = some (some w) := by
  cases r with
  | nil => simp [clr] at h
  | cons o r =>
    cases j with
    | zero => simp [clr] at h
    | succ j => simp only [clr, List.getElem?_cons_succ] at h; exact ⟨by omega, by simpa using h⟩
theorem stL2_at : ∀ (lv : List (Option Value)) (i : Nat) (v : Value) (j : Nat) (w : Value), (stL2 lv i v)[j]? = some (some w) → (j = i ∧ w = v) ∨ (j ≠ i ∧ j ≠ i + 1 ∧ lv[j]? = some (some w) ∧ ¬ (j + 1 = i ∧ w.category = 2))
  | [], _, _, j, w, h => by simp [stL2] at h
  | o :: r, 0, v, j, w, h => by
    cases j with
    | zero => simp [stL2] at h; exact Or.inl ⟨rfl, h.symm⟩
    | succ j =>
      simp only [stL2, List.getElem?_cons_succ] at h
      obtain ⟨a, b⟩ := clr_at h
      exact Or.inr ⟨by omega, by omega, by simpa using b, by omega⟩
  | o :: r, 1, v, j, w, h => by
    cases j with
    | zero =>
      refine Or.inr ⟨by omega, by omega, ?_, ?_⟩
      · cases hc : c2 o <;> simp [stL2, hc] at h
        simpa using h
      · intro ⟨_, hw⟩
        cases hc : c2 o <;> simp [stL2, hc] at h
        subst h
        simp [c2, hw] at hc
    | succ j =>
      simp only [stL2, List.getElem?_cons_succ] at h
      rcases stL2_at r 0 v j w h with ⟨a, b⟩ | ⟨a, a2, b, c⟩
      · exact Or.inl ⟨by omega, b⟩
      · exact Or.inr ⟨by omega, by omega, by simpa using b, by omega⟩
  | o :: r, i + 2, v, j, w, h => by
    cases j with
    | zero => simp [stL2] at h; exact Or.inr ⟨by omega, by omega, by simpa using h, by omega⟩
    | succ j =>
      simp only [stL2, List.getElem?_cons_succ] at h
      rcases stL2_at r (i + 1) v j w h with ⟨a, b⟩ | ⟨a, a2, b, c⟩
      · exact Or.inl ⟨by omega, b⟩
      · exact Or.inr ⟨by omega, by omega, by simpa using b, fun ⟨q1, q2⟩ => c ⟨by omega, q2⟩⟩
theorem dropL_at : ∀ (lv : List (Option Value)) (i j : Nat) (w : Value), (dropL lv i)[j]? = some (some w) → lv[j]? = some (some w)
  | [], _, j, w, h => by simp [dropL] at h
  | o :: r, 0, j, w, h => by
    cases j with
    | zero => simp [dropL] at h
    | succ j => simpa [dropL] using h
  | o :: r, i + 1, j, w, h => by
    cases j with
    | zero => simpa [dropL] using h
    | succ j =>
      simp only [dropL, List.getElem?_cons_succ] at h
      simpa using dropL_at r i j w h
theorem dropLs_len : ∀ (ks : List Nat) (lv : List (Option Value)), (dropLs lv ks).length = lv.length
  | [], _ => rfl
  | k :: ks, lv => by rw [dropLs, dropLs_len ks, dropL_len]
theorem dropLs_at : ∀ (ks : List Nat) (lv : List (Option Value)) (j : Nat) (w : Value), (dropLs lv ks)[j]? = some (some w) → lv[j]? = some (some w)
  | [], _, _, _, h => h
  | k :: ks, lv, j, w, h => dropL_at lv k j w (dropLs_at ks _ j w h)
theorem LH.drop {ad : Nat → Nat} {ls : Array Slot} {nL : Nat} {lv : List (Option Value)} (h : LH ad ls nL lv) (ks : List Nat) : LH ad ls nL (dropLs lv ks) :=
  ⟨(dropLs_len ks lv).trans h.1, h.2.1, h.2.2.1, fun i v hi => h.2.2.2 i v (dropLs_at ks lv i v hi)⟩
theorem cv_cat (ad : Nat → Nat) (v : Value) : (cv ad v).category = v.category := by cases v <;> rfl
/-- the listed locals as the kit has them -/
def lvF (ad : Nat → Nat) (lv : List (Option Value)) : List (Nat × Value) := (lv.mapIdx (fun i o => o.map (fun v => (i, cv ad v)))).filterMap id
theorem lvF_mem {ad : Nat → Nat} {lv : List (Option Value)} {q : Nat × Value} : q ∈ lvF ad lv ↔ ∃ v, lv[q.1]? = some (some v) ∧ q.2 = cv ad v := by
  obtain ⟨i, w⟩ := q
  simp only [lvF, List.mem_filterMap, id]
  constructor
  · rintro ⟨o, ho, rfl⟩
    obtain ⟨k, hk⟩ := List.getElem?_of_mem ho
    rw [List.getElem?_mapIdx] at hk
    cases hq : lv[k]? with
    | none => rw [hq] at hk; cases hk
    | some x =>
      rw [hq] at hk
      cases x with
      | none => cases hk
      | some v =>
        simp only [Option.map_some, Option.some.injEq, Prod.mk.injEq] at hk
        obtain ⟨rfl, rfl⟩ := hk
        exact ⟨v, hq, rfl⟩
  · rintro ⟨v, hv, rfl⟩
    refine ⟨some (i, cv ad v), ?_, rfl⟩
    apply List.mem_of_getElem? (i := i)
    rw [List.getElem?_mapIdx, hv]
    rfl
theorem LH.has {ad : Nat → Nat} {ls : Array Slot} {nL : Nat} {lv : List (Option Value)} (h : LH ad ls nL lv) : lv_has ls nL (lvF ad lv) := by
  refine ⟨h.2.1, h.2.2.1, fun q hq => ?_⟩
  obtain ⟨v, hv, e⟩ := lvF_mem.mp hq
  rw [e]
  exact h.2.2.2 q.1 v hv
theorem LH.st {ad : Nat → Nat} {ls : Array Slot} {nL : Nat} {lv : List (Option Value)} {i : Nat} {v : Value} (hn : lv.length = nL) (h : lv_has ls nL ((i, cv ad v) :: (lvF ad lv).filter (fun q => !(q.1 == i) && !(q.1 + 1 == i && q.2.category == 2)))) : LH ad ls nL (stL lv i v) := by
  refine ⟨(stL_len lv i v).trans hn, h.1, h.2.1, fun j w hj => ?_⟩
  rcases stL_at lv i v j w hj with ⟨rfl, rfl⟩ | ⟨a, b, c⟩
  · exact h.2.2 (j, cv ad w) List.mem_cons_self
  · refine h.2.2 (j, cv ad w) (List.mem_cons_of_mem _ (List.mem_filter.mpr ⟨lvF_mem.mpr ⟨w, b, rfl⟩, ?_⟩))
    simp only [Bool.and_eq_true, Bool.not_eq_true', beq_eq_false_iff_ne, ne_eq, Bool.and_eq_false_iff, cv_cat]
    refine ⟨a, ?_⟩
    by_cases q : j + 1 = i
    · exact Or.inr fun z => c ⟨q, z⟩
    · exact Or.inl q
theorem LH.st2 {ad : Nat → Nat} {ls : Array Slot} {nL : Nat} {lv : List (Option Value)} {i : Nat} {v : Value} (hn : lv.length = nL) (h : lv_has ls nL ((i, cv ad v) :: (lvF ad lv).filter (fun q => !(q.1 == i) && (!(q.1 == i + 1) && !(q.1 + 1 == i && q.2.category == 2))))) : LH ad ls nL (stL2 lv i v) := by
  refine ⟨(stL2_len lv i v).trans hn, h.1, h.2.1, fun j w hj => ?_⟩
  rcases stL2_at lv i v j w hj with ⟨rfl, rfl⟩ | ⟨a, a2, b, c⟩
  · exact h.2.2 (j, cv ad w) List.mem_cons_self
  · refine h.2.2 (j, cv ad w) (List.mem_cons_of_mem _ (List.mem_filter.mpr ⟨lvF_mem.mpr ⟨w, b, rfl⟩, ?_⟩))
    simp only [Bool.and_eq_true, Bool.not_eq_true', beq_eq_false_iff_ne, ne_eq, Bool.and_eq_false_iff, cv_cat]
    refine ⟨a, a2, ?_⟩
    by_cases q : j + 1 = i
    · exact Or.inr fun z => c ⟨q, z⟩
    · exact Or.inl q
/-- the nest's links: they are no words that a contract keeps, so they come with the world -/
def Nws (U : State) : Prop := va_Nw (.methodLinkNest RX0 38 yX5_isMember RX5) U ∧ va_Nw (.methodLinkNest RX2 87 yX5_valueOf RX5) U ∧ va_Nw (.methodLinkNest RX1 57 yX5_valueOf RX5) U ∧ va_Nw (.methodLinkNest RX4 56 yX5_isWithin RX5) U ∧ va_Nw (.methodLinkNest RX4 25 yX5_isMember RX5) U
theorem Nws.warm {s U : State} (hW : s.WarmedH U.vm) (h : Nws s) : Nws U := ⟨h.1.warmM hW, h.2.1.warmM hW, h.2.2.1.warmM hW, h.2.2.2.1.warmM hW, h.2.2.2.2.warmM hW⟩
theorem Nws.same {s U : State} (hv : s.vm = U.vm) (h : Nws s) : Nws U := ⟨h.1.same rfl hv, h.2.1.same rfl hv, h.2.2.1.same rfl hv, h.2.2.2.1.same rfl hv, h.2.2.2.2.same rfl hv⟩
abbrev CX : Type := Program × Launch × Env × Room × State × MethodId × Array Value × List Frame × Method × Code × va_G × (Nat → ClassId) × (Nat → Nat) × (Nat → Prop) × Nat × Nat × Nat × (State → Prop)
def Wg (X : CX) (pc : Nat) (lv : List (Option Value)) (st : List Value) (hp : aH) : Prop :=
  match X with
  | (p, l, e, R, s, m, args, below, meth, c, D, ca, ad, A, cells, slots, nL, QM) => ∀ (H : Heap) (locs : List Loc) (ls : Array Slot), LH ad ls nL lv → va_P D vwCl (cH ca ad hp) H → va_D A (cH ca ad hp) → va_S A s.heap H locs → W p l e R s m args below meth c H locs cells slots QM (F0 m pc ls (st.map (cv ad)))
def Ok (X : CX) (own : String) (cc : ByteArray) (ws : List Cond) (rm : Room) : Prop :=
  match X with
  | (p, _, _, R, s, m, args, _, meth, c, D, ca, _, A, cells, slots, nL, _) => p.tables.exec = Jvm.exec ∧ c.code = cc ∧ c.maxLocals = nL ∧ s.vm.findClass own = some m.cls ∧ (∀ w ∈ ws, w.before args s = true) ∧ va_K D vwCl (tyA ca) s ∧ Nws s ∧ meth.locks = false ∧ (∀ q, s.heap.size ≤ q → A q) ∧ R = rm ∧ cells ≤ R.cells ∧ slots ≤ R.slots
/-- what a method's end says -/
def Qm (D : va_G) (ca : Nat → ClassId) (ad : Nat → Nat) (A : Nat → Prop) (r : Option Value) (hp : aH) : Array Value → State → Outcome → State → Prop := fun _ st o t => o = .returned (r.map (cv ad)) ∧ va_P D vwCl (cH ca ad hp) t.heap ∧ va_D A (cH ca ad hp) ∧ va_F A st t
def Rt (X : CX) (ret : Option FieldType) (r : Option Value) (hp : aH) : Prop :=
  match X with
  | (_, _, _, _, s, _, args, below, meth, _, D, ca, ad, A, cells, slots, _, QM) => meth.sig.returnType = ret ∧ QM = MQ below (Qm D ca ad A r hp) args s cells slots A
section Rules
variable {X : CX} {own : String} {cc : ByteArray} {ws : List Cond} {rm : Room} {pc : Nat} {lv : List (Option Value)} {st : List Value} {hp : aH}

theorem wg_iconst (C : Ok X own cc ws rm) {n : Int} {v : Int32} (d : decode cc pc = .ok (.iconst n, 1)) (hv : Int32.ofInt n = v) (k : Wg X (pc + 1) lv (.int v :: st) hp) : Wg X pc lv (st) hp := by
  obtain ⟨p, l, e, R, s, m, args, below, meth, c, D, ca, ad, A, cells, slots, nL, QM⟩ := X
  obtain ⟨hx, hb, hml, hown, hts, hK, hN, hlk, hA, hR, hc, hs⟩ := C
  intro H locs ls hl hP hD hS
  exact lv_iconst hx hb d hv (k H locs ls hl hP hD hS)
theorem wg_bipush (C : Ok X own cc ws rm) {n : Int} {v : Int32} (d : decode cc pc = .ok (.bipush n, 2)) (hv : (Int8.ofInt n).toInt32 = v) (k : Wg X (pc + 2) lv (.int v :: st) hp) : Wg X pc lv (st) hp := by
  obtain ⟨p, l, e, R, s, m, args, below, meth, c, D, ca, ad, A, cells, slots, nL, QM⟩ := X
  obtain ⟨hx, hb, hml, hown, hts, hK, hN, hlk, hA, hR, hc, hs⟩ := C
  intro H locs ls hl hP hD hS
  exact lv_bipush hx hb d hv (k H locs ls hl hP hD hS)
theorem wg_sipush (C : Ok X own cc ws rm) {n : Int} {v : Int32} (d : decode cc pc = .ok (.sipush n, 3)) (hv : (Int16.ofInt n).toInt32 = v) (k : Wg X (pc + 3) lv (.int v :: st) hp) : Wg X pc lv (st) hp := by
  obtain ⟨p, l, e, R, s, m, args, below, meth, c, D, ca, ad, A, cells, slots, nL, QM⟩ := X
  obtain ⟨hx, hb, hml, hown, hts, hK, hN, hlk, hA, hR, hc, hs⟩ := C
  intro H locs ls hl hP hD hS
  exact lv_sipush hx hb d hv (k H locs ls hl hP hD hS)
theorem wg_lconst (C : Ok X own cc ws rm) {n : Fin 2} {v : Int64} (d : decode cc pc = .ok (.lconst n, 1)) (hv : Int64.ofNat (n : Nat) = v) (k : Wg X (pc + 1) lv (.long v :: st) hp) : Wg X pc lv (st) hp := by
  obtain ⟨p, l, e, R, s, m, args, below, meth, c, D, ca, ad, A, cells, slots, nL, QM⟩ := X
  obtain ⟨hx, hb, hml, hown, hts, hK, hN, hlk, hA, hR, hc, hs⟩ := C
  intro H locs ls hl hP hD hS
  exact lv_lconst hx hb d hv (k H locs ls hl hP hD hS)
theorem wg_fconst0 (C : Ok X own cc ws rm)  (d : decode cc pc = .ok (.fconst 0, 1))  (k : Wg X (pc + 1) lv (.float FP.fconst0 :: st) hp) : Wg X pc lv (st) hp := by
  obtain ⟨p, l, e, R, s, m, args, below, meth, c, D, ca, ad, A, cells, slots, nL, QM⟩ := X
  obtain ⟨hx, hb, hml, hown, hts, hK, hN, hlk, hA, hR, hc, hs⟩ := C
  intro H locs ls hl hP hD hS
  exact lv_fconst0 hx hb d  (k H locs ls hl hP hD hS)
theorem wg_fconst1 (C : Ok X own cc ws rm)  (d : decode cc pc = .ok (.fconst 1, 1))  (k : Wg X (pc + 1) lv (.float FP.fconst1 :: st) hp) : Wg X pc lv (st) hp := by
  obtain ⟨p, l, e, R, s, m, args, below, meth, c, D, ca, ad, A, cells, slots, nL, QM⟩ := X
  obtain ⟨hx, hb, hml, hown, hts, hK, hN, hlk, hA, hR, hc, hs⟩ := C
  intro H locs ls hl hP hD hS
  exact lv_fconst1 hx hb d  (k H locs ls hl hP hD hS)
theorem wg_fconst2 (C : Ok X own cc ws rm)  (d : decode cc pc = .ok (.fconst 2, 1))  (k : Wg X (pc + 1) lv (.float FP.fconst2 :: st) hp) : Wg X pc lv (st) hp := by
  obtain ⟨p, l, e, R, s, m, args, below, meth, c, D, ca, ad, A, cells, slots, nL, QM⟩ := X
  obtain ⟨hx, hb, hml, hown, hts, hK, hN, hlk, hA, hR, hc, hs⟩ := C
  intro H locs ls hl hP hD hS
  exact lv_fconst2 hx hb d  (k H locs ls hl hP hD hS)
theorem wg_dconst0 (C : Ok X own cc ws rm)  (d : decode cc pc = .ok (.dconst 0, 1))  (k : Wg X (pc + 1) lv (.double FP.dconst0 :: st) hp) : Wg X pc lv (st) hp := by
  obtain ⟨p, l, e, R, s, m, args, below, meth, c, D, ca, ad, A, cells, slots, nL, QM⟩ := X
  obtain ⟨hx, hb, hml, hown, hts, hK, hN, hlk, hA, hR, hc, hs⟩ := C
  intro H locs ls hl hP hD hS
  exact lv_dconst0 hx hb d  (k H locs ls hl hP hD hS)
theorem wg_dconst1 (C : Ok X own cc ws rm)  (d : decode cc pc = .ok (.dconst 1, 1))  (k : Wg X (pc + 1) lv (.double FP.dconst1 :: st) hp) : Wg X pc lv (st) hp := by
  obtain ⟨p, l, e, R, s, m, args, below, meth, c, D, ca, ad, A, cells, slots, nL, QM⟩ := X
  obtain ⟨hx, hb, hml, hown, hts, hK, hN, hlk, hA, hR, hc, hs⟩ := C
  intro H locs ls hl hP hD hS
  exact lv_dconst1 hx hb d  (k H locs ls hl hP hD hS)
theorem wg_dup (C : Ok X own cc ws rm) {va : Value} (d : decode cc pc = .ok (.dup, 1)) (hva : va.category = 1) (k : Wg X (pc + 1) lv (va :: va :: st) hp) : Wg X pc lv (va :: st) hp := by
  obtain ⟨p, l, e, R, s, m, args, below, meth, c, D, ca, ad, A, cells, slots, nL, QM⟩ := X
  obtain ⟨hx, hb, hml, hown, hts, hK, hN, hlk, hA, hR, hc, hs⟩ := C
  intro H locs ls hl hP hD hS
  exact lv_dup hx hb d ((cv_cat ad va).trans hva) (k H locs ls hl hP hD hS)
theorem wg_dup2 (C : Ok X own cc ws rm) {va : Value} {vb : Value} (d : decode cc pc = .ok (.dup2, 1)) (hva : va.category = 1) (hvb : vb.category = 1) (k : Wg X (pc + 1) lv (va :: vb :: va :: vb :: st) hp) : Wg X pc lv (va :: vb :: st) hp := by
  obtain ⟨p, l, e, R, s, m, args, below, meth, c, D, ca, ad, A, cells, slots, nL, QM⟩ := X
  obtain ⟨hx, hb, hml, hown, hts, hK, hN, hlk, hA, hR, hc, hs⟩ := C
  intro H locs ls hl hP hD hS
  exact lv_dup2_11 hx hb d ((cv_cat ad va).trans hva) ((cv_cat ad vb).trans hvb) (k H locs ls hl hP hD hS)
theorem wg_pop (C : Ok X own cc ws rm) {va : Value} (d : decode cc pc = .ok (.pop, 1)) (hva : va.category = 1) (k : Wg X (pc + 1) lv (st) hp) : Wg X pc lv (va :: st) hp := by
  obtain ⟨p, l, e, R, s, m, args, below, meth, c, D, ca, ad, A, cells, slots, nL, QM⟩ := X
  obtain ⟨hx, hb, hml, hown, hts, hK, hN, hlk, hA, hR, hc, hs⟩ := C
  intro H locs ls hl hP hD hS
  exact lv_pop hx hb d ((cv_cat ad va).trans hva) (k H locs ls hl hP hD hS)
theorem wg_iadd (C : Ok X own cc ws rm) {x : Int32} {y : Int32} (d : decode cc pc = .ok (.iadd, 1))  (k : Wg X (pc + 1) lv (.int (x + y) :: st) hp) : Wg X pc lv (.int y :: .int x :: st) hp := by
  obtain ⟨p, l, e, R, s, m, args, below, meth, c, D, ca, ad, A, cells, slots, nL, QM⟩ := X
  obtain ⟨hx, hb, hml, hown, hts, hK, hN, hlk, hA, hR, hc, hs⟩ := C
  intro H locs ls hl hP hD hS
  exact lv_iadd hx hb d  (k H locs ls hl hP hD hS)
theorem wg_isub (C : Ok X own cc ws rm) {x : Int32} {y : Int32} (d : decode cc pc = .ok (.isub, 1))  (k : Wg X (pc + 1) lv (.int (x - y) :: st) hp) : Wg X pc lv (.int y :: .int x :: st) hp := by
  obtain ⟨p, l, e, R, s, m, args, below, meth, c, D, ca, ad, A, cells, slots, nL, QM⟩ := X
  obtain ⟨hx, hb, hml, hown, hts, hK, hN, hlk, hA, hR, hc, hs⟩ := C
  intro H locs ls hl hP hD hS
  exact lv_isub hx hb d  (k H locs ls hl hP hD hS)
theorem wg_imul (C : Ok X own cc ws rm) {x : Int32} {y : Int32} (d : decode cc pc = .ok (.imul, 1))  (k : Wg X (pc + 1) lv (.int (x * y) :: st) hp) : Wg X pc lv (.int y :: .int x :: st) hp := by
  obtain ⟨p, l, e, R, s, m, args, below, meth, c, D, ca, ad, A, cells, slots, nL, QM⟩ := X
  obtain ⟨hx, hb, hml, hown, hts, hK, hN, hlk, hA, hR, hc, hs⟩ := C
  intro H locs ls hl hP hD hS
  exact lv_imul hx hb d  (k H locs ls hl hP hD hS)
theorem wg_iand (C : Ok X own cc ws rm) {x : Int32} {y : Int32} (d : decode cc pc = .ok (.iand, 1))  (k : Wg X (pc + 1) lv (.int (x &&& y) :: st) hp) : Wg X pc lv (.int y :: .int x :: st) hp := by
  obtain ⟨p, l, e, R, s, m, args, below, meth, c, D, ca, ad, A, cells, slots, nL, QM⟩ := X
  obtain ⟨hx, hb, hml, hown, hts, hK, hN, hlk, hA, hR, hc, hs⟩ := C
  intro H locs ls hl hP hD hS
  exact lv_iand hx hb d  (k H locs ls hl hP hD hS)
theorem wg_ior (C : Ok X own cc ws rm) {x : Int32} {y : Int32} (d : decode cc pc = .ok (.ior, 1))  (k : Wg X (pc + 1) lv (.int (x ||| y) :: st) hp) : Wg X pc lv (.int y :: .int x :: st) hp := by
  obtain ⟨p, l, e, R, s, m, args, below, meth, c, D, ca, ad, A, cells, slots, nL, QM⟩ := X
  obtain ⟨hx, hb, hml, hown, hts, hK, hN, hlk, hA, hR, hc, hs⟩ := C
  intro H locs ls hl hP hD hS
  exact lv_ior hx hb d  (k H locs ls hl hP hD hS)
theorem wg_ishl (C : Ok X own cc ws rm) {x : Int32} {y : Int32} (d : decode cc pc = .ok (.ishl, 1))  (k : Wg X (pc + 1) lv (.int (x <<< (y &&& 31)) :: st) hp) : Wg X pc lv (.int y :: .int x :: st) hp := by
  obtain ⟨p, l, e, R, s, m, args, below, meth, c, D, ca, ad, A, cells, slots, nL, QM⟩ := X
  obtain ⟨hx, hb, hml, hown, hts, hK, hN, hlk, hA, hR, hc, hs⟩ := C
  intro H locs ls hl hP hD hS
  exact lv_ishl hx hb d  (k H locs ls hl hP hD hS)
theorem wg_idiv (C : Ok X own cc ws rm) {x : Int32} {y : Int32} (d : decode cc pc = .ok (.idiv, 1)) (hne : ¬ y = 0) (k : Wg X (pc + 1) lv (.int (x / y) :: st) hp) : Wg X pc lv (.int y :: .int x :: st) hp := by
  obtain ⟨p, l, e, R, s, m, args, below, meth, c, D, ca, ad, A, cells, slots, nL, QM⟩ := X
  obtain ⟨hx, hb, hml, hown, hts, hK, hN, hlk, hA, hR, hc, hs⟩ := C
  intro H locs ls hl hP hD hS
  exact lv_idiv hx hb d hne (k H locs ls hl hP hD hS)
theorem wg_irem (C : Ok X own cc ws rm) {x : Int32} {y : Int32} (d : decode cc pc = .ok (.irem, 1)) (hne : ¬ y = 0) (k : Wg X (pc + 1) lv (.int (x - x / y * y) :: st) hp) : Wg X pc lv (.int y :: .int x :: st) hp := by
  obtain ⟨p, l, e, R, s, m, args, below, meth, c, D, ca, ad, A, cells, slots, nL, QM⟩ := X
  obtain ⟨hx, hb, hml, hown, hts, hK, hN, hlk, hA, hR, hc, hs⟩ := C
  intro H locs ls hl hP hD hS
  exact lv_irem hx hb d hne (k H locs ls hl hP hD hS)
theorem wg_ineg (C : Ok X own cc ws rm) {x : Int32} (d : decode cc pc = .ok (.ineg, 1))  (k : Wg X (pc + 1) lv (.int (-x) :: st) hp) : Wg X pc lv (.int x :: st) hp := by
  obtain ⟨p, l, e, R, s, m, args, below, meth, c, D, ca, ad, A, cells, slots, nL, QM⟩ := X
  obtain ⟨hx, hb, hml, hown, hts, hK, hN, hlk, hA, hR, hc, hs⟩ := C
  intro H locs ls hl hP hD hS
  exact lv_ineg hx hb d  (k H locs ls hl hP hD hS)
theorem wg_ladd (C : Ok X own cc ws rm) {x : Int64} {y : Int64} (d : decode cc pc = .ok (.ladd, 1))  (k : Wg X (pc + 1) lv (.long (x + y) :: st) hp) : Wg X pc lv (.long y :: .long x :: st) hp := by
  obtain ⟨p, l, e, R, s, m, args, below, meth, c, D, ca, ad, A, cells, slots, nL, QM⟩ := X
  obtain ⟨hx, hb, hml, hown, hts, hK, hN, hlk, hA, hR, hc, hs⟩ := C
  intro H locs ls hl hP hD hS
  exact lv_ladd hx hb d  (k H locs ls hl hP hD hS)
theorem wg_lmul (C : Ok X own cc ws rm) {x : Int64} {y : Int64} (d : decode cc pc = .ok (.lmul, 1))  (k : Wg X (pc + 1) lv (.long (x * y) :: st) hp) : Wg X pc lv (.long y :: .long x :: st) hp := by
  obtain ⟨p, l, e, R, s, m, args, below, meth, c, D, ca, ad, A, cells, slots, nL, QM⟩ := X
  obtain ⟨hx, hb, hml, hown, hts, hK, hN, hlk, hA, hR, hc, hs⟩ := C
  intro H locs ls hl hP hD hS
  exact lv_lmul hx hb d  (k H locs ls hl hP hD hS)
theorem wg_lor (C : Ok X own cc ws rm) {x : Int64} {y : Int64} (d : decode cc pc = .ok (.lor, 1))  (k : Wg X (pc + 1) lv (.long (x ||| y) :: st) hp) : Wg X pc lv (.long y :: .long x :: st) hp := by
  obtain ⟨p, l, e, R, s, m, args, below, meth, c, D, ca, ad, A, cells, slots, nL, QM⟩ := X
  obtain ⟨hx, hb, hml, hown, hts, hK, hN, hlk, hA, hR, hc, hs⟩ := C
  intro H locs ls hl hP hD hS
  exact lv_lor hx hb d  (k H locs ls hl hP hD hS)
theorem wg_ldiv (C : Ok X own cc ws rm) {x : Int64} {y : Int64} (d : decode cc pc = .ok (.ldiv, 1)) (hne : ¬ y = 0) (k : Wg X (pc + 1) lv (.long (x / y) :: st) hp) : Wg X pc lv (.long y :: .long x :: st) hp := by
  obtain ⟨p, l, e, R, s, m, args, below, meth, c, D, ca, ad, A, cells, slots, nL, QM⟩ := X
  obtain ⟨hx, hb, hml, hown, hts, hK, hN, hlk, hA, hR, hc, hs⟩ := C
  intro H locs ls hl hP hD hS
  exact lv_ldiv hx hb d hne (k H locs ls hl hP hD hS)
theorem wg_lrem (C : Ok X own cc ws rm) {x : Int64} {y : Int64} (d : decode cc pc = .ok (.lrem, 1)) (hne : ¬ y = 0) (k : Wg X (pc + 1) lv (.long (x - x / y * y) :: st) hp) : Wg X pc lv (.long y :: .long x :: st) hp := by
  obtain ⟨p, l, e, R, s, m, args, below, meth, c, D, ca, ad, A, cells, slots, nL, QM⟩ := X
  obtain ⟨hx, hb, hml, hown, hts, hK, hN, hlk, hA, hR, hc, hs⟩ := C
  intro H locs ls hl hP hD hS
  exact lv_lrem hx hb d hne (k H locs ls hl hP hD hS)
theorem wg_lshl (C : Ok X own cc ws rm) {x : Int64} {y : Int32} (d : decode cc pc = .ok (.lshl, 1))  (k : Wg X (pc + 1) lv (.long (x <<< (y.toInt64 &&& 63)) :: st) hp) : Wg X pc lv (.int y :: .long x :: st) hp := by
  obtain ⟨p, l, e, R, s, m, args, below, meth, c, D, ca, ad, A, cells, slots, nL, QM⟩ := X
  obtain ⟨hx, hb, hml, hown, hts, hK, hN, hlk, hA, hR, hc, hs⟩ := C
  intro H locs ls hl hP hD hS
  exact lv_lshl hx hb d rfl (k H locs ls hl hP hD hS)
theorem wg_i2l (C : Ok X own cc ws rm) {x : Int32} (d : decode cc pc = .ok (.i2l, 1))  (k : Wg X (pc + 1) lv (.long x.toInt64 :: st) hp) : Wg X pc lv (.int x :: st) hp := by
  obtain ⟨p, l, e, R, s, m, args, below, meth, c, D, ca, ad, A, cells, slots, nL, QM⟩ := X
  obtain ⟨hx, hb, hml, hown, hts, hK, hN, hlk, hA, hR, hc, hs⟩ := C
  intro H locs ls hl hP hD hS
  exact lv_i2l hx hb d rfl (k H locs ls hl hP hD hS)
theorem wg_l2i (C : Ok X own cc ws rm) {x : Int64} (d : decode cc pc = .ok (.l2i, 1))  (k : Wg X (pc + 1) lv (.int x.toInt32 :: st) hp) : Wg X pc lv (.long x :: st) hp := by
  obtain ⟨p, l, e, R, s, m, args, below, meth, c, D, ca, ad, A, cells, slots, nL, QM⟩ := X
  obtain ⟨hx, hb, hml, hown, hts, hK, hN, hlk, hA, hR, hc, hs⟩ := C
  intro H locs ls hl hP hD hS
  exact lv_l2i hx hb d rfl (k H locs ls hl hP hD hS)
theorem wg_i2f (C : Ok X own cc ws rm) {x : Int32} (d : decode cc pc = .ok (.i2f, 1))  (k : Wg X (pc + 1) lv (.float (FP.i2f x) :: st) hp) : Wg X pc lv (.int x :: st) hp := by
  obtain ⟨p, l, e, R, s, m, args, below, meth, c, D, ca, ad, A, cells, slots, nL, QM⟩ := X
  obtain ⟨hx, hb, hml, hown, hts, hK, hN, hlk, hA, hR, hc, hs⟩ := C
  intro H locs ls hl hP hD hS
  exact lv_i2f hx hb d  (k H locs ls hl hP hD hS)
theorem wg_i2d (C : Ok X own cc ws rm) {x : Int32} (d : decode cc pc = .ok (.i2d, 1))  (k : Wg X (pc + 1) lv (.double (FP.i2d x) :: st) hp) : Wg X pc lv (.int x :: st) hp := by
  obtain ⟨p, l, e, R, s, m, args, below, meth, c, D, ca, ad, A, cells, slots, nL, QM⟩ := X
  obtain ⟨hx, hb, hml, hown, hts, hK, hN, hlk, hA, hR, hc, hs⟩ := C
  intro H locs ls hl hP hD hS
  exact lv_i2d hx hb d  (k H locs ls hl hP hD hS)
theorem wg_f2i (C : Ok X own cc ws rm) {x : UInt32} (d : decode cc pc = .ok (.f2i, 1))  (k : Wg X (pc + 1) lv (.int (FP.f2i x) :: st) hp) : Wg X pc lv (.float x :: st) hp := by
  obtain ⟨p, l, e, R, s, m, args, below, meth, c, D, ca, ad, A, cells, slots, nL, QM⟩ := X
  obtain ⟨hx, hb, hml, hown, hts, hK, hN, hlk, hA, hR, hc, hs⟩ := C
  intro H locs ls hl hP hD hS
  exact lv_f2i hx hb d  (k H locs ls hl hP hD hS)
theorem wg_d2l (C : Ok X own cc ws rm) {x : UInt64} (d : decode cc pc = .ok (.d2l, 1))  (k : Wg X (pc + 1) lv (.long (FP.d2l x) :: st) hp) : Wg X pc lv (.double x :: st) hp := by
  obtain ⟨p, l, e, R, s, m, args, below, meth, c, D, ca, ad, A, cells, slots, nL, QM⟩ := X
  obtain ⟨hx, hb, hml, hown, hts, hK, hN, hlk, hA, hR, hc, hs⟩ := C
  intro H locs ls hl hP hD hS
  exact lv_d2l hx hb d  (k H locs ls hl hP hD hS)
theorem wg_f2d (C : Ok X own cc ws rm) {x : UInt32} (d : decode cc pc = .ok (.f2d, 1)) (hn : n64 (FP.f2d x) = true) (k : Wg X (pc + 1) lv (.double (FP.f2d x) :: st) hp) : Wg X pc lv (.float x :: st) hp := by
  obtain ⟨p, l, e, R, s, m, args, below, meth, c, D, ca, ad, A, cells, slots, nL, QM⟩ := X
  obtain ⟨hx, hb, hml, hown, hts, hK, hN, hlk, hA, hR, hc, hs⟩ := C
  intro H locs ls hl hP hD hS
  exact lv_f2d hx hb d (n64_ok hn) (k H locs ls hl hP hD hS)
theorem wg_lcmp (C : Ok X own cc ws rm) {x : Int64} {y : Int64} (d : decode cc pc = .ok (.lcmp, 1))  (k : Wg X (pc + 1) lv (.int (lg_cmp x y) :: st) hp) : Wg X pc lv (.long y :: .long x :: st) hp := by
  obtain ⟨p, l, e, R, s, m, args, below, meth, c, D, ca, ad, A, cells, slots, nL, QM⟩ := X
  obtain ⟨hx, hb, hml, hown, hts, hK, hN, hlk, hA, hR, hc, hs⟩ := C
  intro H locs ls hl hP hD hS
  exact W.lcmp hx hb d  (k H locs ls hl hP hD hS)
theorem wg_fadd (C : Ok X own cc ws rm) {x : UInt32} {y : UInt32} (d : decode cc pc = .ok (.fadd, 1)) (hn : n32 (FP.fadd x y) = true) (k : Wg X (pc + 1) lv (.float (FP.fadd x y) :: st) hp) : Wg X pc lv (.float y :: .float x :: st) hp := by
  obtain ⟨p, l, e, R, s, m, args, below, meth, c, D, ca, ad, A, cells, slots, nL, QM⟩ := X
  obtain ⟨hx, hb, hml, hown, hts, hK, hN, hlk, hA, hR, hc, hs⟩ := C
  intro H locs ls hl hP hD hS
  exact lv_fadd hx hb d (n32_ok hn) (k H locs ls hl hP hD hS)
theorem wg_fsub (C : Ok X own cc ws rm) {x : UInt32} {y : UInt32} (d : decode cc pc = .ok (.fsub, 1)) (hn : n32 (FP.fsub x y) = true) (k : Wg X (pc + 1) lv (.float (FP.fsub x y) :: st) hp) : Wg X pc lv (.float y :: .float x :: st) hp := by
  obtain ⟨p, l, e, R, s, m, args, below, meth, c, D, ca, ad, A, cells, slots, nL, QM⟩ := X
  obtain ⟨hx, hb, hml, hown, hts, hK, hN, hlk, hA, hR, hc, hs⟩ := C
  intro H locs ls hl hP hD hS
  exact lv_fsub hx hb d (n32_ok hn) (k H locs ls hl hP hD hS)
theorem wg_fmul (C : Ok X own cc ws rm) {x : UInt32} {y : UInt32} (d : decode cc pc = .ok (.fmul, 1)) (hn : n32 (FP.fmul x y) = true) (k : Wg X (pc + 1) lv (.float (FP.fmul x y) :: st) hp) : Wg X pc lv (.float y :: .float x :: st) hp := by
  obtain ⟨p, l, e, R, s, m, args, below, meth, c, D, ca, ad, A, cells, slots, nL, QM⟩ := X
  obtain ⟨hx, hb, hml, hown, hts, hK, hN, hlk, hA, hR, hc, hs⟩ := C
  intro H locs ls hl hP hD hS
  exact lv_fmul hx hb d (n32_ok hn) (k H locs ls hl hP hD hS)
theorem wg_fdiv (C : Ok X own cc ws rm) {x : UInt32} {y : UInt32} (d : decode cc pc = .ok (.fdiv, 1)) (hn : n32 (FP.fdiv x y) = true) (k : Wg X (pc + 1) lv (.float (FP.fdiv x y) :: st) hp) : Wg X pc lv (.float y :: .float x :: st) hp := by
  obtain ⟨p, l, e, R, s, m, args, below, meth, c, D, ca, ad, A, cells, slots, nL, QM⟩ := X
  obtain ⟨hx, hb, hml, hown, hts, hK, hN, hlk, hA, hR, hc, hs⟩ := C
  intro H locs ls hl hP hD hS
  exact lv_fdiv hx hb d (n32_ok hn) (k H locs ls hl hP hD hS)
theorem wg_dadd (C : Ok X own cc ws rm) {x : UInt64} {y : UInt64} (d : decode cc pc = .ok (.dadd, 1)) (hn : n64 (FP.dadd x y) = true) (k : Wg X (pc + 1) lv (.double (FP.dadd x y) :: st) hp) : Wg X pc lv (.double y :: .double x :: st) hp := by
  obtain ⟨p, l, e, R, s, m, args, below, meth, c, D, ca, ad, A, cells, slots, nL, QM⟩ := X
  obtain ⟨hx, hb, hml, hown, hts, hK, hN, hlk, hA, hR, hc, hs⟩ := C
  intro H locs ls hl hP hD hS
  exact lv_dadd hx hb d (n64_ok hn) (k H locs ls hl hP hD hS)
theorem wg_dsub (C : Ok X own cc ws rm) {x : UInt64} {y : UInt64} (d : decode cc pc = .ok (.dsub, 1)) (hn : n64 (FP.dsub x y) = true) (k : Wg X (pc + 1) lv (.double (FP.dsub x y) :: st) hp) : Wg X pc lv (.double y :: .double x :: st) hp := by
  obtain ⟨p, l, e, R, s, m, args, below, meth, c, D, ca, ad, A, cells, slots, nL, QM⟩ := X
  obtain ⟨hx, hb, hml, hown, hts, hK, hN, hlk, hA, hR, hc, hs⟩ := C
  intro H locs ls hl hP hD hS
  exact lv_dsub hx hb d (n64_ok hn) (k H locs ls hl hP hD hS)
theorem wg_dmul (C : Ok X own cc ws rm) {x : UInt64} {y : UInt64} (d : decode cc pc = .ok (.dmul, 1)) (hn : n64 (FP.dmul x y) = true) (k : Wg X (pc + 1) lv (.double (FP.dmul x y) :: st) hp) : Wg X pc lv (.double y :: .double x :: st) hp := by
  obtain ⟨p, l, e, R, s, m, args, below, meth, c, D, ca, ad, A, cells, slots, nL, QM⟩ := X
  obtain ⟨hx, hb, hml, hown, hts, hK, hN, hlk, hA, hR, hc, hs⟩ := C
  intro H locs ls hl hP hD hS
  exact lv_dmul hx hb d (n64_ok hn) (k H locs ls hl hP hD hS)
theorem wg_ddiv (C : Ok X own cc ws rm) {x : UInt64} {y : UInt64} (d : decode cc pc = .ok (.ddiv, 1)) (hn : n64 (FP.ddiv x y) = true) (k : Wg X (pc + 1) lv (.double (FP.ddiv x y) :: st) hp) : Wg X pc lv (.double y :: .double x :: st) hp := by
  obtain ⟨p, l, e, R, s, m, args, below, meth, c, D, ca, ad, A, cells, slots, nL, QM⟩ := X
  obtain ⟨hx, hb, hml, hown, hts, hK, hN, hlk, hA, hR, hc, hs⟩ := C
  intro H locs ls hl hP hD hS
  exact lv_ddiv hx hb d (n64_ok hn) (k H locs ls hl hP hD hS)
theorem wg_fneg (C : Ok X own cc ws rm) {x : UInt32} (d : decode cc pc = .ok (.fneg, 1))  (k : Wg X (pc + 1) lv (.float (FP.fneg x) :: st) hp) : Wg X pc lv (.float x :: st) hp := by
  obtain ⟨p, l, e, R, s, m, args, below, meth, c, D, ca, ad, A, cells, slots, nL, QM⟩ := X
  obtain ⟨hx, hb, hml, hown, hts, hK, hN, hlk, hA, hR, hc, hs⟩ := C
  intro H locs ls hl hP hD hS
  exact lv_fneg hx hb d  (k H locs ls hl hP hD hS)
theorem wg_dneg (C : Ok X own cc ws rm) {x : UInt64} (d : decode cc pc = .ok (.dneg, 1))  (k : Wg X (pc + 1) lv (.double (FP.dneg x) :: st) hp) : Wg X pc lv (.double x :: st) hp := by
  obtain ⟨p, l, e, R, s, m, args, below, meth, c, D, ca, ad, A, cells, slots, nL, QM⟩ := X
  obtain ⟨hx, hb, hml, hown, hts, hK, hN, hlk, hA, hR, hc, hs⟩ := C
  intro H locs ls hl hP hD hS
  exact lv_dneg hx hb d  (k H locs ls hl hP hD hS)
theorem wg_fcmp (C : Ok X own cc ws rm) {x : UInt32} {y : UInt32} {op : CmpOp} (d : decode cc pc = .ok (.fcmp op, 1))  (k : Wg X (pc + 1) lv (.int (Op.cmpValue (FP.fcmp x y) op) :: st) hp) : Wg X pc lv (.float y :: .float x :: st) hp := by
  obtain ⟨p, l, e, R, s, m, args, below, meth, c, D, ca, ad, A, cells, slots, nL, QM⟩ := X
  obtain ⟨hx, hb, hml, hown, hts, hK, hN, hlk, hA, hR, hc, hs⟩ := C
  intro H locs ls hl hP hD hS
  exact lv_fcmp hx hb d  (k H locs ls hl hP hD hS)
theorem wg_dcmp (C : Ok X own cc ws rm) {x : UInt64} {y : UInt64} {op : CmpOp} (d : decode cc pc = .ok (.dcmp op, 1))  (k : Wg X (pc + 1) lv (.int (Op.cmpValue (FP.dcmp x y) op) :: st) hp) : Wg X pc lv (.double y :: .double x :: st) hp := by
  obtain ⟨p, l, e, R, s, m, args, below, meth, c, D, ca, ad, A, cells, slots, nL, QM⟩ := X
  obtain ⟨hx, hb, hml, hown, hts, hK, hN, hlk, hA, hR, hc, hs⟩ := C
  intro H locs ls hl hP hD hS
  exact lv_dcmp hx hb d  (k H locs ls hl hP hD hS)
theorem wg_ldci (C : Ok X own cc ws rm) {index : Nat} {v : Int32} (hw : Cond.constant own index v ∈ ws) (d : decode cc pc = .ok (.ldc index, 2)) (k : Wg X (pc + 2) lv (.int v :: st) hp) : Wg X pc lv st hp := by
  obtain ⟨p, l, e, R, s, m, args, below, meth, c, D, ca, ad, A, cells, slots, nL, QM⟩ := X
  obtain ⟨hx, hb, hml, hown, hts, hK, hN, hlk, hA, hR, hc, hs⟩ := C
  intro H locs ls hl hP hD hS
  exact lv_ldc hx hb hown (hts _ hw) d (k H locs ls hl hP hD hS)
theorem wg_ldcf (C : Ok X own cc ws rm) {index : Nat} {v : UInt32} (hw : Cond.constantFloat own index v ∈ ws) (d : decode cc pc = .ok (.ldc index, 2)) (k : Wg X (pc + 2) lv (.float v :: st) hp) : Wg X pc lv st hp := by
  obtain ⟨p, l, e, R, s, m, args, below, meth, c, D, ca, ad, A, cells, slots, nL, QM⟩ := X
  obtain ⟨hx, hb, hml, hown, hts, hK, hN, hlk, hA, hR, hc, hs⟩ := C
  intro H locs ls hl hP hD hS
  exact lv_ldcf hx hb hown (hts _ hw) d (k H locs ls hl hP hD hS)
theorem wg_ldcl (C : Ok X own cc ws rm) {index : Nat} {v : Int64} (hw : Cond.constantLong own index v ∈ ws) (d : decode cc pc = .ok (.ldc2_w index, 3)) (k : Wg X (pc + 3) lv (.long v :: st) hp) : Wg X pc lv st hp := by
  obtain ⟨p, l, e, R, s, m, args, below, meth, c, D, ca, ad, A, cells, slots, nL, QM⟩ := X
  obtain ⟨hx, hb, hml, hown, hts, hK, hN, hlk, hA, hR, hc, hs⟩ := C
  intro H locs ls hl hP hD hS
  exact lv_ldc2 hx hb hown (hts _ hw) d (k H locs ls hl hP hD hS)
theorem wg_ldcd (C : Ok X own cc ws rm) {index : Nat} {v : UInt64} (hw : Cond.constantDouble own index v ∈ ws) (d : decode cc pc = .ok (.ldc2_w index, 3)) (k : Wg X (pc + 3) lv (.double v :: st) hp) : Wg X pc lv st hp := by
  obtain ⟨p, l, e, R, s, m, args, below, meth, c, D, ca, ad, A, cells, slots, nL, QM⟩ := X
  obtain ⟨hx, hb, hml, hown, hts, hK, hN, hlk, hA, hR, hc, hs⟩ := C
  intro H locs ls hl hP hD hS
  exact lv_ldc2d hx hb hown (hts _ hw) d (k H locs ls hl hP hD hS)
theorem wg_iload (C : Ok X own cc ws rm) {i : Nat} {x : Int32} (d : decode cc pc = .ok (.iload i, 2)) (hg : lv[i]? = some (some (.int x))) (k : Wg X (pc + 2) lv (.int x :: st) hp) : Wg X pc lv st hp := by
  obtain ⟨p, l, e, R, s, m, args, below, meth, c, D, ca, ad, A, cells, slots, nL, QM⟩ := X
  obtain ⟨hx, hb, hml, hown, hts, hK, hN, hlk, hA, hR, hc, hs⟩ := C
  intro H locs ls hl hP hD hS
  exact lv_iload hx hb d (hl.2.2.2 i _ hg) (k H locs ls hl hP hD hS)
theorem wg_iload_n (C : Ok X own cc ws rm) {i : Fin 4} {x : Int32} (d : decode cc pc = .ok (.iload_n i, 1)) (hg : lv[(i : Nat)]? = some (some (.int x))) (k : Wg X (pc + 1) lv (.int x :: st) hp) : Wg X pc lv st hp := by
  obtain ⟨p, l, e, R, s, m, args, below, meth, c, D, ca, ad, A, cells, slots, nL, QM⟩ := X
  obtain ⟨hx, hb, hml, hown, hts, hK, hN, hlk, hA, hR, hc, hs⟩ := C
  intro H locs ls hl hP hD hS
  exact lv_iload_n hx hb d rfl (hl.2.2.2 _ _ hg) (k H locs ls hl hP hD hS)
theorem wg_lload (C : Ok X own cc ws rm) {i : Nat} {x : Int64} (d : decode cc pc = .ok (.lload i, 2)) (hg : lv[i]? = some (some (.long x))) (k : Wg X (pc + 2) lv (.long x :: st) hp) : Wg X pc lv st hp := by
  obtain ⟨p, l, e, R, s, m, args, below, meth, c, D, ca, ad, A, cells, slots, nL, QM⟩ := X
  obtain ⟨hx, hb, hml, hown, hts, hK, hN, hlk, hA, hR, hc, hs⟩ := C
  intro H locs ls hl hP hD hS
  exact lv_lload hx hb d (hl.2.2.2 i _ hg) (k H locs ls hl hP hD hS)
theorem wg_lload_n (C : Ok X own cc ws rm) {i : Fin 4} {x : Int64} (d : decode cc pc = .ok (.lload_n i, 1)) (hg : lv[(i : Nat)]? = some (some (.long x))) (k : Wg X (pc + 1) lv (.long x :: st) hp) : Wg X pc lv st hp := by
  obtain ⟨p, l, e, R, s, m, args, below, meth, c, D, ca, ad, A, cells, slots, nL, QM⟩ := X
  obtain ⟨hx, hb, hml, hown, hts, hK, hN, hlk, hA, hR, hc, hs⟩ := C
  intro H locs ls hl hP hD hS
  exact lv_lload_n hx hb d rfl (hl.2.2.2 _ _ hg) (k H locs ls hl hP hD hS)
theorem wg_fload (C : Ok X own cc ws rm) {i : Nat} {x : UInt32} (d : decode cc pc = .ok (.fload i, 2)) (hg : lv[i]? = some (some (.float x))) (k : Wg X (pc + 2) lv (.float x :: st) hp) : Wg X pc lv st hp := by
  obtain ⟨p, l, e, R, s, m, args, below, meth, c, D, ca, ad, A, cells, slots, nL, QM⟩ := X
  obtain ⟨hx, hb, hml, hown, hts, hK, hN, hlk, hA, hR, hc, hs⟩ := C
  intro H locs ls hl hP hD hS
  exact lv_fload hx hb d (hl.2.2.2 i _ hg) (k H locs ls hl hP hD hS)
theorem wg_fload_n (C : Ok X own cc ws rm) {i : Fin 4} {x : UInt32} (d : decode cc pc = .ok (.fload_n i, 1)) (hg : lv[(i : Nat)]? = some (some (.float x))) (k : Wg X (pc + 1) lv (.float x :: st) hp) : Wg X pc lv st hp := by
  obtain ⟨p, l, e, R, s, m, args, below, meth, c, D, ca, ad, A, cells, slots, nL, QM⟩ := X
  obtain ⟨hx, hb, hml, hown, hts, hK, hN, hlk, hA, hR, hc, hs⟩ := C
  intro H locs ls hl hP hD hS
  exact lv_fload_n hx hb d rfl (hl.2.2.2 _ _ hg) (k H locs ls hl hP hD hS)
theorem wg_dload (C : Ok X own cc ws rm) {i : Nat} {x : UInt64} (d : decode cc pc = .ok (.dload i, 2)) (hg : lv[i]? = some (some (.double x))) (k : Wg X (pc + 2) lv (.double x :: st) hp) : Wg X pc lv st hp := by
  obtain ⟨p, l, e, R, s, m, args, below, meth, c, D, ca, ad, A, cells, slots, nL, QM⟩ := X
  obtain ⟨hx, hb, hml, hown, hts, hK, hN, hlk, hA, hR, hc, hs⟩ := C
  intro H locs ls hl hP hD hS
  exact lv_dload hx hb d (hl.2.2.2 i _ hg) (k H locs ls hl hP hD hS)
theorem wg_dload_n (C : Ok X own cc ws rm) {i : Fin 4} {x : UInt64} (d : decode cc pc = .ok (.dload_n i, 1)) (hg : lv[(i : Nat)]? = some (some (.double x))) (k : Wg X (pc + 1) lv (.double x :: st) hp) : Wg X pc lv st hp := by
  obtain ⟨p, l, e, R, s, m, args, below, meth, c, D, ca, ad, A, cells, slots, nL, QM⟩ := X
  obtain ⟨hx, hb, hml, hown, hts, hK, hN, hlk, hA, hR, hc, hs⟩ := C
  intro H locs ls hl hP hD hS
  exact lv_dload_n hx hb d rfl (hl.2.2.2 _ _ hg) (k H locs ls hl hP hD hS)
theorem wg_aload (C : Ok X own cc ws rm) {i : Nat} {x : Nat} (d : decode cc pc = .ok (.aload i, 2)) (hg : lv[i]? = some (some (.ref x))) (k : Wg X (pc + 2) lv (.ref x :: st) hp) : Wg X pc lv st hp := by
  obtain ⟨p, l, e, R, s, m, args, below, meth, c, D, ca, ad, A, cells, slots, nL, QM⟩ := X
  obtain ⟨hx, hb, hml, hown, hts, hK, hN, hlk, hA, hR, hc, hs⟩ := C
  intro H locs ls hl hP hD hS
  exact lv_aload hx hb d (hl.2.2.2 i _ hg) (k H locs ls hl hP hD hS)
theorem wg_aload_n (C : Ok X own cc ws rm) {i : Fin 4} {x : Nat} (d : decode cc pc = .ok (.aload_n i, 1)) (hg : lv[(i : Nat)]? = some (some (.ref x))) (k : Wg X (pc + 1) lv (.ref x :: st) hp) : Wg X pc lv st hp := by
  obtain ⟨p, l, e, R, s, m, args, below, meth, c, D, ca, ad, A, cells, slots, nL, QM⟩ := X
  obtain ⟨hx, hb, hml, hown, hts, hK, hN, hlk, hA, hR, hc, hs⟩ := C
  intro H locs ls hl hP hD hS
  exact lv_aload_n hx hb d rfl (hl.2.2.2 _ _ hg) (k H locs ls hl hP hD hS)
theorem wg_istore (C : Ok X own cc ws rm) {i : Nat} {x : Int32} {lv' : List (Option Value)} (d : decode cc pc = .ok (.istore i, 2)) (hi : i < lv.length) (he : stL lv i (.int x) = lv') (k : Wg X (pc + 2) lv' st hp) : Wg X pc lv (.int x :: st) hp := by
  obtain ⟨p, l, e, R, s, m, args, below, meth, c, D, ca, ad, A, cells, slots, nL, QM⟩ := X
  obtain ⟨hx, hb, hml, hown, hts, hK, hN, hlk, hA, hR, hc, hs⟩ := C
  intro H locs ls hl hP hD hS
  exact lv_istore hx hb d hl.has (by rw [← hl.1]; exact hi) rfl (fun ls' hl' => k H locs ls' (he ▸ LH.st hl.1 hl') hP hD hS)
theorem wg_istore_n (C : Ok X own cc ws rm) {i : Fin 4} {x : Int32} {lv' : List (Option Value)} (d : decode cc pc = .ok (.istore_n i, 1)) (hi : (i : Nat) < lv.length) (he : stL lv (i : Nat) (.int x) = lv') (k : Wg X (pc + 1) lv' st hp) : Wg X pc lv (.int x :: st) hp := by
  obtain ⟨p, l, e, R, s, m, args, below, meth, c, D, ca, ad, A, cells, slots, nL, QM⟩ := X
  obtain ⟨hx, hb, hml, hown, hts, hK, hN, hlk, hA, hR, hc, hs⟩ := C
  intro H locs ls hl hP hD hS
  exact lv_istore_n hx hb d rfl hl.has (by rw [← hl.1]; exact hi) rfl (fun ls' hl' => k H locs ls' (he ▸ LH.st hl.1 hl') hP hD hS)
theorem wg_lstore (C : Ok X own cc ws rm) {i : Nat} {x : Int64} {lv' : List (Option Value)} (d : decode cc pc = .ok (.lstore i, 2)) (hi : i + 1 < lv.length) (he : stL2 lv i (.long x) = lv') (k : Wg X (pc + 2) lv' st hp) : Wg X pc lv (.long x :: st) hp := by
  obtain ⟨p, l, e, R, s, m, args, below, meth, c, D, ca, ad, A, cells, slots, nL, QM⟩ := X
  obtain ⟨hx, hb, hml, hown, hts, hK, hN, hlk, hA, hR, hc, hs⟩ := C
  intro H locs ls hl hP hD hS
  exact lv_lstore hx hb d hl.has (by rw [← hl.1]; exact hi) rfl (fun ls' hl' => k H locs ls' (he ▸ LH.st2 hl.1 hl') hP hD hS)
theorem wg_lstore_n (C : Ok X own cc ws rm) {i : Fin 4} {x : Int64} {lv' : List (Option Value)} (d : decode cc pc = .ok (.lstore_n i, 1)) (hi : (i : Nat) + 1 < lv.length) (he : stL2 lv (i : Nat) (.long x) = lv') (k : Wg X (pc + 1) lv' st hp) : Wg X pc lv (.long x :: st) hp := by
  obtain ⟨p, l, e, R, s, m, args, below, meth, c, D, ca, ad, A, cells, slots, nL, QM⟩ := X
  obtain ⟨hx, hb, hml, hown, hts, hK, hN, hlk, hA, hR, hc, hs⟩ := C
  intro H locs ls hl hP hD hS
  exact lv_lstore_n hx hb d rfl hl.has (by rw [← hl.1]; exact hi) rfl (fun ls' hl' => k H locs ls' (he ▸ LH.st2 hl.1 hl') hP hD hS)
theorem wg_fstore (C : Ok X own cc ws rm) {i : Nat} {x : UInt32} {lv' : List (Option Value)} (d : decode cc pc = .ok (.fstore i, 2)) (hi : i < lv.length) (he : stL lv i (.float x) = lv') (k : Wg X (pc + 2) lv' st hp) : Wg X pc lv (.float x :: st) hp := by
  obtain ⟨p, l, e, R, s, m, args, below, meth, c, D, ca, ad, A, cells, slots, nL, QM⟩ := X
  obtain ⟨hx, hb, hml, hown, hts, hK, hN, hlk, hA, hR, hc, hs⟩ := C
  intro H locs ls hl hP hD hS
  exact lv_fstore hx hb d hl.has (by rw [← hl.1]; exact hi) rfl (fun ls' hl' => k H locs ls' (he ▸ LH.st hl.1 hl') hP hD hS)
theorem wg_fstore_n (C : Ok X own cc ws rm) {i : Fin 4} {x : UInt32} {lv' : List (Option Value)} (d : decode cc pc = .ok (.fstore_n i, 1)) (hi : (i : Nat) < lv.length) (he : stL lv (i : Nat) (.float x) = lv') (k : Wg X (pc + 1) lv' st hp) : Wg X pc lv (.float x :: st) hp := by
  obtain ⟨p, l, e, R, s, m, args, below, meth, c, D, ca, ad, A, cells, slots, nL, QM⟩ := X
  obtain ⟨hx, hb, hml, hown, hts, hK, hN, hlk, hA, hR, hc, hs⟩ := C
  intro H locs ls hl hP hD hS
  exact lv_fstore_n hx hb d rfl hl.has (by rw [← hl.1]; exact hi) rfl (fun ls' hl' => k H locs ls' (he ▸ LH.st hl.1 hl') hP hD hS)
theorem wg_dstore (C : Ok X own cc ws rm) {i : Nat} {x : UInt64} {lv' : List (Option Value)} (d : decode cc pc = .ok (.dstore i, 2)) (hi : i + 1 < lv.length) (he : stL2 lv i (.double x) = lv') (k : Wg X (pc + 2) lv' st hp) : Wg X pc lv (.double x :: st) hp := by
  obtain ⟨p, l, e, R, s, m, args, below, meth, c, D, ca, ad, A, cells, slots, nL, QM⟩ := X
  obtain ⟨hx, hb, hml, hown, hts, hK, hN, hlk, hA, hR, hc, hs⟩ := C
  intro H locs ls hl hP hD hS
  exact lv_dstore hx hb d hl.has (by rw [← hl.1]; exact hi) rfl (fun ls' hl' => k H locs ls' (he ▸ LH.st2 hl.1 hl') hP hD hS)
theorem wg_dstore_n (C : Ok X own cc ws rm) {i : Fin 4} {x : UInt64} {lv' : List (Option Value)} (d : decode cc pc = .ok (.dstore_n i, 1)) (hi : (i : Nat) + 1 < lv.length) (he : stL2 lv (i : Nat) (.double x) = lv') (k : Wg X (pc + 1) lv' st hp) : Wg X pc lv (.double x :: st) hp := by
  obtain ⟨p, l, e, R, s, m, args, below, meth, c, D, ca, ad, A, cells, slots, nL, QM⟩ := X
  obtain ⟨hx, hb, hml, hown, hts, hK, hN, hlk, hA, hR, hc, hs⟩ := C
  intro H locs ls hl hP hD hS
  exact lv_dstore_n hx hb d rfl hl.has (by rw [← hl.1]; exact hi) rfl (fun ls' hl' => k H locs ls' (he ▸ LH.st2 hl.1 hl') hP hD hS)
theorem wg_astore_n (C : Ok X own cc ws rm) {i : Fin 4} {x : Nat} {lv' : List (Option Value)} (d : decode cc pc = .ok (.astore_n i, 1)) (hi : (i : Nat) < lv.length) (he : stL lv (i : Nat) (.ref x) = lv') (k : Wg X (pc + 1) lv' st hp) : Wg X pc lv (.ref x :: st) hp := by
  obtain ⟨p, l, e, R, s, m, args, below, meth, c, D, ca, ad, A, cells, slots, nL, QM⟩ := X
  obtain ⟨hx, hb, hml, hown, hts, hK, hN, hlk, hA, hR, hc, hs⟩ := C
  intro H locs ls hl hP hD hS
  exact lv_astore_n hx hb d rfl hl.has (by rw [← hl.1]; exact hi) rfl (fun ls' hl' => k H locs ls' (he ▸ LH.st hl.1 hl') hP hD hS)
theorem wg_drop {lv' : List (Option Value)} (ks : List Nat) (he : dropLs lv ks = lv') (k : Wg X pc lv' st hp) : Wg X pc lv st hp := by
  obtain ⟨p, l, e, R, s, m, args, below, meth, c, D, ca, ad, A, cells, slots, nL, QM⟩ := X
  intro H locs ls hl hP hD hS
  exact k H locs ls (he ▸ hl.drop ks) hP hD hS
theorem wg_iinc (C : Ok X own cc ws rm) {i : Nat} {n : Int} {x v : Int32} {lv' : List (Option Value)} (d : decode cc pc = .ok (.iinc i n, 3)) (hg : lv[i]? = some (some (.int x))) (hv : x + Int32.ofInt n = v) (he : stL lv i (.int v) = lv') (k : Wg X (pc + 3) lv' st hp) : Wg X pc lv st hp := by
  obtain ⟨p, l, e, R, s, m, args, below, meth, c, D, ca, ad, A, cells, slots, nL, QM⟩ := X
  obtain ⟨hx, hb, hml, hown, hts, hK, hN, hlk, hA, hR, hc, hs⟩ := C
  intro H locs ls hl hP hD hS
  have hm : (i, Value.int x) ∈ lvF ad lv := lvF_mem.mpr ⟨.int x, hg, rfl⟩
  obtain ⟨kk, hkk⟩ := List.getElem?_of_mem hm
  exact lv_iinc hx hb d hl.has hkk hv (by rw [← hl.1]; exact (List.getElem?_eq_some_iff.mp hg).1) rfl (fun ls' hl' => k H locs ls' (he ▸ LH.st hl.1 hl') hP hD hS)
theorem wg_goto (C : Ok X own cc ws rm) {off : Int} {tgt : Nat} (d : decode cc pc = .ok (.goto off, 3)) (ht : (pc : Int) + off = (tgt : Int)) (k : Wg X tgt lv st hp) : Wg X pc lv st hp := by
  obtain ⟨p, l, e, R, s, m, args, below, meth, c, D, ca, ad, A, cells, slots, nL, QM⟩ := X
  obtain ⟨hx, hb, hml, hown, hts, hK, hN, hlk, hA, hR, hc, hs⟩ := C
  intro H locs ls hl hP hD hS
  exact lv_goto hx hb d ht (k H locs ls hl hP hD hS)
theorem wg_if_eq (C : Ok X own cc ws rm) {x : Int32} {off : Int} {tgt : Nat} (d : decode cc pc = .ok (.ifCond .eq off, 3)) (ht : (pc : Int) + off = (tgt : Int)) (kt : x = 0 → Wg X tgt lv st hp) (kf : ¬ (x = 0) → Wg X (pc + 3) lv st hp) : Wg X pc lv (.int x :: st) hp := by
  obtain ⟨p, l, e, R, s, m, args, below, meth, c, D, ca, ad, A, cells, slots, nL, QM⟩ := X
  obtain ⟨hx, hb, hml, hown, hts, hK, hN, hlk, hA, hR, hc, hs⟩ := C
  intro H locs ls hl hP hD hS
  exact lv_if_eq hx hb d ht (fun q => kt q H locs ls hl hP hD hS) (fun q => kf q H locs ls hl hP hD hS)
theorem wg_if_ne (C : Ok X own cc ws rm) {x : Int32} {off : Int} {tgt : Nat} (d : decode cc pc = .ok (.ifCond .ne off, 3)) (ht : (pc : Int) + off = (tgt : Int)) (kt : ¬ x = 0 → Wg X tgt lv st hp) (kf : ¬ (¬ x = 0) → Wg X (pc + 3) lv st hp) : Wg X pc lv (.int x :: st) hp := by
  obtain ⟨p, l, e, R, s, m, args, below, meth, c, D, ca, ad, A, cells, slots, nL, QM⟩ := X
  obtain ⟨hx, hb, hml, hown, hts, hK, hN, hlk, hA, hR, hc, hs⟩ := C
  intro H locs ls hl hP hD hS
  exact lv_if_ne hx hb d ht (fun q => kt q H locs ls hl hP hD hS) (fun q => kf (fun z => z q) H locs ls hl hP hD hS)
theorem wg_if_lt (C : Ok X own cc ws rm) {x : Int32} {off : Int} {tgt : Nat} (d : decode cc pc = .ok (.ifCond .lt off, 3)) (ht : (pc : Int) + off = (tgt : Int)) (kt : x < 0 → Wg X tgt lv st hp) (kf : ¬ (x < 0) → Wg X (pc + 3) lv st hp) : Wg X pc lv (.int x :: st) hp := by
  obtain ⟨p, l, e, R, s, m, args, below, meth, c, D, ca, ad, A, cells, slots, nL, QM⟩ := X
  obtain ⟨hx, hb, hml, hown, hts, hK, hN, hlk, hA, hR, hc, hs⟩ := C
  intro H locs ls hl hP hD hS
  exact lv_if_lt hx hb d ht (fun q => kt q H locs ls hl hP hD hS) (fun q => kf q H locs ls hl hP hD hS)
theorem wg_if_ge (C : Ok X own cc ws rm) {x : Int32} {off : Int} {tgt : Nat} (d : decode cc pc = .ok (.ifCond .ge off, 3)) (ht : (pc : Int) + off = (tgt : Int)) (kt : 0 ≤ x → Wg X tgt lv st hp) (kf : ¬ (0 ≤ x) → Wg X (pc + 3) lv st hp) : Wg X pc lv (.int x :: st) hp := by
  obtain ⟨p, l, e, R, s, m, args, below, meth, c, D, ca, ad, A, cells, slots, nL, QM⟩ := X
  obtain ⟨hx, hb, hml, hown, hts, hK, hN, hlk, hA, hR, hc, hs⟩ := C
  intro H locs ls hl hP hD hS
  exact lv_if_ge hx hb d ht (fun q => kt q H locs ls hl hP hD hS) (fun q => kf q H locs ls hl hP hD hS)
theorem wg_if_gt (C : Ok X own cc ws rm) {x : Int32} {off : Int} {tgt : Nat} (d : decode cc pc = .ok (.ifCond .gt off, 3)) (ht : (pc : Int) + off = (tgt : Int)) (kt : 0 < x → Wg X tgt lv st hp) (kf : ¬ (0 < x) → Wg X (pc + 3) lv st hp) : Wg X pc lv (.int x :: st) hp := by
  obtain ⟨p, l, e, R, s, m, args, below, meth, c, D, ca, ad, A, cells, slots, nL, QM⟩ := X
  obtain ⟨hx, hb, hml, hown, hts, hK, hN, hlk, hA, hR, hc, hs⟩ := C
  intro H locs ls hl hP hD hS
  exact lv_if_gt hx hb d ht (fun q => kt q H locs ls hl hP hD hS) (fun q => kf q H locs ls hl hP hD hS)
theorem wg_if_le (C : Ok X own cc ws rm) {x : Int32} {off : Int} {tgt : Nat} (d : decode cc pc = .ok (.ifCond .le off, 3)) (ht : (pc : Int) + off = (tgt : Int)) (kt : x ≤ 0 → Wg X tgt lv st hp) (kf : ¬ (x ≤ 0) → Wg X (pc + 3) lv st hp) : Wg X pc lv (.int x :: st) hp := by
  obtain ⟨p, l, e, R, s, m, args, below, meth, c, D, ca, ad, A, cells, slots, nL, QM⟩ := X
  obtain ⟨hx, hb, hml, hown, hts, hK, hN, hlk, hA, hR, hc, hs⟩ := C
  intro H locs ls hl hP hD hS
  exact lv_if_le hx hb d ht (fun q => kt q H locs ls hl hP hD hS) (fun q => kf q H locs ls hl hP hD hS)
theorem wg_icmp_eq (C : Ok X own cc ws rm) {x y : Int32} {off : Int} {tgt : Nat} (d : decode cc pc = .ok (.if_icmp .eq off, 3)) (ht : (pc : Int) + off = (tgt : Int)) (kt : x = y → Wg X tgt lv st hp) (kf : ¬ (x = y) → Wg X (pc + 3) lv st hp) : Wg X pc lv (.int y :: .int x :: st) hp := by
  obtain ⟨p, l, e, R, s, m, args, below, meth, c, D, ca, ad, A, cells, slots, nL, QM⟩ := X
  obtain ⟨hx, hb, hml, hown, hts, hK, hN, hlk, hA, hR, hc, hs⟩ := C
  intro H locs ls hl hP hD hS
  exact lv_icmp_eq hx hb d ht (fun q => kt q H locs ls hl hP hD hS) (fun q => kf q H locs ls hl hP hD hS)
theorem wg_icmp_ne (C : Ok X own cc ws rm) {x y : Int32} {off : Int} {tgt : Nat} (d : decode cc pc = .ok (.if_icmp .ne off, 3)) (ht : (pc : Int) + off = (tgt : Int)) (kt : ¬ x = y → Wg X tgt lv st hp) (kf : ¬ (¬ x = y) → Wg X (pc + 3) lv st hp) : Wg X pc lv (.int y :: .int x :: st) hp := by
  obtain ⟨p, l, e, R, s, m, args, below, meth, c, D, ca, ad, A, cells, slots, nL, QM⟩ := X
  obtain ⟨hx, hb, hml, hown, hts, hK, hN, hlk, hA, hR, hc, hs⟩ := C
  intro H locs ls hl hP hD hS
  exact lv_icmp_ne hx hb d ht (fun q => kt q H locs ls hl hP hD hS) (fun q => kf (fun z => z q) H locs ls hl hP hD hS)
theorem wg_icmp_lt (C : Ok X own cc ws rm) {x y : Int32} {off : Int} {tgt : Nat} (d : decode cc pc = .ok (.if_icmp .lt off, 3)) (ht : (pc : Int) + off = (tgt : Int)) (kt : x < y → Wg X tgt lv st hp) (kf : ¬ (x < y) → Wg X (pc + 3) lv st hp) : Wg X pc lv (.int y :: .int x :: st) hp := by
  obtain ⟨p, l, e, R, s, m, args, below, meth, c, D, ca, ad, A, cells, slots, nL, QM⟩ := X
  obtain ⟨hx, hb, hml, hown, hts, hK, hN, hlk, hA, hR, hc, hs⟩ := C
  intro H locs ls hl hP hD hS
  exact lv_icmp_lt hx hb d ht (fun q => kt q H locs ls hl hP hD hS) (fun q => kf q H locs ls hl hP hD hS)
theorem wg_icmp_ge (C : Ok X own cc ws rm) {x y : Int32} {off : Int} {tgt : Nat} (d : decode cc pc = .ok (.if_icmp .ge off, 3)) (ht : (pc : Int) + off = (tgt : Int)) (kt : y ≤ x → Wg X tgt lv st hp) (kf : ¬ (y ≤ x) → Wg X (pc + 3) lv st hp) : Wg X pc lv (.int y :: .int x :: st) hp := by
  obtain ⟨p, l, e, R, s, m, args, below, meth, c, D, ca, ad, A, cells, slots, nL, QM⟩ := X
  obtain ⟨hx, hb, hml, hown, hts, hK, hN, hlk, hA, hR, hc, hs⟩ := C
  intro H locs ls hl hP hD hS
  exact lv_icmp_ge hx hb d ht (fun q => kt q H locs ls hl hP hD hS) (fun q => kf q H locs ls hl hP hD hS)
theorem wg_icmp_gt (C : Ok X own cc ws rm) {x y : Int32} {off : Int} {tgt : Nat} (d : decode cc pc = .ok (.if_icmp .gt off, 3)) (ht : (pc : Int) + off = (tgt : Int)) (kt : y < x → Wg X tgt lv st hp) (kf : ¬ (y < x) → Wg X (pc + 3) lv st hp) : Wg X pc lv (.int y :: .int x :: st) hp := by
  obtain ⟨p, l, e, R, s, m, args, below, meth, c, D, ca, ad, A, cells, slots, nL, QM⟩ := X
  obtain ⟨hx, hb, hml, hown, hts, hK, hN, hlk, hA, hR, hc, hs⟩ := C
  intro H locs ls hl hP hD hS
  exact lv_icmp_gt hx hb d ht (fun q => kt q H locs ls hl hP hD hS) (fun q => kf q H locs ls hl hP hD hS)
theorem wg_icmp_le (C : Ok X own cc ws rm) {x y : Int32} {off : Int} {tgt : Nat} (d : decode cc pc = .ok (.if_icmp .le off, 3)) (ht : (pc : Int) + off = (tgt : Int)) (kt : x ≤ y → Wg X tgt lv st hp) (kf : ¬ (x ≤ y) → Wg X (pc + 3) lv st hp) : Wg X pc lv (.int y :: .int x :: st) hp := by
  obtain ⟨p, l, e, R, s, m, args, below, meth, c, D, ca, ad, A, cells, slots, nL, QM⟩ := X
  obtain ⟨hx, hb, hml, hown, hts, hK, hN, hlk, hA, hR, hc, hs⟩ := C
  intro H locs ls hl hP hD hS
  exact lv_icmp_le hx hb d ht (fun q => kt q H locs ls hl hP hD hS) (fun q => kf q H locs ls hl hP hD hS)
theorem wg_tin (C : Ok X own cc ws rm) {dflt lo hi : Int} {offs : Array Int} {len : Nat} {x : Int32} {off : Int} {tgt : Nat} (d : decode cc pc = .ok (.tableswitch dflt lo hi offs, len)) (h1 : ¬ x.toInt < lo) (h2 : ¬ hi < x.toInt) (ho : offs[(x.toInt - lo).toNat]? = some off) (ht : (pc : Int) + off = (tgt : Int)) (k : Wg X tgt lv st hp) : Wg X pc lv (.int x :: st) hp := by
  obtain ⟨p, l, e, R, s, m, args, below, meth, c, D, ca, ad, A, cells, slots, nL, QM⟩ := X
  obtain ⟨hx, hb, hml, hown, hts, hK, hN, hlk, hA, hR, hc, hs⟩ := C
  intro H locs ls hl hP hD hS
  exact lv_tableIn hx hb d h1 h2 ho ht (k H locs ls hl hP hD hS)
theorem wg_tout (C : Ok X own cc ws rm) {dflt lo hi : Int} {offs : Array Int} {len : Nat} {x : Int32} {tgt : Nat} (d : decode cc pc = .ok (.tableswitch dflt lo hi offs, len)) (h : x.toInt < lo ∨ hi < x.toInt) (ht : (pc : Int) + dflt = (tgt : Int)) (k : Wg X tgt lv st hp) : Wg X pc lv (.int x :: st) hp := by
  obtain ⟨p, l, e, R, s, m, args, below, meth, c, D, ca, ad, A, cells, slots, nL, QM⟩ := X
  obtain ⟨hx, hb, hml, hown, hts, hK, hN, hlk, hA, hR, hc, hs⟩ := C
  intro H locs ls hl hP hD hS
  exact lv_tableOut hx hb d h ht (k H locs ls hl hP hD hS)
/-- a field that may be read, and one that may be written -/
def FG (ws : List Cond) (own : String) (idx ci k : Nat) : Prop := ∃ (C : String) (T : u_T) (N : Nat), vwCl[ci]? = some (C, T, N) ∧ k < N ∧ Cond.fieldLink own idx (T k).1 (T k).2.1 (T k).2.2.1 ∈ ws ∧ ∀ w ∈ u_ws C T N, w ∈ ws
def FW (ws : List Cond) (own : String) (idx ci k : Nat) (ty : FieldType) : Prop := ∃ (C : String) (T : u_T) (N : Nat) (ty0 : Nat → FieldType), vwCl[ci]? = some (C, T, N) ∧ k < N ∧ Cond.fieldLink own idx (T k).1 (T k).2.1 (T k).2.2.1 ∈ ws ∧ (∀ w ∈ u_ws C T N, w ∈ ws) ∧ (∀ k, k < N → parseFieldDescriptor (T k).2.2.1 = some (ty0 k)) ∧ (∀ a, a < N → ∀ b, b < N → a ≠ b → (T a).2.1 ≠ (T b).2.1) ∧ (T k).2.2.2 = false ∧ parseFieldDescriptor (T k).2.2.1 = some ty
theorem wg_get (C : Ok X own cc ws rm) {idx ci q j : Nat} {fs : List Value} {v : Value} (f : FG ws own idx ci j) (hq : hp[q]? = some (.inr (ci, fs))) (hv : fs[j]? = some v) (d : decode cc pc = .ok (.getfield idx, 3)) (k : Wg X (pc + 3) lv (v :: st) hp) : Wg X pc lv (.ref q :: st) hp := by
  obtain ⟨p, l, e, R, s, m, args, below, meth, c, D, ca, ad, A, cells, slots, nL, QM⟩ := X
  obtain ⟨hx, hb, hml, hown, hts, hK, hN, hlk, hA, hR, hc, hs⟩ := C
  intro H locs ls hl hP hD hS
  obtain ⟨K, T, N, h1, h2, h3, h4⟩ := f
  exact va_get hx hb hts h4 hown hK hP q (cH_at hq) h1 j h2 (hts _ h3) (fun _ h => h) (v := cv ad v) (by simp [List.getElem?_map, hv]) d (k H locs ls hl hP hD hS)
theorem wg_put (C : Ok X own cc ws rm) {idx ci q j : Nat} {fs : List Value} {x : Int32} {ty : FieldType} {hp' : aH} (f : FW ws own idx ci j ty) (hq : hp[q]? = some (.inr (ci, fs))) (hj : j < fs.length) (hn : narrow ty (.int x) = .int x) (hf : fits ty (.int x) = true) (he : hp.set q (.inr (ci, fs.set j (.int x))) = hp') (d : decode cc pc = .ok (.putfield idx, 3)) (k : Wg X (pc + 3) lv st hp') : Wg X pc lv (.int x :: .ref q :: st) hp := by
  obtain ⟨p, l, e, R, s, m, args, below, meth, c, D, ca, ad, A, cells, slots, nL, QM⟩ := X
  obtain ⟨hx, hb, hml, hown, hts, hK, hN, hlk, hA, hR, hc, hs⟩ := C
  intro H locs ls hl hP hD hS
  obtain ⟨K, T, N, ty0, h1, h2, h3, h4, h5, h6, h7, h8⟩ := f
  subst he
  refine va_put (ty := ty) (v := .int x) hx hb hts h4 ty0 h5 h6 hown hK hP hD hS q (cH_at hq) h1 j h2 (hts _ h3) (fun _ h => h) h7 h8 hn hf (by simpa using hj) d (fun H1 locs1 hP1 hD1 hS1 => ?_)
  have e : (cH ca ad hp).set q (ad q, .inr (ci, (fs.map (cv ad)).set j (.int x))) = cH ca ad (hp.set q (.inr (ci, fs.set j (.int x)))) := by
    rw [← cH_set]
    simp [cE, List.map_set, cv]
  rw [e] at hP1 hD1
  exact k H1 locs1 ls hl hP1 hD1 hS1
theorem wg_iald (C : Ok X own cc ws rm) {q n : Nat} {f : Nat → Int32} {i : Int32} (hq : hp[q]? = some (.inl (0, n, .inl f))) (hi : inB i n = true) (d : decode cc pc = .ok (.iaload, 1)) (k : Wg X (pc + 1) lv (.int (f i.toNatClampNeg) :: st) hp) : Wg X pc lv (.int i :: .ref q :: st) hp := by
  obtain ⟨p, l, e, R, s, m, args, below, meth, c, D, ca, ad, A, cells, slots, nL, QM⟩ := X
  obtain ⟨hx, hb, hml, hown, hts, hK, hN, hlk, hA, hR, hc, hs⟩ := C
  intro H locs ls hl hP hD hS
  exact va_iald hx hb hK hP q 0 (cH_at hq) rfl (inB_ok hi) d (k H locs ls hl hP hD hS)
theorem wg_fald (C : Ok X own cc ws rm) {q n : Nat} {f : Nat → UInt32} {i : Int32} (hq : hp[q]? = some (.inl (1, n, .inr (.inr (.inl f))))) (hi : inB i n = true) (d : decode cc pc = .ok (.faload, 1)) (k : Wg X (pc + 1) lv (.float (f i.toNatClampNeg) :: st) hp) : Wg X pc lv (.int i :: .ref q :: st) hp := by
  obtain ⟨p, l, e, R, s, m, args, below, meth, c, D, ca, ad, A, cells, slots, nL, QM⟩ := X
  obtain ⟨hx, hb, hml, hown, hts, hK, hN, hlk, hA, hR, hc, hs⟩ := C
  intro H locs ls hl hP hD hS
  exact va_fald hx hb hK hP q 1 (cH_at hq) rfl (inB_ok hi) d (k H locs ls hl hP hD hS)
theorem wg_zald (C : Ok X own cc ws rm) {q n : Nat} {f : Nat → Int32} {i : Int32} (hq : hp[q]? = some (.inl (2, n, .inl f))) (hi : inB i n = true) (d : decode cc pc = .ok (.baload, 1)) (k : Wg X (pc + 1) lv (.int (f i.toNatClampNeg) :: st) hp) : Wg X pc lv (.int i :: .ref q :: st) hp := by
  obtain ⟨p, l, e, R, s, m, args, below, meth, c, D, ca, ad, A, cells, slots, nL, QM⟩ := X
  obtain ⟨hx, hb, hml, hown, hts, hK, hN, hlk, hA, hR, hc, hs⟩ := C
  intro H locs ls hl hP hD hS
  exact va_zald hx hb hK hP q 2 (cH_at hq) rfl (inB_ok hi) d (k H locs ls hl hP hD hS)
theorem wg_iast (C : Ok X own cc ws rm) {q n : Nat} {f : Nat → Int32} {i : Int32} {x : Int32} {hp' : aH} (hq : hp[q]? = some (.inl (0, n, .inl f))) (hi : inB i n = true) (he : hp.set q (.inl (0, n, .inl (upd f i.toNatClampNeg x))) = hp') (d : decode cc pc = .ok (.iastore, 1)) (k : Wg X (pc + 1) lv st hp') : Wg X pc lv (.int x :: .int i :: .ref q :: st) hp := by
  obtain ⟨p, l, e, R, s, m, args, below, meth, c, D, ca, ad, A, cells, slots, nL, QM⟩ := X
  obtain ⟨hx, hb, hml, hown, hts, hK, hN, hlk, hA, hR, hc, hs⟩ := C
  intro H locs ls hl hP hD hS
  subst he
  refine va_iast hx hb hK hP hD hS q 0 (cH_at hq) rfl (inB_ok hi) d (fun H1 locs1 hP1 hD1 hS1 => ?_)
  have e : (cH ca ad hp).set q (ad q, .inl (ca 0, n, .inl (upd f i.toNatClampNeg x))) = cH ca ad (hp.set q (.inl (0, n, .inl (upd f i.toNatClampNeg x)))) := cH_set ca ad hp q (.inl (0, n, .inl (upd f i.toNatClampNeg x)))
  rw [e] at hP1 hD1
  exact k H1 locs1 ls hl hP1 hD1 hS1
theorem wg_fast (C : Ok X own cc ws rm) {q n : Nat} {f : Nat → UInt32} {i : Int32} {x : UInt32} {hp' : aH} (hq : hp[q]? = some (.inl (1, n, .inr (.inr (.inl f))))) (hi : inB i n = true) (he : hp.set q (.inl (1, n, .inr (.inr (.inl (vf_upd f i.toNatClampNeg x))))) = hp') (d : decode cc pc = .ok (.fastore, 1)) (k : Wg X (pc + 1) lv st hp') : Wg X pc lv (.float x :: .int i :: .ref q :: st) hp := by
  obtain ⟨p, l, e, R, s, m, args, below, meth, c, D, ca, ad, A, cells, slots, nL, QM⟩ := X
  obtain ⟨hx, hb, hml, hown, hts, hK, hN, hlk, hA, hR, hc, hs⟩ := C
  intro H locs ls hl hP hD hS
  subst he
  refine va_fast hx hb hK hP hD hS q 1 (cH_at hq) rfl (inB_ok hi) d (fun H1 locs1 hP1 hD1 hS1 => ?_)
  have e : (cH ca ad hp).set q (ad q, .inl (ca 1, n, .inr (.inr (.inl (vf_upd f i.toNatClampNeg x))))) = cH ca ad (hp.set q (.inl (1, n, .inr (.inr (.inl (vf_upd f i.toNatClampNeg x)))))) := cH_set ca ad hp q (.inl (1, n, .inr (.inr (.inl (vf_upd f i.toNatClampNeg x)))))
  rw [e] at hP1 hD1
  exact k H1 locs1 ls hl hP1 hD1 hS1
theorem wg_zast (C : Ok X own cc ws rm) {q n : Nat} {f : Nat → Int32} {i : Int32} {x : Int32} {hp' : aH} (hq : hp[q]? = some (.inl (2, n, .inl f))) (hi : inB i n = true) (he : hp.set q (.inl (2, n, .inl (upd f i.toNatClampNeg (vp_nar .boolean x)))) = hp') (d : decode cc pc = .ok (.bastore, 1)) (k : Wg X (pc + 1) lv st hp') : Wg X pc lv (.int x :: .int i :: .ref q :: st) hp := by
  obtain ⟨p, l, e, R, s, m, args, below, meth, c, D, ca, ad, A, cells, slots, nL, QM⟩ := X
  obtain ⟨hx, hb, hml, hown, hts, hK, hN, hlk, hA, hR, hc, hs⟩ := C
  intro H locs ls hl hP hD hS
  subst he
  refine va_zast hx hb hK hP hD hS q 2 (cH_at hq) rfl (inB_ok hi) d (fun H1 locs1 hP1 hD1 hS1 => ?_)
  have e : (cH ca ad hp).set q (ad q, .inl (ca 2, n, .inl (upd f i.toNatClampNeg (vp_nar .boolean x)))) = cH ca ad (hp.set q (.inl (2, n, .inl (upd f i.toNatClampNeg (vp_nar .boolean x))))) := cH_set ca ad hp q (.inl (2, n, .inl (upd f i.toNatClampNeg (vp_nar .boolean x))))
  rw [e] at hP1 hD1
  exact k H1 locs1 ls hl hP1 hD1 hS1
theorem wg_aald (C : Ok X own cc ws rm) {q n y : Nat} {f : Nat → Option Nat} {i : Int32} (hq : hp[q]? = some (.inl (3, n, .inr (.inr (.inr (.inr f)))))) (hi : inB i n = true) (hy : f i.toNatClampNeg = some y) (d : decode cc pc = .ok (.aaload, 1)) (k : Wg X (pc + 1) lv (.ref y :: st) hp) : Wg X pc lv (.int i :: .ref q :: st) hp := by
  obtain ⟨p, l, e, R, s, m, args, below, meth, c, D, ca, ad, A, cells, slots, nL, QM⟩ := X
  obtain ⟨hx, hb, hml, hown, hts, hK, hN, hlk, hA, hR, hc, hs⟩ := C
  intro H locs ls hl hP hD hS
  refine va_aldq hx hb hK hP q 3 (cH_at hq) rfl (inB_ok hi) d ?_
  have k1 := k H locs ls hl hP hD hS
  simp only [hy]
  exact k1
theorem wg_alen (C : Ok X own cc ws rm) {q t : Nat} {x : vp_A} {v : Int32} (hq : hp[q]? = some (.inl (t, x))) (ht : (tyA (fun j => j))[t]?.map Prod.fst = some t) (hv : Int32.ofNat x.1 = v) (d : decode cc pc = .ok (.arraylength, 1)) (k : Wg X (pc + 1) lv (.int v :: st) hp) : Wg X pc lv (.ref q :: st) hp := by
  obtain ⟨p, l, e, R, s, m, args, below, meth, c, D, ca, ad, A, cells, slots, nL, QM⟩ := X
  obtain ⟨hx, hb, hml, hown, hts, hK, hN, hlk, hA, hR, hc, hs⟩ := C
  intro H locs ls hl hP hD hS
  obtain ⟨n, x⟩ := x
  have hz : ∃ ty, (tyA ca)[t]? = some (ca t, ty) := by
    match t, ht with
    | 0, _ => exact ⟨_, rfl⟩
    | 1, _ => exact ⟨_, rfl⟩
    | 2, _ => exact ⟨_, rfl⟩
    | 3, _ => exact ⟨_, rfl⟩
    | t + 4, h => simp [tyA] at h
  obtain ⟨ty, hz⟩ := hz
  have hw : ∃ y : vp_A, y.1 = n ∧ cE ca ad (.inl (t, n, x)) = .inl (ca t, y) := by
    rcases x with f | f | f | f | f
    · exact ⟨(n, .inl f), rfl, rfl⟩
    · exact ⟨(n, .inr (.inl f)), rfl, rfl⟩
    · exact ⟨(n, .inr (.inr (.inl f))), rfl, rfl⟩
    · exact ⟨(n, .inr (.inr (.inr (.inl f)))), rfl, rfl⟩
    · exact ⟨(n, .inr (.inr (.inr (.inr (fun j => (f j).map ad))))), rfl, rfl⟩
  obtain ⟨y, hy1, hy2⟩ := hw
  have h1 := cH_at (ca := ca) (ad := ad) hq
  rw [hy2] at h1
  exact va_alen hx hb hK hP q t h1 hz (by rw [hy1]; exact hv) d (k H locs ls hl hP hD hS)
theorem wg_copy (C : Ok X own cc ws rm) {q0 q1 n0 n1 index : Nat} {f g : Nat → Int32} {sp dp n : Int32} {hp' : aH} (hw : Cond.methodLink own index arraycopyName ∈ ws ∧ Cond.native arraycopyName ∈ ws ∧ Cond.static arraycopyName ∈ ws ∧ Cond.initialized "java/lang/System" ∈ ws) (hq0 : hp[q0]? = some (.inl (0, n0, .inl f))) (hq1 : hp[q1]? = some (.inl (0, n1, .inl g))) (h1 : ¬ sp < 0) (h2 : ¬ dp < 0) (h3 : ¬ n < 0) (h4 : sp.toNatClampNeg + n.toNatClampNeg ≤ n0) (h5 : dp.toNatClampNeg + n.toNatClampNeg ≤ n1) (hr : 1 ≤ rm.frames ∧ (st.map fun v => v.category).sum + (nativeFrameWords "java/lang/System" "arraycopy" 5 + 11) ≤ rm.locals) (he : hp.set q1 (.inl (0, n1, .inl (va_cpy f g sp.toNatClampNeg dp.toNatClampNeg n.toNatClampNeg))) = hp') (d : decode cc pc = .ok (.invokestatic index, 3)) (k : Wg X (pc + 3) lv st hp') : Wg X pc lv (.int n :: .int dp :: .ref q1 :: .int sp :: .ref q0 :: st) hp := by
  obtain ⟨p, l, e, R, s, m, args, below, meth, c, D, ca, ad, A, cells, slots, nL, QM⟩ := X
  obtain ⟨hx, hb, hml, hown, hts, hK, hN, hlk, hA, hR, hc, hs⟩ := C
  intro H locs ls hl hP hD hS
  subst he
  have hcs : ((st.map (cv ad)).map fun v => v.category) = st.map fun v => v.category := by rw [List.map_map]; exact List.map_congr_left (fun v _ => cv_cat ad v)
  refine va_copyi hx hb (hml.trans hl.2.1.symm) hown (hts _ hw.1) (hts _ hw.2.1) (hts _ hw.2.2.1) (hts _ hw.2.2.2) hK hP hD hS q0 q1 0 0 (cH_at hq0) (cH_at hq1) rfl rfl rfl h1 h2 h3 h4 h5 (fun _ _ => rfl) (by rw [hR]; exact hr.1) (by rw [hR, hcs]; exact hr.2) d (fun H1 locs1 hP1 hD1 hS1 => ?_)
  have e : (cH ca ad hp).set q1 (ad q1, .inl (ca 0, n1, .inl (va_cpy f g sp.toNatClampNeg dp.toNatClampNeg n.toNatClampNeg))) = cH ca ad (hp.set q1 (.inl (0, n1, .inl (va_cpy f g sp.toNatClampNeg dp.toNatClampNeg n.toNatClampNeg)))) := cH_set ca ad hp q1 (.inl (0, n1, .inl (va_cpy f g sp.toNatClampNeg dp.toNatClampNeg n.toNatClampNeg)))
  rw [e] at hP1 hD1
  exact k H1 locs1 ls hl hP1 hD1 hS1
theorem wg_mmax (C : Ok X own cc ws rm) {index : Nat} {x y : Int32} (hw : Cond.methodLink own index Lib.Math.max.name ∈ ws ∧ Cond.static Lib.Math.max.name ∈ ws ∧ Cond.initialized "java/lang/Math" ∈ ws ∧ Cond.code Lib.Math.max.name Lib.Math.max.code 2 (some .int) ∈ ws) (hr : 1 ≤ rm.frames ∧ (st.map fun v => v.category).sum + 13 ≤ rm.locals) (d : decode cc pc = .ok (.invokestatic index, 3)) (k : Wg X (pc + 3) lv (.int (if x < y then y else x) :: st) hp) : Wg X pc lv (.int y :: .int x :: st) hp := by
  obtain ⟨p, l, e, R, s, m, args, below, meth, c, D, ca, ad, A, cells, slots, nL, QM⟩ := X
  obtain ⟨hx, hb, hml, hown, hts, hK, hN, hlk, hA, hR, hc, hs⟩ := C
  intro H locs ls hl hP hD hS
  have hcs : ((st.map (cv ad)).map fun v => v.category) = st.map fun v => v.category := by rw [List.map_map]; exact List.map_congr_left (fun v _ => cv_cat ad v)
  exact va_mmax hx hb (hml.trans hl.2.1.symm) hown (hts _ hw.1) (hts _ hw.2.1) (hts _ hw.2.2.1) (hts _ hw.2.2.2) (by rw [hR]; exact hr.1) (by rw [hR, hcs]; exact hr.2) hc hs d (k H locs ls hl hP hD hS)
theorem wg_mmin (C : Ok X own cc ws rm) {index : Nat} {x y : Int32} (hw : Cond.methodLink own index Lib.Math.min.name ∈ ws ∧ Cond.static Lib.Math.min.name ∈ ws ∧ Cond.initialized "java/lang/Math" ∈ ws ∧ Cond.code Lib.Math.min.name Lib.Math.min.code 2 (some .int) ∈ ws) (hr : 1 ≤ rm.frames ∧ (st.map fun v => v.category).sum + 13 ≤ rm.locals) (d : decode cc pc = .ok (.invokestatic index, 3)) (k : Wg X (pc + 3) lv (.int (if y < x then y else x) :: st) hp) : Wg X pc lv (.int y :: .int x :: st) hp := by
  obtain ⟨p, l, e, R, s, m, args, below, meth, c, D, ca, ad, A, cells, slots, nL, QM⟩ := X
  obtain ⟨hx, hb, hml, hown, hts, hK, hN, hlk, hA, hR, hc, hs⟩ := C
  intro H locs ls hl hP hD hS
  have hcs : ((st.map (cv ad)).map fun v => v.category) = st.map fun v => v.category := by rw [List.map_map]; exact List.map_congr_left (fun v _ => cv_cat ad v)
  exact va_mmin hx hb (hml.trans hl.2.1.symm) hown (hts _ hw.1) (hts _ hw.2.1) (hts _ hw.2.2.1) (hts _ hw.2.2.2) (by rw [hR]; exact hr.1) (by rw [hR, hcs]; exact hr.2) hc hs d (k H locs ls hl hP hD hS)
theorem wg_mabs (C : Ok X own cc ws rm) {index : Nat} {x : Int32} (hw : Cond.methodLink own index Lib.Math.abs.name ∈ ws ∧ Cond.static Lib.Math.abs.name ∈ ws ∧ Cond.initialized "java/lang/Math" ∈ ws ∧ Cond.code Lib.Math.abs.name Lib.Math.abs.code 1 (some .int) ∈ ws) (hr : 1 ≤ rm.frames ∧ (st.map fun v => v.category).sum + 13 ≤ rm.locals) (d : decode cc pc = .ok (.invokestatic index, 3)) (k : Wg X (pc + 3) lv (.int (if 0 ≤ x then x else 0 - x) :: st) hp) : Wg X pc lv (.int x :: st) hp := by
  obtain ⟨p, l, e, R, s, m, args, below, meth, c, D, ca, ad, A, cells, slots, nL, QM⟩ := X
  obtain ⟨hx, hb, hml, hown, hts, hK, hN, hlk, hA, hR, hc, hs⟩ := C
  intro H locs ls hl hP hD hS
  have hcs : ((st.map (cv ad)).map fun v => v.category) = st.map fun v => v.category := by rw [List.map_map]; exact List.map_congr_left (fun v _ => cv_cat ad v)
  exact va_mabs hx hb (hml.trans hl.2.1.symm) hown (hts _ hw.1) (hts _ hw.2.1) (hts _ hw.2.2.1) (hts _ hw.2.2.2) (by rw [hR]; exact hr.1) (by rw [hR, hcs]; exact hr.2) hc hs d (k H locs ls hl hP hD hS)
theorem wg_f2b (C : Ok X own cc ws rm) {index : Nat} {b : UInt32} (hw : Cond.methodLink own index ⟨"java/lang/Float", "floatToRawIntBits", "(F)I"⟩ ∈ ws ∧ Cond.native ⟨"java/lang/Float", "floatToRawIntBits", "(F)I"⟩ ∈ ws ∧ Cond.static ⟨"java/lang/Float", "floatToRawIntBits", "(F)I"⟩ ∈ ws ∧ Cond.initialized "java/lang/Float" ∈ ws) (hr : 1 ≤ rm.frames ∧ (st.map fun v => v.category).sum + 15 ≤ rm.locals) (d : decode cc pc = .ok (.invokestatic index, 3)) (k : Wg X (pc + 3) lv (.int b.toInt32 :: st) hp) : Wg X pc lv (.float b :: st) hp := by
  obtain ⟨p, l, e, R, s, m, args, below, meth, c, D, ca, ad, A, cells, slots, nL, QM⟩ := X
  obtain ⟨hx, hb, hml, hown, hts, hK, hN, hlk, hA, hR, hc, hs⟩ := C
  intro H locs ls hl hP hD hS
  have hcs : ((st.map (cv ad)).map fun v => v.category) = st.map fun v => v.category := by rw [List.map_map]; exact List.map_congr_left (fun v _ => cv_cat ad v)
  exact vn_f2i hx hb (hml.trans hl.2.1.symm) hown (hts _ hw.1) (hts _ hw.2.1) (hts _ hw.2.2.1) (hts _ hw.2.2.2) (by rw [hR]; exact hr.1) (by rw [hR, hcs]; exact hr.2) d (k H locs ls hl hP hD hS)
theorem wg_d2b (C : Ok X own cc ws rm) {index : Nat} {b : UInt64} (hw : Cond.methodLink own index ⟨"java/lang/Double", "doubleToRawLongBits", "(D)J"⟩ ∈ ws ∧ Cond.native ⟨"java/lang/Double", "doubleToRawLongBits", "(D)J"⟩ ∈ ws ∧ Cond.static ⟨"java/lang/Double", "doubleToRawLongBits", "(D)J"⟩ ∈ ws ∧ Cond.initialized "java/lang/Double" ∈ ws) (hr : 1 ≤ rm.frames ∧ (st.map fun v => v.category).sum + 15 ≤ rm.locals) (d : decode cc pc = .ok (.invokestatic index, 3)) (k : Wg X (pc + 3) lv (.long b.toInt64 :: st) hp) : Wg X pc lv (.double b :: st) hp := by
  obtain ⟨p, l, e, R, s, m, args, below, meth, c, D, ca, ad, A, cells, slots, nL, QM⟩ := X
  obtain ⟨hx, hb, hml, hown, hts, hK, hN, hlk, hA, hR, hc, hs⟩ := C
  intro H locs ls hl hP hD hS
  have hcs : ((st.map (cv ad)).map fun v => v.category) = st.map fun v => v.category := by rw [List.map_map]; exact List.map_congr_left (fun v _ => cv_cat ad v)
  exact vn_d2l hx hb (hml.trans hl.2.1.symm) hown (hts _ hw.1) (hts _ hw.2.1) (hts _ hw.2.2.1) (hts _ hw.2.2.2) (by rw [hR]; exact hr.1) (by rw [hR, hcs]; exact hr.2) d (k H locs ls hl hP hD hS)
theorem wg_iret (C : Ok X own cc ws rm) {v : Int32} (hT : Rt X (some .int) (some (.int v)) hp) (d : decode cc pc = .ok (.ireturn, 1)) : Wg X pc lv [.int v] hp := by
  obtain ⟨p, l, e, R, s, m, args, below, meth, c, D, ca, ad, A, cells, slots, nL, QM⟩ := X
  obtain ⟨hx, hb, hml, hown, hts, hK, hN, hlk, hA, hR, hc, hs⟩ := C
  intro H locs ls hl hP hD hS
  obtain ⟨hr, rfl⟩ := hT
  exact W.iret hx hb hr (fun t ht _ => ⟨rfl, by rw [ht]; exact hP, hD, hS.F ht⟩) hS.2.2 d hlk
theorem wg_lret (C : Ok X own cc ws rm) {v : Int64} (hT : Rt X (some .long) (some (.long v)) hp) (d : decode cc pc = .ok (.lreturn, 1)) : Wg X pc lv [.long v] hp := by
  obtain ⟨p, l, e, R, s, m, args, below, meth, c, D, ca, ad, A, cells, slots, nL, QM⟩ := X
  obtain ⟨hx, hb, hml, hown, hts, hK, hN, hlk, hA, hR, hc, hs⟩ := C
  intro H locs ls hl hP hD hS
  obtain ⟨hr, rfl⟩ := hT
  exact W.lret hx hb hr (fun t ht _ => ⟨rfl, by rw [ht]; exact hP, hD, hS.F ht⟩) hS.2.2 d hlk
theorem wg_fret (C : Ok X own cc ws rm) {v : UInt32} (hT : Rt X (some .float) (some (.float v)) hp) (d : decode cc pc = .ok (.freturn, 1)) : Wg X pc lv [.float v] hp := by
  obtain ⟨p, l, e, R, s, m, args, below, meth, c, D, ca, ad, A, cells, slots, nL, QM⟩ := X
  obtain ⟨hx, hb, hml, hown, hts, hK, hN, hlk, hA, hR, hc, hs⟩ := C
  intro H locs ls hl hP hD hS
  obtain ⟨hr, rfl⟩ := hT
  exact W.fret hx hb hr (fun t ht _ => ⟨rfl, by rw [ht]; exact hP, hD, hS.F ht⟩) hS.2.2 d hlk
theorem wg_dret (C : Ok X own cc ws rm) {v : UInt64} (hT : Rt X (some .double) (some (.double v)) hp) (d : decode cc pc = .ok (.dreturn, 1)) : Wg X pc lv [.double v] hp := by
  obtain ⟨p, l, e, R, s, m, args, below, meth, c, D, ca, ad, A, cells, slots, nL, QM⟩ := X
  obtain ⟨hx, hb, hml, hown, hts, hK, hN, hlk, hA, hR, hc, hs⟩ := C
  intro H locs ls hl hP hD hS
  obtain ⟨hr, rfl⟩ := hT
  exact W.dret hx hb hr (fun t ht _ => ⟨rfl, by rw [ht]; exact hP, hD, hS.F ht⟩) hS.2.2 d hlk
theorem wg_zret (C : Ok X own cc ws rm) {v : Int32} (hT : Rt X (some .boolean) (some (.int v)) hp) (hb1 : v &&& 1 = v) (d : decode cc pc = .ok (.ireturn, 1)) : Wg X pc lv [.int v] hp := by
  obtain ⟨p, l, e, R, s, m, args, below, meth, c, D, ca, ad, A, cells, slots, nL, QM⟩ := X
  obtain ⟨hx, hb, hml, hown, hts, hK, hN, hlk, hA, hR, hc, hs⟩ := C
  intro H locs ls hl hP hD hS
  obtain ⟨hr, rfl⟩ := hT
  exact W.zret hx hb hr (congrArg Value.int hb1) (fun t ht _ => ⟨rfl, by rw [ht]; exact hP, hD, hS.F ht⟩) hS.2.2 d hlk
theorem wg_vret (C : Ok X own cc ws rm) (hT : Rt X none none hp) (d : decode cc pc = .ok (.return_, 1)) : Wg X pc lv [] hp := by
  obtain ⟨p, l, e, R, s, m, args, below, meth, c, D, ca, ad, A, cells, slots, nL, QM⟩ := X
  obtain ⟨hx, hb, hml, hown, hts, hK, hN, hlk, hA, hR, hc, hs⟩ := C
  intro H locs ls hl hP hD hS
  obtain ⟨hr, rfl⟩ := hT
  exact W.vret hx hb hr (fun t ht _ => ⟨rfl, by rw [ht]; exact hP, hD, hS.F ht⟩) hS.2.2 d hlk
end Rules
/-- a method's contract, in places: from the heap hp it answers r and leaves hp' -/
def Sp (y : MethodName) (ws : List Cond) (rm : Room) (ar : List Value) (hp : aH) (r : Option Value) (hp' : aH) : Prop :=
  ∀ (l : Launch) (D : va_G) (ca : Nat → ClassId) (ad : Nat → Nat) (sz : Nat), Met l y ws rm (va_Pc (ar.map (cv ad)) (fun U => U.heap.size = sz ∧ va_P D vwCl (cH ca ad hp) U.heap ∧ va_K D vwCl (tyA ca) U ∧ va_D (fun _ => True) (cH ca ad hp) ∧ Nws U)) (Qm D ca ad (va_A (cH ca ad hp) sz) r hp') 0 0 (va_A (cH ca ad hp) sz)
def entA : List Value → List (Option Value)
  | [] => []
  | v :: r => bif v.category == 2 then some v :: none :: entA r else some v :: entA r
def entL (n : Nat) (ar : List Value) : List (Option Value) := entA ar ++ List.replicate (n - (entA ar).length) none
theorem entA_args (ad : Nat → Nat) : ∀ (ar : List Value) (o i : Nat) (v : Value), (entA ar)[i]? = some (some v) → (o + i, cv ad v) ∈ lv_args o (ar.map (cv ad))
  | [], o, i, v, h => by simp [entA] at h
  | a :: r, o, i, v, h => by
    simp only [List.map_cons, lv_args, cv_cat]
    by_cases hc : a.category = 2
    · simp only [entA, hc, beq_self_eq_true, cond_true] at h
      rw [if_pos hc]
      match i, h with
      | 0, h => simp at h; subst h; exact List.mem_cons_self
      | 1, h => simp at h
      | i + 2, h =>
        have := entA_args ad r (o + 2) i v (by simpa using h)
        refine List.mem_cons_of_mem _ ?_
        rw [show o + (i + 2) = o + 2 + i by omega]
        exact this
    · have hb : (a.category == 2) = false := by simpa using hc
      simp only [entA, hb, cond_false] at h
      rw [if_neg hc]
      match i, h with
      | 0, h => simp at h; subst h; exact List.mem_cons_self
      | i + 1, h =>
        have := entA_args ad r (o + 1) i v (by simpa using h)
        refine List.mem_cons_of_mem _ ?_
        rw [show o + (i + 1) = o + 1 + i by omega]
        exact this
theorem entA_len (ad : Nat → Nat) : ∀ (ar : List Value), (lg_sl (ar.map (cv ad))).length = (entA ar).length
  | [] => rfl
  | a :: r => by
    have ih := entA_len ad r
    simp only [lg_sl, List.map_cons, List.flatMap_cons, cv_cat, entA] at ih ⊢
    by_cases hc : a.category = 2
    · simp [hc, ih]
    · have hb : (a.category == 2) = false := by simpa using hc
      simp [hc, hb, ih]
theorem entL_LH (ad : Nat → Nat) (ar : List Value) (n : Nat) (h : (entA ar).length ≤ n) : LH ad ((lg_sl (ar.map (cv ad)) ++ List.replicate (n - (lg_sl (ar.map (cv ad))).length) Slot.unset).toArray) n (entL n ar) := by
  have h1 := lv_entry (ar.map (cv ad)) (n := n) (by rw [entA_len]; exact h)
  refine ⟨by simp [entL]; omega, h1.1, h1.2.1, fun i v hi => ?_⟩
  have h2 : (entA ar)[i]? = some (some v) := by
    unfold entL at hi
    by_cases q : i < (entA ar).length
    · rwa [List.getElem?_append_left q] at hi
    · rw [List.getElem?_append_right (by omega)] at hi
      have := List.eq_of_mem_replicate (List.mem_of_getElem? hi)
      cases this
  have h3 := h1.2.2 _ (entA_args ad ar 0 i v h2)
  simpa using h3
/-- the kit's Met.ofW, for a method of a class of which the machine runs some methods by itself (this one not) -/
theorem Met_ofWF {l : Launch} {y : MethodName} {ws ws' : List Cond} {rm : Room} {Pc : Array Value → State → Prop} {Qc : Array Value → State → Outcome → State → Prop} {mc ms : Nat} {free : Addr → Prop} {cc : ByteArray} {maxL : Nat} {ret : Option FieldType}
    (hy : plainFor y = true) (hw : ws = Cond.code y cc maxL ret :: ws')
    (body : ∀ p e s m args below meth c s₁, BodyLoose p l y (headSpec ws rm) cc maxL ret e s m args below meth c s₁ → c.maxLocals = maxL → Pc args s →
      W p l e (headSpec ws rm).room s m args below meth c s.heap [] 0 0 (MQ below Qc args s mc ms free) (entryFrame m args maxL)) : Met l y ws rm Pc Qc mc ms free := by
  refine MetFree.of_bodySF (code := cc) (maxLocals := maxL) (ret := ret) hy ?_ ?_
  · intro args s m h hn
    obtain ⟨meth, c, h1, h2, h3, h4, h5, h6, -, -⟩ := Cond.code_spec hn (atoms_spec (ws := ws) h _ (by rw [hw]; exact List.mem_cons_self))
    exact ⟨meth, c, h1, h2, h3, h4, h5, h6⟩
  · intro p e s m args below meth c s₁ B hml hP _
    have hh0 : s₁.heap = s.heap := by rw [B.state]; rfl
    obtain ⟨t, a1, o, b1, b2, b3⟩ := body p e s m args below meth c s₁ B hml hP s₁ hh0 (Stand.of_body B)
    exact ⟨t, o, a1, b1, b2, ⟨b3.1, b3.2⟩⟩
theorem Sp.of {y : MethodName} {ws ws' : List Cond} {rm : Room} {ar : List Value} {hp hp' : aH} {r : Option Value} {cc : ByteArray} {maxL : Nat} {ret : Option FieldType} {lv : List (Option Value)} (own : String) (hy : plainFor y = true ∧ y.cls = own) (hw : ws = Cond.code y cc maxL ret :: ws') (hn : (entA ar).length ≤ maxL) (hl : entL maxL ar = lv)
    (body : ∀ X : CX, Ok X own cc ws rm → Rt X ret r hp' → Wg X 0 lv [] hp) : Sp y ws rm ar hp r hp' := by
  intro l D ca ad sz
  obtain ⟨hy, hyo⟩ := hy
  subst hyo; subst hl
  refine Met_ofWF (cc := cc) (maxL := maxL) (ret := ret) hy hw ?_
  intro p e s m args below meth c s₁ B hml hv
  obtain ⟨rfl, hsz, hP, hK, hD0, hN⟩ := hv
  subst hsz
  rw [lg_entry_eq]
  have hts := atoms_spec (ws := ws) B.pre
  exact body (p, l, e, rm, s, m, (ar.map (cv ad)).toArray, below, meth, c, D, ca, ad, va_A (cH ca ad hp) s.heap.size, 0, 0, maxL, MQ below (Qm D ca ad (va_A (cH ca ad hp) s.heap.size) r hp') (ar.map (cv ad)).toArray s 0 0 (va_A (cH ca ad hp) s.heap.size))
    ⟨B.exec, B.bytes, hml, findClass_of_methodNamed B.named, hts, hK, hN, B.notSynchronized, fun q h => Or.inr h, rfl, Nat.zero_le _, Nat.zero_le _⟩ ⟨B.returns, rfl⟩ s.heap [] _ (entL_LH ad ar maxL hn) hP hD0.self va_S.rf
/-- behind a call of any kind -/
theorem wg_run {X : CX} {own : String} {cc : ByteArray} {ws : List Cond} {rm : Room} {pc : Nat} {lv : List (Option Value)} {st stk : List Value} {hp hp' : aH} {r : Option Value} (C : Ok X own cc ws rm)
    (hr : match X with
      | (p, l, e, R, s, m, args, below, meth, c, D, ca, ad, A, cells, slots, nL, QM) => ∀ (H : Heap) (locs : List Loc) (ls : Array Slot), LH ad ls nL lv → va_P D vwCl (cH ca ad hp) H → va_D A (cH ca ad hp) → va_Run p l e R s m args below meth c H locs cells slots 0 0 (F0 m pc ls (stk.map (cv ad))) (st.map (cv ad)) (Qm D ca ad (va_A (cH ca ad hp) H.size) r hp' #[]) (va_A (cH ca ad hp) H.size))
    (k : Wg X (pc + 3) lv (r.toList ++ st) hp') : Wg X pc lv stk hp := by
  obtain ⟨p, l, e, R, s, m, args, below, meth, c, D, ca, ad, A, cells, slots, nL, QM⟩ := X
  obtain ⟨hx, hb, hml, hown, hts, hK, hN, hlk, hA, hR, hc, hs⟩ := C
  intro H locs ls hl hP hD hS T hT Y
  have hF : ∀ q, va_A (cH ca ad hp) H.size q → A q := by
    intro q h
    rcases h with ⟨k0, e0, h⟩ | h
    · exact hD.2 k0 (q, e0) h
    · exact hA q (Nat.le_trans hS.1 h)
  obtain ⟨v, st₀, t, T', L, h0, Y', hL, e1, e2, ⟨hv, hP1, hD1, hz, hk⟩, go⟩ := hr H locs ls hl hP hD T hT Y
  have hv' : v = r.map (cv ad) := by injection hv
  subst hv'
  rw [h0] at hz hk
  rw [← e1] at hP1
  have hS1 : va_S A s.heap T'.heap (locs ++ L) := ⟨Nat.le_trans hS.1 (by rw [e1]; exact hz), fun q h1 h2 => by rw [e1, hk q (Nat.lt_of_lt_of_le h1 hS.1) (fun z => h2 (hF q z))]; exact hS.2.1 q h1 h2, fun q hq => by
    rcases List.mem_append.mp hq with h | h
    · exact hS.2.2 q h
    · exact hF _ (hL q h)⟩
  obtain ⟨t2, a1, b1⟩ := k T'.heap (locs ++ L) ls hl hP1 (hD1.weaken (fun _ q _ h => hF q.1 h)) hS1 T' rfl Y'
  refine ⟨t2, go t2 ?_, b1⟩
  have e3 : (r.toList ++ st).map (cv ad) = (r.map (cv ad)).toList ++ st.map (cv ad) := by cases r <;> rfl
  rw [e3] at a1
  exact a1
theorem Pc_blind (D : va_G) (ca : Nat → ClassId) (ad : Nat → Nat) (sz : Nat) (ar : List Value) (hp : aH) : FrameBlind (va_Pc ar (fun U => U.heap.size = sz ∧ va_P D vwCl (cH ca ad hp) U.heap ∧ va_K D vwCl (tyA ca) U ∧ va_D (fun _ => True) (cH ca ad hp) ∧ Nws U)) := by
  intro a U g mk q
  obtain ⟨q0, q1, qP, qK, qD, qN⟩ := q
  exact ⟨q0, q1, qP, va_K.moved (u := U) (U := U.calling g mk a) (Vm.Alike.refl U.vm) qK, qD, qN.same rfl⟩
section Calls2
variable {X : CX} {own : String} {cc : ByteArray} {ws wsC ws' : List Cond} {rm rmC : Room} {pc : Nat} {lv : List (Option Value)} {st st' stk As : List Value} {hp hp' : aH} {r : Option Value} {y : MethodName} {bytes : ByteArray} {maxL n idx : Nat} {ret : Option FieldType}
theorem st_room {ad : Nat → Nat} {st : List Value} (h : (st.map fun v => v.category).sum ≤ 8) : 2 * 0 + ((st.map (cv ad)).map fun v => v.category).sum ≤ 8 := by
  have hcs : ((st.map (cv ad)).map fun v => v.category) = st.map fun v => v.category := by rw [List.map_map]; exact List.map_congr_left (fun v _ => cv_cat ad v)
  rw [hcs]; omega
theorem wg_callV (C : Ok X own cc ws rm) {q ci : Nat} {fs : List Value} {K : String} {T : u_T} {N : Nat} (S : Sp y wsC rmC (.ref q :: As) hp r hp') (G : GoodIn ws (wsV own idx K y wsC)) (hw : wsC = Cond.code y bytes maxL ret :: ws') (hd : y.cls = K ∧ y.cls ≠ "java/lang/invoke/MethodHandle" ∧ y.cls ≠ "java/lang/invoke/VarHandle" ∧ (parseMethodDescriptor y.desc).map (fun d => d.parameters.length) = some n) (hroom : (rmC.cells = 0 ∧ rmC.slots = 0) ∧ rmC.frames + 1 ≤ rm.frames ∧ 8 + (maxL + 11) + rmC.locals ≤ rm.locals) (hq : hp[q]? = some (.inr (ci, fs))) (hci : vwCl[ci]? = some (K, T, N)) (hn : As.length = n) (hs : stk = As.reverse ++ .ref q :: st) (hcat : (st.map fun v => v.category).sum ≤ 8) (d : decode cc pc = .ok (.invokevirtual idx, 3)) (hst : r.toList ++ st = st') (k : Wg X (pc + 3) lv st' hp') : Wg X pc lv stk hp := by
  subst hst
  refine wg_run C ?_ k
  obtain ⟨p, l, e, R, s, m, args, below, meth, c, D, ca, ad, A, cells, slots, nL, QM⟩ := X
  obtain ⟨hx, hb, hml, hown, hts, hK, hN, hlk, hA, hR, hc, hsl⟩ := C
  intro H locs ls hl hP hD
  subst hR
  exact va_runV (C := K) (b := ad q) (As := As.map (cv ad)) (bytes := bytes) (maxL := maxL) (ret := ret) (n := n) ⟨hx, hb, hml, hown, hts⟩ (S l D ca ad H.size) (cwV n hts G hw hroom.1.1 hroom.1.2 hd hroom.2)
    ⟨Pc_blind D ca ad H.size _ hp, va_recv hK hP hci (cH_at hq), fun U hU hW => ⟨rfl, by rw [hU], by rw [hU]; exact hP, va_K.moved hW.alike hK, hD.weaken (fun _ _ _ _ => trivial), hN.warm hW⟩⟩ rfl (by simpa using hn) hl.2.1 (by rw [hs]; simp [cv]) (st_room hcat) d ⟨hc, hsl⟩
theorem wg_callS (C : Ok X own cc ws rm) (S : Sp y wsC rmC As hp r hp') (G : GoodIn ws (wsS own idx y wsC)) (hw : wsC = Cond.code y bytes maxL ret :: ws') (hd : y.cls = own ∧ y.cls ≠ "java/lang/invoke/MethodHandle" ∧ y.cls ≠ "java/lang/invoke/VarHandle" ∧ (parseMethodDescriptor y.desc).map (fun d => d.parameters.length) = some n) (hroom : (rmC.cells = 0 ∧ rmC.slots = 0) ∧ rmC.frames + 1 ≤ rm.frames ∧ 8 + (maxL + 11) + rmC.locals ≤ rm.locals) (hn : As.length = n) (hs : stk = As.reverse ++ st) (hcat : (st.map fun v => v.category).sum ≤ 8) (d : decode cc pc = .ok (.invokestatic idx, 3)) (hst : r.toList ++ st = st') (k : Wg X (pc + 3) lv st' hp') : Wg X pc lv stk hp := by
  subst hst
  refine wg_run C ?_ k
  obtain ⟨p, l, e, R, s, m, args, below, meth, c, D, ca, ad, A, cells, slots, nL, QM⟩ := X
  obtain ⟨hx, hb, hml, hown, hts, hK, hN, hlk, hA, hR, hc, hsl⟩ := C
  intro H locs ls hl hP hD
  subst hR
  exact va_runS (As := As.map (cv ad)) (bytes := bytes) (maxL := maxL) (ret := ret) (n := n) ⟨hx, hb, hml, hown, hts⟩ (S l D ca ad H.size) (cwS n hts G hw hroom.1.1 hroom.1.2 hd hroom.2)
    ⟨Pc_blind D ca ad H.size _ hp, fun U hU hW => ⟨rfl, by rw [hU], by rw [hU]; exact hP, va_K.moved hW.alike hK, hD.weaken (fun _ _ _ _ => trivial), hN.warm hW⟩⟩ rfl (by simpa using hn) hl.2.1 (by rw [hs]; simp) (st_room hcat) d ⟨hc, hsl⟩
theorem wg_callT (C : Ok X own cc ws rm) (S : Sp y wsC rmC As hp r hp') (G : GoodIn ws (va_wsS own idx y wsC)) (hw : wsC = Cond.code y bytes maxL ret :: ws') (hd : y.cls ≠ "java/lang/invoke/MethodHandle" ∧ y.cls ≠ "java/lang/invoke/VarHandle" ∧ (parseMethodDescriptor y.desc).map (fun d => d.parameters.length) = some n) (hroom : (rmC.cells = 0 ∧ rmC.slots = 0) ∧ rmC.frames + 1 ≤ rm.frames ∧ 8 + (maxL + 11) + rmC.locals ≤ rm.locals) (hn : As.length = n) (hs : stk = As.reverse ++ st) (hcat : (st.map fun v => v.category).sum ≤ 8) (d : decode cc pc = .ok (.invokestatic idx, 3)) (hst : r.toList ++ st = st') (k : Wg X (pc + 3) lv st' hp') : Wg X pc lv stk hp := by
  subst hst
  refine wg_run C ?_ k
  obtain ⟨p, l, e, R, s, m, args, below, meth, c, D, ca, ad, A, cells, slots, nL, QM⟩ := X
  obtain ⟨hx, hb, hml, hown, hts, hK, hN, hlk, hA, hR, hc, hsl⟩ := C
  intro H locs ls hl hP hD
  subst hR
  exact va_runS (As := As.map (cv ad)) (bytes := bytes) (maxL := maxL) (ret := ret) (n := n) ⟨hx, hb, hml, hown, hts⟩ (S l D ca ad H.size) (va_cwS n hts G hw hroom.1.1 hroom.1.2 hd hroom.2)
    ⟨Pc_blind D ca ad H.size _ hp, fun U hU hW => ⟨rfl, by rw [hU], by rw [hU]; exact hP, va_K.moved hW.alike hK, hD.weaken (fun _ _ _ _ => trivial), hN.warm hW⟩⟩ rfl (by simpa using hn) hl.2.1 (by rw [hs]; simp) (st_room hcat) d ⟨hc, hsl⟩
/-- a nest mate's private static method: hl is its place among Nws -/
theorem wg_callN (C : Ok X own cc ws rm) {host : String} (S : Sp y wsC rmC As hp r hp') (hnest : ∀ U, Nws U → va_Nw (.methodLinkNest own idx y host) U) (G : GoodIn ws wsC) (hst : Cond.static y ∈ ws ∧ Cond.initialized y.cls ∈ ws) (hw : wsC = Cond.code y bytes maxL ret :: ws') (hd : y.cls ≠ "java/lang/invoke/MethodHandle" ∧ y.cls ≠ "java/lang/invoke/VarHandle" ∧ (parseMethodDescriptor y.desc).map (fun d => d.parameters.length) = some n) (hroom : (rmC.cells = 0 ∧ rmC.slots = 0) ∧ rmC.frames + 1 ≤ rm.frames ∧ 8 + (maxL + 11) + rmC.locals ≤ rm.locals) (hn : As.length = n) (hs : stk = As.reverse ++ st) (hcat : (st.map fun v => v.category).sum ≤ 8) (d : decode cc pc = .ok (.invokestatic idx, 3)) (hst : r.toList ++ st = st') (k : Wg X (pc + 3) lv st' hp') : Wg X pc lv stk hp := by
  subst hst
  refine wg_run C ?_ k
  obtain ⟨p, l, e, R, s, m, args, below, meth, c, D, ca, ad, A, cells, slots, nL, QM⟩ := X
  obtain ⟨hx, hb, hml, hown, hts, hK, hN, hlk, hA, hR, hc, hsl⟩ := C
  intro H locs ls hl hP hD
  subst hR
  exact va_runSN (As := As.map (cv ad)) (bytes := bytes) (maxL := maxL) (ret := ret) (n := n) (host := host) ⟨hx, hb, hml, hown, hts⟩ (S l D ca ad H.size) ⟨va_cnB n hts G hw hroom.1.1 hroom.1.2 (hnest s hN) (hts _ hst.2) hd hroom.2, hts _ hst.1, trivial⟩
    ⟨Pc_blind D ca ad H.size _ hp, fun U hU hW => ⟨rfl, by rw [hU], by rw [hU]; exact hP, va_K.moved hW.alike hK, hD.weaken (fun _ _ _ _ => trivial), hN.warm hW⟩⟩ rfl (by simpa using hn) hl.2.1 (by rw [hs]; simp) (st_room hcat) d ⟨hc, hsl⟩
end Calls2
