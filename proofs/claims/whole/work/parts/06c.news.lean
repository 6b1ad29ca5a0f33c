/-! ===== constructors: wrappers, Arrays.fill, Book ===== -/
theorem nx_up_ne {α : Type} {f : Nat → α} {k j : Nat} {v : α} (h : j ≠ k) : va_up f k v j = f j := if_neg h
theorem ra_int {s : State} {c1 c2 : ClassId} (h1 : va_RA s c1 .int) (h2 : va_RA s c2 .int) : c1 = c2 := by
  have e1 : s.vm.findClass ("[" ++ FieldType.int.toString) = some c1 := h1
  have e2 : s.vm.findClass ("[" ++ FieldType.int.toString) = some c2 := h2
  exact Option.some.inj (e1.symm.trans e2)
theorem ra_flt {s : State} {c1 c2 : ClassId} (h1 : va_RA s c1 .float) (h2 : va_RA s c2 .float) : c1 = c2 := by
  have e1 : s.vm.findClass ("[" ++ FieldType.float.toString) = some c1 := h1
  have e2 : s.vm.findClass ("[" ++ FieldType.float.toString) = some c2 := h2
  exact Option.some.inj (e1.symm.trans e2)
theorem ra_boo {s : State} {c1 c2 : ClassId} (h1 : va_RA s c1 .boolean) (h2 : va_RA s c2 .boolean) : c1 = c2 := by
  have e1 : s.vm.findClass ("[" ++ FieldType.boolean.toString) = some c1 := h1
  have e2 : s.vm.findClass ("[" ++ FieldType.boolean.toString) = some c2 := h2
  exact Option.some.inj (e1.symm.trans e2)
theorem nx_newa {p : Program} {l : Launch} {e : Env} {R : Room} {s : State} {m : MethodId} {args : Array Value} {below : List Frame} {meth : Method} {c : Code} {cc : ByteArray} {D : va_G} {ca : Nat → ClassId} {ws : va_W} {H H0 : Heap} {A : Nat → Prop} {locs : List Loc} {cells slots pc : Nat} {ls : Array Slot} {rest : List Value} {Q : State → Prop} (hexec : p.tables.exec = Jvm.exec) (hb : c.code = cc) {atype : ArrayType} (harr : (Cond.arrayClass (newarray.typeOf atype)).before args s = true) {ty : FieldType} (hty : newarray.typeOf atype = ty) (hK : va_K D vwCl (tyA ca) s) {t : Nat} (ht : (tyA ca)[t]? = some (ca t, ty)) (hu : ∀ c1 c2, va_RA s c1 ty → va_RA s c2 ty → c1 = c2) (hP : va_P D vwCl ws H) (hD : va_D A ws) (hS : va_S A H0 H locs) (hA : ∀ q, H0.size ≤ q → A q)
    {n : Int32} {N' : Nat} {a0 : vp_A} (ha : ∀ cA : ClassId, vp_cell cA a0 = arrV cA N' (fun _ => defaultValue ty)) (hn : ¬ n < 0) (hN : n.toNatClampNeg = N') (hbytes : N' * componentBytes ty ≤ 536870912) (hcells : cells + 1 ≤ R.cells) (hslots : slots + N' ≤ R.slots) (hdg : decode cc pc = .ok (.newarray atype, 2))
    (kk : ∀ (q : Nat) (H1 : Heap), va_P D vwCl (ws ++ [(q, .inl (ca t, a0))]) H1 → va_D A (ws ++ [(q, .inl (ca t, a0))]) → va_S A H0 H1 locs →
      W p l e R s m args below meth c H1 locs (cells + 1) (slots + N') Q (F0 m (pc + 2) ls (.ref q :: rest))) : W p l e R s m args below meth c H locs cells slots Q (F0 m pc ls (.int n :: rest)) := by
  refine va_newa hexec hb harr hty hK hP hD hS hA ha hn hN hbytes hcells hslots hdg (fun q cA H1 hK1 hP1 hD1 hS1 => ?_)
  have h1 := (hK1.2 4 (cA, ty) rfl).2
  have h2 := (hK.2 t _ ht).2
  have e1 : cA = ca t := hu cA (ca t) h1 h2
  subst e1
  exact kk q H1 hP1 hD1 hS1
theorem nx_newq {p : Program} {l : Launch} {e : Env} {R : Room} {s : State} {m : MethodId} {args : Array Value} {below : List Frame} {meth : Method} {c : Code} {cc : ByteArray} {D : va_G} {ca : Nat → ClassId} {ws : va_W} {H H0 : Heap} {A : Nat → Prop} {locs : List Loc} {cells slots pc : Nat} {ls : Array Slot} {rest : List Value} {Q : State → Prop} (hexec : p.tables.exec = Jvm.exec) (hb : c.code = cc) {own C : String} {index : Nat} (hown : s.vm.findClass own = some m.cls) (hclink : (Cond.classLink own index C).before args s = true) (hover : va_AO C s) (hK : va_K D vwCl (tyA ca) s) (hP : va_P D vwCl ws H) (hD : va_D A ws) (hS : va_S A H0 H locs) (hA : ∀ q, H0.size ≤ q → A q)
    {n : Int32} {N' : Nat} (hn : ¬ n < 0) (hN : n.toNatClampNeg = N') (hbytes : N' * 4 ≤ 536870912) (hcells : cells + 1 ≤ R.cells) (hslots : slots + N' ≤ R.slots) (hdg : decode cc pc = .ok (.anewarray index, 3)) (hC : C = RX0)
    (kk : ∀ (q : Nat) (H1 : Heap), va_P D vwCl (ws ++ [(q, .inl (ca 3, N', .inr (.inr (.inr (.inr (fun _ => none))))))]) H1 → va_D A (ws ++ [(q, .inl (ca 3, N', .inr (.inr (.inr (.inr (fun _ => none))))))]) → va_S A H0 H1 locs →
      W p l e R s m args below meth c H1 locs (cells + 1) (slots + N') Q (F0 m (pc + 3) ls (.ref q :: rest))) : W p l e R s m args below meth c H locs cells slots Q (F0 m pc ls (.int n :: rest)) := by
  subst hC
  refine va_newq hexec hb hown hclink hover hK hP hD hS hA hn hN hbytes hcells hslots hdg (fun q cA H1 hK1 hP1 hD1 hS1 => ?_)
  obtain ⟨-, -, -, -, -, h1⟩ := (hK1.2 4 (cA, .object RX0) rfl).2
  obtain ⟨-, -, -, -, -, h2⟩ := (hK.2 3 (ca 3, .object RX0) rfl).2
  have e1 : cA = ca 3 := Option.some.inj (h1.symm.trans h2)
  subst e1
  exact kk q H1 hP1 hD1 hS1
set_option maxHeartbeats 4000000 in
set_option maxRecDepth 100000 in
/-- Arrays.fill of four ints -/
theorem c_fill (l : Launch) (D : va_G) (ca : Nat → ClassId) (h0 sz : Nat) (f0 : Nat → Int32) (v : Int32) : Met l yJ7_fill_53178 wsJ7_fill_53178 ({ frames := 0, cells := 0, slots := 0, locals := 0 }) (va_Pc [.ref h0, .int v] (fun U => U.heap.size = sz ∧ va_P D vwCl [(h0, .inl (ca 0, 4, .inl f0))] U.heap ∧ va_K D vwCl (tyA ca) U ∧ va_D (fun _ => True) [(h0, .inl (ca 0, 4, .inl f0))])) (va_Qv (fun _ : Unit => True) (fun _ t => ∃ (f : Nat → Int32), (∀ m, m < 4 → f m = v) ∧ va_P D vwCl [(h0, .inl (ca 0, 4, .inl f))] t.heap ∧ va_D (va_A [(h0, .inl (ca 0, 4, .inl f0))] sz) [(h0, .inl (ca 0, 4, .inl f))]) (va_A [(h0, .inl (ca 0, 4, .inl f0))] sz)) 0 0 (va_A [(h0, .inl (ca 0, 4, .inl f0))] sz) := by
  refine Met.ofW (cc := cJ7_fill_53178) (maxL := 4) (ret := none) (by decide) rfl ?_
  intro p e s m args below meth c s₁ B hml hv
  obtain ⟨rfl, hsz, hP, hK, hD0⟩ := hv
  have hx := B.exec
  have hb := B.bytes
  have hr := B.returns
  have hts := atoms_spec (ws := wsJ7_fill_53178) B.pre
  have hown : s.vm.findClass RJ7 = some m.cls := findClass_of_methodNamed B.named
  have hlocks := B.notSynchronized
  subst hsz
  have hD := hD0.self (sz := s.heap.size)
  generalize hAe : va_A [(h0, .inl (ca 0, 4, .inl f0))] s.heap.size = A at hD ⊢
  have hA : ∀ q : Nat, s.heap.size ≤ q → A q := fun q h => by rw [← hAe]; exact Or.inr h
  have hS : va_S A s.heap s.heap [] := va_S.rf
  have hP : va_P D vwCl [(h0, .inl (ca 0, 4, .inl f0))] s.heap := hP
  have hl := lv_entry ([.ref h0, .int v]) (n := 4) (Nat.le_of_ble_eq_true rfl)
  rw [lg_entry_eq]
  generalize (lg_sl ([.ref h0, .int v]) ++ List.replicate (4 - (lg_sl ([.ref h0, .int v])).length) Slot.unset).toArray = ls at hl ⊢
  have hl : lv_has ls 4 [(0, .ref h0), (1, .int v)] := hl
  refine lv_iconst (v := 0) hx hb dJ7_fill_53178_0 (by decide) ?_
  refine lv_istore_n (lv' := [(2, .int 0), (0, .ref h0), (1, .int v)]) hx hb dJ7_fill_53178_1 rfl hl (by decide) rfl (fun ls hl => ?_)
  refine lv_aload_n hx hb dJ7_fill_53178_2 rfl (lv_at hl 1 rfl) ?_
  refine va_alen (v := 4) hx hb hK hP 0 0 rfl rfl rfl dJ7_fill_53178_3 ?_
  refine lv_istore_n (lv' := [(3, .int 4), (2, .int 0), (0, .ref h0), (1, .int v)]) hx hb dJ7_fill_53178_4 rfl hl (by decide) rfl (fun ls hl => ?_)
  refine lv_iload_n hx hb dJ7_fill_53178_5 rfl (lv_at hl 1 rfl) ?_
  refine lv_iload_n hx hb dJ7_fill_53178_6 rfl (lv_at hl 0 rfl) ?_
  refine lv_icmp_ge (tgt := 20) hx hb dJ7_fill_53178_7 (by decide) (fun c0 => absurd c0 (by decide)) (fun _ => ?_)
  refine lv_aload_n hx hb dJ7_fill_53178_10 rfl (lv_at hl 2 rfl) ?_
  refine lv_iload_n hx hb dJ7_fill_53178_11 rfl (lv_at hl 1 rfl) ?_
  refine lv_iload_n hx hb dJ7_fill_53178_12 rfl (lv_at hl 3 rfl) ?_
  refine va_iast hx hb hK hP hD hS 0 0 rfl rfl (show vp_in 0 4 by unfold vp_in; decide) dJ7_fill_53178_13 (fun H locs hP hD hS => ?_)
  have hP : va_P D vwCl [(h0, .inl (ca 0, 4, .inl (upd f0 (0 : Int32).toNatClampNeg v)))] H := hP
  have hD : va_D A [(h0, .inl (ca 0, 4, .inl (upd f0 (0 : Int32).toNatClampNeg v)))] := hD
  refine lv_iinc (v := 1) (lv' := [(2, .int 1), (3, .int 4), (0, .ref h0), (1, .int v)]) hx hb dJ7_fill_53178_14 hl (k := 1) rfl (by decide) (by decide) rfl (fun ls hl => ?_)
  refine lv_goto (tgt := 5) hx hb dJ7_fill_53178_17 (by decide) ?_
  refine lv_iload_n hx hb dJ7_fill_53178_5 rfl (lv_at hl 0 rfl) ?_
  refine lv_iload_n hx hb dJ7_fill_53178_6 rfl (lv_at hl 1 rfl) ?_
  refine lv_icmp_ge (tgt := 20) hx hb dJ7_fill_53178_7 (by decide) (fun c0 => absurd c0 (by decide)) (fun _ => ?_)
  refine lv_aload_n hx hb dJ7_fill_53178_10 rfl (lv_at hl 2 rfl) ?_
  refine lv_iload_n hx hb dJ7_fill_53178_11 rfl (lv_at hl 0 rfl) ?_
  refine lv_iload_n hx hb dJ7_fill_53178_12 rfl (lv_at hl 3 rfl) ?_
  refine va_iast hx hb hK hP hD hS 0 0 rfl rfl (show vp_in 1 4 by unfold vp_in; decide) dJ7_fill_53178_13 (fun H locs hP hD hS => ?_)
  have hP : va_P D vwCl [(h0, .inl (ca 0, 4, .inl (upd (upd f0 (0 : Int32).toNatClampNeg v) (1 : Int32).toNatClampNeg v)))] H := hP
  have hD : va_D A [(h0, .inl (ca 0, 4, .inl (upd (upd f0 (0 : Int32).toNatClampNeg v) (1 : Int32).toNatClampNeg v)))] := hD
  refine lv_iinc (v := 2) (lv' := [(2, .int 2), (3, .int 4), (0, .ref h0), (1, .int v)]) hx hb dJ7_fill_53178_14 hl (k := 0) rfl (by decide) (by decide) rfl (fun ls hl => ?_)
  refine lv_goto (tgt := 5) hx hb dJ7_fill_53178_17 (by decide) ?_
  refine lv_iload_n hx hb dJ7_fill_53178_5 rfl (lv_at hl 0 rfl) ?_
  refine lv_iload_n hx hb dJ7_fill_53178_6 rfl (lv_at hl 1 rfl) ?_
  refine lv_icmp_ge (tgt := 20) hx hb dJ7_fill_53178_7 (by decide) (fun c0 => absurd c0 (by decide)) (fun _ => ?_)
  refine lv_aload_n hx hb dJ7_fill_53178_10 rfl (lv_at hl 2 rfl) ?_
  refine lv_iload_n hx hb dJ7_fill_53178_11 rfl (lv_at hl 0 rfl) ?_
  refine lv_iload_n hx hb dJ7_fill_53178_12 rfl (lv_at hl 3 rfl) ?_
  refine va_iast hx hb hK hP hD hS 0 0 rfl rfl (show vp_in 2 4 by unfold vp_in; decide) dJ7_fill_53178_13 (fun H locs hP hD hS => ?_)
  have hP : va_P D vwCl [(h0, .inl (ca 0, 4, .inl (upd (upd (upd f0 (0 : Int32).toNatClampNeg v) (1 : Int32).toNatClampNeg v) (2 : Int32).toNatClampNeg v)))] H := hP
  have hD : va_D A [(h0, .inl (ca 0, 4, .inl (upd (upd (upd f0 (0 : Int32).toNatClampNeg v) (1 : Int32).toNatClampNeg v) (2 : Int32).toNatClampNeg v)))] := hD
  refine lv_iinc (v := 3) (lv' := [(2, .int 3), (3, .int 4), (0, .ref h0), (1, .int v)]) hx hb dJ7_fill_53178_14 hl (k := 0) rfl (by decide) (by decide) rfl (fun ls hl => ?_)
  refine lv_goto (tgt := 5) hx hb dJ7_fill_53178_17 (by decide) ?_
  refine lv_iload_n hx hb dJ7_fill_53178_5 rfl (lv_at hl 0 rfl) ?_
  refine lv_iload_n hx hb dJ7_fill_53178_6 rfl (lv_at hl 1 rfl) ?_
  refine lv_icmp_ge (tgt := 20) hx hb dJ7_fill_53178_7 (by decide) (fun c0 => absurd c0 (by decide)) (fun _ => ?_)
  refine lv_aload_n hx hb dJ7_fill_53178_10 rfl (lv_at hl 2 rfl) ?_
  refine lv_iload_n hx hb dJ7_fill_53178_11 rfl (lv_at hl 0 rfl) ?_
  refine lv_iload_n hx hb dJ7_fill_53178_12 rfl (lv_at hl 3 rfl) ?_
  refine va_iast hx hb hK hP hD hS 0 0 rfl rfl (show vp_in 3 4 by unfold vp_in; decide) dJ7_fill_53178_13 (fun H locs hP hD hS => ?_)
  have hP : va_P D vwCl [(h0, .inl (ca 0, 4, .inl (upd (upd (upd (upd f0 (0 : Int32).toNatClampNeg v) (1 : Int32).toNatClampNeg v) (2 : Int32).toNatClampNeg v) (3 : Int32).toNatClampNeg v)))] H := hP
  have hD : va_D A [(h0, .inl (ca 0, 4, .inl (upd (upd (upd (upd f0 (0 : Int32).toNatClampNeg v) (1 : Int32).toNatClampNeg v) (2 : Int32).toNatClampNeg v) (3 : Int32).toNatClampNeg v)))] := hD
  refine lv_iinc (v := 4) (lv' := [(2, .int 4), (3, .int 4), (0, .ref h0), (1, .int v)]) hx hb dJ7_fill_53178_14 hl (k := 0) rfl (by decide) (by decide) rfl (fun ls hl => ?_)
  refine lv_goto (tgt := 5) hx hb dJ7_fill_53178_17 (by decide) ?_
  refine lv_iload_n hx hb dJ7_fill_53178_5 rfl (lv_at hl 0 rfl) ?_
  refine lv_iload_n hx hb dJ7_fill_53178_6 rfl (lv_at hl 1 rfl) ?_
  refine lv_icmp_ge (tgt := 20) hx hb dJ7_fill_53178_7 (by decide) (fun _ => ?_) (fun c0 => absurd (by decide) c0)
  exact W.vret hx hb hr (fun t ht hW => ⟨⟨(), rfl, trivial, (upd (upd (upd (upd f0 (0 : Int32).toNatClampNeg v) (1 : Int32).toNatClampNeg v) (2 : Int32).toNatClampNeg v) (3 : Int32).toNatClampNeg v), fun m hm => by rcases (show m = 0 ∨ m = 1 ∨ m = 2 ∨ m = 3 by omega) with rfl | rfl | rfl | rfl <;> rfl, by rw [ht]; exact hP, hD⟩, hS.F ht⟩) hS.2.2 dJ7_fill_53178_20
set_option maxHeartbeats 4000000 in
set_option maxRecDepth 100000 in
/-- Book(): no days, weights of 8, few 4 -/
theorem c_X0_init (l : Launch) (D : va_G) (ca : Nat → ClassId) (h0 sz : Nat) : Met l yX0_init wsX0_init ({ frames := 1, cells := 2, slots := 204, locals := 23 }) (va_Pc [.ref h0] (fun U => U.heap.size = sz ∧ va_P D vwCl [(h0, .inr (0, [.null, .null, .int 0, .int 0, .int 0]))] U.heap ∧ va_K D vwCl (tyA ca) U ∧ va_D (fun _ => True) [(h0, .inr (0, [.null, .null, .int 0, .int 0, .int 0]))])) (va_Qv (fun _ : Unit => True) (fun _ t => ∃ (a b : Nat) (f : Nat → Int32), (∀ m, m < 4 → f m = 8) ∧ va_P D vwCl [(h0, .inr (0, [.ref a, .ref b, .int 0, .int 0, .int 4])), (a, .inl (ca 0, 200, .inl (fun _ => 0))), (b, .inl (ca 0, 4, .inl f))] t.heap ∧ va_D (va_A [(h0, .inr (0, [.null, .null, .int 0, .int 0, .int 0]))] sz) [(h0, .inr (0, [.ref a, .ref b, .int 0, .int 0, .int 4])), (a, .inl (ca 0, 200, .inl (fun _ => 0))), (b, .inl (ca 0, 4, .inl f))]) (va_A [(h0, .inr (0, [.null, .null, .int 0, .int 0, .int 0]))] sz)) 2 204 (va_A [(h0, .inr (0, [.null, .null, .int 0, .int 0, .int 0]))] sz) := by
  refine Met.ofW (cc := cX0_init) (maxL := 1) (ret := none) (by decide) rfl ?_
  intro p e s m args below meth c s₁ B hml hv
  obtain ⟨rfl, hsz, hP, hK, hD0⟩ := hv
  have hx := B.exec
  have hb := B.bytes
  have hr := B.returns
  have hts := atoms_spec (ws := wsX0_init) B.pre
  have hown : s.vm.findClass RX0 = some m.cls := findClass_of_methodNamed B.named
  have hlocks := B.notSynchronized
  have hin : meth.name = "<init>" := (name_of_methodNamed B.named B.method).1
  subst hsz
  have hD := hD0.self (sz := s.heap.size)
  generalize hAe : va_A [(h0, .inr (0, [.null, .null, .int 0, .int 0, .int 0]))] s.heap.size = A at hD ⊢
  have hA : ∀ q : Nat, s.heap.size ≤ q → A q := fun q h => by rw [← hAe]; exact Or.inr h
  have hS : va_S A s.heap s.heap [] := va_S.rf
  have hP : va_P D vwCl [(h0, .inr (0, [.null, .null, .int 0, .int 0, .int 0]))] s.heap := hP
  have hl := lv_entry ([.ref h0]) (n := 1) (Nat.le_of_ble_eq_true rfl)
  rw [lg_entry_eq]
  generalize (lg_sl ([.ref h0]) ++ List.replicate (1 - (lg_sl ([.ref h0])).length) Slot.unset).toArray = ls at hl ⊢
  have hl : lv_has ls 1 [(0, .ref h0)] := hl
  refine lv_aload_n hx hb dX0_init_0 rfl (lv_at hl 0 rfl) ?_
  refine W.objInit hx hb hown (hts (.methodLink RX0 3 objectInit) (by decide +kernel)) (hts (.instanceMethod objectInit) (by decide +kernel)) (hts (.code objectInit ⟨#[0xb1]⟩ 1 none) (by decide +kernel)) rfl (by rw [hml]; exact hl.1) rfl dX0_init_1 (Nat.le_of_ble_eq_true rfl) (Nat.le_of_ble_eq_true rfl) ?_
  refine W.eq (g2 := F0 m 4 ls []) rfl ?_
  refine lv_aload_n hx hb dX0_init_4 rfl (lv_at hl 0 rfl) ?_
  refine lv_sipush (v := 200) hx hb dX0_init_5 (by decide) ?_
  refine nx_newa (atype := .int) (ty := .int) (t := 0) (a0 := (200, .inl (fun _ => 0))) hx hb (hts (.arrayClass .int) (by decide +kernel)) rfl hK rfl (fun _ _ => ra_int) hP hD hS hA (fun cA => rfl) (by decide) (by decide) (Nat.le_of_ble_eq_true rfl) (Nat.le_of_ble_eq_true rfl) (Nat.le_of_ble_eq_true rfl) dX0_init_8 (fun q1 H hP hD hS => ?_)
  have hP : va_P D vwCl [(h0, .inr (0, [.null, .null, .int 0, .int 0, .int 0])), (q1, .inl (ca 0, 200, .inl (fun _ => 0)))] H := hP
  have hD : va_D A [(h0, .inr (0, [.null, .null, .int 0, .int 0, .int 0])), (q1, .inl (ca 0, 200, .inl (fun _ => 0)))] := hD
  refine W.widen (k := 1) (n := 200) (Nat.le_of_ble_eq_true rfl) (Nat.le_of_ble_eq_true rfl) ?_
  refine va_putF (D := D) (ci := 0) (v := .ref q1) (ty := .array .int) (C := RX0) (T := TX0) (N := 5) hx hb hts (by decide +kernel) tyX0 tyX0_ok nmX0 hown hK hP hD hS 0 rfl rfl 0 (by decide) (hts (.fieldLink RX0 9 "AnalogDays$Book" "notes" "[I") (by decide +kernel)) (fun _ h9 => h9) rfl hin rfl (by decide +kernel) rfl rfl (Nat.le_of_ble_eq_true rfl) dX0_init_10 (fun H locs hP hD hS => ?_)
  have hP : va_P D vwCl [(h0, .inr (0, [.ref q1, .null, .int 0, .int 0, .int 0])), (q1, .inl (ca 0, 200, .inl (fun _ => 0)))] H := hP
  have hD : va_D A [(h0, .inr (0, [.ref q1, .null, .int 0, .int 0, .int 0])), (q1, .inl (ca 0, 200, .inl (fun _ => 0)))] := hD
  refine lv_aload_n hx hb dX0_init_13 rfl (lv_at hl 0 rfl) ?_
  refine lv_iconst (v := 4) hx hb dX0_init_14 (by decide) ?_
  refine nx_newa (atype := .int) (ty := .int) (t := 0) (a0 := (4, .inl (fun _ => 0))) hx hb (hts (.arrayClass .int) (by decide +kernel)) rfl hK rfl (fun _ _ => ra_int) hP hD hS hA (fun cA => rfl) (by decide) (by decide) (Nat.le_of_ble_eq_true rfl) (Nat.le_of_ble_eq_true rfl) (Nat.le_of_ble_eq_true rfl) dX0_init_15 (fun q2 H hP hD hS => ?_)
  have hP : va_P D vwCl [(h0, .inr (0, [.ref q1, .null, .int 0, .int 0, .int 0])), (q1, .inl (ca 0, 200, .inl (fun _ => 0))), (q2, .inl (ca 0, 4, .inl (fun _ => 0)))] H := hP
  have hD : va_D A [(h0, .inr (0, [.ref q1, .null, .int 0, .int 0, .int 0])), (q1, .inl (ca 0, 200, .inl (fun _ => 0))), (q2, .inl (ca 0, 4, .inl (fun _ => 0)))] := hD
  refine W.widen (k := 2) (n := 204) (Nat.le_of_ble_eq_true rfl) (Nat.le_of_ble_eq_true rfl) ?_
  refine va_putF (D := D) (ci := 0) (v := .ref q2) (ty := .array .int) (C := RX0) (T := TX0) (N := 5) hx hb hts (by decide +kernel) tyX0 tyX0_ok nmX0 hown hK hP hD hS 0 rfl rfl 1 (by decide) (hts (.fieldLink RX0 15 "AnalogDays$Book" "weights" "[I") (by decide +kernel)) (fun _ h9 => h9) rfl hin rfl (by decide +kernel) rfl rfl (Nat.le_of_ble_eq_true rfl) dX0_init_17 (fun H locs hP hD hS => ?_)
  have hP : va_P D vwCl [(h0, .inr (0, [.ref q1, .ref q2, .int 0, .int 0, .int 0])), (q1, .inl (ca 0, 200, .inl (fun _ => 0))), (q2, .inl (ca 0, 4, .inl (fun _ => 0)))] H := hP
  have hD : va_D A [(h0, .inr (0, [.ref q1, .ref q2, .int 0, .int 0, .int 0])), (q1, .inl (ca 0, 200, .inl (fun _ => 0))), (q2, .inl (ca 0, 4, .inl (fun _ => 0)))] := hD
  refine lv_aload_n hx hb dX0_init_20 rfl (lv_at hl 0 rfl) ?_
  refine va_get (D := D) (ci := 0) (v := .ref q2) (C := RX0) (T := TX0) (N := 5) hx hb hts (by decide +kernel) hown hK hP 0 rfl rfl 1 (by decide) (hts (.fieldLink RX0 15 "AnalogDays$Book" "weights" "[I") (by decide +kernel)) (fun _ h9 => h9) rfl dX0_init_21 ?_
  refine lv_bipush (v := 8) hx hb dX0_init_24 (by decide) ?_
  have hPc := hP.sub (ws' := [(q2, .inl (ca 0, 4, .inl (fun _ => 0)))]) [2] rfl
  have hDc := hD.sub (ws' := [(q2, .inl (ca 0, 4, .inl (fun _ => 0)))]) [2] (by decide) rfl
  have hFc := va_free (wc := [(q2, .inl (ca 0, 4, .inl (fun _ => 0)))]) hD hS hA [2] rfl
  refine va_callv (va_runS (As := [.ref q2, .int 8]) (rest := []) ⟨hx, hb, hml, hown, hts⟩ (c_fill l D ca q2 H.size (fun _ => 0) 8) (va_cwS 2 hts gX0_init_J7_fill_53178 rfl rfl rfl (by decide +kernel) ⟨Nat.le_of_ble_eq_true rfl, Nat.le_of_ble_eq_true rfl⟩) ⟨fun a U g mk q => by obtain ⟨q0, q1, qP, qK, qD⟩ := q; exact ⟨q0, q1, qP, va_K.moved (u := U) (U := U.calling g mk a) (Vm.Alike.refl U.vm) qK, qD⟩, fun U hU hW => ⟨rfl, by rw [hU], by rw [hU]; exact hPc, va_K.moved hW.alike hK, hDc.weaken (fun _ _ _ _ => trivial)⟩⟩ rfl rfl hl.1 rfl (lv_room (Nat.le_of_ble_eq_true rfl)) dX0_init_26 ⟨Nat.le_of_ble_eq_true rfl, Nat.le_of_ble_eq_true rfl⟩) hS (fun q _ h => hFc q h) hFc (fun u t H1 locs ht hvm hw hB hz1 hk1 hS => ?_)
  obtain ⟨f3, hf3, hP1, hD1⟩ := hB
  rw [ht] at hP1
  obtain ⟨hP, hD⟩ := va_join (wr := [(h0, .inr (0, [.ref q1, .ref q2, .int 0, .int 0, .int 0])), (q1, .inl (ca 0, 200, .inl (fun _ => 0)))]) (w1 := [(q2, .inl (ca 0, 4, .inl f3))]) hP hD [2] [0, 1] rfl rfl (by decide) (by decide) hk1 hFc hP1 hD1
  generalize H1 = H at hP hS ⊢
  have hP : va_P D vwCl [(h0, .inr (0, [.ref q1, .ref q2, .int 0, .int 0, .int 0])), (q1, .inl (ca 0, 200, .inl (fun _ => 0))), (q2, .inl (ca 0, 4, .inl f3))] H := hP
  have hD : va_D A [(h0, .inr (0, [.ref q1, .ref q2, .int 0, .int 0, .int 0])), (q1, .inl (ca 0, 200, .inl (fun _ => 0))), (q2, .inl (ca 0, 4, .inl f3))] := hD
  refine W.widen (k := 2) (n := 204) (Nat.le_of_ble_eq_true rfl) (Nat.le_of_ble_eq_true rfl) ?_
  refine lv_aload_n hx hb dX0_init_29 rfl (lv_at hl 0 rfl) ?_
  refine lv_iconst (v := 4) hx hb dX0_init_30 (by decide) ?_
  refine va_put (D := D) (ci := 0) (v := .int 4) (ty := .int) (C := RX0) (T := TX0) (N := 5) hx hb hts (by decide +kernel) tyX0 tyX0_ok nmX0 hown hK hP hD hS 0 rfl rfl 4 (by decide) (hts (.fieldLink RX0 24 "AnalogDays$Book" "few" "I") (by decide +kernel)) (fun _ h9 => h9) rfl (by decide +kernel) rfl rfl (Nat.le_of_ble_eq_true rfl) dX0_init_31 (fun H locs hP hD hS => ?_)
  have hP : va_P D vwCl [(h0, .inr (0, [.ref q1, .ref q2, .int 0, .int 0, .int 4])), (q1, .inl (ca 0, 200, .inl (fun _ => 0))), (q2, .inl (ca 0, 4, .inl f3))] H := hP
  have hD : va_D A [(h0, .inr (0, [.ref q1, .ref q2, .int 0, .int 0, .int 4])), (q1, .inl (ca 0, 200, .inl (fun _ => 0))), (q2, .inl (ca 0, 4, .inl f3))] := hD
  exact W.vret hx hb hr (fun t ht hW => ⟨⟨(), rfl, trivial, _, _, _, hf3, by rw [ht]; exact hP, hD⟩, hS.F ht⟩) hS.2.2 dX0_init_34
