/-! ===== constructors: Followers, Text, Likeness ===== -/
set_option maxHeartbeats 4000000 in
set_option maxRecDepth 100000 in
/-- Followers(): none -/
theorem c_X1_init (l : Launch) (D : va_G) (ca : Nat → ClassId) (h0 sz : Nat) : Met l yX1_init wsX1_init ({ frames := 1, cells := 3, slots := 36, locals := 12 }) (va_Pc [.ref h0] (fun U => U.heap.size = sz ∧ va_P D vwCl [(h0, .inr (1, [.null, .null, .null, .int 0]))] U.heap ∧ va_K D vwCl (tyA ca) U ∧ va_D (fun _ => True) [(h0, .inr (1, [.null, .null, .null, .int 0]))])) (va_Qv (fun _ : Unit => True) (fun _ t => ∃ (a0 a1 a2 : Nat), va_P D vwCl [(h0, .inr (1, [.ref a0, .ref a1, .ref a2, .int 0])), (a0, .inl (ca 0, 12, .inl (fun _ => 0))), (a1, .inl (ca 1, 12, .inr (.inr (.inl (fun _ => 0))))), (a2, .inl (ca 0, 12, .inl (fun _ => 0)))] t.heap ∧ va_D (va_A [(h0, .inr (1, [.null, .null, .null, .int 0]))] sz) [(h0, .inr (1, [.ref a0, .ref a1, .ref a2, .int 0])), (a0, .inl (ca 0, 12, .inl (fun _ => 0))), (a1, .inl (ca 1, 12, .inr (.inr (.inl (fun _ => 0))))), (a2, .inl (ca 0, 12, .inl (fun _ => 0)))]) (va_A [(h0, .inr (1, [.null, .null, .null, .int 0]))] sz)) 3 36 (va_A [(h0, .inr (1, [.null, .null, .null, .int 0]))] sz) := by
  refine Met.ofW (cc := cX1_init) (maxL := 1) (ret := none) (by decide) rfl ?_
  intro p e s m args below meth c s₁ B hml hv
  obtain ⟨rfl, hsz, hP, hK, hD0⟩ := hv
  have hx := B.exec
  have hb := B.bytes
  have hr := B.returns
  have hts := atoms_spec (ws := wsX1_init) B.pre
  have hown : s.vm.findClass RX1 = some m.cls := findClass_of_methodNamed B.named
  have hlocks := B.notSynchronized
  have hin : meth.name = "<init>" := (name_of_methodNamed B.named B.method).1
  subst hsz
  have hD := hD0.self (sz := s.heap.size)
  generalize hAe : va_A [(h0, .inr (1, [.null, .null, .null, .int 0]))] s.heap.size = A at hD ⊢
  have hA : ∀ q : Nat, s.heap.size ≤ q → A q := fun q h => by rw [← hAe]; exact Or.inr h
  have hS : va_S A s.heap s.heap [] := va_S.rf
  have hP : va_P D vwCl [(h0, .inr (1, [.null, .null, .null, .int 0]))] s.heap := hP
  have hl := lv_entry ([.ref h0]) (n := 1) (Nat.le_of_ble_eq_true rfl)
  rw [lg_entry_eq]
  generalize (lg_sl ([.ref h0]) ++ List.replicate (1 - (lg_sl ([.ref h0])).length) Slot.unset).toArray = ls at hl ⊢
  have hl : lv_has ls 1 [(0, .ref h0)] := hl
  refine lv_aload_n hx hb dX1_init_0 rfl (lv_at hl 0 rfl) ?_
  refine W.objInit hx hb hown (hts (.methodLink RX1 3 objectInit) (by decide +kernel)) (hts (.instanceMethod objectInit) (by decide +kernel)) (hts (.code objectInit ⟨#[0xb1]⟩ 1 none) (by decide +kernel)) rfl (by rw [hml]; exact hl.1) rfl dX1_init_1 (Nat.le_of_ble_eq_true rfl) (Nat.le_of_ble_eq_true rfl) ?_
  refine W.eq (g2 := F0 m 4 ls []) rfl ?_
  refine lv_aload_n hx hb dX1_init_4 rfl (lv_at hl 0 rfl) ?_
  refine lv_bipush (v := 12) hx hb dX1_init_5 (by decide) ?_
  refine nx_newa (atype := .int) (ty := .int) (t := 0) (a0 := (12, .inl (fun _ => 0))) hx hb (hts (.arrayClass .int) (by decide +kernel)) rfl hK rfl (fun _ _ => ra_int) hP hD hS hA (fun cA => rfl) (by decide) (by decide) (Nat.le_of_ble_eq_true rfl) (Nat.le_of_ble_eq_true rfl) (Nat.le_of_ble_eq_true rfl) dX1_init_7 (fun q1 H hP hD hS => ?_)
  have hP : va_P D vwCl [(h0, .inr (1, [.null, .null, .null, .int 0])), (q1, .inl (ca 0, 12, .inl (fun _ => 0)))] H := hP
  have hD : va_D A [(h0, .inr (1, [.null, .null, .null, .int 0])), (q1, .inl (ca 0, 12, .inl (fun _ => 0)))] := hD
  refine W.widen (k := 1) (n := 12) (Nat.le_of_ble_eq_true rfl) (Nat.le_of_ble_eq_true rfl) ?_
  refine va_putF (D := D) (ci := 1) (v := .ref q1) (ty := .array .int) (C := RX1) (T := TX1) (N := 4) hx hb hts (by decide +kernel) tyX1 tyX1_ok nmX1 hown hK hP hD hS 0 rfl rfl 0 (by decide) (hts (.fieldLink RX1 9 "AnalogDays$Followers" "tenths" "[I") (by decide +kernel)) (fun _ h9 => h9) rfl hin rfl (by decide +kernel) rfl rfl (Nat.le_of_ble_eq_true rfl) dX1_init_9 (fun H locs hP hD hS => ?_)
  have hP : va_P D vwCl [(h0, .inr (1, [.ref q1, .null, .null, .int 0])), (q1, .inl (ca 0, 12, .inl (fun _ => 0)))] H := hP
  have hD : va_D A [(h0, .inr (1, [.ref q1, .null, .null, .int 0])), (q1, .inl (ca 0, 12, .inl (fun _ => 0)))] := hD
  refine lv_aload_n hx hb dX1_init_12 rfl (lv_at hl 0 rfl) ?_
  refine lv_bipush (v := 12) hx hb dX1_init_13 (by decide) ?_
  refine nx_newa (atype := .float) (ty := .float) (t := 1) (a0 := (12, .inr (.inr (.inl (fun _ => 0))))) hx hb (hts (.arrayClass .float) (by decide +kernel)) rfl hK rfl (fun _ _ => ra_flt) hP hD hS hA (fun cA => rfl) (by decide) (by decide) (Nat.le_of_ble_eq_true rfl) (Nat.le_of_ble_eq_true rfl) (Nat.le_of_ble_eq_true rfl) dX1_init_15 (fun q2 H hP hD hS => ?_)
  have hP : va_P D vwCl [(h0, .inr (1, [.ref q1, .null, .null, .int 0])), (q1, .inl (ca 0, 12, .inl (fun _ => 0))), (q2, .inl (ca 1, 12, .inr (.inr (.inl (fun _ => 0)))))] H := hP
  have hD : va_D A [(h0, .inr (1, [.ref q1, .null, .null, .int 0])), (q1, .inl (ca 0, 12, .inl (fun _ => 0))), (q2, .inl (ca 1, 12, .inr (.inr (.inl (fun _ => 0)))))] := hD
  refine W.widen (k := 2) (n := 24) (Nat.le_of_ble_eq_true rfl) (Nat.le_of_ble_eq_true rfl) ?_
  refine va_putF (D := D) (ci := 1) (v := .ref q2) (ty := .array .float) (C := RX1) (T := TX1) (N := 4) hx hb hts (by decide +kernel) tyX1 tyX1_ok nmX1 hown hK hP hD hS 0 rfl rfl 1 (by decide) (hts (.fieldLink RX1 15 "AnalogDays$Followers" "distances" "[F") (by decide +kernel)) (fun _ h9 => h9) rfl hin rfl (by decide +kernel) rfl rfl (Nat.le_of_ble_eq_true rfl) dX1_init_17 (fun H locs hP hD hS => ?_)
  have hP : va_P D vwCl [(h0, .inr (1, [.ref q1, .ref q2, .null, .int 0])), (q1, .inl (ca 0, 12, .inl (fun _ => 0))), (q2, .inl (ca 1, 12, .inr (.inr (.inl (fun _ => 0)))))] H := hP
  have hD : va_D A [(h0, .inr (1, [.ref q1, .ref q2, .null, .int 0])), (q1, .inl (ca 0, 12, .inl (fun _ => 0))), (q2, .inl (ca 1, 12, .inr (.inr (.inl (fun _ => 0)))))] := hD
  refine lv_aload_n hx hb dX1_init_20 rfl (lv_at hl 0 rfl) ?_
  refine lv_bipush (v := 12) hx hb dX1_init_21 (by decide) ?_
  refine nx_newa (atype := .int) (ty := .int) (t := 0) (a0 := (12, .inl (fun _ => 0))) hx hb (hts (.arrayClass .int) (by decide +kernel)) rfl hK rfl (fun _ _ => ra_int) hP hD hS hA (fun cA => rfl) (by decide) (by decide) (Nat.le_of_ble_eq_true rfl) (Nat.le_of_ble_eq_true rfl) (Nat.le_of_ble_eq_true rfl) dX1_init_23 (fun q3 H hP hD hS => ?_)
  have hP : va_P D vwCl [(h0, .inr (1, [.ref q1, .ref q2, .null, .int 0])), (q1, .inl (ca 0, 12, .inl (fun _ => 0))), (q2, .inl (ca 1, 12, .inr (.inr (.inl (fun _ => 0))))), (q3, .inl (ca 0, 12, .inl (fun _ => 0)))] H := hP
  have hD : va_D A [(h0, .inr (1, [.ref q1, .ref q2, .null, .int 0])), (q1, .inl (ca 0, 12, .inl (fun _ => 0))), (q2, .inl (ca 1, 12, .inr (.inr (.inl (fun _ => 0))))), (q3, .inl (ca 0, 12, .inl (fun _ => 0)))] := hD
  refine W.widen (k := 3) (n := 36) (Nat.le_of_ble_eq_true rfl) (Nat.le_of_ble_eq_true rfl) ?_
  refine va_putF (D := D) (ci := 1) (v := .ref q3) (ty := .array .int) (C := RX1) (T := TX1) (N := 4) hx hb hts (by decide +kernel) tyX1 tyX1_ok nmX1 hown hK hP hD hS 0 rfl rfl 2 (by decide) (hts (.fieldLink RX1 19 "AnalogDays$Followers" "sorted" "[I") (by decide +kernel)) (fun _ h9 => h9) rfl hin rfl (by decide +kernel) rfl rfl (Nat.le_of_ble_eq_true rfl) dX1_init_25 (fun H locs hP hD hS => ?_)
  have hP : va_P D vwCl [(h0, .inr (1, [.ref q1, .ref q2, .ref q3, .int 0])), (q1, .inl (ca 0, 12, .inl (fun _ => 0))), (q2, .inl (ca 1, 12, .inr (.inr (.inl (fun _ => 0))))), (q3, .inl (ca 0, 12, .inl (fun _ => 0)))] H := hP
  have hD : va_D A [(h0, .inr (1, [.ref q1, .ref q2, .ref q3, .int 0])), (q1, .inl (ca 0, 12, .inl (fun _ => 0))), (q2, .inl (ca 1, 12, .inr (.inr (.inl (fun _ => 0))))), (q3, .inl (ca 0, 12, .inl (fun _ => 0)))] := hD
  exact W.vret hx hb hr (fun t ht hW => ⟨⟨(), rfl, trivial, _, _, _, by rw [ht]; exact hP, hD⟩, hS.F ht⟩) hS.2.2 dX1_init_28
set_option maxHeartbeats 4000000 in
set_option maxRecDepth 100000 in
/-- Text(): empty -/
theorem c_X4_init (l : Launch) (D : va_G) (ca : Nat → ClassId) (h0 sz : Nat) : Met l yX4_init wsX4_init ({ frames := 1, cells := 2, slots := 320, locals := 12 }) (va_Pc [.ref h0] (fun U => U.heap.size = sz ∧ va_P D vwCl [(h0, .inr (4, [.null, .null, .int 0, .int 0, .int 0]))] U.heap ∧ va_K D vwCl (tyA ca) U ∧ va_D (fun _ => True) [(h0, .inr (4, [.null, .null, .int 0, .int 0, .int 0]))])) (va_Qv (fun _ : Unit => True) (fun _ t => ∃ (a0 a1 : Nat), va_P D vwCl [(h0, .inr (4, [.ref a0, .ref a1, .int 0, .int 0, .int 0])), (a0, .inl (ca 0, 120, .inl (fun _ => 0))), (a1, .inl (ca 0, 200, .inl (fun _ => 0)))] t.heap ∧ va_D (va_A [(h0, .inr (4, [.null, .null, .int 0, .int 0, .int 0]))] sz) [(h0, .inr (4, [.ref a0, .ref a1, .int 0, .int 0, .int 0])), (a0, .inl (ca 0, 120, .inl (fun _ => 0))), (a1, .inl (ca 0, 200, .inl (fun _ => 0)))]) (va_A [(h0, .inr (4, [.null, .null, .int 0, .int 0, .int 0]))] sz)) 2 320 (va_A [(h0, .inr (4, [.null, .null, .int 0, .int 0, .int 0]))] sz) := by
  refine Met.ofW (cc := cX4_init) (maxL := 1) (ret := none) (by decide) rfl ?_
  intro p e s m args below meth c s₁ B hml hv
  obtain ⟨rfl, hsz, hP, hK, hD0⟩ := hv
  have hx := B.exec
  have hb := B.bytes
  have hr := B.returns
  have hts := atoms_spec (ws := wsX4_init) B.pre
  have hown : s.vm.findClass RX4 = some m.cls := findClass_of_methodNamed B.named
  have hlocks := B.notSynchronized
  have hin : meth.name = "<init>" := (name_of_methodNamed B.named B.method).1
  subst hsz
  have hD := hD0.self (sz := s.heap.size)
  generalize hAe : va_A [(h0, .inr (4, [.null, .null, .int 0, .int 0, .int 0]))] s.heap.size = A at hD ⊢
  have hA : ∀ q : Nat, s.heap.size ≤ q → A q := fun q h => by rw [← hAe]; exact Or.inr h
  have hS : va_S A s.heap s.heap [] := va_S.rf
  have hP : va_P D vwCl [(h0, .inr (4, [.null, .null, .int 0, .int 0, .int 0]))] s.heap := hP
  have hl := lv_entry ([.ref h0]) (n := 1) (Nat.le_of_ble_eq_true rfl)
  rw [lg_entry_eq]
  generalize (lg_sl ([.ref h0]) ++ List.replicate (1 - (lg_sl ([.ref h0])).length) Slot.unset).toArray = ls at hl ⊢
  have hl : lv_has ls 1 [(0, .ref h0)] := hl
  refine lv_aload_n hx hb dX4_init_0 rfl (lv_at hl 0 rfl) ?_
  refine W.objInit hx hb hown (hts (.methodLink RX4 3 objectInit) (by decide +kernel)) (hts (.instanceMethod objectInit) (by decide +kernel)) (hts (.code objectInit ⟨#[0xb1]⟩ 1 none) (by decide +kernel)) rfl (by rw [hml]; exact hl.1) rfl dX4_init_1 (Nat.le_of_ble_eq_true rfl) (Nat.le_of_ble_eq_true rfl) ?_
  refine W.eq (g2 := F0 m 4 ls []) rfl ?_
  refine lv_aload_n hx hb dX4_init_4 rfl (lv_at hl 0 rfl) ?_
  refine lv_bipush (v := 120) hx hb dX4_init_5 (by decide) ?_
  refine nx_newa (atype := .int) (ty := .int) (t := 0) (a0 := (120, .inl (fun _ => 0))) hx hb (hts (.arrayClass .int) (by decide +kernel)) rfl hK rfl (fun _ _ => ra_int) hP hD hS hA (fun cA => rfl) (by decide) (by decide) (Nat.le_of_ble_eq_true rfl) (Nat.le_of_ble_eq_true rfl) (Nat.le_of_ble_eq_true rfl) dX4_init_7 (fun q1 H hP hD hS => ?_)
  have hP : va_P D vwCl [(h0, .inr (4, [.null, .null, .int 0, .int 0, .int 0])), (q1, .inl (ca 0, 120, .inl (fun _ => 0)))] H := hP
  have hD : va_D A [(h0, .inr (4, [.null, .null, .int 0, .int 0, .int 0])), (q1, .inl (ca 0, 120, .inl (fun _ => 0)))] := hD
  refine W.widen (k := 1) (n := 120) (Nat.le_of_ble_eq_true rfl) (Nat.le_of_ble_eq_true rfl) ?_
  refine va_putF (D := D) (ci := 4) (v := .ref q1) (ty := .array .int) (C := RX4) (T := TX4) (N := 5) hx hb hts (by decide +kernel) tyX4 tyX4_ok nmX4 hown hK hP hD hS 0 rfl rfl 0 (by decide) (hts (.fieldLink RX4 9 "AnalogDays$Text" "bytes" "[I") (by decide +kernel)) (fun _ h9 => h9) rfl hin rfl (by decide +kernel) rfl rfl (Nat.le_of_ble_eq_true rfl) dX4_init_9 (fun H locs hP hD hS => ?_)
  have hP : va_P D vwCl [(h0, .inr (4, [.ref q1, .null, .int 0, .int 0, .int 0])), (q1, .inl (ca 0, 120, .inl (fun _ => 0)))] H := hP
  have hD : va_D A [(h0, .inr (4, [.ref q1, .null, .int 0, .int 0, .int 0])), (q1, .inl (ca 0, 120, .inl (fun _ => 0)))] := hD
  refine lv_aload_n hx hb dX4_init_12 rfl (lv_at hl 0 rfl) ?_
  refine lv_sipush (v := 200) hx hb dX4_init_13 (by decide) ?_
  refine nx_newa (atype := .int) (ty := .int) (t := 0) (a0 := (200, .inl (fun _ => 0))) hx hb (hts (.arrayClass .int) (by decide +kernel)) rfl hK rfl (fun _ _ => ra_int) hP hD hS hA (fun cA => rfl) (by decide) (by decide) (Nat.le_of_ble_eq_true rfl) (Nat.le_of_ble_eq_true rfl) (Nat.le_of_ble_eq_true rfl) dX4_init_16 (fun q2 H hP hD hS => ?_)
  have hP : va_P D vwCl [(h0, .inr (4, [.ref q1, .null, .int 0, .int 0, .int 0])), (q1, .inl (ca 0, 120, .inl (fun _ => 0))), (q2, .inl (ca 0, 200, .inl (fun _ => 0)))] H := hP
  have hD : va_D A [(h0, .inr (4, [.ref q1, .null, .int 0, .int 0, .int 0])), (q1, .inl (ca 0, 120, .inl (fun _ => 0))), (q2, .inl (ca 0, 200, .inl (fun _ => 0)))] := hD
  refine W.widen (k := 2) (n := 320) (Nat.le_of_ble_eq_true rfl) (Nat.le_of_ble_eq_true rfl) ?_
  refine va_putF (D := D) (ci := 4) (v := .ref q2) (ty := .array .int) (C := RX4) (T := TX4) (N := 5) hx hb hts (by decide +kernel) tyX4 tyX4_ok nmX4 hown hK hP hD hS 0 rfl rfl 1 (by decide) (hts (.fieldLink RX4 15 "AnalogDays$Text" "notes" "[I") (by decide +kernel)) (fun _ h9 => h9) rfl hin rfl (by decide +kernel) rfl rfl (Nat.le_of_ble_eq_true rfl) dX4_init_18 (fun H locs hP hD hS => ?_)
  have hP : va_P D vwCl [(h0, .inr (4, [.ref q1, .ref q2, .int 0, .int 0, .int 0])), (q1, .inl (ca 0, 120, .inl (fun _ => 0))), (q2, .inl (ca 0, 200, .inl (fun _ => 0)))] H := hP
  have hD : va_D A [(h0, .inr (4, [.ref q1, .ref q2, .int 0, .int 0, .int 0])), (q1, .inl (ca 0, 120, .inl (fun _ => 0))), (q2, .inl (ca 0, 200, .inl (fun _ => 0)))] := hD
  exact W.vret hx hb hr (fun t ht hW => ⟨⟨(), rfl, trivial, _, _, by rw [ht]; exact hP, hD⟩, hS.F ht⟩) hS.2.2 dX4_init_21
set_option maxHeartbeats 4000000 in
set_option maxRecDepth 100000 in
/-- Likeness(): nothing learnt -/
theorem c_X2_init (l : Launch) (D : va_G) (ca : Nat → ClassId) (h0 sz : Nat) : Met l yX2_init wsX2_init ({ frames := 1, cells := 7, slots := 3604, locals := 12 }) (va_Pc [.ref h0] (fun U => U.heap.size = sz ∧ va_P D vwCl [(h0, .inr (2, [.null, .null, .null, .null, .null, .null, .null, .int 0, .int 0]))] U.heap ∧ va_K D vwCl (tyA ca) U ∧ va_D (fun _ => True) [(h0, .inr (2, [.null, .null, .null, .null, .null, .null, .null, .int 0, .int 0]))])) (va_Qv (fun _ : Unit => True) (fun _ t => ∃ (a0 a1 a2 a3 a4 a5 a6 : Nat), va_P D vwCl [(h0, .inr (2, [.ref a0, .ref a1, .ref a2, .ref a3, .ref a4, .ref a5, .ref a6, .int 0, .int (-2)])), (a0, .inl (ca 1, 200, .inr (.inr (.inl (fun _ => 0))))), (a1, .inl (ca 2, 200, .inl (fun _ => 0))), (a2, .inl (ca 1, 4, .inr (.inr (.inl (fun _ => 0))))), (a3, .inl (ca 1, 2500, .inr (.inr (.inl (fun _ => 0))))), (a4, .inl (ca 0, 600, .inl (fun _ => 0))), (a5, .inl (ca 0, 50, .inl (fun _ => 0))), (a6, .inl (ca 0, 50, .inl (fun _ => 0)))] t.heap ∧ va_D (va_A [(h0, .inr (2, [.null, .null, .null, .null, .null, .null, .null, .int 0, .int 0]))] sz) [(h0, .inr (2, [.ref a0, .ref a1, .ref a2, .ref a3, .ref a4, .ref a5, .ref a6, .int 0, .int (-2)])), (a0, .inl (ca 1, 200, .inr (.inr (.inl (fun _ => 0))))), (a1, .inl (ca 2, 200, .inl (fun _ => 0))), (a2, .inl (ca 1, 4, .inr (.inr (.inl (fun _ => 0))))), (a3, .inl (ca 1, 2500, .inr (.inr (.inl (fun _ => 0))))), (a4, .inl (ca 0, 600, .inl (fun _ => 0))), (a5, .inl (ca 0, 50, .inl (fun _ => 0))), (a6, .inl (ca 0, 50, .inl (fun _ => 0)))]) (va_A [(h0, .inr (2, [.null, .null, .null, .null, .null, .null, .null, .int 0, .int 0]))] sz)) 7 3604 (va_A [(h0, .inr (2, [.null, .null, .null, .null, .null, .null, .null, .int 0, .int 0]))] sz) := by
  refine Met.ofW (cc := cX2_init) (maxL := 1) (ret := none) (by decide) rfl ?_
  intro p e s m args below meth c s₁ B hml hv
  obtain ⟨rfl, hsz, hP, hK, hD0⟩ := hv
  have hx := B.exec
  have hb := B.bytes
  have hr := B.returns
  have hts := atoms_spec (ws := wsX2_init) B.pre
  have hown : s.vm.findClass RX2 = some m.cls := findClass_of_methodNamed B.named
  have hlocks := B.notSynchronized
  have hin : meth.name = "<init>" := (name_of_methodNamed B.named B.method).1
  subst hsz
  have hD := hD0.self (sz := s.heap.size)
  generalize hAe : va_A [(h0, .inr (2, [.null, .null, .null, .null, .null, .null, .null, .int 0, .int 0]))] s.heap.size = A at hD ⊢
  have hA : ∀ q : Nat, s.heap.size ≤ q → A q := fun q h => by rw [← hAe]; exact Or.inr h
  have hS : va_S A s.heap s.heap [] := va_S.rf
  have hP : va_P D vwCl [(h0, .inr (2, [.null, .null, .null, .null, .null, .null, .null, .int 0, .int 0]))] s.heap := hP
  have hl := lv_entry ([.ref h0]) (n := 1) (Nat.le_of_ble_eq_true rfl)
  rw [lg_entry_eq]
  generalize (lg_sl ([.ref h0]) ++ List.replicate (1 - (lg_sl ([.ref h0])).length) Slot.unset).toArray = ls at hl ⊢
  have hl : lv_has ls 1 [(0, .ref h0)] := hl
  refine lv_aload_n hx hb dX2_init_0 rfl (lv_at hl 0 rfl) ?_
  refine W.objInit hx hb hown (hts (.methodLink RX2 3 objectInit) (by decide +kernel)) (hts (.instanceMethod objectInit) (by decide +kernel)) (hts (.code objectInit ⟨#[0xb1]⟩ 1 none) (by decide +kernel)) rfl (by rw [hml]; exact hl.1) rfl dX2_init_1 (Nat.le_of_ble_eq_true rfl) (Nat.le_of_ble_eq_true rfl) ?_
  refine W.eq (g2 := F0 m 4 ls []) rfl ?_
  refine lv_aload_n hx hb dX2_init_4 rfl (lv_at hl 0 rfl) ?_
  refine lv_sipush (v := 200) hx hb dX2_init_5 (by decide) ?_
  refine nx_newa (atype := .float) (ty := .float) (t := 1) (a0 := (200, .inr (.inr (.inl (fun _ => 0))))) hx hb (hts (.arrayClass .float) (by decide +kernel)) rfl hK rfl (fun _ _ => ra_flt) hP hD hS hA (fun cA => rfl) (by decide) (by decide) (Nat.le_of_ble_eq_true rfl) (Nat.le_of_ble_eq_true rfl) (Nat.le_of_ble_eq_true rfl) dX2_init_8 (fun q1 H hP hD hS => ?_)
  have hP : va_P D vwCl [(h0, .inr (2, [.null, .null, .null, .null, .null, .null, .null, .int 0, .int 0])), (q1, .inl (ca 1, 200, .inr (.inr (.inl (fun _ => 0)))))] H := hP
  have hD : va_D A [(h0, .inr (2, [.null, .null, .null, .null, .null, .null, .null, .int 0, .int 0])), (q1, .inl (ca 1, 200, .inr (.inr (.inl (fun _ => 0)))))] := hD
  refine W.widen (k := 1) (n := 200) (Nat.le_of_ble_eq_true rfl) (Nat.le_of_ble_eq_true rfl) ?_
  refine va_putF (D := D) (ci := 2) (v := .ref q1) (ty := .array .float) (C := RX2) (T := TX2) (N := 9) hx hb hts (by decide +kernel) tyX2 tyX2_ok nmX2 hown hK hP hD hS 0 rfl rfl 0 (by decide) (hts (.fieldLink RX2 9 "AnalogDays$Likeness" "values" "[F") (by decide +kernel)) (fun _ h9 => h9) rfl hin rfl (by decide +kernel) rfl rfl (Nat.le_of_ble_eq_true rfl) dX2_init_10 (fun H locs hP hD hS => ?_)
  have hP : va_P D vwCl [(h0, .inr (2, [.ref q1, .null, .null, .null, .null, .null, .null, .int 0, .int 0])), (q1, .inl (ca 1, 200, .inr (.inr (.inl (fun _ => 0)))))] H := hP
  have hD : va_D A [(h0, .inr (2, [.ref q1, .null, .null, .null, .null, .null, .null, .int 0, .int 0])), (q1, .inl (ca 1, 200, .inr (.inr (.inl (fun _ => 0)))))] := hD
  refine lv_aload_n hx hb dX2_init_13 rfl (lv_at hl 0 rfl) ?_
  refine lv_sipush (v := 200) hx hb dX2_init_14 (by decide) ?_
  refine nx_newa (atype := .boolean) (ty := .boolean) (t := 2) (a0 := (200, .inl (fun _ => 0))) hx hb (hts (.arrayClass .boolean) (by decide +kernel)) rfl hK rfl (fun _ _ => ra_boo) hP hD hS hA (fun cA => rfl) (by decide) (by decide) (Nat.le_of_ble_eq_true rfl) (Nat.le_of_ble_eq_true rfl) (Nat.le_of_ble_eq_true rfl) dX2_init_17 (fun q2 H hP hD hS => ?_)
  have hP : va_P D vwCl [(h0, .inr (2, [.ref q1, .null, .null, .null, .null, .null, .null, .int 0, .int 0])), (q1, .inl (ca 1, 200, .inr (.inr (.inl (fun _ => 0))))), (q2, .inl (ca 2, 200, .inl (fun _ => 0)))] H := hP
  have hD : va_D A [(h0, .inr (2, [.ref q1, .null, .null, .null, .null, .null, .null, .int 0, .int 0])), (q1, .inl (ca 1, 200, .inr (.inr (.inl (fun _ => 0))))), (q2, .inl (ca 2, 200, .inl (fun _ => 0)))] := hD
  refine W.widen (k := 2) (n := 400) (Nat.le_of_ble_eq_true rfl) (Nat.le_of_ble_eq_true rfl) ?_
  refine va_putF (D := D) (ci := 2) (v := .ref q2) (ty := .array .boolean) (C := RX2) (T := TX2) (N := 9) hx hb hts (by decide +kernel) tyX2 tyX2_ok nmX2 hown hK hP hD hS 0 rfl rfl 1 (by decide) (hts (.fieldLink RX2 15 "AnalogDays$Likeness" "noted" "[Z") (by decide +kernel)) (fun _ h9 => h9) rfl hin rfl (by decide +kernel) rfl rfl (Nat.le_of_ble_eq_true rfl) dX2_init_19 (fun H locs hP hD hS => ?_)
  have hP : va_P D vwCl [(h0, .inr (2, [.ref q1, .ref q2, .null, .null, .null, .null, .null, .int 0, .int 0])), (q1, .inl (ca 1, 200, .inr (.inr (.inl (fun _ => 0))))), (q2, .inl (ca 2, 200, .inl (fun _ => 0)))] H := hP
  have hD : va_D A [(h0, .inr (2, [.ref q1, .ref q2, .null, .null, .null, .null, .null, .int 0, .int 0])), (q1, .inl (ca 1, 200, .inr (.inr (.inl (fun _ => 0))))), (q2, .inl (ca 2, 200, .inl (fun _ => 0)))] := hD
  refine lv_aload_n hx hb dX2_init_22 rfl (lv_at hl 0 rfl) ?_
  refine lv_iconst (v := 4) hx hb dX2_init_23 (by decide) ?_
  refine nx_newa (atype := .float) (ty := .float) (t := 1) (a0 := (4, .inr (.inr (.inl (fun _ => 0))))) hx hb (hts (.arrayClass .float) (by decide +kernel)) rfl hK rfl (fun _ _ => ra_flt) hP hD hS hA (fun cA => rfl) (by decide) (by decide) (Nat.le_of_ble_eq_true rfl) (Nat.le_of_ble_eq_true rfl) (Nat.le_of_ble_eq_true rfl) dX2_init_24 (fun q3 H hP hD hS => ?_)
  have hP : va_P D vwCl [(h0, .inr (2, [.ref q1, .ref q2, .null, .null, .null, .null, .null, .int 0, .int 0])), (q1, .inl (ca 1, 200, .inr (.inr (.inl (fun _ => 0))))), (q2, .inl (ca 2, 200, .inl (fun _ => 0))), (q3, .inl (ca 1, 4, .inr (.inr (.inl (fun _ => 0)))))] H := hP
  have hD : va_D A [(h0, .inr (2, [.ref q1, .ref q2, .null, .null, .null, .null, .null, .int 0, .int 0])), (q1, .inl (ca 1, 200, .inr (.inr (.inl (fun _ => 0))))), (q2, .inl (ca 2, 200, .inl (fun _ => 0))), (q3, .inl (ca 1, 4, .inr (.inr (.inl (fun _ => 0)))))] := hD
  refine W.widen (k := 3) (n := 404) (Nat.le_of_ble_eq_true rfl) (Nat.le_of_ble_eq_true rfl) ?_
  refine va_putF (D := D) (ci := 2) (v := .ref q3) (ty := .array .float) (C := RX2) (T := TX2) (N := 9) hx hb hts (by decide +kernel) tyX2 tyX2_ok nmX2 hown hK hP hD hS 0 rfl rfl 2 (by decide) (hts (.fieldLink RX2 19 "AnalogDays$Likeness" "weights" "[F") (by decide +kernel)) (fun _ h9 => h9) rfl hin rfl (by decide +kernel) rfl rfl (Nat.le_of_ble_eq_true rfl) dX2_init_26 (fun H locs hP hD hS => ?_)
  have hP : va_P D vwCl [(h0, .inr (2, [.ref q1, .ref q2, .ref q3, .null, .null, .null, .null, .int 0, .int 0])), (q1, .inl (ca 1, 200, .inr (.inr (.inl (fun _ => 0))))), (q2, .inl (ca 2, 200, .inl (fun _ => 0))), (q3, .inl (ca 1, 4, .inr (.inr (.inl (fun _ => 0)))))] H := hP
  have hD : va_D A [(h0, .inr (2, [.ref q1, .ref q2, .ref q3, .null, .null, .null, .null, .int 0, .int 0])), (q1, .inl (ca 1, 200, .inr (.inr (.inl (fun _ => 0))))), (q2, .inl (ca 2, 200, .inl (fun _ => 0))), (q3, .inl (ca 1, 4, .inr (.inr (.inl (fun _ => 0)))))] := hD
  refine lv_aload_n hx hb dX2_init_29 rfl (lv_at hl 0 rfl) ?_
  refine lv_sipush (v := 2500) hx hb dX2_init_30 (by decide) ?_
  refine nx_newa (atype := .float) (ty := .float) (t := 1) (a0 := (2500, .inr (.inr (.inl (fun _ => 0))))) hx hb (hts (.arrayClass .float) (by decide +kernel)) rfl hK rfl (fun _ _ => ra_flt) hP hD hS hA (fun cA => rfl) (by decide) (by decide) (Nat.le_of_ble_eq_true rfl) (Nat.le_of_ble_eq_true rfl) (Nat.le_of_ble_eq_true rfl) dX2_init_33 (fun q4 H hP hD hS => ?_)
  have hP : va_P D vwCl [(h0, .inr (2, [.ref q1, .ref q2, .ref q3, .null, .null, .null, .null, .int 0, .int 0])), (q1, .inl (ca 1, 200, .inr (.inr (.inl (fun _ => 0))))), (q2, .inl (ca 2, 200, .inl (fun _ => 0))), (q3, .inl (ca 1, 4, .inr (.inr (.inl (fun _ => 0))))), (q4, .inl (ca 1, 2500, .inr (.inr (.inl (fun _ => 0)))))] H := hP
  have hD : va_D A [(h0, .inr (2, [.ref q1, .ref q2, .ref q3, .null, .null, .null, .null, .int 0, .int 0])), (q1, .inl (ca 1, 200, .inr (.inr (.inl (fun _ => 0))))), (q2, .inl (ca 2, 200, .inl (fun _ => 0))), (q3, .inl (ca 1, 4, .inr (.inr (.inl (fun _ => 0))))), (q4, .inl (ca 1, 2500, .inr (.inr (.inl (fun _ => 0)))))] := hD
  refine W.widen (k := 4) (n := 2904) (Nat.le_of_ble_eq_true rfl) (Nat.le_of_ble_eq_true rfl) ?_
  refine va_putF (D := D) (ci := 2) (v := .ref q4) (ty := .array .float) (C := RX2) (T := TX2) (N := 9) hx hb hts (by decide +kernel) tyX2 tyX2_ok nmX2 hown hK hP hD hS 0 rfl rfl 3 (by decide) (hts (.fieldLink RX2 22 "AnalogDays$Likeness" "distances" "[F") (by decide +kernel)) (fun _ h9 => h9) rfl hin rfl (by decide +kernel) rfl rfl (Nat.le_of_ble_eq_true rfl) dX2_init_35 (fun H locs hP hD hS => ?_)
  have hP : va_P D vwCl [(h0, .inr (2, [.ref q1, .ref q2, .ref q3, .ref q4, .null, .null, .null, .int 0, .int 0])), (q1, .inl (ca 1, 200, .inr (.inr (.inl (fun _ => 0))))), (q2, .inl (ca 2, 200, .inl (fun _ => 0))), (q3, .inl (ca 1, 4, .inr (.inr (.inl (fun _ => 0))))), (q4, .inl (ca 1, 2500, .inr (.inr (.inl (fun _ => 0)))))] H := hP
  have hD : va_D A [(h0, .inr (2, [.ref q1, .ref q2, .ref q3, .ref q4, .null, .null, .null, .int 0, .int 0])), (q1, .inl (ca 1, 200, .inr (.inr (.inl (fun _ => 0))))), (q2, .inl (ca 2, 200, .inl (fun _ => 0))), (q3, .inl (ca 1, 4, .inr (.inr (.inl (fun _ => 0))))), (q4, .inl (ca 1, 2500, .inr (.inr (.inl (fun _ => 0)))))] := hD
  refine lv_aload_n hx hb dX2_init_38 rfl (lv_at hl 0 rfl) ?_
  refine lv_sipush (v := 600) hx hb dX2_init_39 (by decide) ?_
  refine nx_newa (atype := .int) (ty := .int) (t := 0) (a0 := (600, .inl (fun _ => 0))) hx hb (hts (.arrayClass .int) (by decide +kernel)) rfl hK rfl (fun _ _ => ra_int) hP hD hS hA (fun cA => rfl) (by decide) (by decide) (Nat.le_of_ble_eq_true rfl) (Nat.le_of_ble_eq_true rfl) (Nat.le_of_ble_eq_true rfl) dX2_init_42 (fun q5 H hP hD hS => ?_)
  have hP : va_P D vwCl [(h0, .inr (2, [.ref q1, .ref q2, .ref q3, .ref q4, .null, .null, .null, .int 0, .int 0])), (q1, .inl (ca 1, 200, .inr (.inr (.inl (fun _ => 0))))), (q2, .inl (ca 2, 200, .inl (fun _ => 0))), (q3, .inl (ca 1, 4, .inr (.inr (.inl (fun _ => 0))))), (q4, .inl (ca 1, 2500, .inr (.inr (.inl (fun _ => 0))))), (q5, .inl (ca 0, 600, .inl (fun _ => 0)))] H := hP
  have hD : va_D A [(h0, .inr (2, [.ref q1, .ref q2, .ref q3, .ref q4, .null, .null, .null, .int 0, .int 0])), (q1, .inl (ca 1, 200, .inr (.inr (.inl (fun _ => 0))))), (q2, .inl (ca 2, 200, .inl (fun _ => 0))), (q3, .inl (ca 1, 4, .inr (.inr (.inl (fun _ => 0))))), (q4, .inl (ca 1, 2500, .inr (.inr (.inl (fun _ => 0))))), (q5, .inl (ca 0, 600, .inl (fun _ => 0)))] := hD
  refine W.widen (k := 5) (n := 3504) (Nat.le_of_ble_eq_true rfl) (Nat.le_of_ble_eq_true rfl) ?_
  refine va_putF (D := D) (ci := 2) (v := .ref q5) (ty := .array .int) (C := RX2) (T := TX2) (N := 9) hx hb hts (by decide +kernel) tyX2 tyX2_ok nmX2 hown hK hP hD hS 0 rfl rfl 4 (by decide) (hts (.fieldLink RX2 25 "AnalogDays$Likeness" "nearDays" "[I") (by decide +kernel)) (fun _ h9 => h9) rfl hin rfl (by decide +kernel) rfl rfl (Nat.le_of_ble_eq_true rfl) dX2_init_44 (fun H locs hP hD hS => ?_)
  have hP : va_P D vwCl [(h0, .inr (2, [.ref q1, .ref q2, .ref q3, .ref q4, .ref q5, .null, .null, .int 0, .int 0])), (q1, .inl (ca 1, 200, .inr (.inr (.inl (fun _ => 0))))), (q2, .inl (ca 2, 200, .inl (fun _ => 0))), (q3, .inl (ca 1, 4, .inr (.inr (.inl (fun _ => 0))))), (q4, .inl (ca 1, 2500, .inr (.inr (.inl (fun _ => 0))))), (q5, .inl (ca 0, 600, .inl (fun _ => 0)))] H := hP
  have hD : va_D A [(h0, .inr (2, [.ref q1, .ref q2, .ref q3, .ref q4, .ref q5, .null, .null, .int 0, .int 0])), (q1, .inl (ca 1, 200, .inr (.inr (.inl (fun _ => 0))))), (q2, .inl (ca 2, 200, .inl (fun _ => 0))), (q3, .inl (ca 1, 4, .inr (.inr (.inl (fun _ => 0))))), (q4, .inl (ca 1, 2500, .inr (.inr (.inl (fun _ => 0))))), (q5, .inl (ca 0, 600, .inl (fun _ => 0)))] := hD
  refine lv_aload_n hx hb dX2_init_47 rfl (lv_at hl 0 rfl) ?_
  refine lv_bipush (v := 50) hx hb dX2_init_48 (by decide) ?_
  refine nx_newa (atype := .int) (ty := .int) (t := 0) (a0 := (50, .inl (fun _ => 0))) hx hb (hts (.arrayClass .int) (by decide +kernel)) rfl hK rfl (fun _ _ => ra_int) hP hD hS hA (fun cA => rfl) (by decide) (by decide) (Nat.le_of_ble_eq_true rfl) (Nat.le_of_ble_eq_true rfl) (Nat.le_of_ble_eq_true rfl) dX2_init_50 (fun q6 H hP hD hS => ?_)
  have hP : va_P D vwCl [(h0, .inr (2, [.ref q1, .ref q2, .ref q3, .ref q4, .ref q5, .null, .null, .int 0, .int 0])), (q1, .inl (ca 1, 200, .inr (.inr (.inl (fun _ => 0))))), (q2, .inl (ca 2, 200, .inl (fun _ => 0))), (q3, .inl (ca 1, 4, .inr (.inr (.inl (fun _ => 0))))), (q4, .inl (ca 1, 2500, .inr (.inr (.inl (fun _ => 0))))), (q5, .inl (ca 0, 600, .inl (fun _ => 0))), (q6, .inl (ca 0, 50, .inl (fun _ => 0)))] H := hP
  have hD : va_D A [(h0, .inr (2, [.ref q1, .ref q2, .ref q3, .ref q4, .ref q5, .null, .null, .int 0, .int 0])), (q1, .inl (ca 1, 200, .inr (.inr (.inl (fun _ => 0))))), (q2, .inl (ca 2, 200, .inl (fun _ => 0))), (q3, .inl (ca 1, 4, .inr (.inr (.inl (fun _ => 0))))), (q4, .inl (ca 1, 2500, .inr (.inr (.inl (fun _ => 0))))), (q5, .inl (ca 0, 600, .inl (fun _ => 0))), (q6, .inl (ca 0, 50, .inl (fun _ => 0)))] := hD
  refine W.widen (k := 6) (n := 3554) (Nat.le_of_ble_eq_true rfl) (Nat.le_of_ble_eq_true rfl) ?_
  refine va_putF (D := D) (ci := 2) (v := .ref q6) (ty := .array .int) (C := RX2) (T := TX2) (N := 9) hx hb hts (by decide +kernel) tyX2 tyX2_ok nmX2 hown hK hP hD hS 0 rfl rfl 5 (by decide) (hts (.fieldLink RX2 29 "AnalogDays$Likeness" "nearCounts" "[I") (by decide +kernel)) (fun _ h9 => h9) rfl hin rfl (by decide +kernel) rfl rfl (Nat.le_of_ble_eq_true rfl) dX2_init_52 (fun H locs hP hD hS => ?_)
  have hP : va_P D vwCl [(h0, .inr (2, [.ref q1, .ref q2, .ref q3, .ref q4, .ref q5, .ref q6, .null, .int 0, .int 0])), (q1, .inl (ca 1, 200, .inr (.inr (.inl (fun _ => 0))))), (q2, .inl (ca 2, 200, .inl (fun _ => 0))), (q3, .inl (ca 1, 4, .inr (.inr (.inl (fun _ => 0))))), (q4, .inl (ca 1, 2500, .inr (.inr (.inl (fun _ => 0))))), (q5, .inl (ca 0, 600, .inl (fun _ => 0))), (q6, .inl (ca 0, 50, .inl (fun _ => 0)))] H := hP
  have hD : va_D A [(h0, .inr (2, [.ref q1, .ref q2, .ref q3, .ref q4, .ref q5, .ref q6, .null, .int 0, .int 0])), (q1, .inl (ca 1, 200, .inr (.inr (.inl (fun _ => 0))))), (q2, .inl (ca 2, 200, .inl (fun _ => 0))), (q3, .inl (ca 1, 4, .inr (.inr (.inl (fun _ => 0))))), (q4, .inl (ca 1, 2500, .inr (.inr (.inl (fun _ => 0))))), (q5, .inl (ca 0, 600, .inl (fun _ => 0))), (q6, .inl (ca 0, 50, .inl (fun _ => 0)))] := hD
  refine lv_aload_n hx hb dX2_init_55 rfl (lv_at hl 0 rfl) ?_
  refine lv_bipush (v := 50) hx hb dX2_init_56 (by decide) ?_
  refine nx_newa (atype := .int) (ty := .int) (t := 0) (a0 := (50, .inl (fun _ => 0))) hx hb (hts (.arrayClass .int) (by decide +kernel)) rfl hK rfl (fun _ _ => ra_int) hP hD hS hA (fun cA => rfl) (by decide) (by decide) (Nat.le_of_ble_eq_true rfl) (Nat.le_of_ble_eq_true rfl) (Nat.le_of_ble_eq_true rfl) dX2_init_58 (fun q7 H hP hD hS => ?_)
  have hP : va_P D vwCl [(h0, .inr (2, [.ref q1, .ref q2, .ref q3, .ref q4, .ref q5, .ref q6, .null, .int 0, .int 0])), (q1, .inl (ca 1, 200, .inr (.inr (.inl (fun _ => 0))))), (q2, .inl (ca 2, 200, .inl (fun _ => 0))), (q3, .inl (ca 1, 4, .inr (.inr (.inl (fun _ => 0))))), (q4, .inl (ca 1, 2500, .inr (.inr (.inl (fun _ => 0))))), (q5, .inl (ca 0, 600, .inl (fun _ => 0))), (q6, .inl (ca 0, 50, .inl (fun _ => 0))), (q7, .inl (ca 0, 50, .inl (fun _ => 0)))] H := hP
  have hD : va_D A [(h0, .inr (2, [.ref q1, .ref q2, .ref q3, .ref q4, .ref q5, .ref q6, .null, .int 0, .int 0])), (q1, .inl (ca 1, 200, .inr (.inr (.inl (fun _ => 0))))), (q2, .inl (ca 2, 200, .inl (fun _ => 0))), (q3, .inl (ca 1, 4, .inr (.inr (.inl (fun _ => 0))))), (q4, .inl (ca 1, 2500, .inr (.inr (.inl (fun _ => 0))))), (q5, .inl (ca 0, 600, .inl (fun _ => 0))), (q6, .inl (ca 0, 50, .inl (fun _ => 0))), (q7, .inl (ca 0, 50, .inl (fun _ => 0)))] := hD
  refine W.widen (k := 7) (n := 3604) (Nat.le_of_ble_eq_true rfl) (Nat.le_of_ble_eq_true rfl) ?_
  refine va_putF (D := D) (ci := 2) (v := .ref q7) (ty := .array .int) (C := RX2) (T := TX2) (N := 9) hx hb hts (by decide +kernel) tyX2 tyX2_ok nmX2 hown hK hP hD hS 0 rfl rfl 6 (by decide) (hts (.fieldLink RX2 32 "AnalogDays$Likeness" "likeCounts" "[I") (by decide +kernel)) (fun _ h9 => h9) rfl hin rfl (by decide +kernel) rfl rfl (Nat.le_of_ble_eq_true rfl) dX2_init_60 (fun H locs hP hD hS => ?_)
  have hP : va_P D vwCl [(h0, .inr (2, [.ref q1, .ref q2, .ref q3, .ref q4, .ref q5, .ref q6, .ref q7, .int 0, .int 0])), (q1, .inl (ca 1, 200, .inr (.inr (.inl (fun _ => 0))))), (q2, .inl (ca 2, 200, .inl (fun _ => 0))), (q3, .inl (ca 1, 4, .inr (.inr (.inl (fun _ => 0))))), (q4, .inl (ca 1, 2500, .inr (.inr (.inl (fun _ => 0))))), (q5, .inl (ca 0, 600, .inl (fun _ => 0))), (q6, .inl (ca 0, 50, .inl (fun _ => 0))), (q7, .inl (ca 0, 50, .inl (fun _ => 0)))] H := hP
  have hD : va_D A [(h0, .inr (2, [.ref q1, .ref q2, .ref q3, .ref q4, .ref q5, .ref q6, .ref q7, .int 0, .int 0])), (q1, .inl (ca 1, 200, .inr (.inr (.inl (fun _ => 0))))), (q2, .inl (ca 2, 200, .inl (fun _ => 0))), (q3, .inl (ca 1, 4, .inr (.inr (.inl (fun _ => 0))))), (q4, .inl (ca 1, 2500, .inr (.inr (.inl (fun _ => 0))))), (q5, .inl (ca 0, 600, .inl (fun _ => 0))), (q6, .inl (ca 0, 50, .inl (fun _ => 0))), (q7, .inl (ca 0, 50, .inl (fun _ => 0)))] := hD
  refine lv_aload_n hx hb dX2_init_63 rfl (lv_at hl 0 rfl) ?_
  refine lv_bipush (v := (-2)) hx hb dX2_init_64 (by decide) ?_
  refine va_put (D := D) (ci := 2) (v := .int (-2)) (ty := .int) (C := RX2) (T := TX2) (N := 9) hx hb hts (by decide +kernel) tyX2 tyX2_ok nmX2 hown hK hP hD hS 0 rfl rfl 8 (by decide) (hts (.fieldLink RX2 35 "AnalogDays$Likeness" "learnt" "I") (by decide +kernel)) (fun _ h9 => h9) rfl (by decide +kernel) rfl rfl (Nat.le_of_ble_eq_true rfl) dX2_init_66 (fun H locs hP hD hS => ?_)
  have hP : va_P D vwCl [(h0, .inr (2, [.ref q1, .ref q2, .ref q3, .ref q4, .ref q5, .ref q6, .ref q7, .int 0, .int (-2)])), (q1, .inl (ca 1, 200, .inr (.inr (.inl (fun _ => 0))))), (q2, .inl (ca 2, 200, .inl (fun _ => 0))), (q3, .inl (ca 1, 4, .inr (.inr (.inl (fun _ => 0))))), (q4, .inl (ca 1, 2500, .inr (.inr (.inl (fun _ => 0))))), (q5, .inl (ca 0, 600, .inl (fun _ => 0))), (q6, .inl (ca 0, 50, .inl (fun _ => 0))), (q7, .inl (ca 0, 50, .inl (fun _ => 0)))] H := hP
  have hD : va_D A [(h0, .inr (2, [.ref q1, .ref q2, .ref q3, .ref q4, .ref q5, .ref q6, .ref q7, .int 0, .int (-2)])), (q1, .inl (ca 1, 200, .inr (.inr (.inl (fun _ => 0))))), (q2, .inl (ca 2, 200, .inl (fun _ => 0))), (q3, .inl (ca 1, 4, .inr (.inr (.inl (fun _ => 0))))), (q4, .inl (ca 1, 2500, .inr (.inr (.inl (fun _ => 0))))), (q5, .inl (ca 0, 600, .inl (fun _ => 0))), (q6, .inl (ca 0, 50, .inl (fun _ => 0))), (q7, .inl (ca 0, 50, .inl (fun _ => 0)))] := hD
  exact W.vret hx hb hr (fun t ht hW => ⟨⟨(), rfl, trivial, _, _, _, _, _, _, _, by rw [ht]; exact hP, hD⟩, hS.F ht⟩) hS.2.2 dX2_init_69
