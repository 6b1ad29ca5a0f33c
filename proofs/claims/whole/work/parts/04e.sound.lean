abbrev rX0_copyFrom_1_12 : Room := { frames := 1, cells := 0, slots := 0, locals := 40 }
theorem iwX0_copyFrom_1_12_0 : ∀ w ∈ wsX00, w ∈ wsX0_copyFrom := by decide +kernel
theorem fgX0_copyFrom_1_12_9 : FG wsX0_copyFrom RX0 9 0 0 := ⟨RX0, TX0, 5, rfl, by decide, by decide +kernel, iwX0_copyFrom_1_12_0⟩
theorem fgX0_copyFrom_1_12_15 : FG wsX0_copyFrom RX0 15 0 1 := ⟨RX0, TX0, 5, rfl, by decide, by decide +kernel, iwX0_copyFrom_1_12_0⟩
theorem fgX0_copyFrom_1_12_24 : FG wsX0_copyFrom RX0 24 0 4 := ⟨RX0, TX0, 5, rfl, by decide, by decide +kernel, iwX0_copyFrom_1_12_0⟩
theorem fwX0_copyFrom_1_12_24 : FW wsX0_copyFrom RX0 24 0 4 .int := ⟨RX0, TX0, 5, tyX0, rfl, by decide, by decide +kernel, iwX0_copyFrom_1_12_0, tyX0_ok, nmX0, rfl, by decide +kernel⟩
theorem fgX0_copyFrom_1_12_28 : FG wsX0_copyFrom RX0 28 0 2 := ⟨RX0, TX0, 5, rfl, by decide, by decide +kernel, iwX0_copyFrom_1_12_0⟩
theorem fwX0_copyFrom_1_12_28 : FW wsX0_copyFrom RX0 28 0 2 .int := ⟨RX0, TX0, 5, tyX0, rfl, by decide, by decide +kernel, iwX0_copyFrom_1_12_0, tyX0_ok, nmX0, rfl, by decide +kernel⟩
theorem fgX0_copyFrom_1_12_31 : FG wsX0_copyFrom RX0 31 0 3 := ⟨RX0, TX0, 5, rfl, by decide, by decide +kernel, iwX0_copyFrom_1_12_0⟩
theorem fwX0_copyFrom_1_12_31 : FW wsX0_copyFrom RX0 31 0 3 .int := ⟨RX0, TX0, 5, tyX0, rfl, by decide, by decide +kernel, iwX0_copyFrom_1_12_0, tyX0_ok, nmX0, rfl, by decide +kernel⟩
set_option maxRecDepth 100000 in
set_option maxHeartbeats 4000000 in
theorem sX0_copyFrom_1_12 (cn : Tcn) (bk : Tbk) (st : Tst) (r0 : Tbk) (r1 : Tbk) (r2 : Tbk) (r3 : Tbk) (r4 : Tbk) (li : Tli) (fo : Tfo) (tx : Ttx) (co : Tco) (ke : Tke) (rf : (Nat → Int32)) (cp : Int32) (lk : Tlk) (fl : Tfl) (em : Int32) (tm : Ttm) (rd : Trd)  (o : Tbk) (h : fX0_copyFrom_1_12 bk r2  = some o) : Sp yX0_copyFrom wsX0_copyFrom rX0_copyFrom_1_12 [.ref 1, .ref 12] (mkH cn bk st r0 r1 r2 r3 r4 li fo tx co ke rf cp lk fl em tm rd) none (mkH cn o st r0 r1 r2 r3 r4 li fo tx co ke rf cp lk fl em tm rd) := by
  refine Sp.of (lv := [some (.ref 1), some (.ref 12)]) RX0 (by decide +kernel) rfl (Nat.le_of_ble_eq_true rfl) rfl ?_
  intro X C hT
  unfold fX0_copyFrom_1_12 at h
  refine wg_aload_n C dX0_copyFrom_0 rfl ?_
  refine wg_get (v := .ref 13) C fgX0_copyFrom_1_12_9 rfl rfl dX0_copyFrom_1 ?_
  refine wg_iconst (v := 0) C dX0_copyFrom_4 (by decide) ?_
  refine wg_aload_n C dX0_copyFrom_5 rfl ?_
  refine wg_get (v := .ref 2) C fgX0_copyFrom_1_12_9 rfl rfl dX0_copyFrom_6 ?_
  refine wg_iconst (v := 0) C dX0_copyFrom_9 (by decide) ?_
  refine wg_aload_n C dX0_copyFrom_10 rfl ?_
  refine wg_get (v := .ref 2) C fgX0_copyFrom_1_12_9 rfl rfl dX0_copyFrom_11 ?_
  refine wg_alen (v := 200) C rfl rfl rfl dX0_copyFrom_14 ?_
  refine wg_copy (hp' := (mkH cn ((va_cpy r2.1 bk.1 ((0 : Int32)).toNatClampNeg ((0 : Int32)).toNatClampNeg ((200 : Int32)).toNatClampNeg), bk.2.1, bk.2.2.1, bk.2.2.2.1, bk.2.2.2.2) st r0 r1 r2 r3 r4 li fo tx co ke rf cp lk fl em tm rd)) C ⟨by decide +kernel, by decide +kernel, by decide +kernel, by decide +kernel⟩ rfl rfl (by decide) (by decide) (by decide) (by decide) (by decide) ⟨Nat.le_of_ble_eq_true rfl, by decide +kernel⟩ rfl dX0_copyFrom_15 ?_
  refine wg_aload_n C dX0_copyFrom_18 rfl ?_
  refine wg_get (v := .ref 14) C fgX0_copyFrom_1_12_15 rfl rfl dX0_copyFrom_19 ?_
  refine wg_iconst (v := 0) C dX0_copyFrom_22 (by decide) ?_
  refine wg_aload_n C dX0_copyFrom_23 rfl ?_
  refine wg_get (v := .ref 3) C fgX0_copyFrom_1_12_15 rfl rfl dX0_copyFrom_24 ?_
  refine wg_iconst (v := 0) C dX0_copyFrom_27 (by decide) ?_
  refine wg_aload_n C dX0_copyFrom_28 rfl ?_
  refine wg_get (v := .ref 3) C fgX0_copyFrom_1_12_15 rfl rfl dX0_copyFrom_29 ?_
  refine wg_alen (v := 4) C rfl rfl rfl dX0_copyFrom_32 ?_
  refine wg_copy (hp' := (mkH cn ((va_cpy r2.1 bk.1 ((0 : Int32)).toNatClampNeg ((0 : Int32)).toNatClampNeg ((200 : Int32)).toNatClampNeg), (va_cpy r2.2.1 bk.2.1 ((0 : Int32)).toNatClampNeg ((0 : Int32)).toNatClampNeg ((4 : Int32)).toNatClampNeg), bk.2.2.1, bk.2.2.2.1, bk.2.2.2.2) st r0 r1 r2 r3 r4 li fo tx co ke rf cp lk fl em tm rd)) C ⟨by decide +kernel, by decide +kernel, by decide +kernel, by decide +kernel⟩ rfl rfl (by decide) (by decide) (by decide) (by decide) (by decide) ⟨Nat.le_of_ble_eq_true rfl, by decide +kernel⟩ rfl dX0_copyFrom_33 ?_
  refine wg_aload_n C dX0_copyFrom_36 rfl ?_
  refine wg_aload_n C dX0_copyFrom_37 rfl ?_
  refine wg_get (v := .int r2.2.2.1) C fgX0_copyFrom_1_12_28 rfl rfl dX0_copyFrom_38 ?_
  refine wg_put (hp' := (mkH cn ((va_cpy r2.1 bk.1 ((0 : Int32)).toNatClampNeg ((0 : Int32)).toNatClampNeg ((200 : Int32)).toNatClampNeg), (va_cpy r2.2.1 bk.2.1 ((0 : Int32)).toNatClampNeg ((0 : Int32)).toNatClampNeg ((4 : Int32)).toNatClampNeg), r2.2.2.1, bk.2.2.2.1, bk.2.2.2.2) st r0 r1 r2 r3 r4 li fo tx co ke rf cp lk fl em tm rd)) C fwX0_copyFrom_1_12_28 rfl (Nat.le_of_ble_eq_true rfl) rfl rfl rfl dX0_copyFrom_41 ?_
  refine wg_aload_n C dX0_copyFrom_44 rfl ?_
  refine wg_aload_n C dX0_copyFrom_45 rfl ?_
  refine wg_get (v := .int r2.2.2.2.1) C fgX0_copyFrom_1_12_31 rfl rfl dX0_copyFrom_46 ?_
  refine wg_put (hp' := (mkH cn ((va_cpy r2.1 bk.1 ((0 : Int32)).toNatClampNeg ((0 : Int32)).toNatClampNeg ((200 : Int32)).toNatClampNeg), (va_cpy r2.2.1 bk.2.1 ((0 : Int32)).toNatClampNeg ((0 : Int32)).toNatClampNeg ((4 : Int32)).toNatClampNeg), r2.2.2.1, r2.2.2.2.1, bk.2.2.2.2) st r0 r1 r2 r3 r4 li fo tx co ke rf cp lk fl em tm rd)) C fwX0_copyFrom_1_12_31 rfl (Nat.le_of_ble_eq_true rfl) rfl rfl rfl dX0_copyFrom_49 ?_
  refine wg_aload_n C dX0_copyFrom_52 rfl ?_
  refine wg_aload_n C dX0_copyFrom_53 rfl ?_
  refine wg_get (v := .int r2.2.2.2.2) C fgX0_copyFrom_1_12_24 rfl rfl dX0_copyFrom_54 ?_
  refine wg_put (hp' := (mkH cn ((va_cpy r2.1 bk.1 ((0 : Int32)).toNatClampNeg ((0 : Int32)).toNatClampNeg ((200 : Int32)).toNatClampNeg), (va_cpy r2.2.1 bk.2.1 ((0 : Int32)).toNatClampNeg ((0 : Int32)).toNatClampNeg ((4 : Int32)).toNatClampNeg), r2.2.2.1, r2.2.2.2.1, r2.2.2.2.2) st r0 r1 r2 r3 r4 li fo tx co ke rf cp lk fl em tm rd)) C fwX0_copyFrom_1_12_24 rfl (Nat.le_of_ble_eq_true rfl) rfl rfl rfl dX0_copyFrom_57 ?_
  obtain rfl := Option.some.inj h
  exact wg_vret C hT dX0_copyFrom_60
abbrev rX0_copyFrom_1_15 : Room := { frames := 1, cells := 0, slots := 0, locals := 40 }
theorem iwX0_copyFrom_1_15_0 : ∀ w ∈ wsX00, w ∈ wsX0_copyFrom := by decide +kernel
theorem fgX0_copyFrom_1_15_9 : FG wsX0_copyFrom RX0 9 0 0 := ⟨RX0, TX0, 5, rfl, by decide, by decide +kernel, iwX0_copyFrom_1_15_0⟩
theorem fgX0_copyFrom_1_15_15 : FG wsX0_copyFrom RX0 15 0 1 := ⟨RX0, TX0, 5, rfl, by decide, by decide +kernel, iwX0_copyFrom_1_15_0⟩
theorem fgX0_copyFrom_1_15_24 : FG wsX0_copyFrom RX0 24 0 4 := ⟨RX0, TX0, 5, rfl, by decide, by decide +kernel, iwX0_copyFrom_1_15_0⟩
theorem fwX0_copyFrom_1_15_24 : FW wsX0_copyFrom RX0 24 0 4 .int := ⟨RX0, TX0, 5, tyX0, rfl, by decide, by decide +kernel, iwX0_copyFrom_1_15_0, tyX0_ok, nmX0, rfl, by decide +kernel⟩
theorem fgX0_copyFrom_1_15_28 : FG wsX0_copyFrom RX0 28 0 2 := ⟨RX0, TX0, 5, rfl, by decide, by decide +kernel, iwX0_copyFrom_1_15_0⟩
theorem fwX0_copyFrom_1_15_28 : FW wsX0_copyFrom RX0 28 0 2 .int := ⟨RX0, TX0, 5, tyX0, rfl, by decide, by decide +kernel, iwX0_copyFrom_1_15_0, tyX0_ok, nmX0, rfl, by decide +kernel⟩
theorem fgX0_copyFrom_1_15_31 : FG wsX0_copyFrom RX0 31 0 3 := ⟨RX0, TX0, 5, rfl, by decide, by decide +kernel, iwX0_copyFrom_1_15_0⟩
theorem fwX0_copyFrom_1_15_31 : FW wsX0_copyFrom RX0 31 0 3 .int := ⟨RX0, TX0, 5, tyX0, rfl, by decide, by decide +kernel, iwX0_copyFrom_1_15_0, tyX0_ok, nmX0, rfl, by decide +kernel⟩
set_option maxRecDepth 100000 in
set_option maxHeartbeats 4000000 in
theorem sX0_copyFrom_1_15 (cn : Tcn) (bk : Tbk) (st : Tst) (r0 : Tbk) (r1 : Tbk) (r2 : Tbk) (r3 : Tbk) (r4 : Tbk) (li : Tli) (fo : Tfo) (tx : Ttx) (co : Tco) (ke : Tke) (rf : (Nat → Int32)) (cp : Int32) (lk : Tlk) (fl : Tfl) (em : Int32) (tm : Ttm) (rd : Trd)  (o : Tbk) (h : fX0_copyFrom_1_15 bk r3  = some o) : Sp yX0_copyFrom wsX0_copyFrom rX0_copyFrom_1_15 [.ref 1, .ref 15] (mkH cn bk st r0 r1 r2 r3 r4 li fo tx co ke rf cp lk fl em tm rd) none (mkH cn o st r0 r1 r2 r3 r4 li fo tx co ke rf cp lk fl em tm rd) := by
  refine Sp.of (lv := [some (.ref 1), some (.ref 15)]) RX0 (by decide +kernel) rfl (Nat.le_of_ble_eq_true rfl) rfl ?_
  intro X C hT
  unfold fX0_copyFrom_1_15 at h
  refine wg_aload_n C dX0_copyFrom_0 rfl ?_
  refine wg_get (v := .ref 16) C fgX0_copyFrom_1_15_9 rfl rfl dX0_copyFrom_1 ?_
  refine wg_iconst (v := 0) C dX0_copyFrom_4 (by decide) ?_
  refine wg_aload_n C dX0_copyFrom_5 rfl ?_
  refine wg_get (v := .ref 2) C fgX0_copyFrom_1_15_9 rfl rfl dX0_copyFrom_6 ?_
  refine wg_iconst (v := 0) C dX0_copyFrom_9 (by decide) ?_
  refine wg_aload_n C dX0_copyFrom_10 rfl ?_
  refine wg_get (v := .ref 2) C fgX0_copyFrom_1_15_9 rfl rfl dX0_copyFrom_11 ?_
  refine wg_alen (v := 200) C rfl rfl rfl dX0_copyFrom_14 ?_
  refine wg_copy (hp' := (mkH cn ((va_cpy r3.1 bk.1 ((0 : Int32)).toNatClampNeg ((0 : Int32)).toNatClampNeg ((200 : Int32)).toNatClampNeg), bk.2.1, bk.2.2.1, bk.2.2.2.1, bk.2.2.2.2) st r0 r1 r2 r3 r4 li fo tx co ke rf cp lk fl em tm rd)) C ⟨by decide +kernel, by decide +kernel, by decide +kernel, by decide +kernel⟩ rfl rfl (by decide) (by decide) (by decide) (by decide) (by decide) ⟨Nat.le_of_ble_eq_true rfl, by decide +kernel⟩ rfl dX0_copyFrom_15 ?_
  refine wg_aload_n C dX0_copyFrom_18 rfl ?_
  refine wg_get (v := .ref 17) C fgX0_copyFrom_1_15_15 rfl rfl dX0_copyFrom_19 ?_
  refine wg_iconst (v := 0) C dX0_copyFrom_22 (by decide) ?_
  refine wg_aload_n C dX0_copyFrom_23 rfl ?_
  refine wg_get (v := .ref 3) C fgX0_copyFrom_1_15_15 rfl rfl dX0_copyFrom_24 ?_
  refine wg_iconst (v := 0) C dX0_copyFrom_27 (by decide) ?_
  refine wg_aload_n C dX0_copyFrom_28 rfl ?_
  refine wg_get (v := .ref 3) C fgX0_copyFrom_1_15_15 rfl rfl dX0_copyFrom_29 ?_
  refine wg_alen (v := 4) C rfl rfl rfl dX0_copyFrom_32 ?_
  refine wg_copy (hp' := (mkH cn ((va_cpy r3.1 bk.1 ((0 : Int32)).toNatClampNeg ((0 : Int32)).toNatClampNeg ((200 : Int32)).toNatClampNeg), (va_cpy r3.2.1 bk.2.1 ((0 : Int32)).toNatClampNeg ((0 : Int32)).toNatClampNeg ((4 : Int32)).toNatClampNeg), bk.2.2.1, bk.2.2.2.1, bk.2.2.2.2) st r0 r1 r2 r3 r4 li fo tx co ke rf cp lk fl em tm rd)) C ⟨by decide +kernel, by decide +kernel, by decide +kernel, by decide +kernel⟩ rfl rfl (by decide) (by decide) (by decide) (by decide) (by decide) ⟨Nat.le_of_ble_eq_true rfl, by decide +kernel⟩ rfl dX0_copyFrom_33 ?_
  refine wg_aload_n C dX0_copyFrom_36 rfl ?_
  refine wg_aload_n C dX0_copyFrom_37 rfl ?_
  refine wg_get (v := .int r3.2.2.1) C fgX0_copyFrom_1_15_28 rfl rfl dX0_copyFrom_38 ?_
  refine wg_put (hp' := (mkH cn ((va_cpy r3.1 bk.1 ((0 : Int32)).toNatClampNeg ((0 : Int32)).toNatClampNeg ((200 : Int32)).toNatClampNeg), (va_cpy r3.2.1 bk.2.1 ((0 : Int32)).toNatClampNeg ((0 : Int32)).toNatClampNeg ((4 : Int32)).toNatClampNeg), r3.2.2.1, bk.2.2.2.1, bk.2.2.2.2) st r0 r1 r2 r3 r4 li fo tx co ke rf cp lk fl em tm rd)) C fwX0_copyFrom_1_15_28 rfl (Nat.le_of_ble_eq_true rfl) rfl rfl rfl dX0_copyFrom_41 ?_
  refine wg_aload_n C dX0_copyFrom_44 rfl ?_
  refine wg_aload_n C dX0_copyFrom_45 rfl ?_
  refine wg_get (v := .int r3.2.2.2.1) C fgX0_copyFrom_1_15_31 rfl rfl dX0_copyFrom_46 ?_
  refine wg_put (hp' := (mkH cn ((va_cpy r3.1 bk.1 ((0 : Int32)).toNatClampNeg ((0 : Int32)).toNatClampNeg ((200 : Int32)).toNatClampNeg), (va_cpy r3.2.1 bk.2.1 ((0 : Int32)).toNatClampNeg ((0 : Int32)).toNatClampNeg ((4 : Int32)).toNatClampNeg), r3.2.2.1, r3.2.2.2.1, bk.2.2.2.2) st r0 r1 r2 r3 r4 li fo tx co ke rf cp lk fl em tm rd)) C fwX0_copyFrom_1_15_31 rfl (Nat.le_of_ble_eq_true rfl) rfl rfl rfl dX0_copyFrom_49 ?_
  refine wg_aload_n C dX0_copyFrom_52 rfl ?_
  refine wg_aload_n C dX0_copyFrom_53 rfl ?_
  refine wg_get (v := .int r3.2.2.2.2) C fgX0_copyFrom_1_15_24 rfl rfl dX0_copyFrom_54 ?_
  refine wg_put (hp' := (mkH cn ((va_cpy r3.1 bk.1 ((0 : Int32)).toNatClampNeg ((0 : Int32)).toNatClampNeg ((200 : Int32)).toNatClampNeg), (va_cpy r3.2.1 bk.2.1 ((0 : Int32)).toNatClampNeg ((0 : Int32)).toNatClampNeg ((4 : Int32)).toNatClampNeg), r3.2.2.1, r3.2.2.2.1, r3.2.2.2.2) st r0 r1 r2 r3 r4 li fo tx co ke rf cp lk fl em tm rd)) C fwX0_copyFrom_1_15_24 rfl (Nat.le_of_ble_eq_true rfl) rfl rfl rfl dX0_copyFrom_57 ?_
  obtain rfl := Option.some.inj h
  exact wg_vret C hT dX0_copyFrom_60
abbrev rX0_copyFrom_1_18 : Room := { frames := 1, cells := 0, slots := 0, locals := 40 }
theorem iwX0_copyFrom_1_18_0 : ∀ w ∈ wsX00, w ∈ wsX0_copyFrom := by decide +kernel
theorem fgX0_copyFrom_1_18_9 : FG wsX0_copyFrom RX0 9 0 0 := ⟨RX0, TX0, 5, rfl, by decide, by decide +kernel, iwX0_copyFrom_1_18_0⟩
theorem fgX0_copyFrom_1_18_15 : FG wsX0_copyFrom RX0 15 0 1 := ⟨RX0, TX0, 5, rfl, by decide, by decide +kernel, iwX0_copyFrom_1_18_0⟩
theorem fgX0_copyFrom_1_18_24 : FG wsX0_copyFrom RX0 24 0 4 := ⟨RX0, TX0, 5, rfl, by decide, by decide +kernel, iwX0_copyFrom_1_18_0⟩
theorem fwX0_copyFrom_1_18_24 : FW wsX0_copyFrom RX0 24 0 4 .int := ⟨RX0, TX0, 5, tyX0, rfl, by decide, by decide +kernel, iwX0_copyFrom_1_18_0, tyX0_ok, nmX0, rfl, by decide +kernel⟩
theorem fgX0_copyFrom_1_18_28 : FG wsX0_copyFrom RX0 28 0 2 := ⟨RX0, TX0, 5, rfl, by decide, by decide +kernel, iwX0_copyFrom_1_18_0⟩
theorem fwX0_copyFrom_1_18_28 : FW wsX0_copyFrom RX0 28 0 2 .int := ⟨RX0, TX0, 5, tyX0, rfl, by decide, by decide +kernel, iwX0_copyFrom_1_18_0, tyX0_ok, nmX0, rfl, by decide +kernel⟩
theorem fgX0_copyFrom_1_18_31 : FG wsX0_copyFrom RX0 31 0 3 := ⟨RX0, TX0, 5, rfl, by decide, by decide +kernel, iwX0_copyFrom_1_18_0⟩
theorem fwX0_copyFrom_1_18_31 : FW wsX0_copyFrom RX0 31 0 3 .int := ⟨RX0, TX0, 5, tyX0, rfl, by decide, by decide +kernel, iwX0_copyFrom_1_18_0, tyX0_ok, nmX0, rfl, by decide +kernel⟩
set_option maxRecDepth 100000 in
set_option maxHeartbeats 4000000 in
theorem sX0_copyFrom_1_18 (cn : Tcn) (bk : Tbk) (st : Tst) (r0 : Tbk) (r1 : Tbk) (r2 : Tbk) (r3 : Tbk) (r4 : Tbk) (li : Tli) (fo : Tfo) (tx : Ttx) (co : Tco) (ke : Tke) (rf : (Nat → Int32)) (cp : Int32) (lk : Tlk) (fl : Tfl) (em : Int32) (tm : Ttm) (rd : Trd)  (o : Tbk) (h : fX0_copyFrom_1_18 bk r4  = some o) : Sp yX0_copyFrom wsX0_copyFrom rX0_copyFrom_1_18 [.ref 1, .ref 18] (mkH cn bk st r0 r1 r2 r3 r4 li fo tx co ke rf cp lk fl em tm rd) none (mkH cn o st r0 r1 r2 r3 r4 li fo tx co ke rf cp lk fl em tm rd) := by
  refine Sp.of (lv := [some (.ref 1), some (.ref 18)]) RX0 (by decide +kernel) rfl (Nat.le_of_ble_eq_true rfl) rfl ?_
  intro X C hT
  unfold fX0_copyFrom_1_18 at h
  refine wg_aload_n C dX0_copyFrom_0 rfl ?_
  refine wg_get (v := .ref 19) C fgX0_copyFrom_1_18_9 rfl rfl dX0_copyFrom_1 ?_
  refine wg_iconst (v := 0) C dX0_copyFrom_4 (by decide) ?_
  refine wg_aload_n C dX0_copyFrom_5 rfl ?_
  refine wg_get (v := .ref 2) C fgX0_copyFrom_1_18_9 rfl rfl dX0_copyFrom_6 ?_
  refine wg_iconst (v := 0) C dX0_copyFrom_9 (by decide) ?_
  refine wg_aload_n C dX0_copyFrom_10 rfl ?_
  refine wg_get (v := .ref 2) C fgX0_copyFrom_1_18_9 rfl rfl dX0_copyFrom_11 ?_
  refine wg_alen (v := 200) C rfl rfl rfl dX0_copyFrom_14 ?_
  refine wg_copy (hp' := (mkH cn ((va_cpy r4.1 bk.1 ((0 : Int32)).toNatClampNeg ((0 : Int32)).toNatClampNeg ((200 : Int32)).toNatClampNeg), bk.2.1, bk.2.2.1, bk.2.2.2.1, bk.2.2.2.2) st r0 r1 r2 r3 r4 li fo tx co ke rf cp lk fl em tm rd)) C ⟨by decide +kernel, by decide +kernel, by decide +kernel, by decide +kernel⟩ rfl rfl (by decide) (by decide) (by decide) (by decide) (by decide) ⟨Nat.le_of_ble_eq_true rfl, by decide +kernel⟩ rfl dX0_copyFrom_15 ?_
  refine wg_aload_n C dX0_copyFrom_18 rfl ?_
  refine wg_get (v := .ref 20) C fgX0_copyFrom_1_18_15 rfl rfl dX0_copyFrom_19 ?_
  refine wg_iconst (v := 0) C dX0_copyFrom_22 (by decide) ?_
  refine wg_aload_n C dX0_copyFrom_23 rfl ?_
  refine wg_get (v := .ref 3) C fgX0_copyFrom_1_18_15 rfl rfl dX0_copyFrom_24 ?_
  refine wg_iconst (v := 0) C dX0_copyFrom_27 (by decide) ?_
  refine wg_aload_n C dX0_copyFrom_28 rfl ?_
  refine wg_get (v := .ref 3) C fgX0_copyFrom_1_18_15 rfl rfl dX0_copyFrom_29 ?_
  refine wg_alen (v := 4) C rfl rfl rfl dX0_copyFrom_32 ?_
  refine wg_copy (hp' := (mkH cn ((va_cpy r4.1 bk.1 ((0 : Int32)).toNatClampNeg ((0 : Int32)).toNatClampNeg ((200 : Int32)).toNatClampNeg), (va_cpy r4.2.1 bk.2.1 ((0 : Int32)).toNatClampNeg ((0 : Int32)).toNatClampNeg ((4 : Int32)).toNatClampNeg), bk.2.2.1, bk.2.2.2.1, bk.2.2.2.2) st r0 r1 r2 r3 r4 li fo tx co ke rf cp lk fl em tm rd)) C ⟨by decide +kernel, by decide +kernel, by decide +kernel, by decide +kernel⟩ rfl rfl (by decide) (by decide) (by decide) (by decide) (by decide) ⟨Nat.le_of_ble_eq_true rfl, by decide +kernel⟩ rfl dX0_copyFrom_33 ?_
  refine wg_aload_n C dX0_copyFrom_36 rfl ?_
  refine wg_aload_n C dX0_copyFrom_37 rfl ?_
  refine wg_get (v := .int r4.2.2.1) C fgX0_copyFrom_1_18_28 rfl rfl dX0_copyFrom_38 ?_
  refine wg_put (hp' := (mkH cn ((va_cpy r4.1 bk.1 ((0 : Int32)).toNatClampNeg ((0 : Int32)).toNatClampNeg ((200 : Int32)).toNatClampNeg), (va_cpy r4.2.1 bk.2.1 ((0 : Int32)).toNatClampNeg ((0 : Int32)).toNatClampNeg ((4 : Int32)).toNatClampNeg), r4.2.2.1, bk.2.2.2.1, bk.2.2.2.2) st r0 r1 r2 r3 r4 li fo tx co ke rf cp lk fl em tm rd)) C fwX0_copyFrom_1_18_28 rfl (Nat.le_of_ble_eq_true rfl) rfl rfl rfl dX0_copyFrom_41 ?_
  refine wg_aload_n C dX0_copyFrom_44 rfl ?_
  refine wg_aload_n C dX0_copyFrom_45 rfl ?_
  refine wg_get (v := .int r4.2.2.2.1) C fgX0_copyFrom_1_18_31 rfl rfl dX0_copyFrom_46 ?_
  refine wg_put (hp' := (mkH cn ((va_cpy r4.1 bk.1 ((0 : Int32)).toNatClampNeg ((0 : Int32)).toNatClampNeg ((200 : Int32)).toNatClampNeg), (va_cpy r4.2.1 bk.2.1 ((0 : Int32)).toNatClampNeg ((0 : Int32)).toNatClampNeg ((4 : Int32)).toNatClampNeg), r4.2.2.1, r4.2.2.2.1, bk.2.2.2.2) st r0 r1 r2 r3 r4 li fo tx co ke rf cp lk fl em tm rd)) C fwX0_copyFrom_1_18_31 rfl (Nat.le_of_ble_eq_true rfl) rfl rfl rfl dX0_copyFrom_49 ?_
  refine wg_aload_n C dX0_copyFrom_52 rfl ?_
  refine wg_aload_n C dX0_copyFrom_53 rfl ?_
  refine wg_get (v := .int r4.2.2.2.2) C fgX0_copyFrom_1_18_24 rfl rfl dX0_copyFrom_54 ?_
  refine wg_put (hp' := (mkH cn ((va_cpy r4.1 bk.1 ((0 : Int32)).toNatClampNeg ((0 : Int32)).toNatClampNeg ((200 : Int32)).toNatClampNeg), (va_cpy r4.2.1 bk.2.1 ((0 : Int32)).toNatClampNeg ((0 : Int32)).toNatClampNeg ((4 : Int32)).toNatClampNeg), r4.2.2.1, r4.2.2.2.1, r4.2.2.2.2) st r0 r1 r2 r3 r4 li fo tx co ke rf cp lk fl em tm rd)) C fwX0_copyFrom_1_18_24 rfl (Nat.le_of_ble_eq_true rfl) rfl rfl rfl dX0_copyFrom_57 ?_
  obtain rfl := Option.some.inj h
  exact wg_vret C hT dX0_copyFrom_60
abbrev rX3_pop : Room := { frames := 2, cells := 0, slots := 0, locals := 61 }
theorem iwX3_pop_3 : ∀ w ∈ wsX30, w ∈ wsX3_pop := by decide +kernel
theorem fgX3_pop_11 : FG wsX3_pop RX3 11 3 0 := ⟨RX3, TX3, 3, rfl, by decide, by decide +kernel, iwX3_pop_3⟩
theorem fgX3_pop_18 : FG wsX3_pop RX3 18 3 2 := ⟨RX3, TX3, 3, rfl, by decide, by decide +kernel, iwX3_pop_3⟩
theorem fwX3_pop_18 : FW wsX3_pop RX3 18 3 2 .int := ⟨RX3, TX3, 3, tyX3, rfl, by decide, by decide +kernel, iwX3_pop_3, tyX3_ok, nmX3, rfl, by decide +kernel⟩
theorem fgX3_pop_22 : FG wsX3_pop RX3 22 3 1 := ⟨RX3, TX3, 3, rfl, by decide, by decide +kernel, iwX3_pop_3⟩
theorem fwX3_pop_22 : FW wsX3_pop RX3 22 3 1 .int := ⟨RX3, TX3, 3, tyX3, rfl, by decide, by decide +kernel, iwX3_pop_3, tyX3_ok, nmX3, rfl, by decide +kernel⟩
set_option maxRecDepth 100000 in
set_option maxHeartbeats 4000000 in
theorem sjX3_pop_44 (X : CX) (C : Ok X RX3 cX3_pop wsX3_pop rX3_pop) (cn : Tcn) (bk : Tbk) (st : Tst) (r0 : Tbk) (r1 : Tbk) (r2 : Tbk) (r3 : Tbk) (r4 : Tbk) (li : Tli) (fo : Tfo) (tx : Ttx) (co : Tco) (ke : Tke) (rf : (Nat → Int32)) (cp : Int32) (lk : Tlk) (fl : Tfl) (em : Int32) (tm : Ttm) (rd : Trd)  (o : Tbk × Tst) (h : jX3_pop_44 bk st r0 r1 r2 r3 r4  = some o) (hT : Rt X none none (mkH cn o.1 o.2 r0 r1 r2 r3 r4 li fo tx co ke rf cp lk fl em tm rd)) : Wg X 44 [none, none] [] (mkH cn bk st r0 r1 r2 r3 r4 li fo tx co ke rf cp lk fl em tm rd) := by
  unfold jX3_pop_44 at h
  obtain rfl := Option.some.inj h
  exact wg_vret C hT dX3_pop_44
set_option maxRecDepth 100000 in
set_option maxHeartbeats 4000000 in
theorem sX3_pop (cn : Tcn) (bk : Tbk) (st : Tst) (r0 : Tbk) (r1 : Tbk) (r2 : Tbk) (r3 : Tbk) (r4 : Tbk) (li : Tli) (fo : Tfo) (tx : Ttx) (co : Tco) (ke : Tke) (rf : (Nat → Int32)) (cp : Int32) (lk : Tlk) (fl : Tfl) (em : Int32) (tm : Ttm) (rd : Trd)  (o : Tbk × Tst) (h : fX3_pop bk st r0 r1 r2 r3 r4  = some o) : Sp yX3_pop wsX3_pop rX3_pop [.ref 4, .ref 1] (mkH cn bk st r0 r1 r2 r3 r4 li fo tx co ke rf cp lk fl em tm rd) none (mkH cn o.1 o.2 r0 r1 r2 r3 r4 li fo tx co ke rf cp lk fl em tm rd) := by
  refine Sp.of (lv := [some (.ref 4), some (.ref 1)]) RX3 (by decide +kernel) rfl (Nat.le_of_ble_eq_true rfl) rfl ?_
  intro X C hT
  unfold fX3_pop at h
  refine wg_aload_n C dX3_pop_0 rfl ?_
  refine wg_get (v := .int st.2) C fgX3_pop_18 rfl rfl dX3_pop_1 ?_
  refine wg_if_le (tgt := 44) C dX3_pop_4 (by decide) (fun c1 => ?_) (fun c1 => ?_)
  · replace h := ifP c1 h
    refine wg_drop (lv' := [none, none]) [0, 1] rfl ?_
    exact sjX3_pop_44 X C cn bk st r0 r1 r2 r3 r4 li fo tx co ke rf cp lk fl em tm rd  _ h hT
  · replace h := ifN c1 h
    refine wg_aload_n C dX3_pop_7 rfl ?_
    refine wg_aload_n C dX3_pop_8 rfl ?_
    refine wg_get (v := .ref 5) C fgX3_pop_11 rfl rfl dX3_pop_9 ?_
    refine wg_aload_n C dX3_pop_12 rfl ?_
    refine wg_get (v := .int st.1) C fgX3_pop_22 rfl rfl dX3_pop_13 ?_
    by_cases c7 : st.1 = 0
    · replace h := ifP c7 h
      refine wg_aald (y := 6) C rfl (by rw [c7]; rfl) (by rw [c7]; rfl) dX3_pop_16 ?_
      obtain ⟨q2, e2q, h⟩ := bnd h
      refine wg_callV (n := 1) (As := [.ref 6]) (st := []) (st' := []) C (sX0_copyFrom_1_6 cn bk st r0 r1 r2 r3 r4 li fo tx co ke rf cp lk fl em tm rd  q2 e2q) gX3_pop_X0_copyFrom rfl (by decide +kernel) ⟨⟨rfl, rfl⟩, Nat.le_of_ble_eq_true rfl, Nat.le_of_ble_eq_true rfl⟩ rfl rfl rfl rfl (Nat.le_of_ble_eq_true rfl) dX3_pop_17 rfl ?_
      refine wg_aload_n C dX3_pop_20 rfl ?_
      refine wg_aload_n C dX3_pop_21 rfl ?_
      refine wg_get (v := .int st.1) C fgX3_pop_22 rfl rfl dX3_pop_22 ?_
      refine wg_iconst (v := 5) C dX3_pop_25 (by decide) ?_
      refine wg_iadd C dX3_pop_26 ?_
      refine wg_iconst (v := 1) C dX3_pop_27 (by decide) ?_
      refine wg_isub C dX3_pop_28 ?_
      refine wg_iconst (v := 5) C dX3_pop_29 (by decide) ?_
      refine wg_irem C dX3_pop_30 (by decide) ?_
      refine wg_put (hp' := (mkH cn q2 ((((st.1 + (5 : Int32)) - (1 : Int32)) - ((st.1 + (5 : Int32)) - (1 : Int32)) / (5 : Int32) * (5 : Int32)), st.2) r0 r1 r2 r3 r4 li fo tx co ke rf cp lk fl em tm rd)) C fwX3_pop_22 rfl (Nat.le_of_ble_eq_true rfl) rfl rfl rfl dX3_pop_31 ?_
      refine wg_aload_n C dX3_pop_34 rfl ?_
      refine wg_dup C dX3_pop_35 rfl ?_
      refine wg_get (v := .int st.2) C fgX3_pop_18 rfl rfl dX3_pop_36 ?_
      refine wg_iconst (v := 1) C dX3_pop_39 (by decide) ?_
      refine wg_isub C dX3_pop_40 ?_
      refine wg_put (hp' := (mkH cn q2 ((((st.1 + (5 : Int32)) - (1 : Int32)) - ((st.1 + (5 : Int32)) - (1 : Int32)) / (5 : Int32) * (5 : Int32)), (st.2 - (1 : Int32))) r0 r1 r2 r3 r4 li fo tx co ke rf cp lk fl em tm rd)) C fwX3_pop_18 rfl (Nat.le_of_ble_eq_true rfl) rfl rfl rfl dX3_pop_41 ?_
      refine wg_drop (lv' := [none, none]) [0, 1] rfl ?_
      exact sjX3_pop_44 X C cn q2 ((((st.1 + (5 : Int32)) - (1 : Int32)) - ((st.1 + (5 : Int32)) - (1 : Int32)) / (5 : Int32) * (5 : Int32)), (st.2 - (1 : Int32))) r0 r1 r2 r3 r4 li fo tx co ke rf cp lk fl em tm rd  _ h hT
    · replace h := ifN c7 h
      by_cases c8 : st.1 = 1
      · replace h := ifP c8 h
        refine wg_aald (y := 9) C rfl (by rw [c8]; rfl) (by rw [c8]; rfl) dX3_pop_16 ?_
        obtain ⟨q3, e3q, h⟩ := bnd h
        refine wg_callV (n := 1) (As := [.ref 9]) (st := []) (st' := []) C (sX0_copyFrom_1_9 cn bk st r0 r1 r2 r3 r4 li fo tx co ke rf cp lk fl em tm rd  q3 e3q) gX3_pop_X0_copyFrom rfl (by decide +kernel) ⟨⟨rfl, rfl⟩, Nat.le_of_ble_eq_true rfl, Nat.le_of_ble_eq_true rfl⟩ rfl rfl rfl rfl (Nat.le_of_ble_eq_true rfl) dX3_pop_17 rfl ?_
        refine wg_aload_n C dX3_pop_20 rfl ?_
        refine wg_aload_n C dX3_pop_21 rfl ?_
        refine wg_get (v := .int st.1) C fgX3_pop_22 rfl rfl dX3_pop_22 ?_
        refine wg_iconst (v := 5) C dX3_pop_25 (by decide) ?_
        refine wg_iadd C dX3_pop_26 ?_
        refine wg_iconst (v := 1) C dX3_pop_27 (by decide) ?_
        refine wg_isub C dX3_pop_28 ?_
        refine wg_iconst (v := 5) C dX3_pop_29 (by decide) ?_
        refine wg_irem C dX3_pop_30 (by decide) ?_
        refine wg_put (hp' := (mkH cn q3 ((((st.1 + (5 : Int32)) - (1 : Int32)) - ((st.1 + (5 : Int32)) - (1 : Int32)) / (5 : Int32) * (5 : Int32)), st.2) r0 r1 r2 r3 r4 li fo tx co ke rf cp lk fl em tm rd)) C fwX3_pop_22 rfl (Nat.le_of_ble_eq_true rfl) rfl rfl rfl dX3_pop_31 ?_
        refine wg_aload_n C dX3_pop_34 rfl ?_
        refine wg_dup C dX3_pop_35 rfl ?_
        refine wg_get (v := .int st.2) C fgX3_pop_18 rfl rfl dX3_pop_36 ?_
        refine wg_iconst (v := 1) C dX3_pop_39 (by decide) ?_
        refine wg_isub C dX3_pop_40 ?_
        refine wg_put (hp' := (mkH cn q3 ((((st.1 + (5 : Int32)) - (1 : Int32)) - ((st.1 + (5 : Int32)) - (1 : Int32)) / (5 : Int32) * (5 : Int32)), (st.2 - (1 : Int32))) r0 r1 r2 r3 r4 li fo tx co ke rf cp lk fl em tm rd)) C fwX3_pop_18 rfl (Nat.le_of_ble_eq_true rfl) rfl rfl rfl dX3_pop_41 ?_
        refine wg_drop (lv' := [none, none]) [0, 1] rfl ?_
        exact sjX3_pop_44 X C cn q3 ((((st.1 + (5 : Int32)) - (1 : Int32)) - ((st.1 + (5 : Int32)) - (1 : Int32)) / (5 : Int32) * (5 : Int32)), (st.2 - (1 : Int32))) r0 r1 r2 r3 r4 li fo tx co ke rf cp lk fl em tm rd  _ h hT
      · replace h := ifN c8 h
        by_cases c9 : st.1 = 2
        · replace h := ifP c9 h
          refine wg_aald (y := 12) C rfl (by rw [c9]; rfl) (by rw [c9]; rfl) dX3_pop_16 ?_
          obtain ⟨q4, e4q, h⟩ := bnd h
          refine wg_callV (n := 1) (As := [.ref 12]) (st := []) (st' := []) C (sX0_copyFrom_1_12 cn bk st r0 r1 r2 r3 r4 li fo tx co ke rf cp lk fl em tm rd  q4 e4q) gX3_pop_X0_copyFrom rfl (by decide +kernel) ⟨⟨rfl, rfl⟩, Nat.le_of_ble_eq_true rfl, Nat.le_of_ble_eq_true rfl⟩ rfl rfl rfl rfl (Nat.le_of_ble_eq_true rfl) dX3_pop_17 rfl ?_
          refine wg_aload_n C dX3_pop_20 rfl ?_
          refine wg_aload_n C dX3_pop_21 rfl ?_
          refine wg_get (v := .int st.1) C fgX3_pop_22 rfl rfl dX3_pop_22 ?_
          refine wg_iconst (v := 5) C dX3_pop_25 (by decide) ?_
          refine wg_iadd C dX3_pop_26 ?_
          refine wg_iconst (v := 1) C dX3_pop_27 (by decide) ?_
          refine wg_isub C dX3_pop_28 ?_
          refine wg_iconst (v := 5) C dX3_pop_29 (by decide) ?_
          refine wg_irem C dX3_pop_30 (by decide) ?_
          refine wg_put (hp' := (mkH cn q4 ((((st.1 + (5 : Int32)) - (1 : Int32)) - ((st.1 + (5 : Int32)) - (1 : Int32)) / (5 : Int32) * (5 : Int32)), st.2) r0 r1 r2 r3 r4 li fo tx co ke rf cp lk fl em tm rd)) C fwX3_pop_22 rfl (Nat.le_of_ble_eq_true rfl) rfl rfl rfl dX3_pop_31 ?_
          refine wg_aload_n C dX3_pop_34 rfl ?_
          refine wg_dup C dX3_pop_35 rfl ?_
          refine wg_get (v := .int st.2) C fgX3_pop_18 rfl rfl dX3_pop_36 ?_
          refine wg_iconst (v := 1) C dX3_pop_39 (by decide) ?_
          refine wg_isub C dX3_pop_40 ?_
          refine wg_put (hp' := (mkH cn q4 ((((st.1 + (5 : Int32)) - (1 : Int32)) - ((st.1 + (5 : Int32)) - (1 : Int32)) / (5 : Int32) * (5 : Int32)), (st.2 - (1 : Int32))) r0 r1 r2 r3 r4 li fo tx co ke rf cp lk fl em tm rd)) C fwX3_pop_18 rfl (Nat.le_of_ble_eq_true rfl) rfl rfl rfl dX3_pop_41 ?_
          refine wg_drop (lv' := [none, none]) [0, 1] rfl ?_
          exact sjX3_pop_44 X C cn q4 ((((st.1 + (5 : Int32)) - (1 : Int32)) - ((st.1 + (5 : Int32)) - (1 : Int32)) / (5 : Int32) * (5 : Int32)), (st.2 - (1 : Int32))) r0 r1 r2 r3 r4 li fo tx co ke rf cp lk fl em tm rd  _ h hT
        · replace h := ifN c9 h
          by_cases c10 : st.1 = 3
          · replace h := ifP c10 h
            refine wg_aald (y := 15) C rfl (by rw [c10]; rfl) (by rw [c10]; rfl) dX3_pop_16 ?_
            obtain ⟨q5, e5q, h⟩ := bnd h
            refine wg_callV (n := 1) (As := [.ref 15]) (st := []) (st' := []) C (sX0_copyFrom_1_15 cn bk st r0 r1 r2 r3 r4 li fo tx co ke rf cp lk fl em tm rd  q5 e5q) gX3_pop_X0_copyFrom rfl (by decide +kernel) ⟨⟨rfl, rfl⟩, Nat.le_of_ble_eq_true rfl, Nat.le_of_ble_eq_true rfl⟩ rfl rfl rfl rfl (Nat.le_of_ble_eq_true rfl) dX3_pop_17 rfl ?_
            refine wg_aload_n C dX3_pop_20 rfl ?_
            refine wg_aload_n C dX3_pop_21 rfl ?_
            refine wg_get (v := .int st.1) C fgX3_pop_22 rfl rfl dX3_pop_22 ?_
            refine wg_iconst (v := 5) C dX3_pop_25 (by decide) ?_
            refine wg_iadd C dX3_pop_26 ?_
            refine wg_iconst (v := 1) C dX3_pop_27 (by decide) ?_
            refine wg_isub C dX3_pop_28 ?_
            refine wg_iconst (v := 5) C dX3_pop_29 (by decide) ?_
            refine wg_irem C dX3_pop_30 (by decide) ?_
            refine wg_put (hp' := (mkH cn q5 ((((st.1 + (5 : Int32)) - (1 : Int32)) - ((st.1 + (5 : Int32)) - (1 : Int32)) / (5 : Int32) * (5 : Int32)), st.2) r0 r1 r2 r3 r4 li fo tx co ke rf cp lk fl em tm rd)) C fwX3_pop_22 rfl (Nat.le_of_ble_eq_true rfl) rfl rfl rfl dX3_pop_31 ?_
            refine wg_aload_n C dX3_pop_34 rfl ?_
            refine wg_dup C dX3_pop_35 rfl ?_
            refine wg_get (v := .int st.2) C fgX3_pop_18 rfl rfl dX3_pop_36 ?_
            refine wg_iconst (v := 1) C dX3_pop_39 (by decide) ?_
            refine wg_isub C dX3_pop_40 ?_
            refine wg_put (hp' := (mkH cn q5 ((((st.1 + (5 : Int32)) - (1 : Int32)) - ((st.1 + (5 : Int32)) - (1 : Int32)) / (5 : Int32) * (5 : Int32)), (st.2 - (1 : Int32))) r0 r1 r2 r3 r4 li fo tx co ke rf cp lk fl em tm rd)) C fwX3_pop_18 rfl (Nat.le_of_ble_eq_true rfl) rfl rfl rfl dX3_pop_41 ?_
            refine wg_drop (lv' := [none, none]) [0, 1] rfl ?_
            exact sjX3_pop_44 X C cn q5 ((((st.1 + (5 : Int32)) - (1 : Int32)) - ((st.1 + (5 : Int32)) - (1 : Int32)) / (5 : Int32) * (5 : Int32)), (st.2 - (1 : Int32))) r0 r1 r2 r3 r4 li fo tx co ke rf cp lk fl em tm rd  _ h hT
          · replace h := ifN c10 h
            by_cases c11 : st.1 = 4
            · replace h := ifP c11 h
              refine wg_aald (y := 18) C rfl (by rw [c11]; rfl) (by rw [c11]; rfl) dX3_pop_16 ?_
              obtain ⟨q6, e6q, h⟩ := bnd h
              refine wg_callV (n := 1) (As := [.ref 18]) (st := []) (st' := []) C (sX0_copyFrom_1_18 cn bk st r0 r1 r2 r3 r4 li fo tx co ke rf cp lk fl em tm rd  q6 e6q) gX3_pop_X0_copyFrom rfl (by decide +kernel) ⟨⟨rfl, rfl⟩, Nat.le_of_ble_eq_true rfl, Nat.le_of_ble_eq_true rfl⟩ rfl rfl rfl rfl (Nat.le_of_ble_eq_true rfl) dX3_pop_17 rfl ?_
              refine wg_aload_n C dX3_pop_20 rfl ?_
              refine wg_aload_n C dX3_pop_21 rfl ?_
              refine wg_get (v := .int st.1) C fgX3_pop_22 rfl rfl dX3_pop_22 ?_
              refine wg_iconst (v := 5) C dX3_pop_25 (by decide) ?_
              refine wg_iadd C dX3_pop_26 ?_
              refine wg_iconst (v := 1) C dX3_pop_27 (by decide) ?_
              refine wg_isub C dX3_pop_28 ?_
              refine wg_iconst (v := 5) C dX3_pop_29 (by decide) ?_
              refine wg_irem C dX3_pop_30 (by decide) ?_
              refine wg_put (hp' := (mkH cn q6 ((((st.1 + (5 : Int32)) - (1 : Int32)) - ((st.1 + (5 : Int32)) - (1 : Int32)) / (5 : Int32) * (5 : Int32)), st.2) r0 r1 r2 r3 r4 li fo tx co ke rf cp lk fl em tm rd)) C fwX3_pop_22 rfl (Nat.le_of_ble_eq_true rfl) rfl rfl rfl dX3_pop_31 ?_
              refine wg_aload_n C dX3_pop_34 rfl ?_
              refine wg_dup C dX3_pop_35 rfl ?_
              refine wg_get (v := .int st.2) C fgX3_pop_18 rfl rfl dX3_pop_36 ?_
              refine wg_iconst (v := 1) C dX3_pop_39 (by decide) ?_
              refine wg_isub C dX3_pop_40 ?_
              refine wg_put (hp' := (mkH cn q6 ((((st.1 + (5 : Int32)) - (1 : Int32)) - ((st.1 + (5 : Int32)) - (1 : Int32)) / (5 : Int32) * (5 : Int32)), (st.2 - (1 : Int32))) r0 r1 r2 r3 r4 li fo tx co ke rf cp lk fl em tm rd)) C fwX3_pop_18 rfl (Nat.le_of_ble_eq_true rfl) rfl rfl rfl dX3_pop_41 ?_
              refine wg_drop (lv' := [none, none]) [0, 1] rfl ?_
              exact sjX3_pop_44 X C cn q6 ((((st.1 + (5 : Int32)) - (1 : Int32)) - ((st.1 + (5 : Int32)) - (1 : Int32)) / (5 : Int32) * (5 : Int32)), (st.2 - (1 : Int32))) r0 r1 r2 r3 r4 li fo tx co ke rf cp lk fl em tm rd  _ h hT
            · replace h := ifN c11 h
              cases h
abbrev rX5_back : Room := { frames := 3, cells := 0, slots := 0, locals := 82 }
theorem iwX5_back_5 : ∀ w ∈ wsX50, w ∈ wsX5_back := by decide +kernel
theorem fgX5_back_10 : FG wsX5_back RX5 10 5 0 := ⟨RX5, TX5, 8, rfl, by decide, by decide +kernel, iwX5_back_5⟩
theorem fgX5_back_19 : FG wsX5_back RX5 19 5 1 := ⟨RX5, TX5, 8, rfl, by decide, by decide +kernel, iwX5_back_5⟩
theorem fgX5_back_26 : FG wsX5_back RX5 26 5 2 := ⟨RX5, TX5, 8, rfl, by decide, by decide +kernel, iwX5_back_5⟩
theorem fgX5_back_189 : FG wsX5_back RX5 189 5 6 := ⟨RX5, TX5, 8, rfl, by decide, by decide +kernel, iwX5_back_5⟩
theorem fwX5_back_189 : FW wsX5_back RX5 189 5 6 .int := ⟨RX5, TX5, 8, tyX5, rfl, by decide, by decide +kernel, iwX5_back_5, tyX5_ok, nmX5, rfl, by decide +kernel⟩
set_option maxRecDepth 100000 in
set_option maxHeartbeats 4000000 in
theorem sX5_back (cn : Tcn) (bk : Tbk) (st : Tst) (r0 : Tbk) (r1 : Tbk) (r2 : Tbk) (r3 : Tbk) (r4 : Tbk) (li : Tli) (fo : Tfo) (tx : Ttx) (co : Tco) (ke : Tke) (rf : (Nat → Int32)) (cp : Int32) (lk : Tlk) (fl : Tfl) (em : Int32) (tm : Ttm) (rd : Trd)  (o : Int32 × Tcn × Tbk × Tst × Tli) (h : fX5_back cn bk st r0 r1 r2 r3 r4 li  = some o) : Sp yX5_back wsX5_back rX5_back [.ref 0] (mkH cn bk st r0 r1 r2 r3 r4 li fo tx co ke rf cp lk fl em tm rd) (some (.int o.1)) (mkH o.2.1 o.2.2.1 o.2.2.2.1 r0 r1 r2 r3 r4 o.2.2.2.2 fo tx co ke rf cp lk fl em tm rd) := by
  refine Sp.of (lv := [some (.ref 0)]) RX5 (by decide +kernel) rfl (Nat.le_of_ble_eq_true rfl) rfl ?_
  intro X C hT
  unfold fX5_back at h
  refine wg_aload_n C dX5_back_0 rfl ?_
  refine wg_get (v := .ref 4) C fgX5_back_19 rfl rfl dX5_back_1 ?_
  obtain ⟨q1, e1q, h⟩ := bnd h
  refine wg_callV (n := 0) (As := []) (st := []) (st' := [.int q1]) C (sX3_count cn bk st r0 r1 r2 r3 r4 li fo tx co ke rf cp lk fl em tm rd  q1 e1q) gX5_back_X3_count rfl (by decide +kernel) ⟨⟨rfl, rfl⟩, Nat.le_of_ble_eq_true rfl, Nat.le_of_ble_eq_true rfl⟩ rfl rfl rfl rfl (Nat.le_of_ble_eq_true rfl) dX5_back_4 rfl ?_
  refine wg_if_ne (tgt := 23) C dX5_back_7 (by decide) (fun c2 => ?_) (fun c2 => ?_)
  · replace h := ifP c2 h
    refine wg_aload_n C dX5_back_23 rfl ?_
    refine wg_get (v := .ref 4) C fgX5_back_19 rfl rfl dX5_back_24 ?_
    refine wg_aload_n C dX5_back_27 rfl ?_
    refine wg_get (v := .ref 1) C fgX5_back_10 rfl rfl dX5_back_28 ?_
    obtain ⟨q3, e3q, h⟩ := bnd h
    refine wg_callV (n := 1) (As := [.ref 1]) (st := []) (st' := []) C (sX3_pop cn bk st r0 r1 r2 r3 r4 li fo tx co ke rf cp lk fl em tm rd  q3 e3q) gX5_back_X3_pop rfl (by decide +kernel) ⟨⟨rfl, rfl⟩, Nat.le_of_ble_eq_true rfl, Nat.le_of_ble_eq_true rfl⟩ rfl rfl rfl rfl (Nat.le_of_ble_eq_true rfl) dX5_back_31 rfl ?_
    refine wg_aload_n C dX5_back_34 rfl ?_
    refine wg_get (v := .ref 21) C fgX5_back_26 rfl rfl dX5_back_35 ?_
    obtain ⟨q4, e4q, h⟩ := bnd h
    refine wg_callV (n := 0) (As := []) (st := []) (st' := []) C (sX2_forget cn q3.1 q3.2 r0 r1 r2 r3 r4 li fo tx co ke rf cp lk fl em tm rd  q4 e4q) gX5_back_X2_forget rfl (by decide +kernel) ⟨⟨rfl, rfl⟩, Nat.le_of_ble_eq_true rfl, Nat.le_of_ble_eq_true rfl⟩ rfl rfl rfl rfl (Nat.le_of_ble_eq_true rfl) dX5_back_38 rfl ?_
    refine wg_aload_n C dX5_back_41 rfl ?_
    refine wg_get (v := .ref 4) C fgX5_back_19 rfl rfl dX5_back_42 ?_
    obtain ⟨q5, e5q, h⟩ := bnd h
    refine wg_callV (n := 0) (As := []) (st := []) (st' := [.int q5]) C (sX3_count cn q3.1 q3.2 r0 r1 r2 r3 r4 q4 fo tx co ke rf cp lk fl em tm rd  q5 e5q) gX5_back_X3_count rfl (by decide +kernel) ⟨⟨rfl, rfl⟩, Nat.le_of_ble_eq_true rfl, Nat.le_of_ble_eq_true rfl⟩ rfl rfl rfl rfl (Nat.le_of_ble_eq_true rfl) dX5_back_45 rfl ?_
    obtain rfl := Option.some.inj h
    exact wg_iret C hT dX5_back_48
  · replace h := ifN c2 h
    refine wg_aload_n C dX5_back_10 rfl ?_
    refine wg_dup C dX5_back_11 rfl ?_
    refine wg_get (v := .int cn.2.1) C fgX5_back_189 rfl rfl dX5_back_12 ?_
    refine wg_iconst (v := 1) C dX5_back_15 (by decide) ?_
    refine wg_iadd C dX5_back_16 ?_
    refine wg_put (hp' := (mkH (cn.1, (cn.2.1 + (1 : Int32)), cn.2.2) bk st r0 r1 r2 r3 r4 li fo tx co ke rf cp lk fl em tm rd)) C fwX5_back_189 rfl (Nat.le_of_ble_eq_true rfl) rfl rfl rfl dX5_back_17 ?_
    refine wg_bipush (v := -3) C dX5_back_20 (by decide) ?_
    obtain rfl := Option.some.inj h
    exact wg_iret C hT dX5_back_22
abbrev rX5_told : Room := { frames := 1, cells := 0, slots := 0, locals := 21 }
theorem iwX5_told_5 : ∀ w ∈ wsX50, w ∈ wsX5_told := by decide +kernel
theorem fgX5_told_10 : FG wsX5_told RX5 10 5 0 := ⟨RX5, TX5, 8, rfl, by decide, by decide +kernel, iwX5_told_5⟩
theorem fgX5_told_19 : FG wsX5_told RX5 19 5 1 := ⟨RX5, TX5, 8, rfl, by decide, by decide +kernel, iwX5_told_5⟩
theorem fgX5_told_40 : FG wsX5_told RX5 40 5 4 := ⟨RX5, TX5, 8, rfl, by decide, by decide +kernel, iwX5_told_5⟩
theorem fgX5_told_189 : FG wsX5_told RX5 189 5 6 := ⟨RX5, TX5, 8, rfl, by decide, by decide +kernel, iwX5_told_5⟩
theorem fgX5_told_200 : FG wsX5_told RX5 200 5 5 := ⟨RX5, TX5, 8, rfl, by decide, by decide +kernel, iwX5_told_5⟩
theorem fgX5_told_203 : FG wsX5_told RX5 203 5 7 := ⟨RX5, TX5, 8, rfl, by decide, by decide +kernel, iwX5_told_5⟩
set_option maxRecDepth 100000 in
set_option maxHeartbeats 4000000 in
theorem sX5_told (cn : Tcn) (bk : Tbk) (st : Tst) (r0 : Tbk) (r1 : Tbk) (r2 : Tbk) (r3 : Tbk) (r4 : Tbk) (li : Tli) (fo : Tfo) (tx : Ttx) (co : Tco) (ke : Tke) (rf : (Nat → Int32)) (cp : Int32) (lk : Tlk) (fl : Tfl) (em : Int32) (tm : Ttm) (rd : Trd) (x1 : Int32) (o : Int32 × Tcn) (h : fX5_told cn bk st tx x1 = some o) : Sp yX5_told wsX5_told rX5_told [.ref 0, .int x1] (mkH cn bk st r0 r1 r2 r3 r4 li fo tx co ke rf cp lk fl em tm rd) (some (.int o.1)) (mkH o.2 bk st r0 r1 r2 r3 r4 li fo tx co ke rf cp lk fl em tm rd) := by
  refine Sp.of (lv := [some (.ref 0), some (.int x1)]) RX5 (by decide +kernel) rfl (Nat.le_of_ble_eq_true rfl) rfl ?_
  intro X C hT
  unfold fX5_told at h
  refine wg_iload_n C dX5_told_0 rfl ?_
  by_cases c1 : x1 = 0
  · replace h := ifP c1 h
    refine wg_tin (off := 47) (tgt := 48) C dX5_told_1 (by rw [c1]; decide) (by rw [c1]; decide) (by rw [c1]; rfl) (by decide) ?_
    refine wg_aload_n C dX5_told_48 rfl ?_
    refine wg_get (v := .int cn.1) C fgX5_told_200 rfl rfl dX5_told_49 ?_
    obtain rfl := Option.some.inj h
    exact wg_iret C hT dX5_told_52
  · replace h := ifN c1 h
    by_cases c2 : x1 = 1
    · replace h := ifP c2 h
      refine wg_tin (off := 52) (tgt := 53) C dX5_told_1 (by rw [c2]; decide) (by rw [c2]; decide) (by rw [c2]; rfl) (by decide) ?_
      refine wg_aload_n C dX5_told_53 rfl ?_
      refine wg_get (v := .int cn.2.1) C fgX5_told_189 rfl rfl dX5_told_54 ?_
      obtain rfl := Option.some.inj h
      exact wg_iret C hT dX5_told_57
    · replace h := ifN c2 h
      by_cases c3 : x1 = 2
      · replace h := ifP c3 h
        refine wg_tin (off := 57) (tgt := 58) C dX5_told_1 (by rw [c3]; decide) (by rw [c3]; decide) (by rw [c3]; rfl) (by decide) ?_
        refine wg_aload_n C dX5_told_58 rfl ?_
        refine wg_get (v := .int cn.2.2) C fgX5_told_203 rfl rfl dX5_told_59 ?_
        obtain rfl := Option.some.inj h
        exact wg_iret C hT dX5_told_62
      · replace h := ifN c3 h
        by_cases c4 : x1 = 3
        · replace h := ifP c4 h
          refine wg_tin (off := 62) (tgt := 63) C dX5_told_1 (by rw [c4]; decide) (by rw [c4]; decide) (by rw [c4]; rfl) (by decide) ?_
          refine wg_aload_n C dX5_told_63 rfl ?_
          refine wg_get (v := .ref 33) C fgX5_told_40 rfl rfl dX5_told_64 ?_
          obtain ⟨q5, e5q, h⟩ := bnd h
          refine wg_callV (n := 0) (As := []) (st := []) (st' := [.int q5]) C (sX4_length cn bk st r0 r1 r2 r3 r4 li fo tx co ke rf cp lk fl em tm rd  q5 e5q) gX5_told_X4_length rfl (by decide +kernel) ⟨⟨rfl, rfl⟩, Nat.le_of_ble_eq_true rfl, Nat.le_of_ble_eq_true rfl⟩ rfl rfl rfl rfl (Nat.le_of_ble_eq_true rfl) dX5_told_67 rfl ?_
          obtain rfl := Option.some.inj h
          exact wg_iret C hT dX5_told_70
        · replace h := ifN c4 h
          by_cases c6 : x1 = 4
          · replace h := ifP c6 h
            refine wg_tin (off := 70) (tgt := 71) C dX5_told_1 (by rw [c6]; decide) (by rw [c6]; decide) (by rw [c6]; rfl) (by decide) ?_
            refine wg_aload_n C dX5_told_71 rfl ?_
            refine wg_get (v := .ref 1) C fgX5_told_10 rfl rfl dX5_told_72 ?_
            obtain ⟨q7, e7q, h⟩ := bnd h
            refine wg_callV (n := 0) (As := []) (st := []) (st' := [.int q7]) C (sX0_days cn bk st r0 r1 r2 r3 r4 li fo tx co ke rf cp lk fl em tm rd  q7 e7q) gX5_told_X0_days rfl (by decide +kernel) ⟨⟨rfl, rfl⟩, Nat.le_of_ble_eq_true rfl, Nat.le_of_ble_eq_true rfl⟩ rfl rfl rfl rfl (Nat.le_of_ble_eq_true rfl) dX5_told_75 rfl ?_
            obtain rfl := Option.some.inj h
            exact wg_iret C hT dX5_told_78
          · replace h := ifN c6 h
            by_cases c8 : x1 = 5
            · replace h := ifP c8 h
              refine wg_tin (off := 78) (tgt := 79) C dX5_told_1 (by rw [c8]; decide) (by rw [c8]; decide) (by rw [c8]; rfl) (by decide) ?_
              refine wg_aload_n C dX5_told_79 rfl ?_
              refine wg_get (v := .ref 1) C fgX5_told_10 rfl rfl dX5_told_80 ?_
              obtain ⟨q9, e9q, h⟩ := bnd h
              refine wg_callV (n := 0) (As := []) (st := []) (st' := [.int q9]) C (sX0_gap cn bk st r0 r1 r2 r3 r4 li fo tx co ke rf cp lk fl em tm rd  q9 e9q) gX5_told_X0_gap rfl (by decide +kernel) ⟨⟨rfl, rfl⟩, Nat.le_of_ble_eq_true rfl, Nat.le_of_ble_eq_true rfl⟩ rfl rfl rfl rfl (Nat.le_of_ble_eq_true rfl) dX5_told_83 rfl ?_
              obtain rfl := Option.some.inj h
              exact wg_iret C hT dX5_told_86
            · replace h := ifN c8 h
              by_cases c10 : x1 = 6
              · replace h := ifP c10 h
                refine wg_tin (off := 86) (tgt := 87) C dX5_told_1 (by rw [c10]; decide) (by rw [c10]; decide) (by rw [c10]; rfl) (by decide) ?_
                refine wg_aload_n C dX5_told_87 rfl ?_
                refine wg_get (v := .ref 1) C fgX5_told_10 rfl rfl dX5_told_88 ?_
                obtain ⟨q11, e11q, h⟩ := bnd h
                refine wg_callV (n := 0) (As := []) (st := []) (st' := [.int q11]) C (sX0_few cn bk st r0 r1 r2 r3 r4 li fo tx co ke rf cp lk fl em tm rd  q11 e11q) gX5_told_X0_few rfl (by decide +kernel) ⟨⟨rfl, rfl⟩, Nat.le_of_ble_eq_true rfl, Nat.le_of_ble_eq_true rfl⟩ rfl rfl rfl rfl (Nat.le_of_ble_eq_true rfl) dX5_told_91 rfl ?_
                obtain rfl := Option.some.inj h
                exact wg_iret C hT dX5_told_94
              · replace h := ifN c10 h
                by_cases c12 : x1 = 7
                · replace h := ifP c12 h
                  refine wg_tin (off := 94) (tgt := 95) C dX5_told_1 (by rw [c12]; decide) (by rw [c12]; decide) (by rw [c12]; rfl) (by decide) ?_
                  refine wg_aload_n C dX5_told_95 rfl ?_
                  refine wg_get (v := .ref 4) C fgX5_told_19 rfl rfl dX5_told_96 ?_
                  obtain ⟨q13, e13q, h⟩ := bnd h
                  refine wg_callV (n := 0) (As := []) (st := []) (st' := [.int q13]) C (sX3_count cn bk st r0 r1 r2 r3 r4 li fo tx co ke rf cp lk fl em tm rd  q13 e13q) gX5_told_X3_count rfl (by decide +kernel) ⟨⟨rfl, rfl⟩, Nat.le_of_ble_eq_true rfl, Nat.le_of_ble_eq_true rfl⟩ rfl rfl rfl rfl (Nat.le_of_ble_eq_true rfl) dX5_told_99 rfl ?_
                  obtain rfl := Option.some.inj h
                  exact wg_iret C hT dX5_told_102
                · replace h := ifN c12 h
                  refine wg_tout (tgt := 103) C dX5_told_1 (by have z := fun v : Int32 => mt (Int32.toInt_inj (x := x1) (y := v)).mp; have z0 := z 0 c1; have z1 := z 1 c2; have z2 := z 2 c3; have z3 := z 3 c4; have z4 := z 4 c6; have z5 := z 5 c8; have z6 := z 6 c10; have z7 := z 7 c12; simp only [show (0 : Int32).toInt = 0 from rfl, show (1 : Int32).toInt = 1 from rfl, show (2 : Int32).toInt = 2 from rfl, show (3 : Int32).toInt = 3 from rfl, show (4 : Int32).toInt = 4 from rfl, show (5 : Int32).toInt = 5 from rfl, show (6 : Int32).toInt = 6 from rfl, show (7 : Int32).toInt = 7 from rfl] at z0 z1 z2 z3 z4 z5 z6 z7; omega) (by decide) ?_
                  refine wg_aload_n C dX5_told_103 rfl ?_
                  refine wg_bipush (v := -2) C dX5_told_104 (by decide) ?_
                  obtain ⟨q14, e14q, h⟩ := bnd h
                  refine wg_callV (n := 1) (As := [.int (-2 : Int32)]) (st := []) (st' := [.int q14.1]) C (sX5_refuseBad cn bk st r0 r1 r2 r3 r4 li fo tx co ke rf cp lk fl em tm rd (-2 : Int32) q14 e14q) gX5_told_X5_refuseBad rfl (by decide +kernel) ⟨⟨rfl, rfl⟩, Nat.le_of_ble_eq_true rfl, Nat.le_of_ble_eq_true rfl⟩ rfl rfl rfl rfl (Nat.le_of_ble_eq_true rfl) dX5_told_106 rfl ?_
                  obtain rfl := Option.some.inj h
                  exact wg_iret C hT dX5_told_109
abbrev rX5_digest : Room := { frames := 6, cells := 0, slots := 0, locals := 145 }
theorem iwX5_digest_5 : ∀ w ∈ wsX50, w ∈ wsX5_digest := by decide +kernel
theorem fgX5_digest_10 : FG wsX5_digest RX5 10 5 0 := ⟨RX5, TX5, 8, rfl, by decide, by decide +kernel, iwX5_digest_5⟩
set_option maxRecDepth 100000 in
set_option maxHeartbeats 4000000 in
theorem sbX5_digest_6 (X : CX) (C : Ok X RX5 cX5_digest wsX5_digest rX5_digest) (cn : Tcn) (bk : Tbk) (st : Tst) (r0 : Tbk) (r1 : Tbk) (r2 : Tbk) (r3 : Tbk) (r4 : Tbk) (li : Tli) (fo : Tfo) (tx : Ttx) (co : Tco) (ke : Tke) (rf : (Nat → Int32)) (cp : Int32) (lk : Tlk) (fl : Tfl) (em : Int32) (tm : Ttm) (rd : Trd)  (z : Int64 × Int32 × Tcn) (o : (Int64 × Int32 × Tcn) ⊕ (Int64 × Tcn)) (h : bX5_digest_6 bk st li fo tx  z = some o) (k0 : ∀ a : Int64 × Int32 × Tcn, o = .inl a → Wg X 6 [some (.ref 0), some (.long a.1), none, some (.int a.2.1), none] [] (mkH a.2.2 bk st r0 r1 r2 r3 r4 li fo tx co ke rf cp lk fl em tm rd)) (e0 : ∀ a : Int64 × Tcn, o = .inr a → Wg X 31 [some (.ref 0), some (.long a.1), none, none, none] [] (mkH a.2 bk st r0 r1 r2 r3 r4 li fo tx co ke rf cp lk fl em tm rd)) : Wg X 6 [some (.ref 0), some (.long z.1), none, some (.int z.2.1), none] [] (mkH z.2.2 bk st r0 r1 r2 r3 r4 li fo tx co ke rf cp lk fl em tm rd) := by
  unfold bX5_digest_6 at h
  refine wg_iload_n C dX5_digest_6 rfl ?_
  refine wg_bipush (v := 8) C dX5_digest_7 (by decide) ?_
  refine wg_icmp_ge (tgt := 31) C dX5_digest_9 (by decide) (fun c1 => ?_) (fun c1 => ?_)
  · replace h := ifP c1 h
    refine wg_drop (lv' := [some (.ref 0), some (.long z.1), none, none, none]) [3] rfl ?_
    have hk := e0 _ (Option.some.inj h).symm
    exact hk
  · replace h := ifN c1 h
    refine wg_ldcl (v := 31) C (by decide +kernel) dX5_digest_12 ?_
    refine wg_lload_n C dX5_digest_15 rfl ?_
    refine wg_lmul C dX5_digest_16 ?_
    refine wg_aload_n C dX5_digest_17 rfl ?_
    refine wg_iload_n C dX5_digest_18 rfl ?_
    obtain ⟨q2, e2q, h⟩ := bnd h
    refine wg_callV (n := 1) (As := [.int z.2.1]) (st := [.long ((31 : Int64) * z.1)]) (st' := [.int q2.1, .long ((31 : Int64) * z.1)]) C (sX5_told z.2.2 bk st r0 r1 r2 r3 r4 li fo tx co ke rf cp lk fl em tm rd z.2.1 q2 e2q) gX5_digest_X5_told rfl (by decide +kernel) ⟨⟨rfl, rfl⟩, Nat.le_of_ble_eq_true rfl, Nat.le_of_ble_eq_true rfl⟩ rfl rfl rfl rfl (Nat.le_of_ble_eq_true rfl) dX5_digest_19 rfl ?_
    refine wg_i2l C dX5_digest_22 ?_
    refine wg_ladd C dX5_digest_23 ?_
    refine wg_lstore_n (lv' := [some (.ref 0), some (.long (((31 : Int64) * z.1) + (q2.1).toInt64)), none, some (.int z.2.1), none]) C dX5_digest_24 (Nat.le_of_ble_eq_true rfl) rfl ?_
    refine wg_iinc (v := (z.2.1 + (1 : Int32))) (lv' := [some (.ref 0), some (.long (((31 : Int64) * z.1) + (q2.1).toInt64)), none, some (.int (z.2.1 + (1 : Int32))), none]) C dX5_digest_25 rfl rfl rfl ?_
    refine wg_goto (tgt := 6) C dX5_digest_28 (by decide) ?_
    have hk := k0 _ (Option.some.inj h).symm
    exact hk
set_option maxRecDepth 100000 in
set_option maxHeartbeats 4000000 in
theorem slX5_digest_6 (X : CX) (C : Ok X RX5 cX5_digest wsX5_digest rX5_digest) (cn : Tcn) (bk : Tbk) (st : Tst) (r0 : Tbk) (r1 : Tbk) (r2 : Tbk) (r3 : Tbk) (r4 : Tbk) (li : Tli) (fo : Tfo) (tx : Ttx) (co : Tco) (ke : Tke) (rf : (Nat → Int32)) (cp : Int32) (lk : Tlk) (fl : Tfl) (em : Int32) (tm : Ttm) (rd : Trd)  (o : (Int64 × Tcn)) (e0 : ∀ a : Int64 × Tcn, o = a → Wg X 31 [some (.ref 0), some (.long a.1), none, none, none] [] (mkH a.2 bk st r0 r1 r2 r3 r4 li fo tx co ke rf cp lk fl em tm rd)) : ∀ (n : Nat) (z : Int64 × Int32 × Tcn), lpF (bX5_digest_6 bk st li fo tx ) n z = some o → Wg X 6 [some (.ref 0), some (.long z.1), none, some (.int z.2.1), none] [] (mkH z.2.2 bk st r0 r1 r2 r3 r4 li fo tx co ke rf cp lk fl em tm rd) := by
  intro n
  induction n with
  | zero => intro z h; cases h
  | succ n ih =>
    intro z h
    obtain ⟨r, hB, h⟩ := bnd h
    refine sbX5_digest_6 X C cn bk st r0 r1 r2 r3 r4 li fo tx co ke rf cp lk fl em tm rd  z r hB (fun a e => ih a (by subst e; exact h)) (fun a e => e0 a (by subst e; exact (Option.some.inj h).symm))
set_option maxRecDepth 100000 in
set_option maxHeartbeats 4000000 in
theorem sbX5_digest_33 (X : CX) (C : Ok X RX5 cX5_digest wsX5_digest rX5_digest) (cn : Tcn) (bk : Tbk) (st : Tst) (r0 : Tbk) (r1 : Tbk) (r2 : Tbk) (r3 : Tbk) (r4 : Tbk) (li : Tli) (fo : Tfo) (tx : Ttx) (co : Tco) (ke : Tke) (rf : (Nat → Int32)) (cp : Int32) (lk : Tlk) (fl : Tfl) (em : Int32) (tm : Ttm) (rd : Trd)  (z : Int64 × Int32) (o : (Int64 × Int32) ⊕ Int64) (h : bX5_digest_33 cn bk st li fo tx  z = some o) (k0 : ∀ a : Int64 × Int32, o = .inl a → Wg X 33 [some (.ref 0), some (.long a.1), none, some (.int a.2), none] [] (mkH cn bk st r0 r1 r2 r3 r4 li fo tx co ke rf cp lk fl em tm rd)) (e0 : ∀ a : Int64, o = .inr a → Wg X 60 [some (.ref 0), some (.long a), none, none, none] [] (mkH cn bk st r0 r1 r2 r3 r4 li fo tx co ke rf cp lk fl em tm rd)) : Wg X 33 [some (.ref 0), some (.long z.1), none, some (.int z.2), none] [] (mkH cn bk st r0 r1 r2 r3 r4 li fo tx co ke rf cp lk fl em tm rd) := by
  unfold bX5_digest_33 at h
  refine wg_iload_n C dX5_digest_33 rfl ?_
  refine wg_iconst (v := 4) C dX5_digest_34 (by decide) ?_
  refine wg_icmp_ge (tgt := 60) C dX5_digest_35 (by decide) (fun c4 => ?_) (fun c4 => ?_)
  · replace h := ifP c4 h
    refine wg_drop (lv' := [some (.ref 0), some (.long z.1), none, none, none]) [3] rfl ?_
    have hk := e0 _ (Option.some.inj h).symm
    exact hk
  · replace h := ifN c4 h
    refine wg_ldcl (v := 31) C (by decide +kernel) dX5_digest_38 ?_
    refine wg_lload_n C dX5_digest_41 rfl ?_
    refine wg_lmul C dX5_digest_42 ?_
    refine wg_aload_n C dX5_digest_43 rfl ?_
    refine wg_get (v := .ref 1) C fgX5_digest_10 rfl rfl dX5_digest_44 ?_
    refine wg_iload_n C dX5_digest_47 rfl ?_
    obtain ⟨q5, e5q, h⟩ := bnd h
    refine wg_callV (n := 1) (As := [.int z.2]) (st := [.long ((31 : Int64) * z.1)]) (st' := [.int q5, .long ((31 : Int64) * z.1)]) C (sX0_rule cn bk st r0 r1 r2 r3 r4 li fo tx co ke rf cp lk fl em tm rd z.2 q5 e5q) gX5_digest_X0_rule rfl (by decide +kernel) ⟨⟨rfl, rfl⟩, Nat.le_of_ble_eq_true rfl, Nat.le_of_ble_eq_true rfl⟩ rfl rfl rfl rfl (Nat.le_of_ble_eq_true rfl) dX5_digest_48 rfl ?_
    refine wg_i2l C dX5_digest_51 ?_
    refine wg_ladd C dX5_digest_52 ?_
    refine wg_lstore_n (lv' := [some (.ref 0), some (.long (((31 : Int64) * z.1) + (q5).toInt64)), none, some (.int z.2), none]) C dX5_digest_53 (Nat.le_of_ble_eq_true rfl) rfl ?_
    refine wg_iinc (v := (z.2 + (1 : Int32))) (lv' := [some (.ref 0), some (.long (((31 : Int64) * z.1) + (q5).toInt64)), none, some (.int (z.2 + (1 : Int32))), none]) C dX5_digest_54 rfl rfl rfl ?_
    refine wg_goto (tgt := 33) C dX5_digest_57 (by decide) ?_
    have hk := k0 _ (Option.some.inj h).symm
    exact hk
set_option maxRecDepth 100000 in
set_option maxHeartbeats 4000000 in
theorem slX5_digest_33 (X : CX) (C : Ok X RX5 cX5_digest wsX5_digest rX5_digest) (cn : Tcn) (bk : Tbk) (st : Tst) (r0 : Tbk) (r1 : Tbk) (r2 : Tbk) (r3 : Tbk) (r4 : Tbk) (li : Tli) (fo : Tfo) (tx : Ttx) (co : Tco) (ke : Tke) (rf : (Nat → Int32)) (cp : Int32) (lk : Tlk) (fl : Tfl) (em : Int32) (tm : Ttm) (rd : Trd)  (o : Int64) (e0 : ∀ a : Int64, o = a → Wg X 60 [some (.ref 0), some (.long a), none, none, none] [] (mkH cn bk st r0 r1 r2 r3 r4 li fo tx co ke rf cp lk fl em tm rd)) : ∀ (n : Nat) (z : Int64 × Int32), lpF (bX5_digest_33 cn bk st li fo tx ) n z = some o → Wg X 33 [some (.ref 0), some (.long z.1), none, some (.int z.2), none] [] (mkH cn bk st r0 r1 r2 r3 r4 li fo tx co ke rf cp lk fl em tm rd) := by
  intro n
  induction n with
  | zero => intro z h; cases h
  | succ n ih =>
    intro z h
    obtain ⟨r, hB, h⟩ := bnd h
    refine sbX5_digest_33 X C cn bk st r0 r1 r2 r3 r4 li fo tx co ke rf cp lk fl em tm rd  z r hB (fun a e => ih a (by subst e; exact h)) (fun a e => e0 a (by subst e; exact (Option.some.inj h).symm))
set_option maxRecDepth 100000 in
set_option maxHeartbeats 4000000 in
theorem sbX5_digest_76 (X : CX) (C : Ok X RX5 cX5_digest wsX5_digest rX5_digest) (cn : Tcn) (bk : Tbk) (st : Tst) (r0 : Tbk) (r1 : Tbk) (r2 : Tbk) (r3 : Tbk) (r4 : Tbk) (li : Tli) (fo : Tfo) (tx : Ttx) (co : Tco) (ke : Tke) (rf : (Nat → Int32)) (cp : Int32) (lk : Tlk) (fl : Tfl) (em : Int32) (tm : Ttm) (rd : Trd) (x3 : Int32) (z : Int64 × Int32) (o : (Int64 × Int32) ⊕ Int64) (h : bX5_digest_76 cn bk st li fo tx x3 z = some o) (k0 : ∀ a : Int64 × Int32, o = .inl a → Wg X 76 [some (.ref 0), some (.long a.1), none, some (.int x3), some (.int a.2)] [] (mkH cn bk st r0 r1 r2 r3 r4 li fo tx co ke rf cp lk fl em tm rd)) (e0 : ∀ a : Int64, o = .inr a → Wg X 106 [some (.ref 0), some (.long a), none, some (.int x3), none] [] (mkH cn bk st r0 r1 r2 r3 r4 li fo tx co ke rf cp lk fl em tm rd)) : Wg X 76 [some (.ref 0), some (.long z.1), none, some (.int x3), some (.int z.2)] [] (mkH cn bk st r0 r1 r2 r3 r4 li fo tx co ke rf cp lk fl em tm rd) := by
  unfold bX5_digest_76 at h
  refine wg_iload C dX5_digest_76 rfl ?_
  refine wg_iconst (v := 4) C dX5_digest_78 (by decide) ?_
  refine wg_icmp_ge (tgt := 106) C dX5_digest_79 (by decide) (fun c9 => ?_) (fun c9 => ?_)
  · replace h := ifP c9 h
    refine wg_drop (lv' := [some (.ref 0), some (.long z.1), none, some (.int x3), none]) [4] rfl ?_
    have hk := e0 _ (Option.some.inj h).symm
    exact hk
  · replace h := ifN c9 h
    refine wg_ldcl (v := 31) C (by decide +kernel) dX5_digest_82 ?_
    refine wg_lload_n C dX5_digest_85 rfl ?_
    refine wg_lmul C dX5_digest_86 ?_
    refine wg_aload_n C dX5_digest_87 rfl ?_
    refine wg_get (v := .ref 1) C fgX5_digest_10 rfl rfl dX5_digest_88 ?_
    refine wg_iload_n C dX5_digest_91 rfl ?_
    refine wg_iload C dX5_digest_92 rfl ?_
    obtain ⟨q10, e10q, h⟩ := bnd h
    refine wg_callV (n := 2) (As := [.int x3, .int z.2]) (st := [.long ((31 : Int64) * z.1)]) (st' := [.int q10, .long ((31 : Int64) * z.1)]) C (sX0_member cn bk st r0 r1 r2 r3 r4 li fo tx co ke rf cp lk fl em tm rd x3 z.2 q10 e10q) gX5_digest_X0_member rfl (by decide +kernel) ⟨⟨rfl, rfl⟩, Nat.le_of_ble_eq_true rfl, Nat.le_of_ble_eq_true rfl⟩ rfl rfl rfl rfl (Nat.le_of_ble_eq_true rfl) dX5_digest_94 rfl ?_
    refine wg_i2l C dX5_digest_97 ?_
    refine wg_ladd C dX5_digest_98 ?_
    refine wg_lstore_n (lv' := [some (.ref 0), some (.long (((31 : Int64) * z.1) + (q10).toInt64)), none, some (.int x3), some (.int z.2)]) C dX5_digest_99 (Nat.le_of_ble_eq_true rfl) rfl ?_
    refine wg_iinc (v := (z.2 + (1 : Int32))) (lv' := [some (.ref 0), some (.long (((31 : Int64) * z.1) + (q10).toInt64)), none, some (.int x3), some (.int (z.2 + (1 : Int32)))]) C dX5_digest_100 rfl rfl rfl ?_
    refine wg_goto (tgt := 76) C dX5_digest_103 (by decide) ?_
    have hk := k0 _ (Option.some.inj h).symm
    exact hk
set_option maxRecDepth 100000 in
set_option maxHeartbeats 4000000 in
theorem slX5_digest_76 (X : CX) (C : Ok X RX5 cX5_digest wsX5_digest rX5_digest) (cn : Tcn) (bk : Tbk) (st : Tst) (r0 : Tbk) (r1 : Tbk) (r2 : Tbk) (r3 : Tbk) (r4 : Tbk) (li : Tli) (fo : Tfo) (tx : Ttx) (co : Tco) (ke : Tke) (rf : (Nat → Int32)) (cp : Int32) (lk : Tlk) (fl : Tfl) (em : Int32) (tm : Ttm) (rd : Trd) (x3 : Int32) (o : Int64) (e0 : ∀ a : Int64, o = a → Wg X 106 [some (.ref 0), some (.long a), none, some (.int x3), none] [] (mkH cn bk st r0 r1 r2 r3 r4 li fo tx co ke rf cp lk fl em tm rd)) : ∀ (n : Nat) (z : Int64 × Int32), lpF (bX5_digest_76 cn bk st li fo tx x3) n z = some o → Wg X 76 [some (.ref 0), some (.long z.1), none, some (.int x3), some (.int z.2)] [] (mkH cn bk st r0 r1 r2 r3 r4 li fo tx co ke rf cp lk fl em tm rd) := by
  intro n
  induction n with
  | zero => intro z h; cases h
  | succ n ih =>
    intro z h
    obtain ⟨r, hB, h⟩ := bnd h
    refine sbX5_digest_76 X C cn bk st r0 r1 r2 r3 r4 li fo tx co ke rf cp lk fl em tm rd x3 z r hB (fun a e => ih a (by subst e; exact h)) (fun a e => e0 a (by subst e; exact (Option.some.inj h).symm))
set_option maxRecDepth 100000 in
set_option maxHeartbeats 4000000 in
theorem sbX5_digest_62 (X : CX) (C : Ok X RX5 cX5_digest wsX5_digest rX5_digest) (cn : Tcn) (bk : Tbk) (st : Tst) (r0 : Tbk) (r1 : Tbk) (r2 : Tbk) (r3 : Tbk) (r4 : Tbk) (li : Tli) (fo : Tfo) (tx : Ttx) (co : Tco) (ke : Tke) (rf : (Nat → Int32)) (cp : Int32) (lk : Tlk) (fl : Tfl) (em : Int32) (tm : Ttm) (rd : Trd)  (z : Int64 × Int32) (o : (Int64 × Int32) ⊕ Int64) (h : bX5_digest_62 cn bk st li fo tx  z = some o) (k0 : ∀ a : Int64 × Int32, o = .inl a → Wg X 62 [some (.ref 0), some (.long a.1), none, some (.int a.2), none] [] (mkH cn bk st r0 r1 r2 r3 r4 li fo tx co ke rf cp lk fl em tm rd)) (e0 : ∀ a : Int64, o = .inr a → Wg X 112 [some (.ref 0), some (.long a), none, none, none] [] (mkH cn bk st r0 r1 r2 r3 r4 li fo tx co ke rf cp lk fl em tm rd)) : Wg X 62 [some (.ref 0), some (.long z.1), none, some (.int z.2), none] [] (mkH cn bk st r0 r1 r2 r3 r4 li fo tx co ke rf cp lk fl em tm rd) := by
  unfold bX5_digest_62 at h
  refine wg_iload_n C dX5_digest_62 rfl ?_
  refine wg_aload_n C dX5_digest_63 rfl ?_
  refine wg_get (v := .ref 1) C fgX5_digest_10 rfl rfl dX5_digest_64 ?_
  obtain ⟨q7, e7q, h⟩ := bnd h
  refine wg_callV (n := 0) (As := []) (st := [.int z.2]) (st' := [.int q7, .int z.2]) C (sX0_days cn bk st r0 r1 r2 r3 r4 li fo tx co ke rf cp lk fl em tm rd  q7 e7q) gX5_digest_X0_days rfl (by decide +kernel) ⟨⟨rfl, rfl⟩, Nat.le_of_ble_eq_true rfl, Nat.le_of_ble_eq_true rfl⟩ rfl rfl rfl rfl (Nat.le_of_ble_eq_true rfl) dX5_digest_67 rfl ?_
  refine wg_icmp_ge (tgt := 112) C dX5_digest_70 (by decide) (fun c8 => ?_) (fun c8 => ?_)
  · replace h := ifP c8 h
    refine wg_drop (lv' := [some (.ref 0), some (.long z.1), none, none, none]) [3] rfl ?_
    have hk := e0 _ (Option.some.inj h).symm
    exact hk
  · replace h := ifN c8 h
    refine wg_iconst (v := 0) C dX5_digest_73 (by decide) ?_
    refine wg_istore (lv' := [some (.ref 0), some (.long z.1), none, some (.int z.2), some (.int (0 : Int32))]) C dX5_digest_74 (Nat.le_of_ble_eq_true rfl) rfl ?_
    obtain ⟨t11, hL11, h⟩ := bnd h
    refine slX5_digest_76 X C cn bk st r0 r1 r2 r3 r4 li fo tx co ke rf cp lk fl em tm rd z.2 t11 (fun a e => ?_) FU (z.1, (0 : Int32)) hL11
    subst e
    refine wg_iinc (v := (z.2 + (1 : Int32))) (lv' := [some (.ref 0), some (.long t11), none, some (.int (z.2 + (1 : Int32))), none]) C dX5_digest_106 rfl rfl rfl ?_
    refine wg_goto (tgt := 62) C dX5_digest_109 (by decide) ?_
    have hk := k0 _ (Option.some.inj h).symm
    exact hk
set_option maxRecDepth 100000 in
set_option maxHeartbeats 4000000 in
theorem slX5_digest_62 (X : CX) (C : Ok X RX5 cX5_digest wsX5_digest rX5_digest) (cn : Tcn) (bk : Tbk) (st : Tst) (r0 : Tbk) (r1 : Tbk) (r2 : Tbk) (r3 : Tbk) (r4 : Tbk) (li : Tli) (fo : Tfo) (tx : Ttx) (co : Tco) (ke : Tke) (rf : (Nat → Int32)) (cp : Int32) (lk : Tlk) (fl : Tfl) (em : Int32) (tm : Ttm) (rd : Trd)  (o : Int64) (e0 : ∀ a : Int64, o = a → Wg X 112 [some (.ref 0), some (.long a), none, none, none] [] (mkH cn bk st r0 r1 r2 r3 r4 li fo tx co ke rf cp lk fl em tm rd)) : ∀ (n : Nat) (z : Int64 × Int32), lpF (bX5_digest_62 cn bk st li fo tx ) n z = some o → Wg X 62 [some (.ref 0), some (.long z.1), none, some (.int z.2), none] [] (mkH cn bk st r0 r1 r2 r3 r4 li fo tx co ke rf cp lk fl em tm rd) := by
  intro n
  induction n with
  | zero => intro z h; cases h
  | succ n ih =>
    intro z h
    obtain ⟨r, hB, h⟩ := bnd h
    refine sbX5_digest_62 X C cn bk st r0 r1 r2 r3 r4 li fo tx co ke rf cp lk fl em tm rd  z r hB (fun a e => ih a (by subst e; exact h)) (fun a e => e0 a (by subst e; exact (Option.some.inj h).symm))
set_option maxRecDepth 100000 in
set_option maxHeartbeats 4000000 in
theorem sbX5_digest_114 (X : CX) (C : Ok X RX5 cX5_digest wsX5_digest rX5_digest) (cn : Tcn) (bk : Tbk) (st : Tst) (r0 : Tbk) (r1 : Tbk) (r2 : Tbk) (r3 : Tbk) (r4 : Tbk) (li : Tli) (fo : Tfo) (tx : Ttx) (co : Tco) (ke : Tke) (rf : (Nat → Int32)) (cp : Int32) (lk : Tlk) (fl : Tfl) (em : Int32) (tm : Ttm) (rd : Trd)  (z : Int64 × Int32 × Tcn × Tli) (o : (Int64 × Int32 × Tcn × Tli) ⊕ (Int64 × Tcn × Tli)) (h : bX5_digest_114 bk st fo tx  z = some o) (k0 : ∀ a : Int64 × Int32 × Tcn × Tli, o = .inl a → Wg X 114 [some (.ref 0), some (.long a.1), none, some (.int a.2.1), none] [] (mkH a.2.2.1 bk st r0 r1 r2 r3 r4 a.2.2.2 fo tx co ke rf cp lk fl em tm rd)) (e0 : ∀ a : Int64 × Tcn × Tli, o = .inr a → Wg X 161 [some (.ref 0), some (.long a.1), none, none, none] [] (mkH a.2.1 bk st r0 r1 r2 r3 r4 a.2.2 fo tx co ke rf cp lk fl em tm rd)) : Wg X 114 [some (.ref 0), some (.long z.1), none, some (.int z.2.1), none] [] (mkH z.2.2.1 bk st r0 r1 r2 r3 r4 z.2.2.2 fo tx co ke rf cp lk fl em tm rd) := by
  unfold bX5_digest_114 at h
  refine wg_iload_n C dX5_digest_114 rfl ?_
  refine wg_aload_n C dX5_digest_115 rfl ?_
  refine wg_get (v := .ref 1) C fgX5_digest_10 rfl rfl dX5_digest_116 ?_
  obtain ⟨q13, e13q, h⟩ := bnd h
  refine wg_callV (n := 0) (As := []) (st := [.int z.2.1]) (st' := [.int q13, .int z.2.1]) C (sX0_days z.2.2.1 bk st r0 r1 r2 r3 r4 z.2.2.2 fo tx co ke rf cp lk fl em tm rd  q13 e13q) gX5_digest_X0_days rfl (by decide +kernel) ⟨⟨rfl, rfl⟩, Nat.le_of_ble_eq_true rfl, Nat.le_of_ble_eq_true rfl⟩ rfl rfl rfl rfl (Nat.le_of_ble_eq_true rfl) dX5_digest_119 rfl ?_
  refine wg_icmp_ge (tgt := 161) C dX5_digest_122 (by decide) (fun c14 => ?_) (fun c14 => ?_)
  · replace h := ifP c14 h
    refine wg_drop (lv' := [some (.ref 0), some (.long z.1), none, none, none]) [3] rfl ?_
    have hk := e0 _ (Option.some.inj h).symm
    exact hk
  · replace h := ifN c14 h
    refine wg_ldcl (v := 31) C (by decide +kernel) dX5_digest_125 ?_
    refine wg_lload_n C dX5_digest_128 rfl ?_
    refine wg_lmul C dX5_digest_129 ?_
    refine wg_aload_n C dX5_digest_130 rfl ?_
    refine wg_iload_n C dX5_digest_131 rfl ?_
    refine wg_iconst (v := 0) C dX5_digest_132 (by decide) ?_
    refine wg_iconst (v := 0) C dX5_digest_133 (by decide) ?_
    obtain ⟨q15, e15q, h⟩ := bnd h
    refine wg_callV (n := 3) (As := [.int z.2.1, .int (0 : Int32), .int (0 : Int32)]) (st := [.long ((31 : Int64) * z.1)]) (st' := [.int q15.1, .long ((31 : Int64) * z.1)]) C (sX5_nearest z.2.2.1 bk st r0 r1 r2 r3 r4 z.2.2.2 fo tx co ke rf cp lk fl em tm rd z.2.1 (0 : Int32) (0 : Int32) q15 e15q) gX5_digest_X5_nearest rfl (by decide +kernel) ⟨⟨rfl, rfl⟩, Nat.le_of_ble_eq_true rfl, Nat.le_of_ble_eq_true rfl⟩ rfl rfl rfl rfl (Nat.le_of_ble_eq_true rfl) dX5_digest_134 rfl ?_
    refine wg_i2l C dX5_digest_137 ?_
    refine wg_ladd C dX5_digest_138 ?_
    refine wg_lstore_n (lv' := [some (.ref 0), some (.long (((31 : Int64) * z.1) + (q15.1).toInt64)), none, some (.int z.2.1), none]) C dX5_digest_139 (Nat.le_of_ble_eq_true rfl) rfl ?_
    refine wg_ldcl (v := 31) C (by decide +kernel) dX5_digest_140 ?_
    refine wg_lload_n C dX5_digest_143 rfl ?_
    refine wg_lmul C dX5_digest_144 ?_
    refine wg_aload_n C dX5_digest_145 rfl ?_
    refine wg_iload_n C dX5_digest_146 rfl ?_
    refine wg_iconst (v := 0) C dX5_digest_147 (by decide) ?_
    refine wg_iconst (v := 1) C dX5_digest_148 (by decide) ?_
    obtain ⟨q16, e16q, h⟩ := bnd h
    refine wg_callV (n := 3) (As := [.int z.2.1, .int (0 : Int32), .int (1 : Int32)]) (st := [.long ((31 : Int64) * (((31 : Int64) * z.1) + (q15.1).toInt64))]) (st' := [.int q16.1, .long ((31 : Int64) * (((31 : Int64) * z.1) + (q15.1).toInt64))]) C (sX5_nearest q15.2.1 bk st r0 r1 r2 r3 r4 q15.2.2 fo tx co ke rf cp lk fl em tm rd z.2.1 (0 : Int32) (1 : Int32) q16 e16q) gX5_digest_X5_nearest rfl (by decide +kernel) ⟨⟨rfl, rfl⟩, Nat.le_of_ble_eq_true rfl, Nat.le_of_ble_eq_true rfl⟩ rfl rfl rfl rfl (Nat.le_of_ble_eq_true rfl) dX5_digest_149 rfl ?_
    refine wg_i2l C dX5_digest_152 ?_
    refine wg_ladd C dX5_digest_153 ?_
    refine wg_lstore_n (lv' := [some (.ref 0), some (.long (((31 : Int64) * (((31 : Int64) * z.1) + (q15.1).toInt64)) + (q16.1).toInt64)), none, some (.int z.2.1), none]) C dX5_digest_154 (Nat.le_of_ble_eq_true rfl) rfl ?_
    refine wg_iinc (v := (z.2.1 + (1 : Int32))) (lv' := [some (.ref 0), some (.long (((31 : Int64) * (((31 : Int64) * z.1) + (q15.1).toInt64)) + (q16.1).toInt64)), none, some (.int (z.2.1 + (1 : Int32))), none]) C dX5_digest_155 rfl rfl rfl ?_
    refine wg_goto (tgt := 114) C dX5_digest_158 (by decide) ?_
    have hk := k0 _ (Option.some.inj h).symm
    exact hk
set_option maxRecDepth 100000 in
set_option maxHeartbeats 4000000 in
theorem slX5_digest_114 (X : CX) (C : Ok X RX5 cX5_digest wsX5_digest rX5_digest) (cn : Tcn) (bk : Tbk) (st : Tst) (r0 : Tbk) (r1 : Tbk) (r2 : Tbk) (r3 : Tbk) (r4 : Tbk) (li : Tli) (fo : Tfo) (tx : Ttx) (co : Tco) (ke : Tke) (rf : (Nat → Int32)) (cp : Int32) (lk : Tlk) (fl : Tfl) (em : Int32) (tm : Ttm) (rd : Trd)  (o : (Int64 × Tcn × Tli)) (e0 : ∀ a : Int64 × Tcn × Tli, o = a → Wg X 161 [some (.ref 0), some (.long a.1), none, none, none] [] (mkH a.2.1 bk st r0 r1 r2 r3 r4 a.2.2 fo tx co ke rf cp lk fl em tm rd)) : ∀ (n : Nat) (z : Int64 × Int32 × Tcn × Tli), lpF (bX5_digest_114 bk st fo tx ) n z = some o → Wg X 114 [some (.ref 0), some (.long z.1), none, some (.int z.2.1), none] [] (mkH z.2.2.1 bk st r0 r1 r2 r3 r4 z.2.2.2 fo tx co ke rf cp lk fl em tm rd) := by
  intro n
  induction n with
  | zero => intro z h; cases h
  | succ n ih =>
    intro z h
    obtain ⟨r, hB, h⟩ := bnd h
    refine sbX5_digest_114 X C cn bk st r0 r1 r2 r3 r4 li fo tx co ke rf cp lk fl em tm rd  z r hB (fun a e => ih a (by subst e; exact h)) (fun a e => e0 a (by subst e; exact (Option.some.inj h).symm))
set_option maxRecDepth 100000 in
set_option maxHeartbeats 4000000 in
theorem sX5_digest (cn : Tcn) (bk : Tbk) (st : Tst) (r0 : Tbk) (r1 : Tbk) (r2 : Tbk) (r3 : Tbk) (r4 : Tbk) (li : Tli) (fo : Tfo) (tx : Ttx) (co : Tco) (ke : Tke) (rf : (Nat → Int32)) (cp : Int32) (lk : Tlk) (fl : Tfl) (em : Int32) (tm : Ttm) (rd : Trd)  (o : Int64 × Tcn × Tli × Tfo) (h : fX5_digest cn bk st li fo tx  = some o) : Sp yX5_digest wsX5_digest rX5_digest [.ref 0] (mkH cn bk st r0 r1 r2 r3 r4 li fo tx co ke rf cp lk fl em tm rd) (some (.long o.1)) (mkH o.2.1 bk st r0 r1 r2 r3 r4 o.2.2.1 o.2.2.2 tx co ke rf cp lk fl em tm rd) := by
  refine Sp.of (lv := [some (.ref 0), none, none, none, none]) RX5 (by decide +kernel) rfl (Nat.le_of_ble_eq_true rfl) rfl ?_
  intro X C hT
  unfold fX5_digest at h
  refine wg_ldcl (v := 2161) C (by decide +kernel) dX5_digest_0 ?_
  refine wg_lstore_n (lv' := [some (.ref 0), some (.long (2161 : Int64)), none, none, none]) C dX5_digest_3 (Nat.le_of_ble_eq_true rfl) rfl ?_
  refine wg_iconst (v := 0) C dX5_digest_4 (by decide) ?_
  refine wg_istore_n (lv' := [some (.ref 0), some (.long (2161 : Int64)), none, some (.int (0 : Int32)), none]) C dX5_digest_5 (Nat.le_of_ble_eq_true rfl) rfl ?_
  obtain ⟨t3, hL3, h⟩ := bnd h
  refine slX5_digest_6 X C cn bk st r0 r1 r2 r3 r4 li fo tx co ke rf cp lk fl em tm rd  t3 (fun a e => ?_) FU ((2161 : Int64), (0 : Int32), cn) hL3
  subst e
  refine wg_iconst (v := 0) C dX5_digest_31 (by decide) ?_
  refine wg_istore_n (lv' := [some (.ref 0), some (.long t3.1), none, some (.int (0 : Int32)), none]) C dX5_digest_32 (Nat.le_of_ble_eq_true rfl) rfl ?_
  obtain ⟨t6, hL6, h⟩ := bnd h
  refine slX5_digest_33 X C t3.2 bk st r0 r1 r2 r3 r4 li fo tx co ke rf cp lk fl em tm rd  t6 (fun a e => ?_) FU (t3.1, (0 : Int32)) hL6
  subst e
  refine wg_iconst (v := 0) C dX5_digest_60 (by decide) ?_
  refine wg_istore_n (lv' := [some (.ref 0), some (.long t6), none, some (.int (0 : Int32)), none]) C dX5_digest_61 (Nat.le_of_ble_eq_true rfl) rfl ?_
  obtain ⟨t12, hL12, h⟩ := bnd h
  refine slX5_digest_62 X C t3.2 bk st r0 r1 r2 r3 r4 li fo tx co ke rf cp lk fl em tm rd  t12 (fun a e => ?_) FU (t6, (0 : Int32)) hL12
  subst e
  refine wg_iconst (v := 0) C dX5_digest_112 (by decide) ?_
  refine wg_istore_n (lv' := [some (.ref 0), some (.long t12), none, some (.int (0 : Int32)), none]) C dX5_digest_113 (Nat.le_of_ble_eq_true rfl) rfl ?_
  obtain ⟨t17, hL17, h⟩ := bnd h
  refine slX5_digest_114 X C t3.2 bk st r0 r1 r2 r3 r4 li fo tx co ke rf cp lk fl em tm rd  t17 (fun a e => ?_) FU (t12, (0 : Int32), t3.2, li) hL17
  subst e
  refine wg_ldcl (v := 31) C (by decide +kernel) dX5_digest_161 ?_
  refine wg_lload_n C dX5_digest_164 rfl ?_
  refine wg_lmul C dX5_digest_165 ?_
  refine wg_aload_n C dX5_digest_166 rfl ?_
  refine wg_iconst (v := 0) C dX5_digest_167 (by decide) ?_
  obtain ⟨q18, e18q, h⟩ := bnd h
  refine wg_callV (n := 1) (As := [.int (0 : Int32)]) (st := [.long ((31 : Int64) * t17.1)]) (st' := [.int q18.1, .long ((31 : Int64) * t17.1)]) C (sX5_errs t17.2.1 bk st r0 r1 r2 r3 r4 t17.2.2 fo tx co ke rf cp lk fl em tm rd (0 : Int32) q18 e18q) gX5_digest_X5_errs rfl (by decide +kernel) ⟨⟨rfl, rfl⟩, Nat.le_of_ble_eq_true rfl, Nat.le_of_ble_eq_true rfl⟩ rfl rfl rfl rfl (Nat.le_of_ble_eq_true rfl) dX5_digest_168 rfl ?_
  refine wg_i2l C dX5_digest_171 ?_
  refine wg_ladd C dX5_digest_172 ?_
  obtain rfl := Option.some.inj h
  exact wg_lret C hT dX5_digest_173
abbrev rX6_in : Room := { frames := 0, cells := 0, slots := 0, locals := 0 }
set_option maxRecDepth 100000 in
set_option maxHeartbeats 4000000 in
theorem sjX6_in_15 (X : CX) (C : Ok X RX6 cX6_in wsX6_in rX6_in) (cn : Tcn) (bk : Tbk) (st : Tst) (r0 : Tbk) (r1 : Tbk) (r2 : Tbk) (r3 : Tbk) (r4 : Tbk) (li : Tli) (fo : Tfo) (tx : Ttx) (co : Tco) (ke : Tke) (rf : (Nat → Int32)) (cp : Int32) (lk : Tlk) (fl : Tfl) (em : Int32) (tm : Ttm) (rd : Trd) (y0 : Int32) (o : Int32) (h : jX6_in_15  y0 = some o) (hT : Rt X (some .boolean) (some (.int o)) (mkH cn bk st r0 r1 r2 r3 r4 li fo tx co ke rf cp lk fl em tm rd)) : Wg X 15 [none, none, none] [.int y0] (mkH cn bk st r0 r1 r2 r3 r4 li fo tx co ke rf cp lk fl em tm rd) := by
  unfold jX6_in_15 at h
  obtain ⟨g2, h⟩ := gdP h
  obtain rfl := Option.some.inj h
  exact wg_zret C hT (of_decide_eq_true g2) dX6_in_15
set_option maxRecDepth 100000 in
set_option maxHeartbeats 4000000 in
theorem sjX6_in_14 (X : CX) (C : Ok X RX6 cX6_in wsX6_in rX6_in) (cn : Tcn) (bk : Tbk) (st : Tst) (r0 : Tbk) (r1 : Tbk) (r2 : Tbk) (r3 : Tbk) (r4 : Tbk) (li : Tli) (fo : Tfo) (tx : Ttx) (co : Tco) (ke : Tke) (rf : (Nat → Int32)) (cp : Int32) (lk : Tlk) (fl : Tfl) (em : Int32) (tm : Ttm) (rd : Trd)  (o : Int32) (h : jX6_in_14   = some o) (hT : Rt X (some .boolean) (some (.int o)) (mkH cn bk st r0 r1 r2 r3 r4 li fo tx co ke rf cp lk fl em tm rd)) : Wg X 14 [none, none, none] [] (mkH cn bk st r0 r1 r2 r3 r4 li fo tx co ke rf cp lk fl em tm rd) := by
  unfold jX6_in_14 at h
  refine wg_iconst (v := 0) C dX6_in_14 (by decide) ?_
  exact sjX6_in_15 X C cn bk st r0 r1 r2 r3 r4 li fo tx co ke rf cp lk fl em tm rd (0 : Int32) _ h hT
set_option maxRecDepth 100000 in
set_option maxHeartbeats 4000000 in
theorem sX6_in (cn : Tcn) (bk : Tbk) (st : Tst) (r0 : Tbk) (r1 : Tbk) (r2 : Tbk) (r3 : Tbk) (r4 : Tbk) (li : Tli) (fo : Tfo) (tx : Ttx) (co : Tco) (ke : Tke) (rf : (Nat → Int32)) (cp : Int32) (lk : Tlk) (fl : Tfl) (em : Int32) (tm : Ttm) (rd : Trd) (x0 : Int32) (x1 : Int32) (x2 : Int32) (o : Int32) (h : fX6_in  x0 x1 x2 = some o) : Sp yX6_in wsX6_in rX6_in [.int x0, .int x1, .int x2] (mkH cn bk st r0 r1 r2 r3 r4 li fo tx co ke rf cp lk fl em tm rd) (some (.int o)) (mkH cn bk st r0 r1 r2 r3 r4 li fo tx co ke rf cp lk fl em tm rd) := by
  refine Sp.of (lv := [some (.int x0), some (.int x1), some (.int x2)]) RX6 (by decide +kernel) rfl (Nat.le_of_ble_eq_true rfl) rfl ?_
  intro X C hT
  unfold fX6_in at h
  refine wg_iload_n C dX6_in_0 rfl ?_
  refine wg_iload_n C dX6_in_1 rfl ?_
  refine wg_icmp_lt (tgt := 14) C dX6_in_2 (by decide) (fun c1 => ?_) (fun c1 => ?_)
  · replace h := ifP c1 h
    refine wg_drop (lv' := [none, none, none]) [0, 1, 2] rfl ?_
    exact sjX6_in_14 X C cn bk st r0 r1 r2 r3 r4 li fo tx co ke rf cp lk fl em tm rd  _ h hT
  · replace h := ifN c1 h
    refine wg_iload_n C dX6_in_5 rfl ?_
    refine wg_iload_n C dX6_in_6 rfl ?_
    refine wg_icmp_gt (tgt := 14) C dX6_in_7 (by decide) (fun c3 => ?_) (fun c3 => ?_)
    · replace h := ifP c3 h
      refine wg_drop (lv' := [none, none, none]) [0, 1, 2] rfl ?_
      exact sjX6_in_14 X C cn bk st r0 r1 r2 r3 r4 li fo tx co ke rf cp lk fl em tm rd  _ h hT
    · replace h := ifN c3 h
      refine wg_iconst (v := 1) C dX6_in_10 (by decide) ?_
      refine wg_goto (tgt := 15) C dX6_in_11 (by decide) ?_
      refine wg_drop (lv' := [none, none, none]) [0, 1, 2] rfl ?_
      exact sjX6_in_15 X C cn bk st r0 r1 r2 r3 r4 li fo tx co ke rf cp lk fl em tm rd (1 : Int32) _ h hT
abbrev rX6_may : Room := { frames := 1, cells := 0, slots := 0, locals := 22 }
set_option maxRecDepth 100000 in
set_option maxHeartbeats 4000000 in
theorem sjX6_may_25 (X : CX) (C : Ok X RX6 cX6_may wsX6_may rX6_may) (cn : Tcn) (bk : Tbk) (st : Tst) (r0 : Tbk) (r1 : Tbk) (r2 : Tbk) (r3 : Tbk) (r4 : Tbk) (li : Tli) (fo : Tfo) (tx : Ttx) (co : Tco) (ke : Tke) (rf : (Nat → Int32)) (cp : Int32) (lk : Tlk) (fl : Tfl) (em : Int32) (tm : Ttm) (rd : Trd) (y0 : Int32) (o : Int32) (h : jX6_may_25  y0 = some o) (hT : Rt X (some .boolean) (some (.int o)) (mkH cn bk st r0 r1 r2 r3 r4 li fo tx co ke rf cp lk fl em tm rd)) : Wg X 25 [none] [.int y0] (mkH cn bk st r0 r1 r2 r3 r4 li fo tx co ke rf cp lk fl em tm rd) := by
  unfold jX6_may_25 at h
  obtain ⟨g2, h⟩ := gdP h
  obtain rfl := Option.some.inj h
  exact wg_zret C hT (of_decide_eq_true g2) dX6_may_25
set_option maxRecDepth 100000 in
set_option maxHeartbeats 4000000 in
theorem sjX6_may_20 (X : CX) (C : Ok X RX6 cX6_may wsX6_may rX6_may) (cn : Tcn) (bk : Tbk) (st : Tst) (r0 : Tbk) (r1 : Tbk) (r2 : Tbk) (r3 : Tbk) (r4 : Tbk) (li : Tli) (fo : Tfo) (tx : Ttx) (co : Tco) (ke : Tke) (rf : (Nat → Int32)) (cp : Int32) (lk : Tlk) (fl : Tfl) (em : Int32) (tm : Ttm) (rd : Trd)  (o : Int32) (h : jX6_may_20   = some o) (hT : Rt X (some .boolean) (some (.int o)) (mkH cn bk st r0 r1 r2 r3 r4 li fo tx co ke rf cp lk fl em tm rd)) : Wg X 20 [none] [] (mkH cn bk st r0 r1 r2 r3 r4 li fo tx co ke rf cp lk fl em tm rd) := by
  unfold jX6_may_20 at h
  refine wg_iconst (v := 1) C dX6_may_20 (by decide) ?_
  refine wg_goto (tgt := 25) C dX6_may_21 (by decide) ?_
  exact sjX6_may_25 X C cn bk st r0 r1 r2 r3 r4 li fo tx co ke rf cp lk fl em tm rd (1 : Int32) _ h hT
set_option maxRecDepth 100000 in
set_option maxHeartbeats 4000000 in
theorem sX6_may (cn : Tcn) (bk : Tbk) (st : Tst) (r0 : Tbk) (r1 : Tbk) (r2 : Tbk) (r3 : Tbk) (r4 : Tbk) (li : Tli) (fo : Tfo) (tx : Ttx) (co : Tco) (ke : Tke) (rf : (Nat → Int32)) (cp : Int32) (lk : Tlk) (fl : Tfl) (em : Int32) (tm : Ttm) (rd : Trd) (x0 : Int32) (o : Int32) (h : fX6_may  x0 = some o) : Sp yX6_may wsX6_may rX6_may [.int x0] (mkH cn bk st r0 r1 r2 r3 r4 li fo tx co ke rf cp lk fl em tm rd) (some (.int o)) (mkH cn bk st r0 r1 r2 r3 r4 li fo tx co ke rf cp lk fl em tm rd) := by
  refine Sp.of (lv := [some (.int x0)]) RX6 (by decide +kernel) rfl (Nat.le_of_ble_eq_true rfl) rfl ?_
  intro X C hT
  unfold fX6_may at h
  refine wg_iload_n C dX6_may_0 rfl ?_
  refine wg_sipush (v := -10000) C dX6_may_1 (by decide) ?_
  refine wg_icmp_eq (tgt := 20) C dX6_may_4 (by decide) (fun c1 => ?_) (fun c1 => ?_)
  · replace h := ifP c1 h
    refine wg_drop (lv' := [none]) [0] rfl ?_
    exact sjX6_may_20 X C cn bk st r0 r1 r2 r3 r4 li fo tx co ke rf cp lk fl em tm rd  _ h hT
  · replace h := ifN c1 h
    refine wg_iload_n C dX6_may_7 rfl ?_
    refine wg_sipush (v := -999) C dX6_may_8 (by decide) ?_
    refine wg_sipush (v := 999) C dX6_may_11 (by decide) ?_
    obtain ⟨q3, e3q, h⟩ := bnd h
    refine wg_callT (n := 3) (As := [.int x0, .int (-999 : Int32), .int (999 : Int32)]) (st := []) (st' := [.int q3]) C (sX6_in cn bk st r0 r1 r2 r3 r4 li fo tx co ke rf cp lk fl em tm rd x0 (-999 : Int32) (999 : Int32) q3 e3q) gX6_may_X6_in rfl (by decide +kernel) ⟨⟨rfl, rfl⟩, Nat.le_of_ble_eq_true rfl, Nat.le_of_ble_eq_true rfl⟩ rfl rfl (Nat.le_of_ble_eq_true rfl) dX6_may_14 rfl ?_
    refine wg_if_eq (tgt := 24) C dX6_may_17 (by decide) (fun c4 => ?_) (fun c4 => ?_)
    · replace h := ifP c4 h
      refine wg_iconst (v := 0) C dX6_may_24 (by decide) ?_
      refine wg_drop (lv' := [none]) [0] rfl ?_
      exact sjX6_may_25 X C cn bk st r0 r1 r2 r3 r4 li fo tx co ke rf cp lk fl em tm rd (0 : Int32) _ h hT
    · replace h := ifN c4 h
      refine wg_drop (lv' := [none]) [0] rfl ?_
      exact sjX6_may_20 X C cn bk st r0 r1 r2 r3 r4 li fo tx co ke rf cp lk fl em tm rd  _ h hT
abbrev rX6_bad : Room := { frames := 0, cells := 0, slots := 0, locals := 0 }
theorem iwX6_bad_6 : ∀ w ∈ wsX60, w ∈ wsX6_bad := by decide +kernel
theorem fgX6_bad_1 : FG wsX6_bad RX6 1 6 0 := ⟨RX6, TX6, 21, rfl, by decide, by decide +kernel, iwX6_bad_6⟩
set_option maxRecDepth 100000 in
set_option maxHeartbeats 4000000 in
theorem sX6_bad (cn : Tcn) (bk : Tbk) (st : Tst) (r0 : Tbk) (r1 : Tbk) (r2 : Tbk) (r3 : Tbk) (r4 : Tbk) (li : Tli) (fo : Tfo) (tx : Ttx) (co : Tco) (ke : Tke) (rf : (Nat → Int32)) (cp : Int32) (lk : Tlk) (fl : Tfl) (em : Int32) (tm : Ttm) (rd : Trd)  (o : Int32 × (Nat → Int32)) (h : fX6_bad rf  = some o) : Sp yX6_bad wsX6_bad rX6_bad [.ref 36] (mkH cn bk st r0 r1 r2 r3 r4 li fo tx co ke rf cp lk fl em tm rd) (some (.int o.1)) (mkH cn bk st r0 r1 r2 r3 r4 li fo tx co ke o.2 cp lk fl em tm rd) := by
  refine Sp.of (lv := [some (.ref 36)]) RX6 (by decide +kernel) rfl (Nat.le_of_ble_eq_true rfl) rfl ?_
  intro X C hT
  unfold fX6_bad at h
  refine wg_aload_n C dX6_bad_0 rfl ?_
  refine wg_get (v := .ref 37) C fgX6_bad_1 rfl rfl dX6_bad_1 ?_
  refine wg_iconst (v := 0) C dX6_bad_4 (by decide) ?_
  refine wg_dup2 C dX6_bad_5 rfl rfl ?_
  obtain ⟨g1, h⟩ := gdP h
  refine wg_iald (f := rf) (n := 3) C rfl g1 dX6_bad_6 ?_
  refine wg_iconst (v := 1) C dX6_bad_7 (by decide) ?_
  refine wg_iadd C dX6_bad_8 ?_
  obtain ⟨g2, h⟩ := gdP h
  refine wg_iast (f := rf) (n := 3) (hp' := (mkH cn bk st r0 r1 r2 r3 r4 li fo tx co ke (upd rf ((0 : Int32)).toNatClampNeg ((rf ((0 : Int32)).toNatClampNeg) + (1 : Int32))) cp lk fl em tm rd)) C rfl g2 rfl dX6_bad_9 ?_
  refine wg_bipush (v := -2) C dX6_bad_10 (by decide) ?_
  obtain rfl := Option.some.inj h
  exact wg_iret C hT dX6_bad_12
abbrev rX6_leavesState : Room := { frames := 0, cells := 0, slots := 0, locals := 0 }
theorem iwX6_leavesState_6 : ∀ w ∈ wsX60, w ∈ wsX6_leavesState := by decide +kernel
theorem fgX6_leavesState_13 : FG wsX6_leavesState RX6 13 6 2 := ⟨RX6, TX6, 21, rfl, by decide, by decide +kernel, iwX6_leavesState_6⟩
theorem fgX6_leavesState_16 : FG wsX6_leavesState RX6 16 6 3 := ⟨RX6, TX6, 21, rfl, by decide, by decide +kernel, iwX6_leavesState_6⟩
theorem fgX6_leavesState_19 : FG wsX6_leavesState RX6 19 6 5 := ⟨RX6, TX6, 21, rfl, by decide, by decide +kernel, iwX6_leavesState_6⟩
theorem fgX6_leavesState_48 : FG wsX6_leavesState RX6 48 6 1 := ⟨RX6, TX6, 21, rfl, by decide, by decide +kernel, iwX6_leavesState_6⟩
theorem fgX6_leavesState_52 : FG wsX6_leavesState RX6 52 6 4 := ⟨RX6, TX6, 21, rfl, by decide, by decide +kernel, iwX6_leavesState_6⟩
theorem fwX6_leavesState_52 : FW wsX6_leavesState RX6 52 6 4 .int := ⟨RX6, TX6, 21, tyX6, rfl, by decide, by decide +kernel, iwX6_leavesState_6, tyX6_ok, nmX6, rfl, by decide +kernel⟩
set_option maxRecDepth 100000 in
set_option maxHeartbeats 4000000 in
theorem sbX6_leavesState_70 (X : CX) (C : Ok X RX6 cX6_leavesState wsX6_leavesState rX6_leavesState) (cn : Tcn) (bk : Tbk) (st : Tst) (r0 : Tbk) (r1 : Tbk) (r2 : Tbk) (r3 : Tbk) (r4 : Tbk) (li : Tli) (fo : Tfo) (tx : Ttx) (co : Tco) (ke : Tke) (rf : (Nat → Int32)) (cp : Int32) (lk : Tlk) (fl : Tfl) (em : Int32) (tm : Ttm) (rd : Trd) (x1 : Int32) (z : Int32 × Tke) (o : (Int32 × Tke) ⊕ Tke) (h : bX6_leavesState_70 co x1 z = some o) (k0 : ∀ a : Int32 × Tke, o = .inl a → Wg X 70 [some (.ref 36), some (.int x1), some (.int a.1)] [] (mkH cn bk st r0 r1 r2 r3 r4 li fo tx co a.2 rf cp lk fl em tm rd)) (e0 : ∀ a : Tke, o = .inr a → Wg X 98 [some (.ref 36), some (.int x1), none] [] (mkH cn bk st r0 r1 r2 r3 r4 li fo tx co a rf cp lk fl em tm rd)) : Wg X 70 [some (.ref 36), some (.int x1), some (.int z.1)] [] (mkH cn bk st r0 r1 r2 r3 r4 li fo tx co z.2 rf cp lk fl em tm rd) := by
  unfold bX6_leavesState_70 at h
  refine wg_iload_n C dX6_leavesState_70 rfl ?_
  refine wg_bipush (v := 6) C dX6_leavesState_71 (by decide) ?_
  refine wg_icmp_ge (tgt := 98) C dX6_leavesState_73 (by decide) (fun c3 => ?_) (fun c3 => ?_)
  · replace h := ifP c3 h
    refine wg_drop (lv' := [some (.ref 36), some (.int x1), none]) [2] rfl ?_
    have hk := e0 _ (Option.some.inj h).symm
    exact hk
  · replace h := ifN c3 h
    refine wg_aload_n C dX6_leavesState_76 rfl ?_
    refine wg_get (v := .ref 40) C fgX6_leavesState_19 rfl rfl dX6_leavesState_77 ?_
    refine wg_iload_n C dX6_leavesState_80 rfl ?_
    refine wg_iconst (v := 1) C dX6_leavesState_81 (by decide) ?_
    refine wg_iadd C dX6_leavesState_82 ?_
    refine wg_iload_n C dX6_leavesState_83 rfl ?_
    refine wg_iadd C dX6_leavesState_84 ?_
    refine wg_aload_n C dX6_leavesState_85 rfl ?_
    refine wg_get (v := .ref 38) C fgX6_leavesState_13 rfl rfl dX6_leavesState_86 ?_
    refine wg_iload_n C dX6_leavesState_89 rfl ?_
    obtain ⟨g4, h⟩ := gdP h
    refine wg_iald (f := co.2.1) (n := 6) C rfl g4 dX6_leavesState_90 ?_
    obtain ⟨g5, h⟩ := gdP h
    refine wg_iast (f := z.2.2) (n := 1035) (hp' := (mkH cn bk st r0 r1 r2 r3 r4 li fo tx co (z.2.1, (upd z.2.2 (((x1 + (1 : Int32)) + z.1)).toNatClampNeg (co.2.1 (z.1).toNatClampNeg))) rf cp lk fl em tm rd)) C rfl g5 rfl dX6_leavesState_91 ?_
    refine wg_iinc (v := (z.1 + (1 : Int32))) (lv' := [some (.ref 36), some (.int x1), some (.int (z.1 + (1 : Int32)))]) C dX6_leavesState_92 rfl rfl rfl ?_
    refine wg_goto (tgt := 70) C dX6_leavesState_95 (by decide) ?_
    have hk := k0 _ (Option.some.inj h).symm
    exact hk
set_option maxRecDepth 100000 in
set_option maxHeartbeats 4000000 in
theorem slX6_leavesState_70 (X : CX) (C : Ok X RX6 cX6_leavesState wsX6_leavesState rX6_leavesState) (cn : Tcn) (bk : Tbk) (st : Tst) (r0 : Tbk) (r1 : Tbk) (r2 : Tbk) (r3 : Tbk) (r4 : Tbk) (li : Tli) (fo : Tfo) (tx : Ttx) (co : Tco) (ke : Tke) (rf : (Nat → Int32)) (cp : Int32) (lk : Tlk) (fl : Tfl) (em : Int32) (tm : Ttm) (rd : Trd) (x1 : Int32) (o : Tke) (e0 : ∀ a : Tke, o = a → Wg X 98 [some (.ref 36), some (.int x1), none] [] (mkH cn bk st r0 r1 r2 r3 r4 li fo tx co a rf cp lk fl em tm rd)) : ∀ (n : Nat) (z : Int32 × Tke), lpF (bX6_leavesState_70 co x1) n z = some o → Wg X 70 [some (.ref 36), some (.int x1), some (.int z.1)] [] (mkH cn bk st r0 r1 r2 r3 r4 li fo tx co z.2 rf cp lk fl em tm rd) := by
  intro n
  induction n with
  | zero => intro z h; cases h
  | succ n ih =>
    intro z h
    obtain ⟨r, hB, h⟩ := bnd h
    refine sbX6_leavesState_70 X C cn bk st r0 r1 r2 r3 r4 li fo tx co ke rf cp lk fl em tm rd x1 z r hB (fun a e => ih a (by subst e; exact h)) (fun a e => e0 a (by subst e; exact (Option.some.inj h).symm))
set_option maxRecDepth 100000 in
set_option maxHeartbeats 4000000 in
theorem sbX6_leavesState_100 (X : CX) (C : Ok X RX6 cX6_leavesState wsX6_leavesState rX6_leavesState) (cn : Tcn) (bk : Tbk) (st : Tst) (r0 : Tbk) (r1 : Tbk) (r2 : Tbk) (r3 : Tbk) (r4 : Tbk) (li : Tli) (fo : Tfo) (tx : Ttx) (co : Tco) (ke : Tke) (rf : (Nat → Int32)) (cp : Int32) (lk : Tlk) (fl : Tfl) (em : Int32) (tm : Ttm) (rd : Trd) (x1 : Int32) (z : Int32 × Tke) (o : (Int32 × Tke) ⊕ Tke) (h : bX6_leavesState_100 co x1 z = some o) (k0 : ∀ a : Int32 × Tke, o = .inl a → Wg X 100 [some (.ref 36), some (.int x1), some (.int a.1)] [] (mkH cn bk st r0 r1 r2 r3 r4 li fo tx co a.2 rf cp lk fl em tm rd)) (e0 : ∀ a : Tke, o = .inr a → Wg X 130 [some (.ref 36), none, none] [] (mkH cn bk st r0 r1 r2 r3 r4 li fo tx co a rf cp lk fl em tm rd)) : Wg X 100 [some (.ref 36), some (.int x1), some (.int z.1)] [] (mkH cn bk st r0 r1 r2 r3 r4 li fo tx co z.2 rf cp lk fl em tm rd) := by
  unfold bX6_leavesState_100 at h
  refine wg_iload_n C dX6_leavesState_100 rfl ?_
  refine wg_sipush (v := 200) C dX6_leavesState_101 (by decide) ?_
  refine wg_icmp_ge (tgt := 130) C dX6_leavesState_104 (by decide) (fun c7 => ?_) (fun c7 => ?_)
  · replace h := ifP c7 h
    refine wg_drop (lv' := [some (.ref 36), none, none]) [1, 2] rfl ?_
    have hk := e0 _ (Option.some.inj h).symm
    exact hk
  · replace h := ifN c7 h
    refine wg_aload_n C dX6_leavesState_107 rfl ?_
    refine wg_get (v := .ref 40) C fgX6_leavesState_19 rfl rfl dX6_leavesState_108 ?_
    refine wg_iload_n C dX6_leavesState_111 rfl ?_
    refine wg_bipush (v := 7) C dX6_leavesState_112 (by decide) ?_
    refine wg_iadd C dX6_leavesState_114 ?_
    refine wg_iload_n C dX6_leavesState_115 rfl ?_
    refine wg_iadd C dX6_leavesState_116 ?_
    refine wg_aload_n C dX6_leavesState_117 rfl ?_
    refine wg_get (v := .ref 39) C fgX6_leavesState_16 rfl rfl dX6_leavesState_118 ?_
    refine wg_iload_n C dX6_leavesState_121 rfl ?_
    obtain ⟨g8, h⟩ := gdP h
    refine wg_iald (f := co.2.2) (n := 200) C rfl g8 dX6_leavesState_122 ?_
    obtain ⟨g9, h⟩ := gdP h
    refine wg_iast (f := z.2.2) (n := 1035) (hp' := (mkH cn bk st r0 r1 r2 r3 r4 li fo tx co (z.2.1, (upd z.2.2 (((x1 + (7 : Int32)) + z.1)).toNatClampNeg (co.2.2 (z.1).toNatClampNeg))) rf cp lk fl em tm rd)) C rfl g9 rfl dX6_leavesState_123 ?_
    refine wg_iinc (v := (z.1 + (1 : Int32))) (lv' := [some (.ref 36), some (.int x1), some (.int (z.1 + (1 : Int32)))]) C dX6_leavesState_124 rfl rfl rfl ?_
    refine wg_goto (tgt := 100) C dX6_leavesState_127 (by decide) ?_
    have hk := k0 _ (Option.some.inj h).symm
    exact hk
set_option maxRecDepth 100000 in
set_option maxHeartbeats 4000000 in
theorem slX6_leavesState_100 (X : CX) (C : Ok X RX6 cX6_leavesState wsX6_leavesState rX6_leavesState) (cn : Tcn) (bk : Tbk) (st : Tst) (r0 : Tbk) (r1 : Tbk) (r2 : Tbk) (r3 : Tbk) (r4 : Tbk) (li : Tli) (fo : Tfo) (tx : Ttx) (co : Tco) (ke : Tke) (rf : (Nat → Int32)) (cp : Int32) (lk : Tlk) (fl : Tfl) (em : Int32) (tm : Ttm) (rd : Trd) (x1 : Int32) (o : Tke) (e0 : ∀ a : Tke, o = a → Wg X 130 [some (.ref 36), none, none] [] (mkH cn bk st r0 r1 r2 r3 r4 li fo tx co a rf cp lk fl em tm rd)) : ∀ (n : Nat) (z : Int32 × Tke), lpF (bX6_leavesState_100 co x1) n z = some o → Wg X 100 [some (.ref 36), some (.int x1), some (.int z.1)] [] (mkH cn bk st r0 r1 r2 r3 r4 li fo tx co z.2 rf cp lk fl em tm rd) := by
  intro n
  induction n with
  | zero => intro z h; cases h
  | succ n ih =>
    intro z h
    obtain ⟨r, hB, h⟩ := bnd h
    refine sbX6_leavesState_100 X C cn bk st r0 r1 r2 r3 r4 li fo tx co ke rf cp lk fl em tm rd x1 z r hB (fun a e => ih a (by subst e; exact h)) (fun a e => e0 a (by subst e; exact (Option.some.inj h).symm))
set_option maxRecDepth 100000 in
set_option maxHeartbeats 4000000 in
theorem sjX6_leavesState_49 (X : CX) (C : Ok X RX6 cX6_leavesState wsX6_leavesState rX6_leavesState) (cn : Tcn) (bk : Tbk) (st : Tst) (r0 : Tbk) (r1 : Tbk) (r2 : Tbk) (r3 : Tbk) (r4 : Tbk) (li : Tli) (fo : Tfo) (tx : Ttx) (co : Tco) (ke : Tke) (rf : (Nat → Int32)) (cp : Int32) (lk : Tlk) (fl : Tfl) (em : Int32) (tm : Ttm) (rd : Trd)  (o : Tke) (h : jX6_leavesState_49 co ke  = some o) (hT : Rt X none none (mkH cn bk st r0 r1 r2 r3 r4 li fo tx co o rf cp lk fl em tm rd)) : Wg X 49 [some (.ref 36), none, none] [] (mkH cn bk st r0 r1 r2 r3 r4 li fo tx co ke rf cp lk fl em tm rd) := by
  unfold jX6_leavesState_49 at h
  refine wg_sipush (v := 207) C dX6_leavesState_49 (by decide) ?_
  refine wg_aload_n C dX6_leavesState_52 rfl ?_
  refine wg_get (v := .int ke.1) C fgX6_leavesState_52 rfl rfl dX6_leavesState_53 ?_
  refine wg_imul C dX6_leavesState_56 ?_
  refine wg_istore_n (lv' := [some (.ref 36), some (.int ((207 : Int32) * ke.1)), none]) C dX6_leavesState_57 (Nat.le_of_ble_eq_true rfl) rfl ?_
  refine wg_aload_n C dX6_leavesState_58 rfl ?_
  refine wg_get (v := .ref 40) C fgX6_leavesState_19 rfl rfl dX6_leavesState_59 ?_
  refine wg_iload_n C dX6_leavesState_62 rfl ?_
  refine wg_aload_n C dX6_leavesState_63 rfl ?_
  refine wg_get (v := .int co.1) C fgX6_leavesState_48 rfl rfl dX6_leavesState_64 ?_
  obtain ⟨g2, h⟩ := gdP h
  refine wg_iast (f := ke.2) (n := 1035) (hp' := (mkH cn bk st r0 r1 r2 r3 r4 li fo tx co (ke.1, (upd ke.2 (((207 : Int32) * ke.1)).toNatClampNeg co.1)) rf cp lk fl em tm rd)) C rfl g2 rfl dX6_leavesState_67 ?_
  refine wg_iconst (v := 0) C dX6_leavesState_68 (by decide) ?_
  refine wg_istore_n (lv' := [some (.ref 36), some (.int ((207 : Int32) * ke.1)), some (.int (0 : Int32))]) C dX6_leavesState_69 (Nat.le_of_ble_eq_true rfl) rfl ?_
  obtain ⟨t6, hL6, h⟩ := bnd h
  refine slX6_leavesState_70 X C cn bk st r0 r1 r2 r3 r4 li fo tx co (ke.1, (upd ke.2 (((207 : Int32) * ke.1)).toNatClampNeg co.1)) rf cp lk fl em tm rd ((207 : Int32) * ke.1) t6 (fun a e => ?_) FU ((0 : Int32), (ke.1, (upd ke.2 (((207 : Int32) * ke.1)).toNatClampNeg co.1))) hL6
  subst e
  refine wg_iconst (v := 0) C dX6_leavesState_98 (by decide) ?_
  refine wg_istore_n (lv' := [some (.ref 36), some (.int ((207 : Int32) * ke.1)), some (.int (0 : Int32))]) C dX6_leavesState_99 (Nat.le_of_ble_eq_true rfl) rfl ?_
  obtain ⟨t10, hL10, h⟩ := bnd h
  refine slX6_leavesState_100 X C cn bk st r0 r1 r2 r3 r4 li fo tx co t6 rf cp lk fl em tm rd ((207 : Int32) * ke.1) t10 (fun a e => ?_) FU ((0 : Int32), t6) hL10
  subst e
  refine wg_aload_n C dX6_leavesState_130 rfl ?_
  refine wg_dup C dX6_leavesState_131 rfl ?_
  refine wg_get (v := .int t10.1) C fgX6_leavesState_52 rfl rfl dX6_leavesState_132 ?_
  refine wg_iconst (v := 1) C dX6_leavesState_135 (by decide) ?_
  refine wg_iadd C dX6_leavesState_136 ?_
  refine wg_put (hp' := (mkH cn bk st r0 r1 r2 r3 r4 li fo tx co ((t10.1 + (1 : Int32)), t10.2) rf cp lk fl em tm rd)) C fwX6_leavesState_52 rfl (Nat.le_of_ble_eq_true rfl) rfl rfl rfl dX6_leavesState_137 ?_
  obtain rfl := Option.some.inj h
  exact wg_vret C hT dX6_leavesState_140
set_option maxRecDepth 100000 in
set_option maxHeartbeats 4000000 in
theorem sbX6_leavesState_10 (X : CX) (C : Ok X RX6 cX6_leavesState wsX6_leavesState rX6_leavesState) (cn : Tcn) (bk : Tbk) (st : Tst) (r0 : Tbk) (r1 : Tbk) (r2 : Tbk) (r3 : Tbk) (r4 : Tbk) (li : Tli) (fo : Tfo) (tx : Ttx) (co : Tco) (ke : Tke) (rf : (Nat → Int32)) (cp : Int32) (lk : Tlk) (fl : Tfl) (em : Int32) (tm : Ttm) (rd : Trd)  (z : Int32 × Tke) (o : (Int32 × Tke) ⊕ Tke) (h : bX6_leavesState_10 co  z = some o) (k0 : ∀ a : Int32 × Tke, o = .inl a → Wg X 10 [some (.ref 36), some (.int a.1), none] [] (mkH cn bk st r0 r1 r2 r3 r4 li fo tx co a.2 rf cp lk fl em tm rd)) (e0 : ∀ a : Tke, o = .inr a → Wg X 39 [some (.ref 36), none, none] [] (mkH cn bk st r0 r1 r2 r3 r4 li fo tx co a rf cp lk fl em tm rd)) : Wg X 10 [some (.ref 36), some (.int z.1), none] [] (mkH cn bk st r0 r1 r2 r3 r4 li fo tx co z.2 rf cp lk fl em tm rd) := by
  unfold bX6_leavesState_10 at h
  refine wg_iload_n C dX6_leavesState_10 rfl ?_
  refine wg_sipush (v := 828) C dX6_leavesState_11 (by decide) ?_
  refine wg_icmp_ge (tgt := 39) C dX6_leavesState_14 (by decide) (fun c11 => ?_) (fun c11 => ?_)
  · replace h := ifP c11 h
    refine wg_drop (lv' := [some (.ref 36), none, none]) [1] rfl ?_
    have hk := e0 _ (Option.some.inj h).symm
    exact hk
  · replace h := ifN c11 h
    refine wg_aload_n C dX6_leavesState_17 rfl ?_
    refine wg_get (v := .ref 40) C fgX6_leavesState_19 rfl rfl dX6_leavesState_18 ?_
    refine wg_iload_n C dX6_leavesState_21 rfl ?_
    refine wg_aload_n C dX6_leavesState_22 rfl ?_
    refine wg_get (v := .ref 40) C fgX6_leavesState_19 rfl rfl dX6_leavesState_23 ?_
    refine wg_iload_n C dX6_leavesState_26 rfl ?_
    refine wg_sipush (v := 207) C dX6_leavesState_27 (by decide) ?_
    refine wg_iadd C dX6_leavesState_30 ?_
    obtain ⟨g12, h⟩ := gdP h
    refine wg_iald (f := z.2.2) (n := 1035) C rfl g12 dX6_leavesState_31 ?_
    obtain ⟨g13, h⟩ := gdP h
    refine wg_iast (f := z.2.2) (n := 1035) (hp' := (mkH cn bk st r0 r1 r2 r3 r4 li fo tx co (z.2.1, (upd z.2.2 (z.1).toNatClampNeg (z.2.2 ((z.1 + (207 : Int32))).toNatClampNeg))) rf cp lk fl em tm rd)) C rfl g13 rfl dX6_leavesState_32 ?_
    refine wg_iinc (v := (z.1 + (1 : Int32))) (lv' := [some (.ref 36), some (.int (z.1 + (1 : Int32))), none]) C dX6_leavesState_33 rfl rfl rfl ?_
    refine wg_goto (tgt := 10) C dX6_leavesState_36 (by decide) ?_
    have hk := k0 _ (Option.some.inj h).symm
    exact hk
set_option maxRecDepth 100000 in
set_option maxHeartbeats 4000000 in
theorem slX6_leavesState_10 (X : CX) (C : Ok X RX6 cX6_leavesState wsX6_leavesState rX6_leavesState) (cn : Tcn) (bk : Tbk) (st : Tst) (r0 : Tbk) (r1 : Tbk) (r2 : Tbk) (r3 : Tbk) (r4 : Tbk) (li : Tli) (fo : Tfo) (tx : Ttx) (co : Tco) (ke : Tke) (rf : (Nat → Int32)) (cp : Int32) (lk : Tlk) (fl : Tfl) (em : Int32) (tm : Ttm) (rd : Trd)  (o : Tke) (e0 : ∀ a : Tke, o = a → Wg X 39 [some (.ref 36), none, none] [] (mkH cn bk st r0 r1 r2 r3 r4 li fo tx co a rf cp lk fl em tm rd)) : ∀ (n : Nat) (z : Int32 × Tke), lpF (bX6_leavesState_10 co ) n z = some o → Wg X 10 [some (.ref 36), some (.int z.1), none] [] (mkH cn bk st r0 r1 r2 r3 r4 li fo tx co z.2 rf cp lk fl em tm rd) := by
  intro n
  induction n with
  | zero => intro z h; cases h
  | succ n ih =>
    intro z h
    obtain ⟨r, hB, h⟩ := bnd h
    refine sbX6_leavesState_10 X C cn bk st r0 r1 r2 r3 r4 li fo tx co ke rf cp lk fl em tm rd  z r hB (fun a e => ih a (by subst e; exact h)) (fun a e => e0 a (by subst e; exact (Option.some.inj h).symm))
set_option maxRecDepth 100000 in
set_option maxHeartbeats 4000000 in
theorem sX6_leavesState (cn : Tcn) (bk : Tbk) (st : Tst) (r0 : Tbk) (r1 : Tbk) (r2 : Tbk) (r3 : Tbk) (r4 : Tbk) (li : Tli) (fo : Tfo) (tx : Ttx) (co : Tco) (ke : Tke) (rf : (Nat → Int32)) (cp : Int32) (lk : Tlk) (fl : Tfl) (em : Int32) (tm : Ttm) (rd : Trd)  (o : Tke) (h : fX6_leavesState co ke  = some o) : Sp yX6_leavesState wsX6_leavesState rX6_leavesState [.ref 36] (mkH cn bk st r0 r1 r2 r3 r4 li fo tx co ke rf cp lk fl em tm rd) none (mkH cn bk st r0 r1 r2 r3 r4 li fo tx co o rf cp lk fl em tm rd) := by
  refine Sp.of (lv := [some (.ref 36), none, none]) RX6 (by decide +kernel) rfl (Nat.le_of_ble_eq_true rfl) rfl ?_
  intro X C hT
  unfold fX6_leavesState at h
  refine wg_aload_n C dX6_leavesState_0 rfl ?_
  refine wg_get (v := .int ke.1) C fgX6_leavesState_52 rfl rfl dX6_leavesState_1 ?_
  refine wg_iconst (v := 5) C dX6_leavesState_4 (by decide) ?_
  refine wg_icmp_ne (tgt := 49) C dX6_leavesState_5 (by decide) (fun c1 => ?_) (fun c1 => ?_)
  · replace h := ifP c1 h
    exact sjX6_leavesState_49 X C cn bk st r0 r1 r2 r3 r4 li fo tx co ke rf cp lk fl em tm rd  _ h hT
  · replace h := ifN c1 h
    refine wg_iconst (v := 0) C dX6_leavesState_8 (by decide) ?_
    refine wg_istore_n (lv' := [some (.ref 36), some (.int (0 : Int32)), none]) C dX6_leavesState_9 (Nat.le_of_ble_eq_true rfl) rfl ?_
    obtain ⟨t14, hL14, h⟩ := bnd h
    refine slX6_leavesState_10 X C cn bk st r0 r1 r2 r3 r4 li fo tx co ke rf cp lk fl em tm rd  t14 (fun a e => ?_) FU ((0 : Int32), ke) hL14
    subst e
    refine wg_aload_n C dX6_leavesState_39 rfl ?_
    refine wg_dup C dX6_leavesState_40 rfl ?_
    refine wg_get (v := .int t14.1) C fgX6_leavesState_52 rfl rfl dX6_leavesState_41 ?_
    refine wg_iconst (v := 1) C dX6_leavesState_44 (by decide) ?_
    refine wg_isub C dX6_leavesState_45 ?_
    refine wg_put (hp' := (mkH cn bk st r0 r1 r2 r3 r4 li fo tx co ((t14.1 - (1 : Int32)), t14.2) rf cp lk fl em tm rd)) C fwX6_leavesState_52 rfl (Nat.le_of_ble_eq_true rfl) rfl rfl rfl dX6_leavesState_46 ?_
    exact sjX6_leavesState_49 X C cn bk st r0 r1 r2 r3 r4 li fo tx co ((t14.1 - (1 : Int32)), t14.2) rf cp lk fl em tm rd  _ h hT
abbrev rX6_comes : Room := { frames := 0, cells := 0, slots := 0, locals := 0 }
theorem iwX6_comes_6 : ∀ w ∈ wsX60, w ∈ wsX6_comes := by decide +kernel
theorem fgX6_comes_16 : FG wsX6_comes RX6 16 6 3 := ⟨RX6, TX6, 21, rfl, by decide, by decide +kernel, iwX6_comes_6⟩
theorem fgX6_comes_48 : FG wsX6_comes RX6 48 6 1 := ⟨RX6, TX6, 21, rfl, by decide, by decide +kernel, iwX6_comes_6⟩
theorem fwX6_comes_48 : FW wsX6_comes RX6 48 6 1 .int := ⟨RX6, TX6, 21, tyX6, rfl, by decide, by decide +kernel, iwX6_comes_6, tyX6_ok, nmX6, rfl, by decide +kernel⟩
set_option maxRecDepth 100000 in
set_option maxHeartbeats 4000000 in
theorem sX6_comes (cn : Tcn) (bk : Tbk) (st : Tst) (r0 : Tbk) (r1 : Tbk) (r2 : Tbk) (r3 : Tbk) (r4 : Tbk) (li : Tli) (fo : Tfo) (tx : Ttx) (co : Tco) (ke : Tke) (rf : (Nat → Int32)) (cp : Int32) (lk : Tlk) (fl : Tfl) (em : Int32) (tm : Ttm) (rd : Trd) (x1 : Int32) (x2 : Int32) (x3 : Int32) (x4 : Int32) (o : Tco) (h : fX6_comes co x1 x2 x3 x4 = some o) : Sp yX6_comes wsX6_comes rX6_comes [.ref 36, .int x1, .int x2, .int x3, .int x4] (mkH cn bk st r0 r1 r2 r3 r4 li fo tx co ke rf cp lk fl em tm rd) none (mkH cn bk st r0 r1 r2 r3 r4 li fo tx o ke rf cp lk fl em tm rd) := by
  refine Sp.of (lv := [some (.ref 36), some (.int x1), some (.int x2), some (.int x3), some (.int x4)]) RX6 (by decide +kernel) rfl (Nat.le_of_ble_eq_true rfl) rfl ?_
  intro X C hT
  unfold fX6_comes at h
  refine wg_aload_n C dX6_comes_0 rfl ?_
  refine wg_get (v := .ref 39) C fgX6_comes_16 rfl rfl dX6_comes_1 ?_
  refine wg_iconst (v := 4) C dX6_comes_4 (by decide) ?_
  refine wg_aload_n C dX6_comes_5 rfl ?_
  refine wg_get (v := .int co.1) C fgX6_comes_48 rfl rfl dX6_comes_6 ?_
  refine wg_imul C dX6_comes_9 ?_
  refine wg_iload_n C dX6_comes_10 rfl ?_
  obtain ⟨g1, h⟩ := gdP h
  refine wg_iast (f := co.2.2) (n := 200) (hp' := (mkH cn bk st r0 r1 r2 r3 r4 li fo tx (co.1, co.2.1, (upd co.2.2 (((4 : Int32) * co.1)).toNatClampNeg x1)) ke rf cp lk fl em tm rd)) C rfl g1 rfl dX6_comes_11 ?_
  refine wg_aload_n C dX6_comes_12 rfl ?_
  refine wg_get (v := .ref 39) C fgX6_comes_16 rfl rfl dX6_comes_13 ?_
  refine wg_iconst (v := 4) C dX6_comes_16 (by decide) ?_
  refine wg_aload_n C dX6_comes_17 rfl ?_
  refine wg_get (v := .int co.1) C fgX6_comes_48 rfl rfl dX6_comes_18 ?_
  refine wg_imul C dX6_comes_21 ?_
  refine wg_iconst (v := 1) C dX6_comes_22 (by decide) ?_
  refine wg_iadd C dX6_comes_23 ?_
  refine wg_iload_n C dX6_comes_24 rfl ?_
  obtain ⟨g2, h⟩ := gdP h
  refine wg_iast (f := (upd co.2.2 (((4 : Int32) * co.1)).toNatClampNeg x1)) (n := 200) (hp' := (mkH cn bk st r0 r1 r2 r3 r4 li fo tx (co.1, co.2.1, (upd (upd co.2.2 (((4 : Int32) * co.1)).toNatClampNeg x1) ((((4 : Int32) * co.1) + (1 : Int32))).toNatClampNeg x2)) ke rf cp lk fl em tm rd)) C rfl g2 rfl dX6_comes_25 ?_
  refine wg_aload_n C dX6_comes_26 rfl ?_
  refine wg_get (v := .ref 39) C fgX6_comes_16 rfl rfl dX6_comes_27 ?_
  refine wg_iconst (v := 4) C dX6_comes_30 (by decide) ?_
  refine wg_aload_n C dX6_comes_31 rfl ?_
  refine wg_get (v := .int co.1) C fgX6_comes_48 rfl rfl dX6_comes_32 ?_
  refine wg_imul C dX6_comes_35 ?_
  refine wg_iconst (v := 2) C dX6_comes_36 (by decide) ?_
  refine wg_iadd C dX6_comes_37 ?_
  refine wg_iload_n C dX6_comes_38 rfl ?_
  obtain ⟨g3, h⟩ := gdP h
  refine wg_iast (f := (upd (upd co.2.2 (((4 : Int32) * co.1)).toNatClampNeg x1) ((((4 : Int32) * co.1) + (1 : Int32))).toNatClampNeg x2)) (n := 200) (hp' := (mkH cn bk st r0 r1 r2 r3 r4 li fo tx (co.1, co.2.1, (upd (upd (upd co.2.2 (((4 : Int32) * co.1)).toNatClampNeg x1) ((((4 : Int32) * co.1) + (1 : Int32))).toNatClampNeg x2) ((((4 : Int32) * co.1) + (2 : Int32))).toNatClampNeg x3)) ke rf cp lk fl em tm rd)) C rfl g3 rfl dX6_comes_39 ?_
  refine wg_aload_n C dX6_comes_40 rfl ?_
  refine wg_get (v := .ref 39) C fgX6_comes_16 rfl rfl dX6_comes_41 ?_
  refine wg_iconst (v := 4) C dX6_comes_44 (by decide) ?_
  refine wg_aload_n C dX6_comes_45 rfl ?_
  refine wg_get (v := .int co.1) C fgX6_comes_48 rfl rfl dX6_comes_46 ?_
  refine wg_imul C dX6_comes_49 ?_
  refine wg_iconst (v := 3) C dX6_comes_50 (by decide) ?_
  refine wg_iadd C dX6_comes_51 ?_
  refine wg_iload C dX6_comes_52 rfl ?_
  obtain ⟨g4, h⟩ := gdP h
  refine wg_iast (f := (upd (upd (upd co.2.2 (((4 : Int32) * co.1)).toNatClampNeg x1) ((((4 : Int32) * co.1) + (1 : Int32))).toNatClampNeg x2) ((((4 : Int32) * co.1) + (2 : Int32))).toNatClampNeg x3)) (n := 200) (hp' := (mkH cn bk st r0 r1 r2 r3 r4 li fo tx (co.1, co.2.1, (upd (upd (upd (upd co.2.2 (((4 : Int32) * co.1)).toNatClampNeg x1) ((((4 : Int32) * co.1) + (1 : Int32))).toNatClampNeg x2) ((((4 : Int32) * co.1) + (2 : Int32))).toNatClampNeg x3) ((((4 : Int32) * co.1) + (3 : Int32))).toNatClampNeg x4)) ke rf cp lk fl em tm rd)) C rfl g4 rfl dX6_comes_54 ?_
  refine wg_aload_n C dX6_comes_55 rfl ?_
  refine wg_dup C dX6_comes_56 rfl ?_
  refine wg_get (v := .int co.1) C fgX6_comes_48 rfl rfl dX6_comes_57 ?_
  refine wg_iconst (v := 1) C dX6_comes_60 (by decide) ?_
  refine wg_iadd C dX6_comes_61 ?_
  refine wg_put (hp' := (mkH cn bk st r0 r1 r2 r3 r4 li fo tx ((co.1 + (1 : Int32)), co.2.1, (upd (upd (upd (upd co.2.2 (((4 : Int32) * co.1)).toNatClampNeg x1) ((((4 : Int32) * co.1) + (1 : Int32))).toNatClampNeg x2) ((((4 : Int32) * co.1) + (2 : Int32))).toNatClampNeg x3) ((((4 : Int32) * co.1) + (3 : Int32))).toNatClampNeg x4)) ke rf cp lk fl em tm rd)) C fwX6_comes_48 rfl (Nat.le_of_ble_eq_true rfl) rfl rfl rfl dX6_comes_62 ?_
  obtain rfl := Option.some.inj h
  exact wg_vret C hT dX6_comes_65
abbrev rX6_full : Room := { frames := 0, cells := 0, slots := 0, locals := 0 }
theorem iwX6_full_6 : ∀ w ∈ wsX60, w ∈ wsX6_full := by decide +kernel
theorem fgX6_full_1 : FG wsX6_full RX6 1 6 0 := ⟨RX6, TX6, 21, rfl, by decide, by decide +kernel, iwX6_full_6⟩
set_option maxRecDepth 100000 in
set_option maxHeartbeats 4000000 in
theorem sX6_full (cn : Tcn) (bk : Tbk) (st : Tst) (r0 : Tbk) (r1 : Tbk) (r2 : Tbk) (r3 : Tbk) (r4 : Tbk) (li : Tli) (fo : Tfo) (tx : Ttx) (co : Tco) (ke : Tke) (rf : (Nat → Int32)) (cp : Int32) (lk : Tlk) (fl : Tfl) (em : Int32) (tm : Ttm) (rd : Trd)  (o : Int32 × (Nat → Int32)) (h : fX6_full rf  = some o) : Sp yX6_full wsX6_full rX6_full [.ref 36] (mkH cn bk st r0 r1 r2 r3 r4 li fo tx co ke rf cp lk fl em tm rd) (some (.int o.1)) (mkH cn bk st r0 r1 r2 r3 r4 li fo tx co ke o.2 cp lk fl em tm rd) := by
  refine Sp.of (lv := [some (.ref 36)]) RX6 (by decide +kernel) rfl (Nat.le_of_ble_eq_true rfl) rfl ?_
  intro X C hT
  unfold fX6_full at h
  refine wg_aload_n C dX6_full_0 rfl ?_
  refine wg_get (v := .ref 37) C fgX6_full_1 rfl rfl dX6_full_1 ?_
  refine wg_iconst (v := 2) C dX6_full_4 (by decide) ?_
  refine wg_dup2 C dX6_full_5 rfl rfl ?_
  obtain ⟨g1, h⟩ := gdP h
  refine wg_iald (f := rf) (n := 3) C rfl g1 dX6_full_6 ?_
  refine wg_iconst (v := 1) C dX6_full_7 (by decide) ?_
  refine wg_iadd C dX6_full_8 ?_
  obtain ⟨g2, h⟩ := gdP h
  refine wg_iast (f := rf) (n := 3) (hp' := (mkH cn bk st r0 r1 r2 r3 r4 li fo tx co ke (upd rf ((2 : Int32)).toNatClampNeg ((rf ((2 : Int32)).toNatClampNeg) + (1 : Int32))) cp lk fl em tm rd)) C rfl g2 rfl dX6_full_9 ?_
  refine wg_bipush (v := -4) C dX6_full_10 (by decide) ?_
  obtain rfl := Option.some.inj h
  exact wg_iret C hT dX6_full_12
abbrev rX6_day : Room := { frames := 2, cells := 0, slots := 0, locals := 42 }
theorem iwX6_day_6 : ∀ w ∈ wsX60, w ∈ wsX6_day := by decide +kernel
theorem fgX6_day_48 : FG wsX6_day RX6 48 6 1 := ⟨RX6, TX6, 21, rfl, by decide, by decide +kernel, iwX6_day_6⟩
set_option maxRecDepth 100000 in
set_option maxHeartbeats 4000000 in
theorem sjX6_day_29 (X : CX) (C : Ok X RX6 cX6_day wsX6_day rX6_day) (cn : Tcn) (bk : Tbk) (st : Tst) (r0 : Tbk) (r1 : Tbk) (r2 : Tbk) (r3 : Tbk) (r4 : Tbk) (li : Tli) (fo : Tfo) (tx : Ttx) (co : Tco) (ke : Tke) (rf : (Nat → Int32)) (cp : Int32) (lk : Tlk) (fl : Tfl) (em : Int32) (tm : Ttm) (rd : Trd)  (o : Int32 × Tco × Tke × (Nat → Int32)) (h : jX6_day_29 co ke rf  = some o) (hT : Rt X (some .int) (some (.int o.1)) (mkH cn bk st r0 r1 r2 r3 r4 li fo tx o.2.1 o.2.2.1 o.2.2.2 cp lk fl em tm rd)) : Wg X 29 [some (.ref 36), none, none, none, none] [] (mkH cn bk st r0 r1 r2 r3 r4 li fo tx co ke rf cp lk fl em tm rd) := by
  unfold jX6_day_29 at h
  refine wg_aload_n C dX6_day_29 rfl ?_
  obtain ⟨q3, e3q, h⟩ := bnd h
  refine wg_callV (n := 0) (As := []) (st := []) (st' := [.int q3.1]) C (sX6_bad cn bk st r0 r1 r2 r3 r4 li fo tx co ke rf cp lk fl em tm rd  q3 e3q) gX6_day_X6_bad rfl (by decide +kernel) ⟨⟨rfl, rfl⟩, Nat.le_of_ble_eq_true rfl, Nat.le_of_ble_eq_true rfl⟩ rfl rfl rfl rfl (Nat.le_of_ble_eq_true rfl) dX6_day_30 rfl ?_
  obtain rfl := Option.some.inj h
  exact wg_iret C hT dX6_day_33
set_option maxRecDepth 100000 in
set_option maxHeartbeats 4000000 in
theorem sX6_day (cn : Tcn) (bk : Tbk) (st : Tst) (r0 : Tbk) (r1 : Tbk) (r2 : Tbk) (r3 : Tbk) (r4 : Tbk) (li : Tli) (fo : Tfo) (tx : Ttx) (co : Tco) (ke : Tke) (rf : (Nat → Int32)) (cp : Int32) (lk : Tlk) (fl : Tfl) (em : Int32) (tm : Ttm) (rd : Trd) (x1 : Int32) (x2 : Int32) (x3 : Int32) (x4 : Int32) (o : Int32 × Tco × Tke × (Nat → Int32)) (h : fX6_day co ke rf x1 x2 x3 x4 = some o) : Sp yX6_day wsX6_day rX6_day [.ref 36, .int x1, .int x2, .int x3, .int x4] (mkH cn bk st r0 r1 r2 r3 r4 li fo tx co ke rf cp lk fl em tm rd) (some (.int o.1)) (mkH cn bk st r0 r1 r2 r3 r4 li fo tx o.2.1 o.2.2.1 o.2.2.2 cp lk fl em tm rd) := by
  refine Sp.of (lv := [some (.ref 36), some (.int x1), some (.int x2), some (.int x3), some (.int x4)]) RX6 (by decide +kernel) rfl (Nat.le_of_ble_eq_true rfl) rfl ?_
  intro X C hT
  unfold fX6_day at h
  refine wg_iload_n C dX6_day_0 rfl ?_
  obtain ⟨q1, e1q, h⟩ := bnd h
  refine wg_callT (n := 1) (As := [.int x1]) (st := []) (st' := [.int q1]) C (sX6_may cn bk st r0 r1 r2 r3 r4 li fo tx co ke rf cp lk fl em tm rd x1 q1 e1q) gX6_day_X6_may rfl (by decide +kernel) ⟨⟨rfl, rfl⟩, Nat.le_of_ble_eq_true rfl, Nat.le_of_ble_eq_true rfl⟩ rfl rfl (Nat.le_of_ble_eq_true rfl) dX6_day_1 rfl ?_
  refine wg_if_eq (tgt := 29) C dX6_day_4 (by decide) (fun c2 => ?_) (fun c2 => ?_)
  · replace h := ifP c2 h
    refine wg_drop (lv' := [some (.ref 36), none, none, none, none]) [1, 2, 3, 4] rfl ?_
    exact sjX6_day_29 X C cn bk st r0 r1 r2 r3 r4 li fo tx co ke rf cp lk fl em tm rd  _ h hT
  · replace h := ifN c2 h
    refine wg_iload_n C dX6_day_7 rfl ?_
    obtain ⟨q4, e4q, h⟩ := bnd h
    refine wg_callT (n := 1) (As := [.int x2]) (st := []) (st' := [.int q4]) C (sX6_may cn bk st r0 r1 r2 r3 r4 li fo tx co ke rf cp lk fl em tm rd x2 q4 e4q) gX6_day_X6_may rfl (by decide +kernel) ⟨⟨rfl, rfl⟩, Nat.le_of_ble_eq_true rfl, Nat.le_of_ble_eq_true rfl⟩ rfl rfl (Nat.le_of_ble_eq_true rfl) dX6_day_8 rfl ?_
    refine wg_if_eq (tgt := 29) C dX6_day_11 (by decide) (fun c5 => ?_) (fun c5 => ?_)
    · replace h := ifP c5 h
      refine wg_drop (lv' := [some (.ref 36), none, none, none, none]) [1, 2, 3, 4] rfl ?_
      exact sjX6_day_29 X C cn bk st r0 r1 r2 r3 r4 li fo tx co ke rf cp lk fl em tm rd  _ h hT
    · replace h := ifN c5 h
      refine wg_iload_n C dX6_day_14 rfl ?_
      obtain ⟨q6, e6q, h⟩ := bnd h
      refine wg_callT (n := 1) (As := [.int x3]) (st := []) (st' := [.int q6]) C (sX6_may cn bk st r0 r1 r2 r3 r4 li fo tx co ke rf cp lk fl em tm rd x3 q6 e6q) gX6_day_X6_may rfl (by decide +kernel) ⟨⟨rfl, rfl⟩, Nat.le_of_ble_eq_true rfl, Nat.le_of_ble_eq_true rfl⟩ rfl rfl (Nat.le_of_ble_eq_true rfl) dX6_day_15 rfl ?_
      refine wg_if_eq (tgt := 29) C dX6_day_18 (by decide) (fun c7 => ?_) (fun c7 => ?_)
      · replace h := ifP c7 h
        refine wg_drop (lv' := [some (.ref 36), none, none, none, none]) [1, 2, 3, 4] rfl ?_
        exact sjX6_day_29 X C cn bk st r0 r1 r2 r3 r4 li fo tx co ke rf cp lk fl em tm rd  _ h hT
      · replace h := ifN c7 h
        refine wg_iload C dX6_day_21 rfl ?_
        obtain ⟨q8, e8q, h⟩ := bnd h
        refine wg_callT (n := 1) (As := [.int x4]) (st := []) (st' := [.int q8]) C (sX6_may cn bk st r0 r1 r2 r3 r4 li fo tx co ke rf cp lk fl em tm rd x4 q8 e8q) gX6_day_X6_may rfl (by decide +kernel) ⟨⟨rfl, rfl⟩, Nat.le_of_ble_eq_true rfl, Nat.le_of_ble_eq_true rfl⟩ rfl rfl (Nat.le_of_ble_eq_true rfl) dX6_day_23 rfl ?_
        refine wg_if_ne (tgt := 34) C dX6_day_26 (by decide) (fun c9 => ?_) (fun c9 => ?_)
        · replace h := ifP c9 h
          refine wg_aload_n C dX6_day_34 rfl ?_
          refine wg_get (v := .int co.1) C fgX6_day_48 rfl rfl dX6_day_35 ?_
          refine wg_bipush (v := 50) C dX6_day_38 (by decide) ?_
          refine wg_icmp_ne (tgt := 48) C dX6_day_40 (by decide) (fun c10 => ?_) (fun c10 => ?_)
          · replace h := ifP c10 h
            refine wg_aload_n C dX6_day_48 rfl ?_
            obtain ⟨q11, e11q, h⟩ := bnd h
            refine wg_callV (n := 0) (As := []) (st := []) (st' := []) C (sX6_leavesState cn bk st r0 r1 r2 r3 r4 li fo tx co ke rf cp lk fl em tm rd  q11 e11q) gX6_day_X6_leavesState rfl (by decide +kernel) ⟨⟨rfl, rfl⟩, Nat.le_of_ble_eq_true rfl, Nat.le_of_ble_eq_true rfl⟩ rfl rfl rfl rfl (Nat.le_of_ble_eq_true rfl) dX6_day_49 rfl ?_
            refine wg_aload_n C dX6_day_52 rfl ?_
            refine wg_iload_n C dX6_day_53 rfl ?_
            refine wg_iload_n C dX6_day_54 rfl ?_
            refine wg_iload_n C dX6_day_55 rfl ?_
            refine wg_iload C dX6_day_56 rfl ?_
            obtain ⟨q12, e12q, h⟩ := bnd h
            refine wg_callV (n := 4) (As := [.int x1, .int x2, .int x3, .int x4]) (st := []) (st' := []) C (sX6_comes cn bk st r0 r1 r2 r3 r4 li fo tx co q11 rf cp lk fl em tm rd x1 x2 x3 x4 q12 e12q) gX6_day_X6_comes rfl (by decide +kernel) ⟨⟨rfl, rfl⟩, Nat.le_of_ble_eq_true rfl, Nat.le_of_ble_eq_true rfl⟩ rfl rfl rfl rfl (Nat.le_of_ble_eq_true rfl) dX6_day_58 rfl ?_
            refine wg_aload_n C dX6_day_61 rfl ?_
            refine wg_get (v := .int q12.1) C fgX6_day_48 rfl rfl dX6_day_62 ?_
            refine wg_iconst (v := 1) C dX6_day_65 (by decide) ?_
            refine wg_isub C dX6_day_66 ?_
            obtain rfl := Option.some.inj h
            exact wg_iret C hT dX6_day_67
          · replace h := ifN c10 h
            refine wg_aload_n C dX6_day_43 rfl ?_
            obtain ⟨q13, e13q, h⟩ := bnd h
            refine wg_callV (n := 0) (As := []) (st := []) (st' := [.int q13.1]) C (sX6_full cn bk st r0 r1 r2 r3 r4 li fo tx co ke rf cp lk fl em tm rd  q13 e13q) gX6_day_X6_full rfl (by decide +kernel) ⟨⟨rfl, rfl⟩, Nat.le_of_ble_eq_true rfl, Nat.le_of_ble_eq_true rfl⟩ rfl rfl rfl rfl (Nat.le_of_ble_eq_true rfl) dX6_day_44 rfl ?_
            obtain rfl := Option.some.inj h
            exact wg_iret C hT dX6_day_47
        · replace h := ifN c9 h
          refine wg_drop (lv' := [some (.ref 36), none, none, none, none]) [1, 2, 3, 4] rfl ?_
          exact sjX6_day_29 X C cn bk st r0 r1 r2 r3 r4 li fo tx co ke rf cp lk fl em tm rd  _ h hT
abbrev rX6_isDay : Room := { frames := 1, cells := 0, slots := 0, locals := 22 }
theorem iwX6_isDay_6 : ∀ w ∈ wsX60, w ∈ wsX6_isDay := by decide +kernel
theorem fgX6_isDay_48 : FG wsX6_isDay RX6 48 6 1 := ⟨RX6, TX6, 21, rfl, by decide, by decide +kernel, iwX6_isDay_6⟩
set_option maxRecDepth 100000 in
set_option maxHeartbeats 4000000 in
theorem sX6_isDay (cn : Tcn) (bk : Tbk) (st : Tst) (r0 : Tbk) (r1 : Tbk) (r2 : Tbk) (r3 : Tbk) (r4 : Tbk) (li : Tli) (fo : Tfo) (tx : Ttx) (co : Tco) (ke : Tke) (rf : (Nat → Int32)) (cp : Int32) (lk : Tlk) (fl : Tfl) (em : Int32) (tm : Ttm) (rd : Trd) (x1 : Int32) (o : Int32) (h : fX6_isDay co x1 = some o) : Sp yX6_isDay wsX6_isDay rX6_isDay [.ref 36, .int x1] (mkH cn bk st r0 r1 r2 r3 r4 li fo tx co ke rf cp lk fl em tm rd) (some (.int o)) (mkH cn bk st r0 r1 r2 r3 r4 li fo tx co ke rf cp lk fl em tm rd) := by
  refine Sp.of (lv := [some (.ref 36), some (.int x1)]) RX6 (by decide +kernel) rfl (Nat.le_of_ble_eq_true rfl) rfl ?_
  intro X C hT
  unfold fX6_isDay at h
  refine wg_iload_n C dX6_isDay_0 rfl ?_
  refine wg_iconst (v := 0) C dX6_isDay_1 (by decide) ?_
  refine wg_aload_n C dX6_isDay_2 rfl ?_
  refine wg_get (v := .int co.1) C fgX6_isDay_48 rfl rfl dX6_isDay_3 ?_
  refine wg_iconst (v := 1) C dX6_isDay_6 (by decide) ?_
  refine wg_isub C dX6_isDay_7 ?_
  obtain ⟨q1, e1q, h⟩ := bnd h
  refine wg_callT (n := 3) (As := [.int x1, .int (0 : Int32), .int (co.1 - (1 : Int32))]) (st := []) (st' := [.int q1]) C (sX6_in cn bk st r0 r1 r2 r3 r4 li fo tx co ke rf cp lk fl em tm rd x1 (0 : Int32) (co.1 - (1 : Int32)) q1 e1q) gX6_isDay_X6_in rfl (by decide +kernel) ⟨⟨rfl, rfl⟩, Nat.le_of_ble_eq_true rfl, Nat.le_of_ble_eq_true rfl⟩ rfl rfl (Nat.le_of_ble_eq_true rfl) dX6_isDay_8 rfl ?_
  obtain ⟨g2, h⟩ := gdP h
  obtain rfl := Option.some.inj h
  exact wg_zret C hT (of_decide_eq_true g2) dX6_isDay_11
abbrev rX6_badly : Room := { frames := 0, cells := 0, slots := 0, locals := 0 }
theorem iwX6_badly_6 : ∀ w ∈ wsX60, w ∈ wsX6_badly := by decide +kernel
theorem fgX6_badly_1 : FG wsX6_badly RX6 1 6 0 := ⟨RX6, TX6, 21, rfl, by decide, by decide +kernel, iwX6_badly_6⟩
set_option maxRecDepth 100000 in
set_option maxHeartbeats 4000000 in
theorem sX6_badly (cn : Tcn) (bk : Tbk) (st : Tst) (r0 : Tbk) (r1 : Tbk) (r2 : Tbk) (r3 : Tbk) (r4 : Tbk) (li : Tli) (fo : Tfo) (tx : Ttx) (co : Tco) (ke : Tke) (rf : (Nat → Int32)) (cp : Int32) (lk : Tlk) (fl : Tfl) (em : Int32) (tm : Ttm) (rd : Trd)  (o : Int32 × (Nat → Int32)) (h : fX6_badly rf  = some o) : Sp yX6_badly wsX6_badly rX6_badly [.ref 36] (mkH cn bk st r0 r1 r2 r3 r4 li fo tx co ke rf cp lk fl em tm rd) (some (.int o.1)) (mkH cn bk st r0 r1 r2 r3 r4 li fo tx co ke o.2 cp lk fl em tm rd) := by
  refine Sp.of (lv := [some (.ref 36)]) RX6 (by decide +kernel) rfl (Nat.le_of_ble_eq_true rfl) rfl ?_
  intro X C hT
  unfold fX6_badly at h
  refine wg_aload_n C dX6_badly_0 rfl ?_
  refine wg_get (v := .ref 37) C fgX6_badly_1 rfl rfl dX6_badly_1 ?_
  refine wg_iconst (v := 0) C dX6_badly_4 (by decide) ?_
  refine wg_dup2 C dX6_badly_5 rfl rfl ?_
  obtain ⟨g1, h⟩ := gdP h
  refine wg_iald (f := rf) (n := 3) C rfl g1 dX6_badly_6 ?_
  refine wg_iconst (v := 1) C dX6_badly_7 (by decide) ?_
  refine wg_iadd C dX6_badly_8 ?_
  obtain ⟨g2, h⟩ := gdP h
  refine wg_iast (f := rf) (n := 3) (hp' := (mkH cn bk st r0 r1 r2 r3 r4 li fo tx co ke (upd rf ((0 : Int32)).toNatClampNeg ((rf ((0 : Int32)).toNatClampNeg) + (1 : Int32))) cp lk fl em tm rd)) C rfl g2 rfl dX6_badly_9 ?_
  refine wg_sipush (v := -20000) C dX6_badly_10 (by decide) ?_
  obtain rfl := Option.some.inj h
  exact wg_iret C hT dX6_badly_13
abbrev rX6_isMember : Room := { frames := 1, cells := 0, slots := 0, locals := 22 }
set_option maxRecDepth 100000 in
set_option maxHeartbeats 4000000 in
theorem sX6_isMember (cn : Tcn) (bk : Tbk) (st : Tst) (r0 : Tbk) (r1 : Tbk) (r2 : Tbk) (r3 : Tbk) (r4 : Tbk) (li : Tli) (fo : Tfo) (tx : Ttx) (co : Tco) (ke : Tke) (rf : (Nat → Int32)) (cp : Int32) (lk : Tlk) (fl : Tfl) (em : Int32) (tm : Ttm) (rd : Trd) (x0 : Int32) (o : Int32) (h : fX6_isMember  x0 = some o) : Sp yX6_isMember wsX6_isMember rX6_isMember [.int x0] (mkH cn bk st r0 r1 r2 r3 r4 li fo tx co ke rf cp lk fl em tm rd) (some (.int o)) (mkH cn bk st r0 r1 r2 r3 r4 li fo tx co ke rf cp lk fl em tm rd) := by
  refine Sp.of (lv := [some (.int x0)]) RX6 (by decide +kernel) rfl (Nat.le_of_ble_eq_true rfl) rfl ?_
  intro X C hT
  unfold fX6_isMember at h
  refine wg_iload_n C dX6_isMember_0 rfl ?_
  refine wg_iconst (v := 0) C dX6_isMember_1 (by decide) ?_
  refine wg_iconst (v := 3) C dX6_isMember_2 (by decide) ?_
  obtain ⟨q1, e1q, h⟩ := bnd h
  refine wg_callT (n := 3) (As := [.int x0, .int (0 : Int32), .int (3 : Int32)]) (st := []) (st' := [.int q1]) C (sX6_in cn bk st r0 r1 r2 r3 r4 li fo tx co ke rf cp lk fl em tm rd x0 (0 : Int32) (3 : Int32) q1 e1q) gX6_isMember_X6_in rfl (by decide +kernel) ⟨⟨rfl, rfl⟩, Nat.le_of_ble_eq_true rfl, Nat.le_of_ble_eq_true rfl⟩ rfl rfl (Nat.le_of_ble_eq_true rfl) dX6_isMember_3 rfl ?_
  obtain ⟨g2, h⟩ := gdP h
  obtain rfl := Option.some.inj h
  exact wg_zret C hT (of_decide_eq_true g2) dX6_isMember_6
abbrev rX6_sets : Room := { frames := 2, cells := 0, slots := 0, locals := 43 }
theorem iwX6_sets_6 : ∀ w ∈ wsX60, w ∈ wsX6_sets := by decide +kernel
theorem fgX6_sets_16 : FG wsX6_sets RX6 16 6 3 := ⟨RX6, TX6, 21, rfl, by decide, by decide +kernel, iwX6_sets_6⟩
set_option maxRecDepth 100000 in
set_option maxHeartbeats 4000000 in
theorem sjX6_sets_22 (X : CX) (C : Ok X RX6 cX6_sets wsX6_sets rX6_sets) (cn : Tcn) (bk : Tbk) (st : Tst) (r0 : Tbk) (r1 : Tbk) (r2 : Tbk) (r3 : Tbk) (r4 : Tbk) (li : Tli) (fo : Tfo) (tx : Ttx) (co : Tco) (ke : Tke) (rf : (Nat → Int32)) (cp : Int32) (lk : Tlk) (fl : Tfl) (em : Int32) (tm : Ttm) (rd : Trd)  (o : Int32 × Tco × Tke × (Nat → Int32)) (h : jX6_sets_22 co ke rf  = some o) (hT : Rt X (some .int) (some (.int o.1)) (mkH cn bk st r0 r1 r2 r3 r4 li fo tx o.2.1 o.2.2.1 o.2.2.2 cp lk fl em tm rd)) : Wg X 22 [some (.ref 36), none, none, none, none] [] (mkH cn bk st r0 r1 r2 r3 r4 li fo tx co ke rf cp lk fl em tm rd) := by
  unfold jX6_sets_22 at h
  refine wg_aload_n C dX6_sets_22 rfl ?_
  obtain ⟨q3, e3q, h⟩ := bnd h
  refine wg_callV (n := 0) (As := []) (st := []) (st' := [.int q3.1]) C (sX6_badly cn bk st r0 r1 r2 r3 r4 li fo tx co ke rf cp lk fl em tm rd  q3 e3q) gX6_sets_X6_badly rfl (by decide +kernel) ⟨⟨rfl, rfl⟩, Nat.le_of_ble_eq_true rfl, Nat.le_of_ble_eq_true rfl⟩ rfl rfl rfl rfl (Nat.le_of_ble_eq_true rfl) dX6_sets_23 rfl ?_
  obtain rfl := Option.some.inj h
  exact wg_iret C hT dX6_sets_26
set_option maxRecDepth 100000 in
set_option maxHeartbeats 4000000 in
theorem sX6_sets (cn : Tcn) (bk : Tbk) (st : Tst) (r0 : Tbk) (r1 : Tbk) (r2 : Tbk) (r3 : Tbk) (r4 : Tbk) (li : Tli) (fo : Tfo) (tx : Ttx) (co : Tco) (ke : Tke) (rf : (Nat → Int32)) (cp : Int32) (lk : Tlk) (fl : Tfl) (em : Int32) (tm : Ttm) (rd : Trd) (x1 : Int32) (x2 : Int32) (x3 : Int32) (o : Int32 × Tco × Tke × (Nat → Int32)) (h : fX6_sets co ke rf x1 x2 x3 = some o) : Sp yX6_sets wsX6_sets rX6_sets [.ref 36, .int x1, .int x2, .int x3] (mkH cn bk st r0 r1 r2 r3 r4 li fo tx co ke rf cp lk fl em tm rd) (some (.int o.1)) (mkH cn bk st r0 r1 r2 r3 r4 li fo tx o.2.1 o.2.2.1 o.2.2.2 cp lk fl em tm rd) := by
  refine Sp.of (lv := [some (.ref 36), some (.int x1), some (.int x2), some (.int x3), none]) RX6 (by decide +kernel) rfl (Nat.le_of_ble_eq_true rfl) rfl ?_
  intro X C hT
  unfold fX6_sets at h
  refine wg_aload_n C dX6_sets_0 rfl ?_
  refine wg_iload_n C dX6_sets_1 rfl ?_
  obtain ⟨q1, e1q, h⟩ := bnd h
  refine wg_callV (n := 1) (As := [.int x1]) (st := []) (st' := [.int q1]) C (sX6_isDay cn bk st r0 r1 r2 r3 r4 li fo tx co ke rf cp lk fl em tm rd x1 q1 e1q) gX6_sets_X6_isDay rfl (by decide +kernel) ⟨⟨rfl, rfl⟩, Nat.le_of_ble_eq_true rfl, Nat.le_of_ble_eq_true rfl⟩ rfl rfl rfl rfl (Nat.le_of_ble_eq_true rfl) dX6_sets_2 rfl ?_
  refine wg_if_eq (tgt := 22) C dX6_sets_5 (by decide) (fun c2 => ?_) (fun c2 => ?_)
  · replace h := ifP c2 h
    refine wg_drop (lv' := [some (.ref 36), none, none, none, none]) [1, 2, 3] rfl ?_
    exact sjX6_sets_22 X C cn bk st r0 r1 r2 r3 r4 li fo tx co ke rf cp lk fl em tm rd  _ h hT
  · replace h := ifN c2 h
    refine wg_iload_n C dX6_sets_8 rfl ?_
    obtain ⟨q4, e4q, h⟩ := bnd h
    refine wg_callT (n := 1) (As := [.int x2]) (st := []) (st' := [.int q4]) C (sX6_isMember cn bk st r0 r1 r2 r3 r4 li fo tx co ke rf cp lk fl em tm rd x2 q4 e4q) gX6_sets_X6_isMember rfl (by decide +kernel) ⟨⟨rfl, rfl⟩, Nat.le_of_ble_eq_true rfl, Nat.le_of_ble_eq_true rfl⟩ rfl rfl (Nat.le_of_ble_eq_true rfl) dX6_sets_9 rfl ?_
    refine wg_if_eq (tgt := 22) C dX6_sets_12 (by decide) (fun c5 => ?_) (fun c5 => ?_)
    · replace h := ifP c5 h
      refine wg_drop (lv' := [some (.ref 36), none, none, none, none]) [1, 2, 3] rfl ?_
      exact sjX6_sets_22 X C cn bk st r0 r1 r2 r3 r4 li fo tx co ke rf cp lk fl em tm rd  _ h hT
    · replace h := ifN c5 h
      refine wg_iload_n C dX6_sets_15 rfl ?_
      obtain ⟨q6, e6q, h⟩ := bnd h
      refine wg_callT (n := 1) (As := [.int x3]) (st := []) (st' := [.int q6]) C (sX6_may cn bk st r0 r1 r2 r3 r4 li fo tx co ke rf cp lk fl em tm rd x3 q6 e6q) gX6_sets_X6_may rfl (by decide +kernel) ⟨⟨rfl, rfl⟩, Nat.le_of_ble_eq_true rfl, Nat.le_of_ble_eq_true rfl⟩ rfl rfl (Nat.le_of_ble_eq_true rfl) dX6_sets_16 rfl ?_
      refine wg_if_ne (tgt := 27) C dX6_sets_19 (by decide) (fun c7 => ?_) (fun c7 => ?_)
      · replace h := ifP c7 h
        refine wg_aload_n C dX6_sets_27 rfl ?_
        obtain ⟨q8, e8q, h⟩ := bnd h
        refine wg_callV (n := 0) (As := []) (st := []) (st' := []) C (sX6_leavesState cn bk st r0 r1 r2 r3 r4 li fo tx co ke rf cp lk fl em tm rd  q8 e8q) gX6_sets_X6_leavesState rfl (by decide +kernel) ⟨⟨rfl, rfl⟩, Nat.le_of_ble_eq_true rfl, Nat.le_of_ble_eq_true rfl⟩ rfl rfl rfl rfl (Nat.le_of_ble_eq_true rfl) dX6_sets_28 rfl ?_
        refine wg_aload_n C dX6_sets_31 rfl ?_
        refine wg_get (v := .ref 39) C fgX6_sets_16 rfl rfl dX6_sets_32 ?_
        refine wg_iconst (v := 4) C dX6_sets_35 (by decide) ?_
        refine wg_iload_n C dX6_sets_36 rfl ?_
        refine wg_imul C dX6_sets_37 ?_
        refine wg_iload_n C dX6_sets_38 rfl ?_
        refine wg_iadd C dX6_sets_39 ?_
        obtain ⟨g9, h⟩ := gdP h
        refine wg_iald (f := co.2.2) (n := 200) C rfl g9 dX6_sets_40 ?_
        refine wg_istore (lv' := [some (.ref 36), some (.int x1), some (.int x2), some (.int x3), some (.int (co.2.2 ((((4 : Int32) * x1) + x2)).toNatClampNeg))]) C dX6_sets_41 (Nat.le_of_ble_eq_true rfl) rfl ?_
        refine wg_aload_n C dX6_sets_43 rfl ?_
        refine wg_get (v := .ref 39) C fgX6_sets_16 rfl rfl dX6_sets_44 ?_
        refine wg_iconst (v := 4) C dX6_sets_47 (by decide) ?_
        refine wg_iload_n C dX6_sets_48 rfl ?_
        refine wg_imul C dX6_sets_49 ?_
        refine wg_iload_n C dX6_sets_50 rfl ?_
        refine wg_iadd C dX6_sets_51 ?_
        refine wg_iload_n C dX6_sets_52 rfl ?_
        obtain ⟨g10, h⟩ := gdP h
        refine wg_iast (f := co.2.2) (n := 200) (hp' := (mkH cn bk st r0 r1 r2 r3 r4 li fo tx (co.1, co.2.1, (upd co.2.2 ((((4 : Int32) * x1) + x2)).toNatClampNeg x3)) q8 rf cp lk fl em tm rd)) C rfl g10 rfl dX6_sets_53 ?_
        refine wg_iload C dX6_sets_54 rfl ?_
        obtain rfl := Option.some.inj h
        exact wg_iret C hT dX6_sets_56
      · replace h := ifN c7 h
        refine wg_drop (lv' := [some (.ref 36), none, none, none, none]) [1, 2, 3] rfl ?_
        exact sjX6_sets_22 X C cn bk st r0 r1 r2 r3 r4 li fo tx co ke rf cp lk fl em tm rd  _ h hT
abbrev rX6_before : Room := { frames := 0, cells := 0, slots := 0, locals := 0 }
theorem iwX6_before_6 : ∀ w ∈ wsX60, w ∈ wsX6_before := by decide +kernel
theorem fgX6_before_16 : FG wsX6_before RX6 16 6 3 := ⟨RX6, TX6, 21, rfl, by decide, by decide +kernel, iwX6_before_6⟩
set_option maxRecDepth 100000 in
set_option maxHeartbeats 4000000 in
theorem sbX6_before_4 (X : CX) (C : Ok X RX6 cX6_before wsX6_before rX6_before) (cn : Tcn) (bk : Tbk) (st : Tst) (r0 : Tbk) (r1 : Tbk) (r2 : Tbk) (r3 : Tbk) (r4 : Tbk) (li : Tli) (fo : Tfo) (tx : Ttx) (co : Tco) (ke : Tke) (rf : (Nat → Int32)) (cp : Int32) (lk : Tlk) (fl : Tfl) (em : Int32) (tm : Ttm) (rd : Trd)  (z : Int32) (o : (Int32) ⊕ Int32) (h : bX6_before_4 co  z = some o) (k0 : ∀ a : Int32, o = .inl a → Wg X 4 [some (.ref 36), none, some (.int a)] [] (mkH cn bk st r0 r1 r2 r3 r4 li fo tx co ke rf cp lk fl em tm rd)) (e0 : ∀ a : Int32, o = .inr a → Wg X 26 [some (.ref 36), none, some (.int a)] [] (mkH cn bk st r0 r1 r2 r3 r4 li fo tx co ke rf cp lk fl em tm rd)) : Wg X 4 [some (.ref 36), none, some (.int z)] [] (mkH cn bk st r0 r1 r2 r3 r4 li fo tx co ke rf cp lk fl em tm rd) := by
  unfold bX6_before_4 at h
  refine wg_iload_n C dX6_before_4 rfl ?_
  refine wg_if_lt (tgt := 26) C dX6_before_5 (by decide) (fun c1 => ?_) (fun c1 => ?_)
  · replace h := ifP c1 h
    have hk := e0 _ (Option.some.inj h).symm
    exact hk
  · replace h := ifN c1 h
    refine wg_aload_n C dX6_before_8 rfl ?_
    refine wg_get (v := .ref 39) C fgX6_before_16 rfl rfl dX6_before_9 ?_
    refine wg_iload_n C dX6_before_12 rfl ?_
    obtain ⟨g2, h⟩ := gdP h
    refine wg_iald (f := co.2.2) (n := 200) C rfl g2 dX6_before_13 ?_
    refine wg_sipush (v := -10000) C dX6_before_14 (by decide) ?_
    refine wg_icmp_ne (tgt := 26) C dX6_before_17 (by decide) (fun c3 => ?_) (fun c3 => ?_)
    · replace h := ifP c3 h
      have hk := e0 _ (Option.some.inj h).symm
      exact hk
    · replace h := ifN c3 h
      refine wg_iinc (v := (z + (-4 : Int32))) (lv' := [some (.ref 36), none, some (.int (z + (-4 : Int32)))]) C dX6_before_20 rfl rfl rfl ?_
      refine wg_goto (tgt := 4) C dX6_before_23 (by decide) ?_
      have hk := k0 _ (Option.some.inj h).symm
      exact hk
set_option maxRecDepth 100000 in
set_option maxHeartbeats 4000000 in
theorem slX6_before_4 (X : CX) (C : Ok X RX6 cX6_before wsX6_before rX6_before) (cn : Tcn) (bk : Tbk) (st : Tst) (r0 : Tbk) (r1 : Tbk) (r2 : Tbk) (r3 : Tbk) (r4 : Tbk) (li : Tli) (fo : Tfo) (tx : Ttx) (co : Tco) (ke : Tke) (rf : (Nat → Int32)) (cp : Int32) (lk : Tlk) (fl : Tfl) (em : Int32) (tm : Ttm) (rd : Trd)  (o : Int32) (e0 : ∀ a : Int32, o = a → Wg X 26 [some (.ref 36), none, some (.int a)] [] (mkH cn bk st r0 r1 r2 r3 r4 li fo tx co ke rf cp lk fl em tm rd)) : ∀ (n : Nat) (z : Int32), lpF (bX6_before_4 co ) n z = some o → Wg X 4 [some (.ref 36), none, some (.int z)] [] (mkH cn bk st r0 r1 r2 r3 r4 li fo tx co ke rf cp lk fl em tm rd) := by
  intro n
  induction n with
  | zero => intro z h; cases h
  | succ n ih =>
    intro z h
    obtain ⟨r, hB, h⟩ := bnd h
    refine sbX6_before_4 X C cn bk st r0 r1 r2 r3 r4 li fo tx co ke rf cp lk fl em tm rd  z r hB (fun a e => ih a (by subst e; exact h)) (fun a e => e0 a (by subst e; exact (Option.some.inj h).symm))
set_option maxRecDepth 100000 in
set_option maxHeartbeats 4000000 in
theorem sjX6_before_40 (X : CX) (C : Ok X RX6 cX6_before wsX6_before rX6_before) (cn : Tcn) (bk : Tbk) (st : Tst) (r0 : Tbk) (r1 : Tbk) (r2 : Tbk) (r3 : Tbk) (r4 : Tbk) (li : Tli) (fo : Tfo) (tx : Ttx) (co : Tco) (ke : Tke) (rf : (Nat → Int32)) (cp : Int32) (lk : Tlk) (fl : Tfl) (em : Int32) (tm : Ttm) (rd : Trd) (y0 : Int32) (o : Int32) (h : jX6_before_40 co y0 = some o) (hT : Rt X (some .int) (some (.int o)) (mkH cn bk st r0 r1 r2 r3 r4 li fo tx co ke rf cp lk fl em tm rd)) : Wg X 40 [none, none, none] [.int y0] (mkH cn bk st r0 r1 r2 r3 r4 li fo tx co ke rf cp lk fl em tm rd) := by
  unfold jX6_before_40 at h
  obtain rfl := Option.some.inj h
  exact wg_iret C hT dX6_before_40
set_option maxRecDepth 100000 in
set_option maxHeartbeats 4000000 in
theorem sX6_before (cn : Tcn) (bk : Tbk) (st : Tst) (r0 : Tbk) (r1 : Tbk) (r2 : Tbk) (r3 : Tbk) (r4 : Tbk) (li : Tli) (fo : Tfo) (tx : Ttx) (co : Tco) (ke : Tke) (rf : (Nat → Int32)) (cp : Int32) (lk : Tlk) (fl : Tfl) (em : Int32) (tm : Ttm) (rd : Trd) (x1 : Int32) (o : Int32) (h : fX6_before co x1 = some o) : Sp yX6_before wsX6_before rX6_before [.ref 36, .int x1] (mkH cn bk st r0 r1 r2 r3 r4 li fo tx co ke rf cp lk fl em tm rd) (some (.int o)) (mkH cn bk st r0 r1 r2 r3 r4 li fo tx co ke rf cp lk fl em tm rd) := by
  refine Sp.of (lv := [some (.ref 36), some (.int x1), none]) RX6 (by decide +kernel) rfl (Nat.le_of_ble_eq_true rfl) rfl ?_
  intro X C hT
  unfold fX6_before at h
  refine wg_iload_n C dX6_before_0 rfl ?_
  refine wg_iconst (v := 4) C dX6_before_1 (by decide) ?_
  refine wg_isub C dX6_before_2 ?_
  refine wg_istore_n (lv' := [some (.ref 36), some (.int x1), some (.int (x1 - (4 : Int32)))]) C dX6_before_3 (Nat.le_of_ble_eq_true rfl) rfl ?_
  refine wg_drop (lv' := [some (.ref 36), none, some (.int (x1 - (4 : Int32)))]) [1] rfl ?_
  obtain ⟨t4, hL4, h⟩ := bnd h
  refine slX6_before_4 X C cn bk st r0 r1 r2 r3 r4 li fo tx co ke rf cp lk fl em tm rd  t4 (fun a e => ?_) FU (x1 - (4 : Int32)) hL4
  subst e
  refine wg_iload_n C dX6_before_26 rfl ?_
  refine wg_if_ge (tgt := 34) C dX6_before_27 (by decide) (fun c5 => ?_) (fun c5 => ?_)
  · replace h := ifP c5 h
    refine wg_aload_n C dX6_before_34 rfl ?_
    refine wg_get (v := .ref 39) C fgX6_before_16 rfl rfl dX6_before_35 ?_
    refine wg_iload_n C dX6_before_38 rfl ?_
    obtain ⟨g6, h⟩ := gdP h
    refine wg_iald (f := co.2.2) (n := 200) C rfl g6 dX6_before_39 ?_
    refine wg_drop (lv' := [none, none, none]) [0, 2] rfl ?_
    exact sjX6_before_40 X C cn bk st r0 r1 r2 r3 r4 li fo tx co ke rf cp lk fl em tm rd (co.2.2 (t4).toNatClampNeg) _ h hT
  · replace h := ifN c5 h
    refine wg_iconst (v := 0) C dX6_before_30 (by decide) ?_
    refine wg_goto (tgt := 40) C dX6_before_31 (by decide) ?_
    refine wg_drop (lv' := [none, none, none]) [0, 2] rfl ?_
    exact sjX6_before_40 X C cn bk st r0 r1 r2 r3 r4 li fo tx co ke rf cp lk fl em tm rd (0 : Int32) _ h hT
abbrev rX6_draw : Room := { frames := 1, cells := 0, slots := 0, locals := 22 }
theorem iwX6_draw_6 : ∀ w ∈ wsX60, w ∈ wsX6_draw := by decide +kernel
theorem fgX6_draw_16 : FG wsX6_draw RX6 16 6 3 := ⟨RX6, TX6, 21, rfl, by decide, by decide +kernel, iwX6_draw_6⟩
theorem fwX6_draw_48 : FW wsX6_draw RX6 48 6 1 .int := ⟨RX6, TX6, 21, tyX6, rfl, by decide, by decide +kernel, iwX6_draw_6, tyX6_ok, nmX6, rfl, by decide +kernel⟩
set_option maxRecDepth 100000 in
set_option maxHeartbeats 4000000 in
theorem sjX6_draw_20 (X : CX) (C : Ok X RX6 cX6_draw wsX6_draw rX6_draw) (cn : Tcn) (bk : Tbk) (st : Tst) (r0 : Tbk) (r1 : Tbk) (r2 : Tbk) (r3 : Tbk) (r4 : Tbk) (li : Tli) (fo : Tfo) (tx : Ttx) (co : Tco) (ke : Tke) (rf : (Nat → Int32)) (cp : Int32) (lk : Tlk) (fl : Tfl) (em : Int32) (tm : Ttm) (rd : Trd)  (o : Int32 × Tco × Tke × (Nat → Int32)) (h : jX6_draw_20 co ke rf  = some o) (hT : Rt X (some .int) (some (.int o.1)) (mkH cn bk st r0 r1 r2 r3 r4 li fo tx o.2.1 o.2.2.1 o.2.2.2 cp lk fl em tm rd)) : Wg X 20 [some (.ref 36), none, none, none, none, none, none, none] [] (mkH cn bk st r0 r1 r2 r3 r4 li fo tx co ke rf cp lk fl em tm rd) := by
  unfold jX6_draw_20 at h
  refine wg_aload_n C dX6_draw_20 rfl ?_
  obtain ⟨q3, e3q, h⟩ := bnd h
  refine wg_callV (n := 0) (As := []) (st := []) (st' := [.int q3.1]) C (sX6_bad cn bk st r0 r1 r2 r3 r4 li fo tx co ke rf cp lk fl em tm rd  q3 e3q) gX6_draw_X6_bad rfl (by decide +kernel) ⟨⟨rfl, rfl⟩, Nat.le_of_ble_eq_true rfl, Nat.le_of_ble_eq_true rfl⟩ rfl rfl rfl rfl (Nat.le_of_ble_eq_true rfl) dX6_draw_21 rfl ?_
  obtain rfl := Option.some.inj h
  exact wg_iret C hT dX6_draw_24
set_option maxRecDepth 100000 in
set_option maxHeartbeats 4000000 in
theorem sjX6_draw_43_154 (X : CX) (C : Ok X RX6 cX6_draw wsX6_draw rX6_draw) (cn : Tcn) (bk : Tbk) (st : Tst) (r0 : Tbk) (r1 : Tbk) (r2 : Tbk) (r3 : Tbk) (r4 : Tbk) (li : Tli) (fo : Tfo) (tx : Ttx) (co : Tco) (ke : Tke) (rf : (Nat → Int32)) (cp : Int32) (lk : Tlk) (fl : Tfl) (em : Int32) (tm : Ttm) (rd : Trd) (x2 : Int32) (x3 : Int64) (x5 : Int32) (x6 : Int32) (o : (Int64 × Int32 × Int32 × Tco) ⊕ (Int32 × Tco)) (h : jX6_draw_43_154 co ke rf x2 x3 x5 x6 = some o) (k0 : ∀ a : Int64 × Int32 × Int32 × Tco, o = .inl a → Wg X 43 [some (.ref 36), none, some (.int x2), some (.long a.1), none, some (.int a.2.1), some (.int a.2.2.1), none] [] (mkH cn bk st r0 r1 r2 r3 r4 li fo tx a.2.2.2 ke rf cp lk fl em tm rd)) (e0 : ∀ a : Int32 × Tco, o = .inr a → Wg X 160 [none, none, none, none, none, some (.int a.1), none, none] [] (mkH cn bk st r0 r1 r2 r3 r4 li fo tx a.2 ke rf cp lk fl em tm rd)) : Wg X 154 [some (.ref 36), none, some (.int x2), some (.long x3), none, some (.int x5), some (.int x6), none] [] (mkH cn bk st r0 r1 r2 r3 r4 li fo tx co ke rf cp lk fl em tm rd) := by
  unfold jX6_draw_43_154 at h
  refine wg_iinc (v := (x6 + (1 : Int32))) (lv' := [some (.ref 36), none, some (.int x2), some (.long x3), none, some (.int x5), some (.int (x6 + (1 : Int32))), none]) C dX6_draw_154 rfl rfl rfl ?_
  refine wg_goto (tgt := 43) C dX6_draw_157 (by decide) ?_
  have hk := k0 _ (Option.some.inj h).symm
  exact hk
set_option maxRecDepth 100000 in
set_option maxHeartbeats 4000000 in
theorem sjX6_draw_43_153 (X : CX) (C : Ok X RX6 cX6_draw wsX6_draw rX6_draw) (cn : Tcn) (bk : Tbk) (st : Tst) (r0 : Tbk) (r1 : Tbk) (r2 : Tbk) (r3 : Tbk) (r4 : Tbk) (li : Tli) (fo : Tfo) (tx : Ttx) (co : Tco) (ke : Tke) (rf : (Nat → Int32)) (cp : Int32) (lk : Tlk) (fl : Tfl) (em : Int32) (tm : Ttm) (rd : Trd) (x2 : Int32) (x3 : Int64) (x5 : Int32) (x6 : Int32) (y1 : Int32) (y2 : Int32) (o : (Int64 × Int32 × Int32 × Tco) ⊕ (Int32 × Tco)) (h : jX6_draw_43_153 co ke rf x2 x3 x5 x6 y1 y2 = some o) (k0 : ∀ a : Int64 × Int32 × Int32 × Tco, o = .inl a → Wg X 43 [some (.ref 36), none, some (.int x2), some (.long a.1), none, some (.int a.2.1), some (.int a.2.2.1), none] [] (mkH cn bk st r0 r1 r2 r3 r4 li fo tx a.2.2.2 ke rf cp lk fl em tm rd)) (e0 : ∀ a : Int32 × Tco, o = .inr a → Wg X 160 [none, none, none, none, none, some (.int a.1), none, none] [] (mkH cn bk st r0 r1 r2 r3 r4 li fo tx a.2 ke rf cp lk fl em tm rd)) : Wg X 153 [some (.ref 36), none, some (.int x2), some (.long x3), none, some (.int x5), some (.int x6), none] [.int y2, .int y1, .ref 39] (mkH cn bk st r0 r1 r2 r3 r4 li fo tx co ke rf cp lk fl em tm rd) := by
  unfold jX6_draw_43_153 at h
  obtain ⟨g12, h⟩ := gdP h
  refine wg_iast (f := co.2.2) (n := 200) (hp' := (mkH cn bk st r0 r1 r2 r3 r4 li fo tx (co.1, co.2.1, (upd co.2.2 (y1).toNatClampNeg y2)) ke rf cp lk fl em tm rd)) C rfl g12 rfl dX6_draw_153 ?_
  exact sjX6_draw_43_154 X C cn bk st r0 r1 r2 r3 r4 li fo tx (co.1, co.2.1, (upd co.2.2 (y1).toNatClampNeg y2)) ke rf cp lk fl em tm rd x2 x3 x5 x6 _ h k0 e0
set_option maxRecDepth 100000 in
set_option maxHeartbeats 4000000 in
theorem sbX6_draw_43 (X : CX) (C : Ok X RX6 cX6_draw wsX6_draw rX6_draw) (cn : Tcn) (bk : Tbk) (st : Tst) (r0 : Tbk) (r1 : Tbk) (r2 : Tbk) (r3 : Tbk) (r4 : Tbk) (li : Tli) (fo : Tfo) (tx : Ttx) (co : Tco) (ke : Tke) (rf : (Nat → Int32)) (cp : Int32) (lk : Tlk) (fl : Tfl) (em : Int32) (tm : Ttm) (rd : Trd) (x2 : Int32) (z : Int64 × Int32 × Int32 × Tco) (o : (Int64 × Int32 × Int32 × Tco) ⊕ (Int32 × Tco)) (h : bX6_draw_43 ke rf x2 z = some o) (k0 : ∀ a : Int64 × Int32 × Int32 × Tco, o = .inl a → Wg X 43 [some (.ref 36), none, some (.int x2), some (.long a.1), none, some (.int a.2.1), some (.int a.2.2.1), none] [] (mkH cn bk st r0 r1 r2 r3 r4 li fo tx a.2.2.2 ke rf cp lk fl em tm rd)) (e0 : ∀ a : Int32 × Tco, o = .inr a → Wg X 160 [none, none, none, none, none, some (.int a.1), none, none] [] (mkH cn bk st r0 r1 r2 r3 r4 li fo tx a.2 ke rf cp lk fl em tm rd)) : Wg X 43 [some (.ref 36), none, some (.int x2), some (.long z.1), none, some (.int z.2.1), some (.int z.2.2.1), none] [] (mkH cn bk st r0 r1 r2 r3 r4 li fo tx z.2.2.2 ke rf cp lk fl em tm rd) := by
  unfold bX6_draw_43 at h
  refine wg_iload C dX6_draw_43 rfl ?_
  refine wg_iconst (v := 4) C dX6_draw_45 (by decide) ?_
  refine wg_iload_n C dX6_draw_46 rfl ?_
  refine wg_imul C dX6_draw_47 ?_
  refine wg_icmp_ge (tgt := 160) C dX6_draw_48 (by decide) (fun c7 => ?_) (fun c7 => ?_)
  · replace h := ifP c7 h
    refine wg_drop (lv' := [none, none, none, none, none, some (.int z.2.1), none, none]) [0, 2, 3, 6] rfl ?_
    have hk := e0 _ (Option.some.inj h).symm
    exact hk
  · replace h := ifN c7 h
    refine wg_lload_n C dX6_draw_51 rfl ?_
    refine wg_ldcl (v := 1103515245) C (by decide +kernel) dX6_draw_52 ?_
    refine wg_lmul C dX6_draw_55 ?_
    refine wg_ldcl (v := 12345) C (by decide +kernel) dX6_draw_56 ?_
    refine wg_ladd C dX6_draw_59 ?_
    refine wg_ldcl (v := 2147483648) C (by decide +kernel) dX6_draw_60 ?_
    refine wg_lrem C dX6_draw_63 (by decide) ?_
    refine wg_lstore_n (lv' := [some (.ref 36), none, some (.int x2), some (.long (((z.1 * (1103515245 : Int64)) + (12345 : Int64)) - ((z.1 * (1103515245 : Int64)) + (12345 : Int64)) / (2147483648 : Int64) * (2147483648 : Int64))), none, some (.int z.2.1), some (.int z.2.2.1), none]) C dX6_draw_64 (Nat.le_of_ble_eq_true rfl) rfl ?_
    refine wg_lload_n C dX6_draw_65 rfl ?_
    refine wg_ldcl (v := 65536) C (by decide +kernel) dX6_draw_66 ?_
    refine wg_ldiv C dX6_draw_69 (by decide) ?_
    refine wg_ldcl (v := 16) C (by decide +kernel) dX6_draw_70 ?_
    refine wg_lrem C dX6_draw_73 (by decide) ?_
    refine wg_lconst (v := 0) C dX6_draw_74 (by decide) ?_
    refine wg_lcmp C dX6_draw_75 ?_
    refine wg_if_ne (tgt := 95) C dX6_draw_76 (by decide) (fun c8 => ?_) (fun c8 => ?_)
    · replace h := ifP c8 h
      refine wg_aload_n C dX6_draw_95 rfl ?_
      refine wg_iload C dX6_draw_96 rfl ?_
      obtain ⟨q9, e9q, h⟩ := bnd h
      refine wg_callV (n := 1) (As := [.int z.2.2.1]) (st := []) (st' := [.int q9]) C (sX6_before cn bk st r0 r1 r2 r3 r4 li fo tx z.2.2.2 ke rf cp lk fl em tm rd z.2.2.1 q9 e9q) gX6_draw_X6_before rfl (by decide +kernel) ⟨⟨rfl, rfl⟩, Nat.le_of_ble_eq_true rfl, Nat.le_of_ble_eq_true rfl⟩ rfl rfl rfl rfl (Nat.le_of_ble_eq_true rfl) dX6_draw_98 rfl ?_
      refine wg_lload_n C dX6_draw_101 rfl ?_
      refine wg_ldcl (v := 1024) C (by decide +kernel) dX6_draw_102 ?_
      refine wg_ldiv C dX6_draw_105 (by decide) ?_
      refine wg_ldcl (v := 41) C (by decide +kernel) dX6_draw_106 ?_
      refine wg_lrem C dX6_draw_109 (by decide) ?_
      refine wg_l2i C dX6_draw_110 ?_
      refine wg_iadd C dX6_draw_111 ?_
      refine wg_bipush (v := 20) C dX6_draw_112 (by decide) ?_
      refine wg_isub C dX6_draw_114 ?_
      refine wg_istore (lv' := [some (.ref 36), none, some (.int x2), some (.long (((z.1 * (1103515245 : Int64)) + (12345 : Int64)) - ((z.1 * (1103515245 : Int64)) + (12345 : Int64)) / (2147483648 : Int64) * (2147483648 : Int64))), none, some (.int z.2.1), some (.int z.2.2.1), some (.int ((q9 + ((((((z.1 * (1103515245 : Int64)) + (12345 : Int64)) - ((z.1 * (1103515245 : Int64)) + (12345 : Int64)) / (2147483648 : Int64) * (2147483648 : Int64)) / (1024 : Int64)) - ((((z.1 * (1103515245 : Int64)) + (12345 : Int64)) - ((z.1 * (1103515245 : Int64)) + (12345 : Int64)) / (2147483648 : Int64) * (2147483648 : Int64)) / (1024 : Int64)) / (41 : Int64) * (41 : Int64))).toInt32) - (20 : Int32)))]) C dX6_draw_115 (Nat.le_of_ble_eq_true rfl) rfl ?_
      refine wg_aload_n C dX6_draw_117 rfl ?_
      refine wg_get (v := .ref 39) C fgX6_draw_16 rfl rfl dX6_draw_118 ?_
      refine wg_iload C dX6_draw_121 rfl ?_
      refine wg_iload C dX6_draw_123 rfl ?_
      refine wg_sipush (v := 999) C dX6_draw_125 (by decide) ?_
      refine wg_icmp_le (tgt := 137) C dX6_draw_128 (by decide) (fun c10 => ?_) (fun c10 => ?_)
      · replace h := ifP c10 h
        refine wg_iload C dX6_draw_137 rfl ?_
        refine wg_sipush (v := -999) C dX6_draw_139 (by decide) ?_
        refine wg_icmp_ge (tgt := 151) C dX6_draw_142 (by decide) (fun c11 => ?_) (fun c11 => ?_)
        · replace h := ifP c11 h
          refine wg_iload C dX6_draw_151 rfl ?_
          refine wg_drop (lv' := [some (.ref 36), none, some (.int x2), some (.long (((z.1 * (1103515245 : Int64)) + (12345 : Int64)) - ((z.1 * (1103515245 : Int64)) + (12345 : Int64)) / (2147483648 : Int64) * (2147483648 : Int64))), none, some (.int z.2.1), some (.int z.2.2.1), none]) [7] rfl ?_
          exact sjX6_draw_43_153 X C cn bk st r0 r1 r2 r3 r4 li fo tx z.2.2.2 ke rf cp lk fl em tm rd x2 (((z.1 * (1103515245 : Int64)) + (12345 : Int64)) - ((z.1 * (1103515245 : Int64)) + (12345 : Int64)) / (2147483648 : Int64) * (2147483648 : Int64)) z.2.1 z.2.2.1 z.2.2.1 ((q9 + ((((((z.1 * (1103515245 : Int64)) + (12345 : Int64)) - ((z.1 * (1103515245 : Int64)) + (12345 : Int64)) / (2147483648 : Int64) * (2147483648 : Int64)) / (1024 : Int64)) - ((((z.1 * (1103515245 : Int64)) + (12345 : Int64)) - ((z.1 * (1103515245 : Int64)) + (12345 : Int64)) / (2147483648 : Int64) * (2147483648 : Int64)) / (1024 : Int64)) / (41 : Int64) * (41 : Int64))).toInt32) - (20 : Int32)) _ h k0 e0
        · replace h := ifN c11 h
          refine wg_sipush (v := -999) C dX6_draw_145 (by decide) ?_
          refine wg_goto (tgt := 153) C dX6_draw_148 (by decide) ?_
          refine wg_drop (lv' := [some (.ref 36), none, some (.int x2), some (.long (((z.1 * (1103515245 : Int64)) + (12345 : Int64)) - ((z.1 * (1103515245 : Int64)) + (12345 : Int64)) / (2147483648 : Int64) * (2147483648 : Int64))), none, some (.int z.2.1), some (.int z.2.2.1), none]) [7] rfl ?_
          exact sjX6_draw_43_153 X C cn bk st r0 r1 r2 r3 r4 li fo tx z.2.2.2 ke rf cp lk fl em tm rd x2 (((z.1 * (1103515245 : Int64)) + (12345 : Int64)) - ((z.1 * (1103515245 : Int64)) + (12345 : Int64)) / (2147483648 : Int64) * (2147483648 : Int64)) z.2.1 z.2.2.1 z.2.2.1 (-999 : Int32) _ h k0 e0
      · replace h := ifN c10 h
        refine wg_sipush (v := 999) C dX6_draw_131 (by decide) ?_
        refine wg_goto (tgt := 153) C dX6_draw_134 (by decide) ?_
        refine wg_drop (lv' := [some (.ref 36), none, some (.int x2), some (.long (((z.1 * (1103515245 : Int64)) + (12345 : Int64)) - ((z.1 * (1103515245 : Int64)) + (12345 : Int64)) / (2147483648 : Int64) * (2147483648 : Int64))), none, some (.int z.2.1), some (.int z.2.2.1), none]) [7] rfl ?_
        exact sjX6_draw_43_153 X C cn bk st r0 r1 r2 r3 r4 li fo tx z.2.2.2 ke rf cp lk fl em tm rd x2 (((z.1 * (1103515245 : Int64)) + (12345 : Int64)) - ((z.1 * (1103515245 : Int64)) + (12345 : Int64)) / (2147483648 : Int64) * (2147483648 : Int64)) z.2.1 z.2.2.1 z.2.2.1 (999 : Int32) _ h k0 e0
    · replace h := ifN c8 h
      refine wg_aload_n C dX6_draw_79 rfl ?_
      refine wg_get (v := .ref 39) C fgX6_draw_16 rfl rfl dX6_draw_80 ?_
      refine wg_iload C dX6_draw_83 rfl ?_
      refine wg_sipush (v := -10000) C dX6_draw_85 (by decide) ?_
      obtain ⟨g13, h⟩ := gdP h
      refine wg_iast (f := z.2.2.2.2.2) (n := 200) (hp' := (mkH cn bk st r0 r1 r2 r3 r4 li fo tx (z.2.2.2.1, z.2.2.2.2.1, (upd z.2.2.2.2.2 (z.2.2.1).toNatClampNeg (-10000 : Int32))) ke rf cp lk fl em tm rd)) C rfl g13 rfl dX6_draw_88 ?_
      refine wg_iinc (v := (z.2.1 + (1 : Int32))) (lv' := [some (.ref 36), none, some (.int x2), some (.long (((z.1 * (1103515245 : Int64)) + (12345 : Int64)) - ((z.1 * (1103515245 : Int64)) + (12345 : Int64)) / (2147483648 : Int64) * (2147483648 : Int64))), none, some (.int (z.2.1 + (1 : Int32))), some (.int z.2.2.1), none]) C dX6_draw_89 rfl rfl rfl ?_
      refine wg_goto (tgt := 154) C dX6_draw_92 (by decide) ?_
      exact sjX6_draw_43_154 X C cn bk st r0 r1 r2 r3 r4 li fo tx (z.2.2.2.1, z.2.2.2.2.1, (upd z.2.2.2.2.2 (z.2.2.1).toNatClampNeg (-10000 : Int32))) ke rf cp lk fl em tm rd x2 (((z.1 * (1103515245 : Int64)) + (12345 : Int64)) - ((z.1 * (1103515245 : Int64)) + (12345 : Int64)) / (2147483648 : Int64) * (2147483648 : Int64)) (z.2.1 + (1 : Int32)) z.2.2.1 _ h k0 e0
set_option maxRecDepth 100000 in
set_option maxHeartbeats 4000000 in
theorem slX6_draw_43 (X : CX) (C : Ok X RX6 cX6_draw wsX6_draw rX6_draw) (cn : Tcn) (bk : Tbk) (st : Tst) (r0 : Tbk) (r1 : Tbk) (r2 : Tbk) (r3 : Tbk) (r4 : Tbk) (li : Tli) (fo : Tfo) (tx : Ttx) (co : Tco) (ke : Tke) (rf : (Nat → Int32)) (cp : Int32) (lk : Tlk) (fl : Tfl) (em : Int32) (tm : Ttm) (rd : Trd) (x2 : Int32) (o : (Int32 × Tco)) (e0 : ∀ a : Int32 × Tco, o = a → Wg X 160 [none, none, none, none, none, some (.int a.1), none, none] [] (mkH cn bk st r0 r1 r2 r3 r4 li fo tx a.2 ke rf cp lk fl em tm rd)) : ∀ (n : Nat) (z : Int64 × Int32 × Int32 × Tco), lpF (bX6_draw_43 ke rf x2) n z = some o → Wg X 43 [some (.ref 36), none, some (.int x2), some (.long z.1), none, some (.int z.2.1), some (.int z.2.2.1), none] [] (mkH cn bk st r0 r1 r2 r3 r4 li fo tx z.2.2.2 ke rf cp lk fl em tm rd) := by
  intro n
  induction n with
  | zero => intro z h; cases h
  | succ n ih =>
    intro z h
    obtain ⟨r, hB, h⟩ := bnd h
    refine sbX6_draw_43 X C cn bk st r0 r1 r2 r3 r4 li fo tx co ke rf cp lk fl em tm rd x2 z r hB (fun a e => ih a (by subst e; exact h)) (fun a e => e0 a (by subst e; exact (Option.some.inj h).symm))
set_option maxRecDepth 100000 in
set_option maxHeartbeats 4000000 in
theorem sX6_draw (cn : Tcn) (bk : Tbk) (st : Tst) (r0 : Tbk) (r1 : Tbk) (r2 : Tbk) (r3 : Tbk) (r4 : Tbk) (li : Tli) (fo : Tfo) (tx : Ttx) (co : Tco) (ke : Tke) (rf : (Nat → Int32)) (cp : Int32) (lk : Tlk) (fl : Tfl) (em : Int32) (tm : Ttm) (rd : Trd) (x1 : Int32) (x2 : Int32) (o : Int32 × Tco × Tke × (Nat → Int32)) (h : fX6_draw co ke rf x1 x2 = some o) : Sp yX6_draw wsX6_draw rX6_draw [.ref 36, .int x1, .int x2] (mkH cn bk st r0 r1 r2 r3 r4 li fo tx co ke rf cp lk fl em tm rd) (some (.int o.1)) (mkH cn bk st r0 r1 r2 r3 r4 li fo tx o.2.1 o.2.2.1 o.2.2.2 cp lk fl em tm rd) := by
  refine Sp.of (lv := [some (.ref 36), some (.int x1), some (.int x2), none, none, none, none, none]) RX6 (by decide +kernel) rfl (Nat.le_of_ble_eq_true rfl) rfl ?_
  intro X C hT
  unfold fX6_draw at h
  refine wg_iload_n C dX6_draw_0 rfl ?_
  refine wg_iconst (v := 0) C dX6_draw_1 (by decide) ?_
  refine wg_ldci (v := 999999) C (by decide +kernel) dX6_draw_2 ?_
  obtain ⟨q1, e1q, h⟩ := bnd h
  refine wg_callT (n := 3) (As := [.int x1, .int (0 : Int32), .int (999999 : Int32)]) (st := []) (st' := [.int q1]) C (sX6_in cn bk st r0 r1 r2 r3 r4 li fo tx co ke rf cp lk fl em tm rd x1 (0 : Int32) (999999 : Int32) q1 e1q) gX6_draw_X6_in rfl (by decide +kernel) ⟨⟨rfl, rfl⟩, Nat.le_of_ble_eq_true rfl, Nat.le_of_ble_eq_true rfl⟩ rfl rfl (Nat.le_of_ble_eq_true rfl) dX6_draw_4 rfl ?_
  refine wg_if_eq (tgt := 20) C dX6_draw_7 (by decide) (fun c2 => ?_) (fun c2 => ?_)
  · replace h := ifP c2 h
    refine wg_drop (lv' := [some (.ref 36), none, none, none, none, none, none, none]) [1, 2] rfl ?_
    exact sjX6_draw_20 X C cn bk st r0 r1 r2 r3 r4 li fo tx co ke rf cp lk fl em tm rd  _ h hT
  · replace h := ifN c2 h
    refine wg_iload_n C dX6_draw_10 rfl ?_
    refine wg_iconst (v := 1) C dX6_draw_11 (by decide) ?_
    refine wg_bipush (v := 50) C dX6_draw_12 (by decide) ?_
    obtain ⟨q4, e4q, h⟩ := bnd h
    refine wg_callT (n := 3) (As := [.int x2, .int (1 : Int32), .int (50 : Int32)]) (st := []) (st' := [.int q4]) C (sX6_in cn bk st r0 r1 r2 r3 r4 li fo tx co ke rf cp lk fl em tm rd x2 (1 : Int32) (50 : Int32) q4 e4q) gX6_draw_X6_in rfl (by decide +kernel) ⟨⟨rfl, rfl⟩, Nat.le_of_ble_eq_true rfl, Nat.le_of_ble_eq_true rfl⟩ rfl rfl (Nat.le_of_ble_eq_true rfl) dX6_draw_14 rfl ?_
    refine wg_if_ne (tgt := 25) C dX6_draw_17 (by decide) (fun c5 => ?_) (fun c5 => ?_)
    · replace h := ifP c5 h
      refine wg_aload_n C dX6_draw_25 rfl ?_
      obtain ⟨q6, e6q, h⟩ := bnd h
      refine wg_callV (n := 0) (As := []) (st := []) (st' := []) C (sX6_leavesState cn bk st r0 r1 r2 r3 r4 li fo tx co ke rf cp lk fl em tm rd  q6 e6q) gX6_draw_X6_leavesState rfl (by decide +kernel) ⟨⟨rfl, rfl⟩, Nat.le_of_ble_eq_true rfl, Nat.le_of_ble_eq_true rfl⟩ rfl rfl rfl rfl (Nat.le_of_ble_eq_true rfl) dX6_draw_26 rfl ?_
      refine wg_aload_n C dX6_draw_29 rfl ?_
      refine wg_iload_n C dX6_draw_30 rfl ?_
      refine wg_put (hp' := (mkH cn bk st r0 r1 r2 r3 r4 li fo tx (x2, co.2.1, co.2.2) q6 rf cp lk fl em tm rd)) C fwX6_draw_48 rfl (Nat.le_of_ble_eq_true rfl) rfl rfl rfl dX6_draw_31 ?_
      refine wg_iload_n C dX6_draw_34 rfl ?_
      refine wg_i2l C dX6_draw_35 ?_
      refine wg_lstore_n (lv' := [some (.ref 36), some (.int x1), some (.int x2), some (.long ((x1).toInt64)), none, none, none, none]) C dX6_draw_36 (Nat.le_of_ble_eq_true rfl) rfl ?_
      refine wg_iconst (v := 0) C dX6_draw_37 (by decide) ?_
      refine wg_istore (lv' := [some (.ref 36), some (.int x1), some (.int x2), some (.long ((x1).toInt64)), none, some (.int (0 : Int32)), none, none]) C dX6_draw_38 (Nat.le_of_ble_eq_true rfl) rfl ?_
      refine wg_iconst (v := 0) C dX6_draw_40 (by decide) ?_
      refine wg_istore (lv' := [some (.ref 36), some (.int x1), some (.int x2), some (.long ((x1).toInt64)), none, some (.int (0 : Int32)), some (.int (0 : Int32)), none]) C dX6_draw_41 (Nat.le_of_ble_eq_true rfl) rfl ?_
      refine wg_drop (lv' := [some (.ref 36), none, some (.int x2), some (.long ((x1).toInt64)), none, some (.int (0 : Int32)), some (.int (0 : Int32)), none]) [1] rfl ?_
      obtain ⟨t14, hL14, h⟩ := bnd h
      refine slX6_draw_43 X C cn bk st r0 r1 r2 r3 r4 li fo tx (x2, co.2.1, co.2.2) q6 rf cp lk fl em tm rd x2 t14 (fun a e => ?_) FU ((x1).toInt64, (0 : Int32), (0 : Int32), (x2, co.2.1, co.2.2)) hL14
      subst e
      refine wg_iload C dX6_draw_160 rfl ?_
      obtain rfl := Option.some.inj h
      exact wg_iret C hT dX6_draw_162
    · replace h := ifN c5 h
      refine wg_drop (lv' := [some (.ref 36), none, none, none, none, none, none, none]) [1, 2] rfl ?_
      exact sjX6_draw_20 X C cn bk st r0 r1 r2 r3 r4 li fo tx co ke rf cp lk fl em tm rd  _ h hT
abbrev rX6_empties : Room := { frames := 1, cells := 0, slots := 0, locals := 22 }
theorem iwX6_empties_6 : ∀ w ∈ wsX60, w ∈ wsX6_empties := by decide +kernel
theorem fgX6_empties_48 : FG wsX6_empties RX6 48 6 1 := ⟨RX6, TX6, 21, rfl, by decide, by decide +kernel, iwX6_empties_6⟩
theorem fwX6_empties_48 : FW wsX6_empties RX6 48 6 1 .int := ⟨RX6, TX6, 21, tyX6, rfl, by decide, by decide +kernel, iwX6_empties_6, tyX6_ok, nmX6, rfl, by decide +kernel⟩
set_option maxRecDepth 100000 in
set_option maxHeartbeats 4000000 in
theorem sX6_empties (cn : Tcn) (bk : Tbk) (st : Tst) (r0 : Tbk) (r1 : Tbk) (r2 : Tbk) (r3 : Tbk) (r4 : Tbk) (li : Tli) (fo : Tfo) (tx : Ttx) (co : Tco) (ke : Tke) (rf : (Nat → Int32)) (cp : Int32) (lk : Tlk) (fl : Tfl) (em : Int32) (tm : Ttm) (rd : Trd)  (o : Int32 × Tco × Tke) (h : fX6_empties co ke  = some o) : Sp yX6_empties wsX6_empties rX6_empties [.ref 36] (mkH cn bk st r0 r1 r2 r3 r4 li fo tx co ke rf cp lk fl em tm rd) (some (.int o.1)) (mkH cn bk st r0 r1 r2 r3 r4 li fo tx o.2.1 o.2.2 rf cp lk fl em tm rd) := by
  refine Sp.of (lv := [some (.ref 36), none]) RX6 (by decide +kernel) rfl (Nat.le_of_ble_eq_true rfl) rfl ?_
  intro X C hT
  unfold fX6_empties at h
  refine wg_aload_n C dX6_empties_0 rfl ?_
  obtain ⟨q1, e1q, h⟩ := bnd h
  refine wg_callV (n := 0) (As := []) (st := []) (st' := []) C (sX6_leavesState cn bk st r0 r1 r2 r3 r4 li fo tx co ke rf cp lk fl em tm rd  q1 e1q) gX6_empties_X6_leavesState rfl (by decide +kernel) ⟨⟨rfl, rfl⟩, Nat.le_of_ble_eq_true rfl, Nat.le_of_ble_eq_true rfl⟩ rfl rfl rfl rfl (Nat.le_of_ble_eq_true rfl) dX6_empties_1 rfl ?_
  refine wg_aload_n C dX6_empties_4 rfl ?_
  refine wg_get (v := .int co.1) C fgX6_empties_48 rfl rfl dX6_empties_5 ?_
  refine wg_istore_n (lv' := [some (.ref 36), some (.int co.1)]) C dX6_empties_8 (Nat.le_of_ble_eq_true rfl) rfl ?_
  refine wg_aload_n C dX6_empties_9 rfl ?_
  refine wg_iconst (v := 0) C dX6_empties_10 (by decide) ?_
  refine wg_put (hp' := (mkH cn bk st r0 r1 r2 r3 r4 li fo tx ((0 : Int32), co.2.1, co.2.2) q1 rf cp lk fl em tm rd)) C fwX6_empties_48 rfl (Nat.le_of_ble_eq_true rfl) rfl rfl rfl dX6_empties_11 ?_
  refine wg_iload_n C dX6_empties_14 rfl ?_
  obtain rfl := Option.some.inj h
  exact wg_iret C hT dX6_empties_15
