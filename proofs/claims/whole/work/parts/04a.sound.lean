abbrev rX5_isWithin : Room := { frames := 0, cells := 0, slots := 0, locals := 0 }
set_option maxRecDepth 100000 in
set_option maxHeartbeats 4000000 in
theorem sjX5_isWithin_15 (X : CX) (C : Ok X RX5 cX5_isWithin wsX5_isWithin rX5_isWithin) (cn : Tcn) (bk : Tbk) (st : Tst) (r0 : Tbk) (r1 : Tbk) (r2 : Tbk) (r3 : Tbk) (r4 : Tbk) (li : Tli) (fo : Tfo) (tx : Ttx) (co : Tco) (ke : Tke) (rf : (Nat → Int32)) (cp : Int32) (lk : Tlk) (fl : Tfl) (em : Int32) (tm : Ttm) (rd : Trd) (y0 : Int32) (o : Int32) (h : jX5_isWithin_15  y0 = some o) (hT : Rt X (some .boolean) (some (.int o)) (mkH cn bk st r0 r1 r2 r3 r4 li fo tx co ke rf cp lk fl em tm rd)) : Wg X 15 [none, none, none] [.int y0] (mkH cn bk st r0 r1 r2 r3 r4 li fo tx co ke rf cp lk fl em tm rd) := by
  unfold jX5_isWithin_15 at h
  obtain ⟨g2, h⟩ := gdP h
  obtain rfl := Option.some.inj h
  exact wg_zret C hT (of_decide_eq_true g2) dX5_isWithin_15
set_option maxRecDepth 100000 in
set_option maxHeartbeats 4000000 in
theorem sjX5_isWithin_14 (X : CX) (C : Ok X RX5 cX5_isWithin wsX5_isWithin rX5_isWithin) (cn : Tcn) (bk : Tbk) (st : Tst) (r0 : Tbk) (r1 : Tbk) (r2 : Tbk) (r3 : Tbk) (r4 : Tbk) (li : Tli) (fo : Tfo) (tx : Ttx) (co : Tco) (ke : Tke) (rf : (Nat → Int32)) (cp : Int32) (lk : Tlk) (fl : Tfl) (em : Int32) (tm : Ttm) (rd : Trd)  (o : Int32) (h : jX5_isWithin_14   = some o) (hT : Rt X (some .boolean) (some (.int o)) (mkH cn bk st r0 r1 r2 r3 r4 li fo tx co ke rf cp lk fl em tm rd)) : Wg X 14 [none, none, none] [] (mkH cn bk st r0 r1 r2 r3 r4 li fo tx co ke rf cp lk fl em tm rd) := by
  unfold jX5_isWithin_14 at h
  refine wg_iconst (v := 0) C dX5_isWithin_14 (by decide) ?_
  exact sjX5_isWithin_15 X C cn bk st r0 r1 r2 r3 r4 li fo tx co ke rf cp lk fl em tm rd (0 : Int32) _ h hT
set_option maxRecDepth 100000 in
set_option maxHeartbeats 4000000 in
theorem sX5_isWithin (cn : Tcn) (bk : Tbk) (st : Tst) (r0 : Tbk) (r1 : Tbk) (r2 : Tbk) (r3 : Tbk) (r4 : Tbk) (li : Tli) (fo : Tfo) (tx : Ttx) (co : Tco) (ke : Tke) (rf : (Nat → Int32)) (cp : Int32) (lk : Tlk) (fl : Tfl) (em : Int32) (tm : Ttm) (rd : Trd) (x0 : Int32) (x1 : Int32) (x2 : Int32) (o : Int32) (h : fX5_isWithin  x0 x1 x2 = some o) : Sp yX5_isWithin wsX5_isWithin rX5_isWithin [.int x0, .int x1, .int x2] (mkH cn bk st r0 r1 r2 r3 r4 li fo tx co ke rf cp lk fl em tm rd) (some (.int o)) (mkH cn bk st r0 r1 r2 r3 r4 li fo tx co ke rf cp lk fl em tm rd) := by
  refine Sp.of (lv := [some (.int x0), some (.int x1), some (.int x2)]) RX5 (by decide +kernel) rfl (Nat.le_of_ble_eq_true rfl) rfl ?_
  intro X C hT
  unfold fX5_isWithin at h
  refine wg_iload_n C dX5_isWithin_0 rfl ?_
  refine wg_iload_n C dX5_isWithin_1 rfl ?_
  refine wg_icmp_lt (tgt := 14) C dX5_isWithin_2 (by decide) (fun c1 => ?_) (fun c1 => ?_)
  · replace h := ifP c1 h
    refine wg_drop (lv' := [none, none, none]) [0, 1, 2] rfl ?_
    exact sjX5_isWithin_14 X C cn bk st r0 r1 r2 r3 r4 li fo tx co ke rf cp lk fl em tm rd  _ h hT
  · replace h := ifN c1 h
    refine wg_iload_n C dX5_isWithin_5 rfl ?_
    refine wg_iload_n C dX5_isWithin_6 rfl ?_
    refine wg_icmp_gt (tgt := 14) C dX5_isWithin_7 (by decide) (fun c3 => ?_) (fun c3 => ?_)
    · replace h := ifP c3 h
      refine wg_drop (lv' := [none, none, none]) [0, 1, 2] rfl ?_
      exact sjX5_isWithin_14 X C cn bk st r0 r1 r2 r3 r4 li fo tx co ke rf cp lk fl em tm rd  _ h hT
    · replace h := ifN c3 h
      refine wg_iconst (v := 1) C dX5_isWithin_10 (by decide) ?_
      refine wg_goto (tgt := 15) C dX5_isWithin_11 (by decide) ?_
      refine wg_drop (lv' := [none, none, none]) [0, 1, 2] rfl ?_
      exact sjX5_isWithin_15 X C cn bk st r0 r1 r2 r3 r4 li fo tx co ke rf cp lk fl em tm rd (1 : Int32) _ h hT
abbrev rX5_isNote : Room := { frames := 1, cells := 0, slots := 0, locals := 22 }
set_option maxRecDepth 100000 in
set_option maxHeartbeats 4000000 in
theorem sjX5_isNote_25 (X : CX) (C : Ok X RX5 cX5_isNote wsX5_isNote rX5_isNote) (cn : Tcn) (bk : Tbk) (st : Tst) (r0 : Tbk) (r1 : Tbk) (r2 : Tbk) (r3 : Tbk) (r4 : Tbk) (li : Tli) (fo : Tfo) (tx : Ttx) (co : Tco) (ke : Tke) (rf : (Nat → Int32)) (cp : Int32) (lk : Tlk) (fl : Tfl) (em : Int32) (tm : Ttm) (rd : Trd) (y0 : Int32) (o : Int32) (h : jX5_isNote_25  y0 = some o) (hT : Rt X (some .boolean) (some (.int o)) (mkH cn bk st r0 r1 r2 r3 r4 li fo tx co ke rf cp lk fl em tm rd)) : Wg X 25 [none] [.int y0] (mkH cn bk st r0 r1 r2 r3 r4 li fo tx co ke rf cp lk fl em tm rd) := by
  unfold jX5_isNote_25 at h
  obtain ⟨g2, h⟩ := gdP h
  obtain rfl := Option.some.inj h
  exact wg_zret C hT (of_decide_eq_true g2) dX5_isNote_25
set_option maxRecDepth 100000 in
set_option maxHeartbeats 4000000 in
theorem sjX5_isNote_20 (X : CX) (C : Ok X RX5 cX5_isNote wsX5_isNote rX5_isNote) (cn : Tcn) (bk : Tbk) (st : Tst) (r0 : Tbk) (r1 : Tbk) (r2 : Tbk) (r3 : Tbk) (r4 : Tbk) (li : Tli) (fo : Tfo) (tx : Ttx) (co : Tco) (ke : Tke) (rf : (Nat → Int32)) (cp : Int32) (lk : Tlk) (fl : Tfl) (em : Int32) (tm : Ttm) (rd : Trd)  (o : Int32) (h : jX5_isNote_20   = some o) (hT : Rt X (some .boolean) (some (.int o)) (mkH cn bk st r0 r1 r2 r3 r4 li fo tx co ke rf cp lk fl em tm rd)) : Wg X 20 [none] [] (mkH cn bk st r0 r1 r2 r3 r4 li fo tx co ke rf cp lk fl em tm rd) := by
  unfold jX5_isNote_20 at h
  refine wg_iconst (v := 1) C dX5_isNote_20 (by decide) ?_
  refine wg_goto (tgt := 25) C dX5_isNote_21 (by decide) ?_
  exact sjX5_isNote_25 X C cn bk st r0 r1 r2 r3 r4 li fo tx co ke rf cp lk fl em tm rd (1 : Int32) _ h hT
set_option maxRecDepth 100000 in
set_option maxHeartbeats 4000000 in
theorem sX5_isNote (cn : Tcn) (bk : Tbk) (st : Tst) (r0 : Tbk) (r1 : Tbk) (r2 : Tbk) (r3 : Tbk) (r4 : Tbk) (li : Tli) (fo : Tfo) (tx : Ttx) (co : Tco) (ke : Tke) (rf : (Nat → Int32)) (cp : Int32) (lk : Tlk) (fl : Tfl) (em : Int32) (tm : Ttm) (rd : Trd) (x0 : Int32) (o : Int32) (h : fX5_isNote  x0 = some o) : Sp yX5_isNote wsX5_isNote rX5_isNote [.int x0] (mkH cn bk st r0 r1 r2 r3 r4 li fo tx co ke rf cp lk fl em tm rd) (some (.int o)) (mkH cn bk st r0 r1 r2 r3 r4 li fo tx co ke rf cp lk fl em tm rd) := by
  refine Sp.of (lv := [some (.int x0)]) RX5 (by decide +kernel) rfl (Nat.le_of_ble_eq_true rfl) rfl ?_
  intro X C hT
  unfold fX5_isNote at h
  refine wg_iload_n C dX5_isNote_0 rfl ?_
  refine wg_sipush (v := -10000) C dX5_isNote_1 (by decide) ?_
  refine wg_icmp_eq (tgt := 20) C dX5_isNote_4 (by decide) (fun c1 => ?_) (fun c1 => ?_)
  · replace h := ifP c1 h
    refine wg_drop (lv' := [none]) [0] rfl ?_
    exact sjX5_isNote_20 X C cn bk st r0 r1 r2 r3 r4 li fo tx co ke rf cp lk fl em tm rd  _ h hT
  · replace h := ifN c1 h
    refine wg_iload_n C dX5_isNote_7 rfl ?_
    refine wg_sipush (v := -999) C dX5_isNote_8 (by decide) ?_
    refine wg_sipush (v := 999) C dX5_isNote_11 (by decide) ?_
    obtain ⟨q3, e3q, h⟩ := bnd h
    refine wg_callT (n := 3) (As := [.int x0, .int (-999 : Int32), .int (999 : Int32)]) (st := []) (st' := [.int q3]) C (sX5_isWithin cn bk st r0 r1 r2 r3 r4 li fo tx co ke rf cp lk fl em tm rd x0 (-999 : Int32) (999 : Int32) q3 e3q) gX5_isNote_X5_isWithin rfl (by decide +kernel) ⟨⟨rfl, rfl⟩, Nat.le_of_ble_eq_true rfl, Nat.le_of_ble_eq_true rfl⟩ rfl rfl (Nat.le_of_ble_eq_true rfl) dX5_isNote_14 rfl ?_
    refine wg_if_eq (tgt := 24) C dX5_isNote_17 (by decide) (fun c4 => ?_) (fun c4 => ?_)
    · replace h := ifP c4 h
      refine wg_iconst (v := 0) C dX5_isNote_24 (by decide) ?_
      refine wg_drop (lv' := [none]) [0] rfl ?_
      exact sjX5_isNote_25 X C cn bk st r0 r1 r2 r3 r4 li fo tx co ke rf cp lk fl em tm rd (0 : Int32) _ h hT
    · replace h := ifN c4 h
      refine wg_drop (lv' := [none]) [0] rfl ?_
      exact sjX5_isNote_20 X C cn bk st r0 r1 r2 r3 r4 li fo tx co ke rf cp lk fl em tm rd  _ h hT
abbrev rX5_refuseBad : Room := { frames := 0, cells := 0, slots := 0, locals := 0 }
theorem iwX5_refuseBad_5 : ∀ w ∈ wsX50, w ∈ wsX5_refuseBad := by decide +kernel
theorem fgX5_refuseBad_200 : FG wsX5_refuseBad RX5 200 5 5 := ⟨RX5, TX5, 8, rfl, by decide, by decide +kernel, iwX5_refuseBad_5⟩
theorem fwX5_refuseBad_200 : FW wsX5_refuseBad RX5 200 5 5 .int := ⟨RX5, TX5, 8, tyX5, rfl, by decide, by decide +kernel, iwX5_refuseBad_5, tyX5_ok, nmX5, rfl, by decide +kernel⟩
set_option maxRecDepth 100000 in
set_option maxHeartbeats 4000000 in
theorem sX5_refuseBad (cn : Tcn) (bk : Tbk) (st : Tst) (r0 : Tbk) (r1 : Tbk) (r2 : Tbk) (r3 : Tbk) (r4 : Tbk) (li : Tli) (fo : Tfo) (tx : Ttx) (co : Tco) (ke : Tke) (rf : (Nat → Int32)) (cp : Int32) (lk : Tlk) (fl : Tfl) (em : Int32) (tm : Ttm) (rd : Trd) (x1 : Int32) (o : Int32 × Tcn) (h : fX5_refuseBad cn x1 = some o) : Sp yX5_refuseBad wsX5_refuseBad rX5_refuseBad [.ref 0, .int x1] (mkH cn bk st r0 r1 r2 r3 r4 li fo tx co ke rf cp lk fl em tm rd) (some (.int o.1)) (mkH o.2 bk st r0 r1 r2 r3 r4 li fo tx co ke rf cp lk fl em tm rd) := by
  refine Sp.of (lv := [some (.ref 0), some (.int x1)]) RX5 (by decide +kernel) rfl (Nat.le_of_ble_eq_true rfl) rfl ?_
  intro X C hT
  unfold fX5_refuseBad at h
  refine wg_aload_n C dX5_refuseBad_0 rfl ?_
  refine wg_dup C dX5_refuseBad_1 rfl ?_
  refine wg_get (v := .int cn.1) C fgX5_refuseBad_200 rfl rfl dX5_refuseBad_2 ?_
  refine wg_iconst (v := 1) C dX5_refuseBad_5 (by decide) ?_
  refine wg_iadd C dX5_refuseBad_6 ?_
  refine wg_put (hp' := (mkH ((cn.1 + (1 : Int32)), cn.2.1, cn.2.2) bk st r0 r1 r2 r3 r4 li fo tx co ke rf cp lk fl em tm rd)) C fwX5_refuseBad_200 rfl (Nat.le_of_ble_eq_true rfl) rfl rfl rfl dX5_refuseBad_7 ?_
  refine wg_iload_n C dX5_refuseBad_10 rfl ?_
  obtain rfl := Option.some.inj h
  exact wg_iret C hT dX5_refuseBad_11
abbrev rX0_days : Room := { frames := 0, cells := 0, slots := 0, locals := 0 }
theorem iwX0_days_0 : ∀ w ∈ wsX00, w ∈ wsX0_days := by decide +kernel
theorem fgX0_days_28 : FG wsX0_days RX0 28 0 2 := ⟨RX0, TX0, 5, rfl, by decide, by decide +kernel, iwX0_days_0⟩
set_option maxRecDepth 100000 in
set_option maxHeartbeats 4000000 in
theorem sX0_days (cn : Tcn) (bk : Tbk) (st : Tst) (r0 : Tbk) (r1 : Tbk) (r2 : Tbk) (r3 : Tbk) (r4 : Tbk) (li : Tli) (fo : Tfo) (tx : Ttx) (co : Tco) (ke : Tke) (rf : (Nat → Int32)) (cp : Int32) (lk : Tlk) (fl : Tfl) (em : Int32) (tm : Ttm) (rd : Trd)  (o : Int32) (h : fX0_days bk  = some o) : Sp yX0_days wsX0_days rX0_days [.ref 1] (mkH cn bk st r0 r1 r2 r3 r4 li fo tx co ke rf cp lk fl em tm rd) (some (.int o)) (mkH cn bk st r0 r1 r2 r3 r4 li fo tx co ke rf cp lk fl em tm rd) := by
  refine Sp.of (lv := [some (.ref 1)]) RX0 (by decide +kernel) rfl (Nat.le_of_ble_eq_true rfl) rfl ?_
  intro X C hT
  unfold fX0_days at h
  refine wg_aload_n C dX0_days_0 rfl ?_
  refine wg_get (v := .int bk.2.2.1) C fgX0_days_28 rfl rfl dX0_days_1 ?_
  obtain rfl := Option.some.inj h
  exact wg_iret C hT dX0_days_4
abbrev rX0_copyFrom_6_1 : Room := { frames := 1, cells := 0, slots := 0, locals := 40 }
theorem iwX0_copyFrom_6_1_0 : ∀ w ∈ wsX00, w ∈ wsX0_copyFrom := by decide +kernel
theorem fgX0_copyFrom_6_1_9 : FG wsX0_copyFrom RX0 9 0 0 := ⟨RX0, TX0, 5, rfl, by decide, by decide +kernel, iwX0_copyFrom_6_1_0⟩
theorem fgX0_copyFrom_6_1_15 : FG wsX0_copyFrom RX0 15 0 1 := ⟨RX0, TX0, 5, rfl, by decide, by decide +kernel, iwX0_copyFrom_6_1_0⟩
theorem fgX0_copyFrom_6_1_24 : FG wsX0_copyFrom RX0 24 0 4 := ⟨RX0, TX0, 5, rfl, by decide, by decide +kernel, iwX0_copyFrom_6_1_0⟩
theorem fwX0_copyFrom_6_1_24 : FW wsX0_copyFrom RX0 24 0 4 .int := ⟨RX0, TX0, 5, tyX0, rfl, by decide, by decide +kernel, iwX0_copyFrom_6_1_0, tyX0_ok, nmX0, rfl, by decide +kernel⟩
theorem fgX0_copyFrom_6_1_28 : FG wsX0_copyFrom RX0 28 0 2 := ⟨RX0, TX0, 5, rfl, by decide, by decide +kernel, iwX0_copyFrom_6_1_0⟩
theorem fwX0_copyFrom_6_1_28 : FW wsX0_copyFrom RX0 28 0 2 .int := ⟨RX0, TX0, 5, tyX0, rfl, by decide, by decide +kernel, iwX0_copyFrom_6_1_0, tyX0_ok, nmX0, rfl, by decide +kernel⟩
theorem fgX0_copyFrom_6_1_31 : FG wsX0_copyFrom RX0 31 0 3 := ⟨RX0, TX0, 5, rfl, by decide, by decide +kernel, iwX0_copyFrom_6_1_0⟩
theorem fwX0_copyFrom_6_1_31 : FW wsX0_copyFrom RX0 31 0 3 .int := ⟨RX0, TX0, 5, tyX0, rfl, by decide, by decide +kernel, iwX0_copyFrom_6_1_0, tyX0_ok, nmX0, rfl, by decide +kernel⟩
set_option maxRecDepth 100000 in
set_option maxHeartbeats 4000000 in
theorem sX0_copyFrom_6_1 (cn : Tcn) (bk : Tbk) (st : Tst) (r0 : Tbk) (r1 : Tbk) (r2 : Tbk) (r3 : Tbk) (r4 : Tbk) (li : Tli) (fo : Tfo) (tx : Ttx) (co : Tco) (ke : Tke) (rf : (Nat → Int32)) (cp : Int32) (lk : Tlk) (fl : Tfl) (em : Int32) (tm : Ttm) (rd : Trd)  (o : Tbk) (h : fX0_copyFrom_6_1 bk r0  = some o) : Sp yX0_copyFrom wsX0_copyFrom rX0_copyFrom_6_1 [.ref 6, .ref 1] (mkH cn bk st r0 r1 r2 r3 r4 li fo tx co ke rf cp lk fl em tm rd) none (mkH cn bk st o r1 r2 r3 r4 li fo tx co ke rf cp lk fl em tm rd) := by
  refine Sp.of (lv := [some (.ref 6), some (.ref 1)]) RX0 (by decide +kernel) rfl (Nat.le_of_ble_eq_true rfl) rfl ?_
  intro X C hT
  unfold fX0_copyFrom_6_1 at h
  refine wg_aload_n C dX0_copyFrom_0 rfl ?_
  refine wg_get (v := .ref 2) C fgX0_copyFrom_6_1_9 rfl rfl dX0_copyFrom_1 ?_
  refine wg_iconst (v := 0) C dX0_copyFrom_4 (by decide) ?_
  refine wg_aload_n C dX0_copyFrom_5 rfl ?_
  refine wg_get (v := .ref 7) C fgX0_copyFrom_6_1_9 rfl rfl dX0_copyFrom_6 ?_
  refine wg_iconst (v := 0) C dX0_copyFrom_9 (by decide) ?_
  refine wg_aload_n C dX0_copyFrom_10 rfl ?_
  refine wg_get (v := .ref 7) C fgX0_copyFrom_6_1_9 rfl rfl dX0_copyFrom_11 ?_
  refine wg_alen (v := 200) C rfl rfl rfl dX0_copyFrom_14 ?_
  refine wg_copy (hp' := (mkH cn bk st ((va_cpy bk.1 r0.1 ((0 : Int32)).toNatClampNeg ((0 : Int32)).toNatClampNeg ((200 : Int32)).toNatClampNeg), r0.2.1, r0.2.2.1, r0.2.2.2.1, r0.2.2.2.2) r1 r2 r3 r4 li fo tx co ke rf cp lk fl em tm rd)) C ⟨by decide +kernel, by decide +kernel, by decide +kernel, by decide +kernel⟩ rfl rfl (by decide) (by decide) (by decide) (by decide) (by decide) ⟨Nat.le_of_ble_eq_true rfl, by decide +kernel⟩ rfl dX0_copyFrom_15 ?_
  refine wg_aload_n C dX0_copyFrom_18 rfl ?_
  refine wg_get (v := .ref 3) C fgX0_copyFrom_6_1_15 rfl rfl dX0_copyFrom_19 ?_
  refine wg_iconst (v := 0) C dX0_copyFrom_22 (by decide) ?_
  refine wg_aload_n C dX0_copyFrom_23 rfl ?_
  refine wg_get (v := .ref 8) C fgX0_copyFrom_6_1_15 rfl rfl dX0_copyFrom_24 ?_
  refine wg_iconst (v := 0) C dX0_copyFrom_27 (by decide) ?_
  refine wg_aload_n C dX0_copyFrom_28 rfl ?_
  refine wg_get (v := .ref 8) C fgX0_copyFrom_6_1_15 rfl rfl dX0_copyFrom_29 ?_
  refine wg_alen (v := 4) C rfl rfl rfl dX0_copyFrom_32 ?_
  refine wg_copy (hp' := (mkH cn bk st ((va_cpy bk.1 r0.1 ((0 : Int32)).toNatClampNeg ((0 : Int32)).toNatClampNeg ((200 : Int32)).toNatClampNeg), (va_cpy bk.2.1 r0.2.1 ((0 : Int32)).toNatClampNeg ((0 : Int32)).toNatClampNeg ((4 : Int32)).toNatClampNeg), r0.2.2.1, r0.2.2.2.1, r0.2.2.2.2) r1 r2 r3 r4 li fo tx co ke rf cp lk fl em tm rd)) C ⟨by decide +kernel, by decide +kernel, by decide +kernel, by decide +kernel⟩ rfl rfl (by decide) (by decide) (by decide) (by decide) (by decide) ⟨Nat.le_of_ble_eq_true rfl, by decide +kernel⟩ rfl dX0_copyFrom_33 ?_
  refine wg_aload_n C dX0_copyFrom_36 rfl ?_
  refine wg_aload_n C dX0_copyFrom_37 rfl ?_
  refine wg_get (v := .int bk.2.2.1) C fgX0_copyFrom_6_1_28 rfl rfl dX0_copyFrom_38 ?_
  refine wg_put (hp' := (mkH cn bk st ((va_cpy bk.1 r0.1 ((0 : Int32)).toNatClampNeg ((0 : Int32)).toNatClampNeg ((200 : Int32)).toNatClampNeg), (va_cpy bk.2.1 r0.2.1 ((0 : Int32)).toNatClampNeg ((0 : Int32)).toNatClampNeg ((4 : Int32)).toNatClampNeg), bk.2.2.1, r0.2.2.2.1, r0.2.2.2.2) r1 r2 r3 r4 li fo tx co ke rf cp lk fl em tm rd)) C fwX0_copyFrom_6_1_28 rfl (Nat.le_of_ble_eq_true rfl) rfl rfl rfl dX0_copyFrom_41 ?_
  refine wg_aload_n C dX0_copyFrom_44 rfl ?_
  refine wg_aload_n C dX0_copyFrom_45 rfl ?_
  refine wg_get (v := .int bk.2.2.2.1) C fgX0_copyFrom_6_1_31 rfl rfl dX0_copyFrom_46 ?_
  refine wg_put (hp' := (mkH cn bk st ((va_cpy bk.1 r0.1 ((0 : Int32)).toNatClampNeg ((0 : Int32)).toNatClampNeg ((200 : Int32)).toNatClampNeg), (va_cpy bk.2.1 r0.2.1 ((0 : Int32)).toNatClampNeg ((0 : Int32)).toNatClampNeg ((4 : Int32)).toNatClampNeg), bk.2.2.1, bk.2.2.2.1, r0.2.2.2.2) r1 r2 r3 r4 li fo tx co ke rf cp lk fl em tm rd)) C fwX0_copyFrom_6_1_31 rfl (Nat.le_of_ble_eq_true rfl) rfl rfl rfl dX0_copyFrom_49 ?_
  refine wg_aload_n C dX0_copyFrom_52 rfl ?_
  refine wg_aload_n C dX0_copyFrom_53 rfl ?_
  refine wg_get (v := .int bk.2.2.2.2) C fgX0_copyFrom_6_1_24 rfl rfl dX0_copyFrom_54 ?_
  refine wg_put (hp' := (mkH cn bk st ((va_cpy bk.1 r0.1 ((0 : Int32)).toNatClampNeg ((0 : Int32)).toNatClampNeg ((200 : Int32)).toNatClampNeg), (va_cpy bk.2.1 r0.2.1 ((0 : Int32)).toNatClampNeg ((0 : Int32)).toNatClampNeg ((4 : Int32)).toNatClampNeg), bk.2.2.1, bk.2.2.2.1, bk.2.2.2.2) r1 r2 r3 r4 li fo tx co ke rf cp lk fl em tm rd)) C fwX0_copyFrom_6_1_24 rfl (Nat.le_of_ble_eq_true rfl) rfl rfl rfl dX0_copyFrom_57 ?_
  obtain rfl := Option.some.inj h
  exact wg_vret C hT dX0_copyFrom_60
abbrev rX0_copyFrom_9_1 : Room := { frames := 1, cells := 0, slots := 0, locals := 40 }
theorem iwX0_copyFrom_9_1_0 : ∀ w ∈ wsX00, w ∈ wsX0_copyFrom := by decide +kernel
theorem fgX0_copyFrom_9_1_9 : FG wsX0_copyFrom RX0 9 0 0 := ⟨RX0, TX0, 5, rfl, by decide, by decide +kernel, iwX0_copyFrom_9_1_0⟩
theorem fgX0_copyFrom_9_1_15 : FG wsX0_copyFrom RX0 15 0 1 := ⟨RX0, TX0, 5, rfl, by decide, by decide +kernel, iwX0_copyFrom_9_1_0⟩
theorem fgX0_copyFrom_9_1_24 : FG wsX0_copyFrom RX0 24 0 4 := ⟨RX0, TX0, 5, rfl, by decide, by decide +kernel, iwX0_copyFrom_9_1_0⟩
theorem fwX0_copyFrom_9_1_24 : FW wsX0_copyFrom RX0 24 0 4 .int := ⟨RX0, TX0, 5, tyX0, rfl, by decide, by decide +kernel, iwX0_copyFrom_9_1_0, tyX0_ok, nmX0, rfl, by decide +kernel⟩
theorem fgX0_copyFrom_9_1_28 : FG wsX0_copyFrom RX0 28 0 2 := ⟨RX0, TX0, 5, rfl, by decide, by decide +kernel, iwX0_copyFrom_9_1_0⟩
theorem fwX0_copyFrom_9_1_28 : FW wsX0_copyFrom RX0 28 0 2 .int := ⟨RX0, TX0, 5, tyX0, rfl, by decide, by decide +kernel, iwX0_copyFrom_9_1_0, tyX0_ok, nmX0, rfl, by decide +kernel⟩
theorem fgX0_copyFrom_9_1_31 : FG wsX0_copyFrom RX0 31 0 3 := ⟨RX0, TX0, 5, rfl, by decide, by decide +kernel, iwX0_copyFrom_9_1_0⟩
theorem fwX0_copyFrom_9_1_31 : FW wsX0_copyFrom RX0 31 0 3 .int := ⟨RX0, TX0, 5, tyX0, rfl, by decide, by decide +kernel, iwX0_copyFrom_9_1_0, tyX0_ok, nmX0, rfl, by decide +kernel⟩
set_option maxRecDepth 100000 in
set_option maxHeartbeats 4000000 in
theorem sX0_copyFrom_9_1 (cn : Tcn) (bk : Tbk) (st : Tst) (r0 : Tbk) (r1 : Tbk) (r2 : Tbk) (r3 : Tbk) (r4 : Tbk) (li : Tli) (fo : Tfo) (tx : Ttx) (co : Tco) (ke : Tke) (rf : (Nat → Int32)) (cp : Int32) (lk : Tlk) (fl : Tfl) (em : Int32) (tm : Ttm) (rd : Trd)  (o : Tbk) (h : fX0_copyFrom_9_1 bk r1  = some o) : Sp yX0_copyFrom wsX0_copyFrom rX0_copyFrom_9_1 [.ref 9, .ref 1] (mkH cn bk st r0 r1 r2 r3 r4 li fo tx co ke rf cp lk fl em tm rd) none (mkH cn bk st r0 o r2 r3 r4 li fo tx co ke rf cp lk fl em tm rd) := by
  refine Sp.of (lv := [some (.ref 9), some (.ref 1)]) RX0 (by decide +kernel) rfl (Nat.le_of_ble_eq_true rfl) rfl ?_
  intro X C hT
  unfold fX0_copyFrom_9_1 at h
  refine wg_aload_n C dX0_copyFrom_0 rfl ?_
  refine wg_get (v := .ref 2) C fgX0_copyFrom_9_1_9 rfl rfl dX0_copyFrom_1 ?_
  refine wg_iconst (v := 0) C dX0_copyFrom_4 (by decide) ?_
  refine wg_aload_n C dX0_copyFrom_5 rfl ?_
  refine wg_get (v := .ref 10) C fgX0_copyFrom_9_1_9 rfl rfl dX0_copyFrom_6 ?_
  refine wg_iconst (v := 0) C dX0_copyFrom_9 (by decide) ?_
  refine wg_aload_n C dX0_copyFrom_10 rfl ?_
  refine wg_get (v := .ref 10) C fgX0_copyFrom_9_1_9 rfl rfl dX0_copyFrom_11 ?_
  refine wg_alen (v := 200) C rfl rfl rfl dX0_copyFrom_14 ?_
  refine wg_copy (hp' := (mkH cn bk st r0 ((va_cpy bk.1 r1.1 ((0 : Int32)).toNatClampNeg ((0 : Int32)).toNatClampNeg ((200 : Int32)).toNatClampNeg), r1.2.1, r1.2.2.1, r1.2.2.2.1, r1.2.2.2.2) r2 r3 r4 li fo tx co ke rf cp lk fl em tm rd)) C ⟨by decide +kernel, by decide +kernel, by decide +kernel, by decide +kernel⟩ rfl rfl (by decide) (by decide) (by decide) (by decide) (by decide) ⟨Nat.le_of_ble_eq_true rfl, by decide +kernel⟩ rfl dX0_copyFrom_15 ?_
  refine wg_aload_n C dX0_copyFrom_18 rfl ?_
  refine wg_get (v := .ref 3) C fgX0_copyFrom_9_1_15 rfl rfl dX0_copyFrom_19 ?_
  refine wg_iconst (v := 0) C dX0_copyFrom_22 (by decide) ?_
  refine wg_aload_n C dX0_copyFrom_23 rfl ?_
  refine wg_get (v := .ref 11) C fgX0_copyFrom_9_1_15 rfl rfl dX0_copyFrom_24 ?_
  refine wg_iconst (v := 0) C dX0_copyFrom_27 (by decide) ?_
  refine wg_aload_n C dX0_copyFrom_28 rfl ?_
  refine wg_get (v := .ref 11) C fgX0_copyFrom_9_1_15 rfl rfl dX0_copyFrom_29 ?_
  refine wg_alen (v := 4) C rfl rfl rfl dX0_copyFrom_32 ?_
  refine wg_copy (hp' := (mkH cn bk st r0 ((va_cpy bk.1 r1.1 ((0 : Int32)).toNatClampNeg ((0 : Int32)).toNatClampNeg ((200 : Int32)).toNatClampNeg), (va_cpy bk.2.1 r1.2.1 ((0 : Int32)).toNatClampNeg ((0 : Int32)).toNatClampNeg ((4 : Int32)).toNatClampNeg), r1.2.2.1, r1.2.2.2.1, r1.2.2.2.2) r2 r3 r4 li fo tx co ke rf cp lk fl em tm rd)) C ⟨by decide +kernel, by decide +kernel, by decide +kernel, by decide +kernel⟩ rfl rfl (by decide) (by decide) (by decide) (by decide) (by decide) ⟨Nat.le_of_ble_eq_true rfl, by decide +kernel⟩ rfl dX0_copyFrom_33 ?_
  refine wg_aload_n C dX0_copyFrom_36 rfl ?_
  refine wg_aload_n C dX0_copyFrom_37 rfl ?_
  refine wg_get (v := .int bk.2.2.1) C fgX0_copyFrom_9_1_28 rfl rfl dX0_copyFrom_38 ?_
  refine wg_put (hp' := (mkH cn bk st r0 ((va_cpy bk.1 r1.1 ((0 : Int32)).toNatClampNeg ((0 : Int32)).toNatClampNeg ((200 : Int32)).toNatClampNeg), (va_cpy bk.2.1 r1.2.1 ((0 : Int32)).toNatClampNeg ((0 : Int32)).toNatClampNeg ((4 : Int32)).toNatClampNeg), bk.2.2.1, r1.2.2.2.1, r1.2.2.2.2) r2 r3 r4 li fo tx co ke rf cp lk fl em tm rd)) C fwX0_copyFrom_9_1_28 rfl (Nat.le_of_ble_eq_true rfl) rfl rfl rfl dX0_copyFrom_41 ?_
  refine wg_aload_n C dX0_copyFrom_44 rfl ?_
  refine wg_aload_n C dX0_copyFrom_45 rfl ?_
  refine wg_get (v := .int bk.2.2.2.1) C fgX0_copyFrom_9_1_31 rfl rfl dX0_copyFrom_46 ?_
  refine wg_put (hp' := (mkH cn bk st r0 ((va_cpy bk.1 r1.1 ((0 : Int32)).toNatClampNeg ((0 : Int32)).toNatClampNeg ((200 : Int32)).toNatClampNeg), (va_cpy bk.2.1 r1.2.1 ((0 : Int32)).toNatClampNeg ((0 : Int32)).toNatClampNeg ((4 : Int32)).toNatClampNeg), bk.2.2.1, bk.2.2.2.1, r1.2.2.2.2) r2 r3 r4 li fo tx co ke rf cp lk fl em tm rd)) C fwX0_copyFrom_9_1_31 rfl (Nat.le_of_ble_eq_true rfl) rfl rfl rfl dX0_copyFrom_49 ?_
  refine wg_aload_n C dX0_copyFrom_52 rfl ?_
  refine wg_aload_n C dX0_copyFrom_53 rfl ?_
  refine wg_get (v := .int bk.2.2.2.2) C fgX0_copyFrom_9_1_24 rfl rfl dX0_copyFrom_54 ?_
  refine wg_put (hp' := (mkH cn bk st r0 ((va_cpy bk.1 r1.1 ((0 : Int32)).toNatClampNeg ((0 : Int32)).toNatClampNeg ((200 : Int32)).toNatClampNeg), (va_cpy bk.2.1 r1.2.1 ((0 : Int32)).toNatClampNeg ((0 : Int32)).toNatClampNeg ((4 : Int32)).toNatClampNeg), bk.2.2.1, bk.2.2.2.1, bk.2.2.2.2) r2 r3 r4 li fo tx co ke rf cp lk fl em tm rd)) C fwX0_copyFrom_9_1_24 rfl (Nat.le_of_ble_eq_true rfl) rfl rfl rfl dX0_copyFrom_57 ?_
  obtain rfl := Option.some.inj h
  exact wg_vret C hT dX0_copyFrom_60
abbrev rX0_copyFrom_12_1 : Room := { frames := 1, cells := 0, slots := 0, locals := 40 }
theorem iwX0_copyFrom_12_1_0 : ∀ w ∈ wsX00, w ∈ wsX0_copyFrom := by decide +kernel
theorem fgX0_copyFrom_12_1_9 : FG wsX0_copyFrom RX0 9 0 0 := ⟨RX0, TX0, 5, rfl, by decide, by decide +kernel, iwX0_copyFrom_12_1_0⟩
theorem fgX0_copyFrom_12_1_15 : FG wsX0_copyFrom RX0 15 0 1 := ⟨RX0, TX0, 5, rfl, by decide, by decide +kernel, iwX0_copyFrom_12_1_0⟩
theorem fgX0_copyFrom_12_1_24 : FG wsX0_copyFrom RX0 24 0 4 := ⟨RX0, TX0, 5, rfl, by decide, by decide +kernel, iwX0_copyFrom_12_1_0⟩
theorem fwX0_copyFrom_12_1_24 : FW wsX0_copyFrom RX0 24 0 4 .int := ⟨RX0, TX0, 5, tyX0, rfl, by decide, by decide +kernel, iwX0_copyFrom_12_1_0, tyX0_ok, nmX0, rfl, by decide +kernel⟩
theorem fgX0_copyFrom_12_1_28 : FG wsX0_copyFrom RX0 28 0 2 := ⟨RX0, TX0, 5, rfl, by decide, by decide +kernel, iwX0_copyFrom_12_1_0⟩
theorem fwX0_copyFrom_12_1_28 : FW wsX0_copyFrom RX0 28 0 2 .int := ⟨RX0, TX0, 5, tyX0, rfl, by decide, by decide +kernel, iwX0_copyFrom_12_1_0, tyX0_ok, nmX0, rfl, by decide +kernel⟩
theorem fgX0_copyFrom_12_1_31 : FG wsX0_copyFrom RX0 31 0 3 := ⟨RX0, TX0, 5, rfl, by decide, by decide +kernel, iwX0_copyFrom_12_1_0⟩
theorem fwX0_copyFrom_12_1_31 : FW wsX0_copyFrom RX0 31 0 3 .int := ⟨RX0, TX0, 5, tyX0, rfl, by decide, by decide +kernel, iwX0_copyFrom_12_1_0, tyX0_ok, nmX0, rfl, by decide +kernel⟩
set_option maxRecDepth 100000 in
set_option maxHeartbeats 4000000 in
theorem sX0_copyFrom_12_1 (cn : Tcn) (bk : Tbk) (st : Tst) (r0 : Tbk) (r1 : Tbk) (r2 : Tbk) (r3 : Tbk) (r4 : Tbk) (li : Tli) (fo : Tfo) (tx : Ttx) (co : Tco) (ke : Tke) (rf : (Nat → Int32)) (cp : Int32) (lk : Tlk) (fl : Tfl) (em : Int32) (tm : Ttm) (rd : Trd)  (o : Tbk) (h : fX0_copyFrom_12_1 bk r2  = some o) : Sp yX0_copyFrom wsX0_copyFrom rX0_copyFrom_12_1 [.ref 12, .ref 1] (mkH cn bk st r0 r1 r2 r3 r4 li fo tx co ke rf cp lk fl em tm rd) none (mkH cn bk st r0 r1 o r3 r4 li fo tx co ke rf cp lk fl em tm rd) := by
  refine Sp.of (lv := [some (.ref 12), some (.ref 1)]) RX0 (by decide +kernel) rfl (Nat.le_of_ble_eq_true rfl) rfl ?_
  intro X C hT
  unfold fX0_copyFrom_12_1 at h
  refine wg_aload_n C dX0_copyFrom_0 rfl ?_
  refine wg_get (v := .ref 2) C fgX0_copyFrom_12_1_9 rfl rfl dX0_copyFrom_1 ?_
  refine wg_iconst (v := 0) C dX0_copyFrom_4 (by decide) ?_
  refine wg_aload_n C dX0_copyFrom_5 rfl ?_
  refine wg_get (v := .ref 13) C fgX0_copyFrom_12_1_9 rfl rfl dX0_copyFrom_6 ?_
  refine wg_iconst (v := 0) C dX0_copyFrom_9 (by decide) ?_
  refine wg_aload_n C dX0_copyFrom_10 rfl ?_
  refine wg_get (v := .ref 13) C fgX0_copyFrom_12_1_9 rfl rfl dX0_copyFrom_11 ?_
  refine wg_alen (v := 200) C rfl rfl rfl dX0_copyFrom_14 ?_
  refine wg_copy (hp' := (mkH cn bk st r0 r1 ((va_cpy bk.1 r2.1 ((0 : Int32)).toNatClampNeg ((0 : Int32)).toNatClampNeg ((200 : Int32)).toNatClampNeg), r2.2.1, r2.2.2.1, r2.2.2.2.1, r2.2.2.2.2) r3 r4 li fo tx co ke rf cp lk fl em tm rd)) C ⟨by decide +kernel, by decide +kernel, by decide +kernel, by decide +kernel⟩ rfl rfl (by decide) (by decide) (by decide) (by decide) (by decide) ⟨Nat.le_of_ble_eq_true rfl, by decide +kernel⟩ rfl dX0_copyFrom_15 ?_
  refine wg_aload_n C dX0_copyFrom_18 rfl ?_
  refine wg_get (v := .ref 3) C fgX0_copyFrom_12_1_15 rfl rfl dX0_copyFrom_19 ?_
  refine wg_iconst (v := 0) C dX0_copyFrom_22 (by decide) ?_
  refine wg_aload_n C dX0_copyFrom_23 rfl ?_
  refine wg_get (v := .ref 14) C fgX0_copyFrom_12_1_15 rfl rfl dX0_copyFrom_24 ?_
  refine wg_iconst (v := 0) C dX0_copyFrom_27 (by decide) ?_
  refine wg_aload_n C dX0_copyFrom_28 rfl ?_
  refine wg_get (v := .ref 14) C fgX0_copyFrom_12_1_15 rfl rfl dX0_copyFrom_29 ?_
  refine wg_alen (v := 4) C rfl rfl rfl dX0_copyFrom_32 ?_
  refine wg_copy (hp' := (mkH cn bk st r0 r1 ((va_cpy bk.1 r2.1 ((0 : Int32)).toNatClampNeg ((0 : Int32)).toNatClampNeg ((200 : Int32)).toNatClampNeg), (va_cpy bk.2.1 r2.2.1 ((0 : Int32)).toNatClampNeg ((0 : Int32)).toNatClampNeg ((4 : Int32)).toNatClampNeg), r2.2.2.1, r2.2.2.2.1, r2.2.2.2.2) r3 r4 li fo tx co ke rf cp lk fl em tm rd)) C ⟨by decide +kernel, by decide +kernel, by decide +kernel, by decide +kernel⟩ rfl rfl (by decide) (by decide) (by decide) (by decide) (by decide) ⟨Nat.le_of_ble_eq_true rfl, by decide +kernel⟩ rfl dX0_copyFrom_33 ?_
  refine wg_aload_n C dX0_copyFrom_36 rfl ?_
  refine wg_aload_n C dX0_copyFrom_37 rfl ?_
  refine wg_get (v := .int bk.2.2.1) C fgX0_copyFrom_12_1_28 rfl rfl dX0_copyFrom_38 ?_
  refine wg_put (hp' := (mkH cn bk st r0 r1 ((va_cpy bk.1 r2.1 ((0 : Int32)).toNatClampNeg ((0 : Int32)).toNatClampNeg ((200 : Int32)).toNatClampNeg), (va_cpy bk.2.1 r2.2.1 ((0 : Int32)).toNatClampNeg ((0 : Int32)).toNatClampNeg ((4 : Int32)).toNatClampNeg), bk.2.2.1, r2.2.2.2.1, r2.2.2.2.2) r3 r4 li fo tx co ke rf cp lk fl em tm rd)) C fwX0_copyFrom_12_1_28 rfl (Nat.le_of_ble_eq_true rfl) rfl rfl rfl dX0_copyFrom_41 ?_
  refine wg_aload_n C dX0_copyFrom_44 rfl ?_
  refine wg_aload_n C dX0_copyFrom_45 rfl ?_
  refine wg_get (v := .int bk.2.2.2.1) C fgX0_copyFrom_12_1_31 rfl rfl dX0_copyFrom_46 ?_
  refine wg_put (hp' := (mkH cn bk st r0 r1 ((va_cpy bk.1 r2.1 ((0 : Int32)).toNatClampNeg ((0 : Int32)).toNatClampNeg ((200 : Int32)).toNatClampNeg), (va_cpy bk.2.1 r2.2.1 ((0 : Int32)).toNatClampNeg ((0 : Int32)).toNatClampNeg ((4 : Int32)).toNatClampNeg), bk.2.2.1, bk.2.2.2.1, r2.2.2.2.2) r3 r4 li fo tx co ke rf cp lk fl em tm rd)) C fwX0_copyFrom_12_1_31 rfl (Nat.le_of_ble_eq_true rfl) rfl rfl rfl dX0_copyFrom_49 ?_
  refine wg_aload_n C dX0_copyFrom_52 rfl ?_
  refine wg_aload_n C dX0_copyFrom_53 rfl ?_
  refine wg_get (v := .int bk.2.2.2.2) C fgX0_copyFrom_12_1_24 rfl rfl dX0_copyFrom_54 ?_
  refine wg_put (hp' := (mkH cn bk st r0 r1 ((va_cpy bk.1 r2.1 ((0 : Int32)).toNatClampNeg ((0 : Int32)).toNatClampNeg ((200 : Int32)).toNatClampNeg), (va_cpy bk.2.1 r2.2.1 ((0 : Int32)).toNatClampNeg ((0 : Int32)).toNatClampNeg ((4 : Int32)).toNatClampNeg), bk.2.2.1, bk.2.2.2.1, bk.2.2.2.2) r3 r4 li fo tx co ke rf cp lk fl em tm rd)) C fwX0_copyFrom_12_1_24 rfl (Nat.le_of_ble_eq_true rfl) rfl rfl rfl dX0_copyFrom_57 ?_
  obtain rfl := Option.some.inj h
  exact wg_vret C hT dX0_copyFrom_60
abbrev rX0_copyFrom_15_1 : Room := { frames := 1, cells := 0, slots := 0, locals := 40 }
theorem iwX0_copyFrom_15_1_0 : ∀ w ∈ wsX00, w ∈ wsX0_copyFrom := by decide +kernel
theorem fgX0_copyFrom_15_1_9 : FG wsX0_copyFrom RX0 9 0 0 := ⟨RX0, TX0, 5, rfl, by decide, by decide +kernel, iwX0_copyFrom_15_1_0⟩
theorem fgX0_copyFrom_15_1_15 : FG wsX0_copyFrom RX0 15 0 1 := ⟨RX0, TX0, 5, rfl, by decide, by decide +kernel, iwX0_copyFrom_15_1_0⟩
theorem fgX0_copyFrom_15_1_24 : FG wsX0_copyFrom RX0 24 0 4 := ⟨RX0, TX0, 5, rfl, by decide, by decide +kernel, iwX0_copyFrom_15_1_0⟩
theorem fwX0_copyFrom_15_1_24 : FW wsX0_copyFrom RX0 24 0 4 .int := ⟨RX0, TX0, 5, tyX0, rfl, by decide, by decide +kernel, iwX0_copyFrom_15_1_0, tyX0_ok, nmX0, rfl, by decide +kernel⟩
theorem fgX0_copyFrom_15_1_28 : FG wsX0_copyFrom RX0 28 0 2 := ⟨RX0, TX0, 5, rfl, by decide, by decide +kernel, iwX0_copyFrom_15_1_0⟩
theorem fwX0_copyFrom_15_1_28 : FW wsX0_copyFrom RX0 28 0 2 .int := ⟨RX0, TX0, 5, tyX0, rfl, by decide, by decide +kernel, iwX0_copyFrom_15_1_0, tyX0_ok, nmX0, rfl, by decide +kernel⟩
theorem fgX0_copyFrom_15_1_31 : FG wsX0_copyFrom RX0 31 0 3 := ⟨RX0, TX0, 5, rfl, by decide, by decide +kernel, iwX0_copyFrom_15_1_0⟩
theorem fwX0_copyFrom_15_1_31 : FW wsX0_copyFrom RX0 31 0 3 .int := ⟨RX0, TX0, 5, tyX0, rfl, by decide, by decide +kernel, iwX0_copyFrom_15_1_0, tyX0_ok, nmX0, rfl, by decide +kernel⟩
set_option maxRecDepth 100000 in
set_option maxHeartbeats 4000000 in
theorem sX0_copyFrom_15_1 (cn : Tcn) (bk : Tbk) (st : Tst) (r0 : Tbk) (r1 : Tbk) (r2 : Tbk) (r3 : Tbk) (r4 : Tbk) (li : Tli) (fo : Tfo) (tx : Ttx) (co : Tco) (ke : Tke) (rf : (Nat → Int32)) (cp : Int32) (lk : Tlk) (fl : Tfl) (em : Int32) (tm : Ttm) (rd : Trd)  (o : Tbk) (h : fX0_copyFrom_15_1 bk r3  = some o) : Sp yX0_copyFrom wsX0_copyFrom rX0_copyFrom_15_1 [.ref 15, .ref 1] (mkH cn bk st r0 r1 r2 r3 r4 li fo tx co ke rf cp lk fl em tm rd) none (mkH cn bk st r0 r1 r2 o r4 li fo tx co ke rf cp lk fl em tm rd) := by
  refine Sp.of (lv := [some (.ref 15), some (.ref 1)]) RX0 (by decide +kernel) rfl (Nat.le_of_ble_eq_true rfl) rfl ?_
  intro X C hT
  unfold fX0_copyFrom_15_1 at h
  refine wg_aload_n C dX0_copyFrom_0 rfl ?_
  refine wg_get (v := .ref 2) C fgX0_copyFrom_15_1_9 rfl rfl dX0_copyFrom_1 ?_
  refine wg_iconst (v := 0) C dX0_copyFrom_4 (by decide) ?_
  refine wg_aload_n C dX0_copyFrom_5 rfl ?_
  refine wg_get (v := .ref 16) C fgX0_copyFrom_15_1_9 rfl rfl dX0_copyFrom_6 ?_
  refine wg_iconst (v := 0) C dX0_copyFrom_9 (by decide) ?_
  refine wg_aload_n C dX0_copyFrom_10 rfl ?_
  refine wg_get (v := .ref 16) C fgX0_copyFrom_15_1_9 rfl rfl dX0_copyFrom_11 ?_
  refine wg_alen (v := 200) C rfl rfl rfl dX0_copyFrom_14 ?_
  refine wg_copy (hp' := (mkH cn bk st r0 r1 r2 ((va_cpy bk.1 r3.1 ((0 : Int32)).toNatClampNeg ((0 : Int32)).toNatClampNeg ((200 : Int32)).toNatClampNeg), r3.2.1, r3.2.2.1, r3.2.2.2.1, r3.2.2.2.2) r4 li fo tx co ke rf cp lk fl em tm rd)) C ⟨by decide +kernel, by decide +kernel, by decide +kernel, by decide +kernel⟩ rfl rfl (by decide) (by decide) (by decide) (by decide) (by decide) ⟨Nat.le_of_ble_eq_true rfl, by decide +kernel⟩ rfl dX0_copyFrom_15 ?_
  refine wg_aload_n C dX0_copyFrom_18 rfl ?_
  refine wg_get (v := .ref 3) C fgX0_copyFrom_15_1_15 rfl rfl dX0_copyFrom_19 ?_
  refine wg_iconst (v := 0) C dX0_copyFrom_22 (by decide) ?_
  refine wg_aload_n C dX0_copyFrom_23 rfl ?_
  refine wg_get (v := .ref 17) C fgX0_copyFrom_15_1_15 rfl rfl dX0_copyFrom_24 ?_
  refine wg_iconst (v := 0) C dX0_copyFrom_27 (by decide) ?_
  refine wg_aload_n C dX0_copyFrom_28 rfl ?_
  refine wg_get (v := .ref 17) C fgX0_copyFrom_15_1_15 rfl rfl dX0_copyFrom_29 ?_
  refine wg_alen (v := 4) C rfl rfl rfl dX0_copyFrom_32 ?_
  refine wg_copy (hp' := (mkH cn bk st r0 r1 r2 ((va_cpy bk.1 r3.1 ((0 : Int32)).toNatClampNeg ((0 : Int32)).toNatClampNeg ((200 : Int32)).toNatClampNeg), (va_cpy bk.2.1 r3.2.1 ((0 : Int32)).toNatClampNeg ((0 : Int32)).toNatClampNeg ((4 : Int32)).toNatClampNeg), r3.2.2.1, r3.2.2.2.1, r3.2.2.2.2) r4 li fo tx co ke rf cp lk fl em tm rd)) C ⟨by decide +kernel, by decide +kernel, by decide +kernel, by decide +kernel⟩ rfl rfl (by decide) (by decide) (by decide) (by decide) (by decide) ⟨Nat.le_of_ble_eq_true rfl, by decide +kernel⟩ rfl dX0_copyFrom_33 ?_
  refine wg_aload_n C dX0_copyFrom_36 rfl ?_
  refine wg_aload_n C dX0_copyFrom_37 rfl ?_
  refine wg_get (v := .int bk.2.2.1) C fgX0_copyFrom_15_1_28 rfl rfl dX0_copyFrom_38 ?_
  refine wg_put (hp' := (mkH cn bk st r0 r1 r2 ((va_cpy bk.1 r3.1 ((0 : Int32)).toNatClampNeg ((0 : Int32)).toNatClampNeg ((200 : Int32)).toNatClampNeg), (va_cpy bk.2.1 r3.2.1 ((0 : Int32)).toNatClampNeg ((0 : Int32)).toNatClampNeg ((4 : Int32)).toNatClampNeg), bk.2.2.1, r3.2.2.2.1, r3.2.2.2.2) r4 li fo tx co ke rf cp lk fl em tm rd)) C fwX0_copyFrom_15_1_28 rfl (Nat.le_of_ble_eq_true rfl) rfl rfl rfl dX0_copyFrom_41 ?_
  refine wg_aload_n C dX0_copyFrom_44 rfl ?_
  refine wg_aload_n C dX0_copyFrom_45 rfl ?_
  refine wg_get (v := .int bk.2.2.2.1) C fgX0_copyFrom_15_1_31 rfl rfl dX0_copyFrom_46 ?_
  refine wg_put (hp' := (mkH cn bk st r0 r1 r2 ((va_cpy bk.1 r3.1 ((0 : Int32)).toNatClampNeg ((0 : Int32)).toNatClampNeg ((200 : Int32)).toNatClampNeg), (va_cpy bk.2.1 r3.2.1 ((0 : Int32)).toNatClampNeg ((0 : Int32)).toNatClampNeg ((4 : Int32)).toNatClampNeg), bk.2.2.1, bk.2.2.2.1, r3.2.2.2.2) r4 li fo tx co ke rf cp lk fl em tm rd)) C fwX0_copyFrom_15_1_31 rfl (Nat.le_of_ble_eq_true rfl) rfl rfl rfl dX0_copyFrom_49 ?_
  refine wg_aload_n C dX0_copyFrom_52 rfl ?_
  refine wg_aload_n C dX0_copyFrom_53 rfl ?_
  refine wg_get (v := .int bk.2.2.2.2) C fgX0_copyFrom_15_1_24 rfl rfl dX0_copyFrom_54 ?_
  refine wg_put (hp' := (mkH cn bk st r0 r1 r2 ((va_cpy bk.1 r3.1 ((0 : Int32)).toNatClampNeg ((0 : Int32)).toNatClampNeg ((200 : Int32)).toNatClampNeg), (va_cpy bk.2.1 r3.2.1 ((0 : Int32)).toNatClampNeg ((0 : Int32)).toNatClampNeg ((4 : Int32)).toNatClampNeg), bk.2.2.1, bk.2.2.2.1, bk.2.2.2.2) r4 li fo tx co ke rf cp lk fl em tm rd)) C fwX0_copyFrom_15_1_24 rfl (Nat.le_of_ble_eq_true rfl) rfl rfl rfl dX0_copyFrom_57 ?_
  obtain rfl := Option.some.inj h
  exact wg_vret C hT dX0_copyFrom_60
abbrev rX0_copyFrom_18_1 : Room := { frames := 1, cells := 0, slots := 0, locals := 40 }
theorem iwX0_copyFrom_18_1_0 : ∀ w ∈ wsX00, w ∈ wsX0_copyFrom := by decide +kernel
theorem fgX0_copyFrom_18_1_9 : FG wsX0_copyFrom RX0 9 0 0 := ⟨RX0, TX0, 5, rfl, by decide, by decide +kernel, iwX0_copyFrom_18_1_0⟩
theorem fgX0_copyFrom_18_1_15 : FG wsX0_copyFrom RX0 15 0 1 := ⟨RX0, TX0, 5, rfl, by decide, by decide +kernel, iwX0_copyFrom_18_1_0⟩
theorem fgX0_copyFrom_18_1_24 : FG wsX0_copyFrom RX0 24 0 4 := ⟨RX0, TX0, 5, rfl, by decide, by decide +kernel, iwX0_copyFrom_18_1_0⟩
theorem fwX0_copyFrom_18_1_24 : FW wsX0_copyFrom RX0 24 0 4 .int := ⟨RX0, TX0, 5, tyX0, rfl, by decide, by decide +kernel, iwX0_copyFrom_18_1_0, tyX0_ok, nmX0, rfl, by decide +kernel⟩
theorem fgX0_copyFrom_18_1_28 : FG wsX0_copyFrom RX0 28 0 2 := ⟨RX0, TX0, 5, rfl, by decide, by decide +kernel, iwX0_copyFrom_18_1_0⟩
theorem fwX0_copyFrom_18_1_28 : FW wsX0_copyFrom RX0 28 0 2 .int := ⟨RX0, TX0, 5, tyX0, rfl, by decide, by decide +kernel, iwX0_copyFrom_18_1_0, tyX0_ok, nmX0, rfl, by decide +kernel⟩
theorem fgX0_copyFrom_18_1_31 : FG wsX0_copyFrom RX0 31 0 3 := ⟨RX0, TX0, 5, rfl, by decide, by decide +kernel, iwX0_copyFrom_18_1_0⟩
theorem fwX0_copyFrom_18_1_31 : FW wsX0_copyFrom RX0 31 0 3 .int := ⟨RX0, TX0, 5, tyX0, rfl, by decide, by decide +kernel, iwX0_copyFrom_18_1_0, tyX0_ok, nmX0, rfl, by decide +kernel⟩
set_option maxRecDepth 100000 in
set_option maxHeartbeats 4000000 in
theorem sX0_copyFrom_18_1 (cn : Tcn) (bk : Tbk) (st : Tst) (r0 : Tbk) (r1 : Tbk) (r2 : Tbk) (r3 : Tbk) (r4 : Tbk) (li : Tli) (fo : Tfo) (tx : Ttx) (co : Tco) (ke : Tke) (rf : (Nat → Int32)) (cp : Int32) (lk : Tlk) (fl : Tfl) (em : Int32) (tm : Ttm) (rd : Trd)  (o : Tbk) (h : fX0_copyFrom_18_1 bk r4  = some o) : Sp yX0_copyFrom wsX0_copyFrom rX0_copyFrom_18_1 [.ref 18, .ref 1] (mkH cn bk st r0 r1 r2 r3 r4 li fo tx co ke rf cp lk fl em tm rd) none (mkH cn bk st r0 r1 r2 r3 o li fo tx co ke rf cp lk fl em tm rd) := by
  refine Sp.of (lv := [some (.ref 18), some (.ref 1)]) RX0 (by decide +kernel) rfl (Nat.le_of_ble_eq_true rfl) rfl ?_
  intro X C hT
  unfold fX0_copyFrom_18_1 at h
  refine wg_aload_n C dX0_copyFrom_0 rfl ?_
  refine wg_get (v := .ref 2) C fgX0_copyFrom_18_1_9 rfl rfl dX0_copyFrom_1 ?_
  refine wg_iconst (v := 0) C dX0_copyFrom_4 (by decide) ?_
  refine wg_aload_n C dX0_copyFrom_5 rfl ?_
  refine wg_get (v := .ref 19) C fgX0_copyFrom_18_1_9 rfl rfl dX0_copyFrom_6 ?_
  refine wg_iconst (v := 0) C dX0_copyFrom_9 (by decide) ?_
  refine wg_aload_n C dX0_copyFrom_10 rfl ?_
  refine wg_get (v := .ref 19) C fgX0_copyFrom_18_1_9 rfl rfl dX0_copyFrom_11 ?_
  refine wg_alen (v := 200) C rfl rfl rfl dX0_copyFrom_14 ?_
  refine wg_copy (hp' := (mkH cn bk st r0 r1 r2 r3 ((va_cpy bk.1 r4.1 ((0 : Int32)).toNatClampNeg ((0 : Int32)).toNatClampNeg ((200 : Int32)).toNatClampNeg), r4.2.1, r4.2.2.1, r4.2.2.2.1, r4.2.2.2.2) li fo tx co ke rf cp lk fl em tm rd)) C ⟨by decide +kernel, by decide +kernel, by decide +kernel, by decide +kernel⟩ rfl rfl (by decide) (by decide) (by decide) (by decide) (by decide) ⟨Nat.le_of_ble_eq_true rfl, by decide +kernel⟩ rfl dX0_copyFrom_15 ?_
  refine wg_aload_n C dX0_copyFrom_18 rfl ?_
  refine wg_get (v := .ref 3) C fgX0_copyFrom_18_1_15 rfl rfl dX0_copyFrom_19 ?_
  refine wg_iconst (v := 0) C dX0_copyFrom_22 (by decide) ?_
  refine wg_aload_n C dX0_copyFrom_23 rfl ?_
  refine wg_get (v := .ref 20) C fgX0_copyFrom_18_1_15 rfl rfl dX0_copyFrom_24 ?_
  refine wg_iconst (v := 0) C dX0_copyFrom_27 (by decide) ?_
  refine wg_aload_n C dX0_copyFrom_28 rfl ?_
  refine wg_get (v := .ref 20) C fgX0_copyFrom_18_1_15 rfl rfl dX0_copyFrom_29 ?_
  refine wg_alen (v := 4) C rfl rfl rfl dX0_copyFrom_32 ?_
  refine wg_copy (hp' := (mkH cn bk st r0 r1 r2 r3 ((va_cpy bk.1 r4.1 ((0 : Int32)).toNatClampNeg ((0 : Int32)).toNatClampNeg ((200 : Int32)).toNatClampNeg), (va_cpy bk.2.1 r4.2.1 ((0 : Int32)).toNatClampNeg ((0 : Int32)).toNatClampNeg ((4 : Int32)).toNatClampNeg), r4.2.2.1, r4.2.2.2.1, r4.2.2.2.2) li fo tx co ke rf cp lk fl em tm rd)) C ⟨by decide +kernel, by decide +kernel, by decide +kernel, by decide +kernel⟩ rfl rfl (by decide) (by decide) (by decide) (by decide) (by decide) ⟨Nat.le_of_ble_eq_true rfl, by decide +kernel⟩ rfl dX0_copyFrom_33 ?_
  refine wg_aload_n C dX0_copyFrom_36 rfl ?_
  refine wg_aload_n C dX0_copyFrom_37 rfl ?_
  refine wg_get (v := .int bk.2.2.1) C fgX0_copyFrom_18_1_28 rfl rfl dX0_copyFrom_38 ?_
  refine wg_put (hp' := (mkH cn bk st r0 r1 r2 r3 ((va_cpy bk.1 r4.1 ((0 : Int32)).toNatClampNeg ((0 : Int32)).toNatClampNeg ((200 : Int32)).toNatClampNeg), (va_cpy bk.2.1 r4.2.1 ((0 : Int32)).toNatClampNeg ((0 : Int32)).toNatClampNeg ((4 : Int32)).toNatClampNeg), bk.2.2.1, r4.2.2.2.1, r4.2.2.2.2) li fo tx co ke rf cp lk fl em tm rd)) C fwX0_copyFrom_18_1_28 rfl (Nat.le_of_ble_eq_true rfl) rfl rfl rfl dX0_copyFrom_41 ?_
  refine wg_aload_n C dX0_copyFrom_44 rfl ?_
  refine wg_aload_n C dX0_copyFrom_45 rfl ?_
  refine wg_get (v := .int bk.2.2.2.1) C fgX0_copyFrom_18_1_31 rfl rfl dX0_copyFrom_46 ?_
  refine wg_put (hp' := (mkH cn bk st r0 r1 r2 r3 ((va_cpy bk.1 r4.1 ((0 : Int32)).toNatClampNeg ((0 : Int32)).toNatClampNeg ((200 : Int32)).toNatClampNeg), (va_cpy bk.2.1 r4.2.1 ((0 : Int32)).toNatClampNeg ((0 : Int32)).toNatClampNeg ((4 : Int32)).toNatClampNeg), bk.2.2.1, bk.2.2.2.1, r4.2.2.2.2) li fo tx co ke rf cp lk fl em tm rd)) C fwX0_copyFrom_18_1_31 rfl (Nat.le_of_ble_eq_true rfl) rfl rfl rfl dX0_copyFrom_49 ?_
  refine wg_aload_n C dX0_copyFrom_52 rfl ?_
  refine wg_aload_n C dX0_copyFrom_53 rfl ?_
  refine wg_get (v := .int bk.2.2.2.2) C fgX0_copyFrom_18_1_24 rfl rfl dX0_copyFrom_54 ?_
  refine wg_put (hp' := (mkH cn bk st r0 r1 r2 r3 ((va_cpy bk.1 r4.1 ((0 : Int32)).toNatClampNeg ((0 : Int32)).toNatClampNeg ((200 : Int32)).toNatClampNeg), (va_cpy bk.2.1 r4.2.1 ((0 : Int32)).toNatClampNeg ((0 : Int32)).toNatClampNeg ((4 : Int32)).toNatClampNeg), bk.2.2.1, bk.2.2.2.1, bk.2.2.2.2) li fo tx co ke rf cp lk fl em tm rd)) C fwX0_copyFrom_18_1_24 rfl (Nat.le_of_ble_eq_true rfl) rfl rfl rfl dX0_copyFrom_57 ?_
  obtain rfl := Option.some.inj h
  exact wg_vret C hT dX0_copyFrom_60
abbrev rX3_push : Room := { frames := 2, cells := 0, slots := 0, locals := 61 }
theorem iwX3_push_3 : ∀ w ∈ wsX30, w ∈ wsX3_push := by decide +kernel
theorem fgX3_push_11 : FG wsX3_push RX3 11 3 0 := ⟨RX3, TX3, 3, rfl, by decide, by decide +kernel, iwX3_push_3⟩
theorem fgX3_push_18 : FG wsX3_push RX3 18 3 2 := ⟨RX3, TX3, 3, rfl, by decide, by decide +kernel, iwX3_push_3⟩
theorem fwX3_push_18 : FW wsX3_push RX3 18 3 2 .int := ⟨RX3, TX3, 3, tyX3, rfl, by decide, by decide +kernel, iwX3_push_3, tyX3_ok, nmX3, rfl, by decide +kernel⟩
theorem fgX3_push_22 : FG wsX3_push RX3 22 3 1 := ⟨RX3, TX3, 3, rfl, by decide, by decide +kernel, iwX3_push_3⟩
theorem fwX3_push_22 : FW wsX3_push RX3 22 3 1 .int := ⟨RX3, TX3, 3, tyX3, rfl, by decide, by decide +kernel, iwX3_push_3, tyX3_ok, nmX3, rfl, by decide +kernel⟩
set_option maxRecDepth 100000 in
set_option maxHeartbeats 4000000 in
theorem sX3_push (cn : Tcn) (bk : Tbk) (st : Tst) (r0 : Tbk) (r1 : Tbk) (r2 : Tbk) (r3 : Tbk) (r4 : Tbk) (li : Tli) (fo : Tfo) (tx : Ttx) (co : Tco) (ke : Tke) (rf : (Nat → Int32)) (cp : Int32) (lk : Tlk) (fl : Tfl) (em : Int32) (tm : Ttm) (rd : Trd)  (o : Tst × Tbk × Tbk × Tbk × Tbk × Tbk) (h : fX3_push bk st r0 r1 r2 r3 r4  = some o) : Sp yX3_push wsX3_push rX3_push [.ref 4, .ref 1] (mkH cn bk st r0 r1 r2 r3 r4 li fo tx co ke rf cp lk fl em tm rd) none (mkH cn bk o.1 o.2.1 o.2.2.1 o.2.2.2.1 o.2.2.2.2.1 o.2.2.2.2.2 li fo tx co ke rf cp lk fl em tm rd) := by
  refine Sp.of (lv := [some (.ref 4), some (.ref 1)]) RX3 (by decide +kernel) rfl (Nat.le_of_ble_eq_true rfl) rfl ?_
  intro X C hT
  unfold fX3_push at h
  refine wg_aload_n C dX3_push_0 rfl ?_
  refine wg_aload_n C dX3_push_1 rfl ?_
  refine wg_get (v := .int st.1) C fgX3_push_22 rfl rfl dX3_push_2 ?_
  refine wg_iconst (v := 1) C dX3_push_5 (by decide) ?_
  refine wg_iadd C dX3_push_6 ?_
  refine wg_iconst (v := 5) C dX3_push_7 (by decide) ?_
  refine wg_irem C dX3_push_8 (by decide) ?_
  refine wg_put (hp' := (mkH cn bk (((st.1 + (1 : Int32)) - (st.1 + (1 : Int32)) / (5 : Int32) * (5 : Int32)), st.2) r0 r1 r2 r3 r4 li fo tx co ke rf cp lk fl em tm rd)) C fwX3_push_22 rfl (Nat.le_of_ble_eq_true rfl) rfl rfl rfl dX3_push_9 ?_
  refine wg_aload_n C dX3_push_12 rfl ?_
  refine wg_aload_n C dX3_push_13 rfl ?_
  refine wg_get (v := .int st.2) C fgX3_push_18 rfl rfl dX3_push_14 ?_
  refine wg_iconst (v := 1) C dX3_push_17 (by decide) ?_
  refine wg_iadd C dX3_push_18 ?_
  refine wg_iconst (v := 5) C dX3_push_19 (by decide) ?_
  refine wg_mmin C ⟨by decide +kernel, by decide +kernel, by decide +kernel, by decide +kernel⟩ ⟨Nat.le_of_ble_eq_true rfl, Nat.le_of_ble_eq_true rfl⟩ dX3_push_20 ?_
  refine wg_put (hp' := (mkH cn bk (((st.1 + (1 : Int32)) - (st.1 + (1 : Int32)) / (5 : Int32) * (5 : Int32)), (if (5 : Int32) < (st.2 + (1 : Int32)) then (5 : Int32) else (st.2 + (1 : Int32)))) r0 r1 r2 r3 r4 li fo tx co ke rf cp lk fl em tm rd)) C fwX3_push_18 rfl (Nat.le_of_ble_eq_true rfl) rfl rfl rfl dX3_push_23 ?_
  refine wg_aload_n C dX3_push_26 rfl ?_
  refine wg_get (v := .ref 5) C fgX3_push_11 rfl rfl dX3_push_27 ?_
  refine wg_aload_n C dX3_push_30 rfl ?_
  refine wg_get (v := .int ((st.1 + (1 : Int32)) - (st.1 + (1 : Int32)) / (5 : Int32) * (5 : Int32))) C fgX3_push_22 rfl rfl dX3_push_31 ?_
  by_cases c6 : ((st.1 + (1 : Int32)) - (st.1 + (1 : Int32)) / (5 : Int32) * (5 : Int32)) = 0
  · replace h := ifP c6 h
    refine wg_aald (y := 6) C rfl (by rw [c6]; rfl) (by rw [c6]; rfl) dX3_push_34 ?_
    refine wg_aload_n C dX3_push_35 rfl ?_
    obtain ⟨q1, e1q, h⟩ := bnd h
    refine wg_callV (n := 1) (As := [.ref 1]) (st := []) (st' := []) C (sX0_copyFrom_6_1 cn bk (((st.1 + (1 : Int32)) - (st.1 + (1 : Int32)) / (5 : Int32) * (5 : Int32)), (if (5 : Int32) < (st.2 + (1 : Int32)) then (5 : Int32) else (st.2 + (1 : Int32)))) r0 r1 r2 r3 r4 li fo tx co ke rf cp lk fl em tm rd  q1 e1q) gX3_push_X0_copyFrom rfl (by decide +kernel) ⟨⟨rfl, rfl⟩, Nat.le_of_ble_eq_true rfl, Nat.le_of_ble_eq_true rfl⟩ rfl rfl rfl rfl (Nat.le_of_ble_eq_true rfl) dX3_push_36 rfl ?_
    obtain rfl := Option.some.inj h
    exact wg_vret C hT dX3_push_39
  · replace h := ifN c6 h
    by_cases c7 : ((st.1 + (1 : Int32)) - (st.1 + (1 : Int32)) / (5 : Int32) * (5 : Int32)) = 1
    · replace h := ifP c7 h
      refine wg_aald (y := 9) C rfl (by rw [c7]; rfl) (by rw [c7]; rfl) dX3_push_34 ?_
      refine wg_aload_n C dX3_push_35 rfl ?_
      obtain ⟨q2, e2q, h⟩ := bnd h
      refine wg_callV (n := 1) (As := [.ref 1]) (st := []) (st' := []) C (sX0_copyFrom_9_1 cn bk (((st.1 + (1 : Int32)) - (st.1 + (1 : Int32)) / (5 : Int32) * (5 : Int32)), (if (5 : Int32) < (st.2 + (1 : Int32)) then (5 : Int32) else (st.2 + (1 : Int32)))) r0 r1 r2 r3 r4 li fo tx co ke rf cp lk fl em tm rd  q2 e2q) gX3_push_X0_copyFrom rfl (by decide +kernel) ⟨⟨rfl, rfl⟩, Nat.le_of_ble_eq_true rfl, Nat.le_of_ble_eq_true rfl⟩ rfl rfl rfl rfl (Nat.le_of_ble_eq_true rfl) dX3_push_36 rfl ?_
      obtain rfl := Option.some.inj h
      exact wg_vret C hT dX3_push_39
    · replace h := ifN c7 h
      by_cases c8 : ((st.1 + (1 : Int32)) - (st.1 + (1 : Int32)) / (5 : Int32) * (5 : Int32)) = 2
      · replace h := ifP c8 h
        refine wg_aald (y := 12) C rfl (by rw [c8]; rfl) (by rw [c8]; rfl) dX3_push_34 ?_
        refine wg_aload_n C dX3_push_35 rfl ?_
        obtain ⟨q3, e3q, h⟩ := bnd h
        refine wg_callV (n := 1) (As := [.ref 1]) (st := []) (st' := []) C (sX0_copyFrom_12_1 cn bk (((st.1 + (1 : Int32)) - (st.1 + (1 : Int32)) / (5 : Int32) * (5 : Int32)), (if (5 : Int32) < (st.2 + (1 : Int32)) then (5 : Int32) else (st.2 + (1 : Int32)))) r0 r1 r2 r3 r4 li fo tx co ke rf cp lk fl em tm rd  q3 e3q) gX3_push_X0_copyFrom rfl (by decide +kernel) ⟨⟨rfl, rfl⟩, Nat.le_of_ble_eq_true rfl, Nat.le_of_ble_eq_true rfl⟩ rfl rfl rfl rfl (Nat.le_of_ble_eq_true rfl) dX3_push_36 rfl ?_
        obtain rfl := Option.some.inj h
        exact wg_vret C hT dX3_push_39
      · replace h := ifN c8 h
        by_cases c9 : ((st.1 + (1 : Int32)) - (st.1 + (1 : Int32)) / (5 : Int32) * (5 : Int32)) = 3
        · replace h := ifP c9 h
          refine wg_aald (y := 15) C rfl (by rw [c9]; rfl) (by rw [c9]; rfl) dX3_push_34 ?_
          refine wg_aload_n C dX3_push_35 rfl ?_
          obtain ⟨q4, e4q, h⟩ := bnd h
          refine wg_callV (n := 1) (As := [.ref 1]) (st := []) (st' := []) C (sX0_copyFrom_15_1 cn bk (((st.1 + (1 : Int32)) - (st.1 + (1 : Int32)) / (5 : Int32) * (5 : Int32)), (if (5 : Int32) < (st.2 + (1 : Int32)) then (5 : Int32) else (st.2 + (1 : Int32)))) r0 r1 r2 r3 r4 li fo tx co ke rf cp lk fl em tm rd  q4 e4q) gX3_push_X0_copyFrom rfl (by decide +kernel) ⟨⟨rfl, rfl⟩, Nat.le_of_ble_eq_true rfl, Nat.le_of_ble_eq_true rfl⟩ rfl rfl rfl rfl (Nat.le_of_ble_eq_true rfl) dX3_push_36 rfl ?_
          obtain rfl := Option.some.inj h
          exact wg_vret C hT dX3_push_39
        · replace h := ifN c9 h
          by_cases c10 : ((st.1 + (1 : Int32)) - (st.1 + (1 : Int32)) / (5 : Int32) * (5 : Int32)) = 4
          · replace h := ifP c10 h
            refine wg_aald (y := 18) C rfl (by rw [c10]; rfl) (by rw [c10]; rfl) dX3_push_34 ?_
            refine wg_aload_n C dX3_push_35 rfl ?_
            obtain ⟨q5, e5q, h⟩ := bnd h
            refine wg_callV (n := 1) (As := [.ref 1]) (st := []) (st' := []) C (sX0_copyFrom_18_1 cn bk (((st.1 + (1 : Int32)) - (st.1 + (1 : Int32)) / (5 : Int32) * (5 : Int32)), (if (5 : Int32) < (st.2 + (1 : Int32)) then (5 : Int32) else (st.2 + (1 : Int32)))) r0 r1 r2 r3 r4 li fo tx co ke rf cp lk fl em tm rd  q5 e5q) gX3_push_X0_copyFrom rfl (by decide +kernel) ⟨⟨rfl, rfl⟩, Nat.le_of_ble_eq_true rfl, Nat.le_of_ble_eq_true rfl⟩ rfl rfl rfl rfl (Nat.le_of_ble_eq_true rfl) dX3_push_36 rfl ?_
            obtain rfl := Option.some.inj h
            exact wg_vret C hT dX3_push_39
          · replace h := ifN c10 h
            cases h
abbrev rX2_forget : Room := { frames := 0, cells := 0, slots := 0, locals := 0 }
theorem iwX2_forget_2 : ∀ w ∈ wsX20, w ∈ wsX2_forget := by decide +kernel
theorem fwX2_forget_35 : FW wsX2_forget RX2 35 2 8 .int := ⟨RX2, TX2, 9, tyX2, rfl, by decide, by decide +kernel, iwX2_forget_2, tyX2_ok, nmX2, rfl, by decide +kernel⟩
set_option maxRecDepth 100000 in
set_option maxHeartbeats 4000000 in
theorem sX2_forget (cn : Tcn) (bk : Tbk) (st : Tst) (r0 : Tbk) (r1 : Tbk) (r2 : Tbk) (r3 : Tbk) (r4 : Tbk) (li : Tli) (fo : Tfo) (tx : Ttx) (co : Tco) (ke : Tke) (rf : (Nat → Int32)) (cp : Int32) (lk : Tlk) (fl : Tfl) (em : Int32) (tm : Ttm) (rd : Trd)  (o : Tli) (h : fX2_forget li  = some o) : Sp yX2_forget wsX2_forget rX2_forget [.ref 21] (mkH cn bk st r0 r1 r2 r3 r4 li fo tx co ke rf cp lk fl em tm rd) none (mkH cn bk st r0 r1 r2 r3 r4 o fo tx co ke rf cp lk fl em tm rd) := by
  refine Sp.of (lv := [some (.ref 21)]) RX2 (by decide +kernel) rfl (Nat.le_of_ble_eq_true rfl) rfl ?_
  intro X C hT
  unfold fX2_forget at h
  refine wg_aload_n C dX2_forget_0 rfl ?_
  refine wg_bipush (v := -2) C dX2_forget_1 (by decide) ?_
  refine wg_put (hp' := (mkH cn bk st r0 r1 r2 r3 r4 (li.1, li.2.1, li.2.2.1, li.2.2.2.1, li.2.2.2.2.1, li.2.2.2.2.2.1, li.2.2.2.2.2.2.1, li.2.2.2.2.2.2.2.1, (-2 : Int32)) fo tx co ke rf cp lk fl em tm rd)) C fwX2_forget_35 rfl (Nat.le_of_ble_eq_true rfl) rfl rfl rfl dX2_forget_3 ?_
  obtain rfl := Option.some.inj h
  exact wg_vret C hT dX2_forget_6
abbrev rX5_keepState : Room := { frames := 3, cells := 0, slots := 0, locals := 82 }
theorem iwX5_keepState_5 : ∀ w ∈ wsX50, w ∈ wsX5_keepState := by decide +kernel
theorem fgX5_keepState_10 : FG wsX5_keepState RX5 10 5 0 := ⟨RX5, TX5, 8, rfl, by decide, by decide +kernel, iwX5_keepState_5⟩
theorem fgX5_keepState_19 : FG wsX5_keepState RX5 19 5 1 := ⟨RX5, TX5, 8, rfl, by decide, by decide +kernel, iwX5_keepState_5⟩
theorem fgX5_keepState_26 : FG wsX5_keepState RX5 26 5 2 := ⟨RX5, TX5, 8, rfl, by decide, by decide +kernel, iwX5_keepState_5⟩
set_option maxRecDepth 100000 in
set_option maxHeartbeats 4000000 in
theorem sX5_keepState (cn : Tcn) (bk : Tbk) (st : Tst) (r0 : Tbk) (r1 : Tbk) (r2 : Tbk) (r3 : Tbk) (r4 : Tbk) (li : Tli) (fo : Tfo) (tx : Ttx) (co : Tco) (ke : Tke) (rf : (Nat → Int32)) (cp : Int32) (lk : Tlk) (fl : Tfl) (em : Int32) (tm : Ttm) (rd : Trd)  (o : Tst × Tbk × Tbk × Tbk × Tbk × Tbk × Tli) (h : fX5_keepState bk st r0 r1 r2 r3 r4 li  = some o) : Sp yX5_keepState wsX5_keepState rX5_keepState [.ref 0] (mkH cn bk st r0 r1 r2 r3 r4 li fo tx co ke rf cp lk fl em tm rd) none (mkH cn bk o.1 o.2.1 o.2.2.1 o.2.2.2.1 o.2.2.2.2.1 o.2.2.2.2.2.1 o.2.2.2.2.2.2 fo tx co ke rf cp lk fl em tm rd) := by
  refine Sp.of (lv := [some (.ref 0)]) RX5 (by decide +kernel) rfl (Nat.le_of_ble_eq_true rfl) rfl ?_
  intro X C hT
  unfold fX5_keepState at h
  refine wg_aload_n C dX5_keepState_0 rfl ?_
  refine wg_get (v := .ref 4) C fgX5_keepState_19 rfl rfl dX5_keepState_1 ?_
  refine wg_aload_n C dX5_keepState_4 rfl ?_
  refine wg_get (v := .ref 1) C fgX5_keepState_10 rfl rfl dX5_keepState_5 ?_
  obtain ⟨q1, e1q, h⟩ := bnd h
  refine wg_callV (n := 1) (As := [.ref 1]) (st := []) (st' := []) C (sX3_push cn bk st r0 r1 r2 r3 r4 li fo tx co ke rf cp lk fl em tm rd  q1 e1q) gX5_keepState_X3_push rfl (by decide +kernel) ⟨⟨rfl, rfl⟩, Nat.le_of_ble_eq_true rfl, Nat.le_of_ble_eq_true rfl⟩ rfl rfl rfl rfl (Nat.le_of_ble_eq_true rfl) dX5_keepState_8 rfl ?_
  refine wg_aload_n C dX5_keepState_11 rfl ?_
  refine wg_get (v := .ref 21) C fgX5_keepState_26 rfl rfl dX5_keepState_12 ?_
  obtain ⟨q2, e2q, h⟩ := bnd h
  refine wg_callV (n := 0) (As := []) (st := []) (st' := []) C (sX2_forget cn bk q1.1 q1.2.1 q1.2.2.1 q1.2.2.2.1 q1.2.2.2.2.1 q1.2.2.2.2.2 li fo tx co ke rf cp lk fl em tm rd  q2 e2q) gX5_keepState_X2_forget rfl (by decide +kernel) ⟨⟨rfl, rfl⟩, Nat.le_of_ble_eq_true rfl, Nat.le_of_ble_eq_true rfl⟩ rfl rfl rfl rfl (Nat.le_of_ble_eq_true rfl) dX5_keepState_15 rfl ?_
  obtain rfl := Option.some.inj h
  exact wg_vret C hT dX5_keepState_18
abbrev rX0_has : Room := { frames := 0, cells := 0, slots := 0, locals := 0 }
theorem iwX0_has_0 : ∀ w ∈ wsX00, w ∈ wsX0_has := by decide +kernel
theorem fgX0_has_28 : FG wsX0_has RX0 28 0 2 := ⟨RX0, TX0, 5, rfl, by decide, by decide +kernel, iwX0_has_0⟩
set_option maxRecDepth 100000 in
set_option maxHeartbeats 4000000 in
theorem sjX0_has_17 (X : CX) (C : Ok X RX0 cX0_has wsX0_has rX0_has) (cn : Tcn) (bk : Tbk) (st : Tst) (r0 : Tbk) (r1 : Tbk) (r2 : Tbk) (r3 : Tbk) (r4 : Tbk) (li : Tli) (fo : Tfo) (tx : Ttx) (co : Tco) (ke : Tke) (rf : (Nat → Int32)) (cp : Int32) (lk : Tlk) (fl : Tfl) (em : Int32) (tm : Ttm) (rd : Trd) (y0 : Int32) (o : Int32) (h : jX0_has_17 bk y0 = some o) (hT : Rt X (some .boolean) (some (.int o)) (mkH cn bk st r0 r1 r2 r3 r4 li fo tx co ke rf cp lk fl em tm rd)) : Wg X 17 [none, none] [.int y0] (mkH cn bk st r0 r1 r2 r3 r4 li fo tx co ke rf cp lk fl em tm rd) := by
  unfold jX0_has_17 at h
  obtain ⟨g2, h⟩ := gdP h
  obtain rfl := Option.some.inj h
  exact wg_zret C hT (of_decide_eq_true g2) dX0_has_17
set_option maxRecDepth 100000 in
set_option maxHeartbeats 4000000 in
theorem sjX0_has_16 (X : CX) (C : Ok X RX0 cX0_has wsX0_has rX0_has) (cn : Tcn) (bk : Tbk) (st : Tst) (r0 : Tbk) (r1 : Tbk) (r2 : Tbk) (r3 : Tbk) (r4 : Tbk) (li : Tli) (fo : Tfo) (tx : Ttx) (co : Tco) (ke : Tke) (rf : (Nat → Int32)) (cp : Int32) (lk : Tlk) (fl : Tfl) (em : Int32) (tm : Ttm) (rd : Trd)  (o : Int32) (h : jX0_has_16 bk  = some o) (hT : Rt X (some .boolean) (some (.int o)) (mkH cn bk st r0 r1 r2 r3 r4 li fo tx co ke rf cp lk fl em tm rd)) : Wg X 16 [none, none] [] (mkH cn bk st r0 r1 r2 r3 r4 li fo tx co ke rf cp lk fl em tm rd) := by
  unfold jX0_has_16 at h
  refine wg_iconst (v := 0) C dX0_has_16 (by decide) ?_
  exact sjX0_has_17 X C cn bk st r0 r1 r2 r3 r4 li fo tx co ke rf cp lk fl em tm rd (0 : Int32) _ h hT
set_option maxRecDepth 100000 in
set_option maxHeartbeats 4000000 in
theorem sX0_has (cn : Tcn) (bk : Tbk) (st : Tst) (r0 : Tbk) (r1 : Tbk) (r2 : Tbk) (r3 : Tbk) (r4 : Tbk) (li : Tli) (fo : Tfo) (tx : Ttx) (co : Tco) (ke : Tke) (rf : (Nat → Int32)) (cp : Int32) (lk : Tlk) (fl : Tfl) (em : Int32) (tm : Ttm) (rd : Trd) (x1 : Int32) (o : Int32) (h : fX0_has bk x1 = some o) : Sp yX0_has wsX0_has rX0_has [.ref 1, .int x1] (mkH cn bk st r0 r1 r2 r3 r4 li fo tx co ke rf cp lk fl em tm rd) (some (.int o)) (mkH cn bk st r0 r1 r2 r3 r4 li fo tx co ke rf cp lk fl em tm rd) := by
  refine Sp.of (lv := [some (.ref 1), some (.int x1)]) RX0 (by decide +kernel) rfl (Nat.le_of_ble_eq_true rfl) rfl ?_
  intro X C hT
  unfold fX0_has at h
  refine wg_iload_n C dX0_has_0 rfl ?_
  refine wg_if_lt (tgt := 16) C dX0_has_1 (by decide) (fun c1 => ?_) (fun c1 => ?_)
  · replace h := ifP c1 h
    refine wg_drop (lv' := [none, none]) [0, 1] rfl ?_
    exact sjX0_has_16 X C cn bk st r0 r1 r2 r3 r4 li fo tx co ke rf cp lk fl em tm rd  _ h hT
  · replace h := ifN c1 h
    refine wg_iload_n C dX0_has_4 rfl ?_
    refine wg_aload_n C dX0_has_5 rfl ?_
    refine wg_get (v := .int bk.2.2.1) C fgX0_has_28 rfl rfl dX0_has_6 ?_
    refine wg_icmp_ge (tgt := 16) C dX0_has_9 (by decide) (fun c3 => ?_) (fun c3 => ?_)
    · replace h := ifP c3 h
      refine wg_drop (lv' := [none, none]) [0, 1] rfl ?_
      exact sjX0_has_16 X C cn bk st r0 r1 r2 r3 r4 li fo tx co ke rf cp lk fl em tm rd  _ h hT
    · replace h := ifN c3 h
      refine wg_iconst (v := 1) C dX0_has_12 (by decide) ?_
      refine wg_goto (tgt := 17) C dX0_has_13 (by decide) ?_
      refine wg_drop (lv' := [none, none]) [0, 1] rfl ?_
      exact sjX0_has_17 X C cn bk st r0 r1 r2 r3 r4 li fo tx co ke rf cp lk fl em tm rd (1 : Int32) _ h hT
abbrev rX5_isMember : Room := { frames := 1, cells := 0, slots := 0, locals := 22 }
set_option maxRecDepth 100000 in
set_option maxHeartbeats 4000000 in
theorem sX5_isMember (cn : Tcn) (bk : Tbk) (st : Tst) (r0 : Tbk) (r1 : Tbk) (r2 : Tbk) (r3 : Tbk) (r4 : Tbk) (li : Tli) (fo : Tfo) (tx : Ttx) (co : Tco) (ke : Tke) (rf : (Nat → Int32)) (cp : Int32) (lk : Tlk) (fl : Tfl) (em : Int32) (tm : Ttm) (rd : Trd) (x0 : Int32) (o : Int32) (h : fX5_isMember  x0 = some o) : Sp yX5_isMember wsX5_isMember rX5_isMember [.int x0] (mkH cn bk st r0 r1 r2 r3 r4 li fo tx co ke rf cp lk fl em tm rd) (some (.int o)) (mkH cn bk st r0 r1 r2 r3 r4 li fo tx co ke rf cp lk fl em tm rd) := by
  refine Sp.of (lv := [some (.int x0)]) RX5 (by decide +kernel) rfl (Nat.le_of_ble_eq_true rfl) rfl ?_
  intro X C hT
  unfold fX5_isMember at h
  refine wg_iload_n C dX5_isMember_0 rfl ?_
  refine wg_iconst (v := 0) C dX5_isMember_1 (by decide) ?_
  refine wg_iconst (v := 3) C dX5_isMember_2 (by decide) ?_
  obtain ⟨q1, e1q, h⟩ := bnd h
  refine wg_callT (n := 3) (As := [.int x0, .int (0 : Int32), .int (3 : Int32)]) (st := []) (st' := [.int q1]) C (sX5_isWithin cn bk st r0 r1 r2 r3 r4 li fo tx co ke rf cp lk fl em tm rd x0 (0 : Int32) (3 : Int32) q1 e1q) gX5_isMember_X5_isWithin rfl (by decide +kernel) ⟨⟨rfl, rfl⟩, Nat.le_of_ble_eq_true rfl, Nat.le_of_ble_eq_true rfl⟩ rfl rfl (Nat.le_of_ble_eq_true rfl) dX5_isMember_3 rfl ?_
  obtain ⟨g2, h⟩ := gdP h
  obtain rfl := Option.some.inj h
  exact wg_zret C hT (of_decide_eq_true g2) dX5_isMember_6
abbrev rX0_put : Room := { frames := 2, cells := 0, slots := 0, locals := 42 }
theorem iwX0_put_0 : ∀ w ∈ wsX00, w ∈ wsX0_put := by decide +kernel
theorem fgX0_put_9 : FG wsX0_put RX0 9 0 0 := ⟨RX0, TX0, 5, rfl, by decide, by decide +kernel, iwX0_put_0⟩
set_option maxRecDepth 100000 in
set_option maxHeartbeats 4000000 in
theorem sjX0_put_26 (X : CX) (C : Ok X RX0 cX0_put wsX0_put rX0_put) (cn : Tcn) (bk : Tbk) (st : Tst) (r0 : Tbk) (r1 : Tbk) (r2 : Tbk) (r3 : Tbk) (r4 : Tbk) (li : Tli) (fo : Tfo) (tx : Ttx) (co : Tco) (ke : Tke) (rf : (Nat → Int32)) (cp : Int32) (lk : Tlk) (fl : Tfl) (em : Int32) (tm : Ttm) (rd : Trd)  (o : Tbk) (h : jX0_put_26 bk  = some o) (hT : Rt X none none (mkH cn o st r0 r1 r2 r3 r4 li fo tx co ke rf cp lk fl em tm rd)) : Wg X 26 [none, none, none, none] [] (mkH cn bk st r0 r1 r2 r3 r4 li fo tx co ke rf cp lk fl em tm rd) := by
  unfold jX0_put_26 at h
  obtain rfl := Option.some.inj h
  exact wg_vret C hT dX0_put_26
set_option maxRecDepth 100000 in
set_option maxHeartbeats 4000000 in
theorem sX0_put (cn : Tcn) (bk : Tbk) (st : Tst) (r0 : Tbk) (r1 : Tbk) (r2 : Tbk) (r3 : Tbk) (r4 : Tbk) (li : Tli) (fo : Tfo) (tx : Ttx) (co : Tco) (ke : Tke) (rf : (Nat → Int32)) (cp : Int32) (lk : Tlk) (fl : Tfl) (em : Int32) (tm : Ttm) (rd : Trd) (x1 : Int32) (x2 : Int32) (x3 : Int32) (o : Tbk) (h : fX0_put bk x1 x2 x3 = some o) : Sp yX0_put wsX0_put rX0_put [.ref 1, .int x1, .int x2, .int x3] (mkH cn bk st r0 r1 r2 r3 r4 li fo tx co ke rf cp lk fl em tm rd) none (mkH cn o st r0 r1 r2 r3 r4 li fo tx co ke rf cp lk fl em tm rd) := by
  refine Sp.of (lv := [some (.ref 1), some (.int x1), some (.int x2), some (.int x3)]) RX0 (by decide +kernel) rfl (Nat.le_of_ble_eq_true rfl) rfl ?_
  intro X C hT
  unfold fX0_put at h
  refine wg_aload_n C dX0_put_0 rfl ?_
  refine wg_iload_n C dX0_put_1 rfl ?_
  obtain ⟨q1, e1q, h⟩ := bnd h
  refine wg_callV (n := 1) (As := [.int x1]) (st := []) (st' := [.int q1]) C (sX0_has cn bk st r0 r1 r2 r3 r4 li fo tx co ke rf cp lk fl em tm rd x1 q1 e1q) gX0_put_X0_has rfl (by decide +kernel) ⟨⟨rfl, rfl⟩, Nat.le_of_ble_eq_true rfl, Nat.le_of_ble_eq_true rfl⟩ rfl rfl rfl rfl (Nat.le_of_ble_eq_true rfl) dX0_put_2 rfl ?_
  refine wg_if_eq (tgt := 26) C dX0_put_5 (by decide) (fun c2 => ?_) (fun c2 => ?_)
  · replace h := ifP c2 h
    refine wg_drop (lv' := [none, none, none, none]) [0, 1, 2, 3] rfl ?_
    exact sjX0_put_26 X C cn bk st r0 r1 r2 r3 r4 li fo tx co ke rf cp lk fl em tm rd  _ h hT
  · replace h := ifN c2 h
    refine wg_iload_n C dX0_put_8 rfl ?_
    obtain ⟨q3, e3q, h⟩ := bnd h
    refine wg_callN (n := 1) (As := [.int x2]) (st := []) (st' := [.int q3]) C (sX5_isMember cn bk st r0 r1 r2 r3 r4 li fo tx co ke rf cp lk fl em tm rd x2 q3 e3q) (fun U h => h.1) gX0_put_X5_isMember_n38 ⟨by decide +kernel, by decide +kernel⟩ rfl (by decide +kernel) ⟨⟨rfl, rfl⟩, Nat.le_of_ble_eq_true rfl, Nat.le_of_ble_eq_true rfl⟩ rfl rfl (Nat.le_of_ble_eq_true rfl) dX0_put_9 rfl ?_
    refine wg_if_eq (tgt := 26) C dX0_put_12 (by decide) (fun c4 => ?_) (fun c4 => ?_)
    · replace h := ifP c4 h
      refine wg_drop (lv' := [none, none, none, none]) [0, 1, 2, 3] rfl ?_
      exact sjX0_put_26 X C cn bk st r0 r1 r2 r3 r4 li fo tx co ke rf cp lk fl em tm rd  _ h hT
    · replace h := ifN c4 h
      refine wg_aload_n C dX0_put_15 rfl ?_
      refine wg_get (v := .ref 2) C fgX0_put_9 rfl rfl dX0_put_16 ?_
      refine wg_iload_n C dX0_put_19 rfl ?_
      refine wg_iconst (v := 4) C dX0_put_20 (by decide) ?_
      refine wg_imul C dX0_put_21 ?_
      refine wg_iload_n C dX0_put_22 rfl ?_
      refine wg_iadd C dX0_put_23 ?_
      refine wg_iload_n C dX0_put_24 rfl ?_
      obtain ⟨g5, h⟩ := gdP h
      refine wg_iast (f := bk.1) (n := 200) (hp' := (mkH cn ((upd bk.1 (((x1 * (4 : Int32)) + x2)).toNatClampNeg x3), bk.2.1, bk.2.2.1, bk.2.2.2.1, bk.2.2.2.2) st r0 r1 r2 r3 r4 li fo tx co ke rf cp lk fl em tm rd)) C rfl g5 rfl dX0_put_25 ?_
      refine wg_drop (lv' := [none, none, none, none]) [0, 1, 2, 3] rfl ?_
      exact sjX0_put_26 X C cn ((upd bk.1 (((x1 * (4 : Int32)) + x2)).toNatClampNeg x3), bk.2.1, bk.2.2.1, bk.2.2.2.1, bk.2.2.2.2) st r0 r1 r2 r3 r4 li fo tx co ke rf cp lk fl em tm rd  _ h hT
abbrev rX0_append : Room := { frames := 3, cells := 0, slots := 0, locals := 65 }
theorem iwX0_append_0 : ∀ w ∈ wsX00, w ∈ wsX0_append := by decide +kernel
theorem fgX0_append_28 : FG wsX0_append RX0 28 0 2 := ⟨RX0, TX0, 5, rfl, by decide, by decide +kernel, iwX0_append_0⟩
theorem fwX0_append_28 : FW wsX0_append RX0 28 0 2 .int := ⟨RX0, TX0, 5, tyX0, rfl, by decide, by decide +kernel, iwX0_append_0, tyX0_ok, nmX0, rfl, by decide +kernel⟩
set_option maxRecDepth 100000 in
set_option maxHeartbeats 4000000 in
theorem sX0_append (cn : Tcn) (bk : Tbk) (st : Tst) (r0 : Tbk) (r1 : Tbk) (r2 : Tbk) (r3 : Tbk) (r4 : Tbk) (li : Tli) (fo : Tfo) (tx : Ttx) (co : Tco) (ke : Tke) (rf : (Nat → Int32)) (cp : Int32) (lk : Tlk) (fl : Tfl) (em : Int32) (tm : Ttm) (rd : Trd) (x1 : Int32) (x2 : Int32) (x3 : Int32) (x4 : Int32) (o : Int32 × Tbk) (h : fX0_append bk x1 x2 x3 x4 = some o) : Sp yX0_append wsX0_append rX0_append [.ref 1, .int x1, .int x2, .int x3, .int x4] (mkH cn bk st r0 r1 r2 r3 r4 li fo tx co ke rf cp lk fl em tm rd) (some (.int o.1)) (mkH cn o.2 st r0 r1 r2 r3 r4 li fo tx co ke rf cp lk fl em tm rd) := by
  refine Sp.of (lv := [some (.ref 1), some (.int x1), some (.int x2), some (.int x3), some (.int x4), none]) RX0 (by decide +kernel) rfl (Nat.le_of_ble_eq_true rfl) rfl ?_
  intro X C hT
  unfold fX0_append at h
  refine wg_aload_n C dX0_append_0 rfl ?_
  refine wg_get (v := .int bk.2.2.1) C fgX0_append_28 rfl rfl dX0_append_1 ?_
  refine wg_bipush (v := 50) C dX0_append_4 (by decide) ?_
  refine wg_icmp_lt (tgt := 12) C dX0_append_6 (by decide) (fun c1 => ?_) (fun c1 => ?_)
  · replace h := ifP c1 h
    refine wg_aload_n C dX0_append_12 rfl ?_
    refine wg_get (v := .int bk.2.2.1) C fgX0_append_28 rfl rfl dX0_append_13 ?_
    refine wg_istore (lv' := [some (.ref 1), some (.int x1), some (.int x2), some (.int x3), some (.int x4), some (.int bk.2.2.1)]) C dX0_append_16 (Nat.le_of_ble_eq_true rfl) rfl ?_
    refine wg_aload_n C dX0_append_18 rfl ?_
    refine wg_dup C dX0_append_19 rfl ?_
    refine wg_get (v := .int bk.2.2.1) C fgX0_append_28 rfl rfl dX0_append_20 ?_
    refine wg_iconst (v := 1) C dX0_append_23 (by decide) ?_
    refine wg_iadd C dX0_append_24 ?_
    refine wg_put (hp' := (mkH cn (bk.1, bk.2.1, (bk.2.2.1 + (1 : Int32)), bk.2.2.2.1, bk.2.2.2.2) st r0 r1 r2 r3 r4 li fo tx co ke rf cp lk fl em tm rd)) C fwX0_append_28 rfl (Nat.le_of_ble_eq_true rfl) rfl rfl rfl dX0_append_25 ?_
    refine wg_aload_n C dX0_append_28 rfl ?_
    refine wg_iload C dX0_append_29 rfl ?_
    refine wg_iconst (v := 0) C dX0_append_31 (by decide) ?_
    refine wg_iload_n C dX0_append_32 rfl ?_
    obtain ⟨q2, e2q, h⟩ := bnd h
    refine wg_callV (n := 3) (As := [.int bk.2.2.1, .int (0 : Int32), .int x1]) (st := []) (st' := []) C (sX0_put cn (bk.1, bk.2.1, (bk.2.2.1 + (1 : Int32)), bk.2.2.2.1, bk.2.2.2.2) st r0 r1 r2 r3 r4 li fo tx co ke rf cp lk fl em tm rd bk.2.2.1 (0 : Int32) x1 q2 e2q) gX0_append_X0_put rfl (by decide +kernel) ⟨⟨rfl, rfl⟩, Nat.le_of_ble_eq_true rfl, Nat.le_of_ble_eq_true rfl⟩ rfl rfl rfl rfl (Nat.le_of_ble_eq_true rfl) dX0_append_33 rfl ?_
    refine wg_aload_n C dX0_append_36 rfl ?_
    refine wg_iload C dX0_append_37 rfl ?_
    refine wg_iconst (v := 1) C dX0_append_39 (by decide) ?_
    refine wg_iload_n C dX0_append_40 rfl ?_
    obtain ⟨q3, e3q, h⟩ := bnd h
    refine wg_callV (n := 3) (As := [.int bk.2.2.1, .int (1 : Int32), .int x2]) (st := []) (st' := []) C (sX0_put cn q2 st r0 r1 r2 r3 r4 li fo tx co ke rf cp lk fl em tm rd bk.2.2.1 (1 : Int32) x2 q3 e3q) gX0_append_X0_put rfl (by decide +kernel) ⟨⟨rfl, rfl⟩, Nat.le_of_ble_eq_true rfl, Nat.le_of_ble_eq_true rfl⟩ rfl rfl rfl rfl (Nat.le_of_ble_eq_true rfl) dX0_append_41 rfl ?_
    refine wg_aload_n C dX0_append_44 rfl ?_
    refine wg_iload C dX0_append_45 rfl ?_
    refine wg_iconst (v := 2) C dX0_append_47 (by decide) ?_
    refine wg_iload_n C dX0_append_48 rfl ?_
    obtain ⟨q4, e4q, h⟩ := bnd h
    refine wg_callV (n := 3) (As := [.int bk.2.2.1, .int (2 : Int32), .int x3]) (st := []) (st' := []) C (sX0_put cn q3 st r0 r1 r2 r3 r4 li fo tx co ke rf cp lk fl em tm rd bk.2.2.1 (2 : Int32) x3 q4 e4q) gX0_append_X0_put rfl (by decide +kernel) ⟨⟨rfl, rfl⟩, Nat.le_of_ble_eq_true rfl, Nat.le_of_ble_eq_true rfl⟩ rfl rfl rfl rfl (Nat.le_of_ble_eq_true rfl) dX0_append_49 rfl ?_
    refine wg_aload_n C dX0_append_52 rfl ?_
    refine wg_iload C dX0_append_53 rfl ?_
    refine wg_iconst (v := 3) C dX0_append_55 (by decide) ?_
    refine wg_iload C dX0_append_56 rfl ?_
    obtain ⟨q5, e5q, h⟩ := bnd h
    refine wg_callV (n := 3) (As := [.int bk.2.2.1, .int (3 : Int32), .int x4]) (st := []) (st' := []) C (sX0_put cn q4 st r0 r1 r2 r3 r4 li fo tx co ke rf cp lk fl em tm rd bk.2.2.1 (3 : Int32) x4 q5 e5q) gX0_append_X0_put rfl (by decide +kernel) ⟨⟨rfl, rfl⟩, Nat.le_of_ble_eq_true rfl, Nat.le_of_ble_eq_true rfl⟩ rfl rfl rfl rfl (Nat.le_of_ble_eq_true rfl) dX0_append_58 rfl ?_
    refine wg_iload C dX0_append_61 rfl ?_
    obtain rfl := Option.some.inj h
    exact wg_iret C hT dX0_append_63
  · replace h := ifN c1 h
    refine wg_bipush (v := -4) C dX0_append_9 (by decide) ?_
    obtain rfl := Option.some.inj h
    exact wg_iret C hT dX0_append_11
abbrev rX5_refuseFull : Room := { frames := 0, cells := 0, slots := 0, locals := 0 }
theorem iwX5_refuseFull_5 : ∀ w ∈ wsX50, w ∈ wsX5_refuseFull := by decide +kernel
theorem fgX5_refuseFull_203 : FG wsX5_refuseFull RX5 203 5 7 := ⟨RX5, TX5, 8, rfl, by decide, by decide +kernel, iwX5_refuseFull_5⟩
theorem fwX5_refuseFull_203 : FW wsX5_refuseFull RX5 203 5 7 .int := ⟨RX5, TX5, 8, tyX5, rfl, by decide, by decide +kernel, iwX5_refuseFull_5, tyX5_ok, nmX5, rfl, by decide +kernel⟩
set_option maxRecDepth 100000 in
set_option maxHeartbeats 4000000 in
theorem sX5_refuseFull (cn : Tcn) (bk : Tbk) (st : Tst) (r0 : Tbk) (r1 : Tbk) (r2 : Tbk) (r3 : Tbk) (r4 : Tbk) (li : Tli) (fo : Tfo) (tx : Ttx) (co : Tco) (ke : Tke) (rf : (Nat → Int32)) (cp : Int32) (lk : Tlk) (fl : Tfl) (em : Int32) (tm : Ttm) (rd : Trd)  (o : Int32 × Tcn) (h : fX5_refuseFull cn  = some o) : Sp yX5_refuseFull wsX5_refuseFull rX5_refuseFull [.ref 0] (mkH cn bk st r0 r1 r2 r3 r4 li fo tx co ke rf cp lk fl em tm rd) (some (.int o.1)) (mkH o.2 bk st r0 r1 r2 r3 r4 li fo tx co ke rf cp lk fl em tm rd) := by
  refine Sp.of (lv := [some (.ref 0)]) RX5 (by decide +kernel) rfl (Nat.le_of_ble_eq_true rfl) rfl ?_
  intro X C hT
  unfold fX5_refuseFull at h
  refine wg_aload_n C dX5_refuseFull_0 rfl ?_
  refine wg_dup C dX5_refuseFull_1 rfl ?_
  refine wg_get (v := .int cn.2.2) C fgX5_refuseFull_203 rfl rfl dX5_refuseFull_2 ?_
  refine wg_iconst (v := 1) C dX5_refuseFull_5 (by decide) ?_
  refine wg_iadd C dX5_refuseFull_6 ?_
  refine wg_put (hp' := (mkH (cn.1, cn.2.1, (cn.2.2 + (1 : Int32))) bk st r0 r1 r2 r3 r4 li fo tx co ke rf cp lk fl em tm rd)) C fwX5_refuseFull_203 rfl (Nat.le_of_ble_eq_true rfl) rfl rfl rfl dX5_refuseFull_7 ?_
  refine wg_bipush (v := -4) C dX5_refuseFull_10 (by decide) ?_
  obtain rfl := Option.some.inj h
  exact wg_iret C hT dX5_refuseFull_12
abbrev rX5_day : Room := { frames := 4, cells := 0, slots := 0, locals := 102 }
theorem iwX5_day_5 : ∀ w ∈ wsX50, w ∈ wsX5_day := by decide +kernel
theorem fgX5_day_10 : FG wsX5_day RX5 10 5 0 := ⟨RX5, TX5, 8, rfl, by decide, by decide +kernel, iwX5_day_5⟩
set_option maxRecDepth 100000 in
set_option maxHeartbeats 4000000 in
theorem sjX5_day_29 (X : CX) (C : Ok X RX5 cX5_day wsX5_day rX5_day) (cn : Tcn) (bk : Tbk) (st : Tst) (r0 : Tbk) (r1 : Tbk) (r2 : Tbk) (r3 : Tbk) (r4 : Tbk) (li : Tli) (fo : Tfo) (tx : Ttx) (co : Tco) (ke : Tke) (rf : (Nat → Int32)) (cp : Int32) (lk : Tlk) (fl : Tfl) (em : Int32) (tm : Ttm) (rd : Trd)  (o : Int32 × Tcn × Tbk × Tst × Tbk × Tbk × Tbk × Tbk × Tbk × Tli) (h : jX5_day_29 cn bk st r0 r1 r2 r3 r4 li  = some o) (hT : Rt X (some .int) (some (.int o.1)) (mkH o.2.1 o.2.2.1 o.2.2.2.1 o.2.2.2.2.1 o.2.2.2.2.2.1 o.2.2.2.2.2.2.1 o.2.2.2.2.2.2.2.1 o.2.2.2.2.2.2.2.2.1 o.2.2.2.2.2.2.2.2.2 fo tx co ke rf cp lk fl em tm rd)) : Wg X 29 [some (.ref 0), none, none, none, none] [] (mkH cn bk st r0 r1 r2 r3 r4 li fo tx co ke rf cp lk fl em tm rd) := by
  unfold jX5_day_29 at h
  refine wg_aload_n C dX5_day_29 rfl ?_
  refine wg_bipush (v := -2) C dX5_day_30 (by decide) ?_
  obtain ⟨q3, e3q, h⟩ := bnd h
  refine wg_callV (n := 1) (As := [.int (-2 : Int32)]) (st := []) (st' := [.int q3.1]) C (sX5_refuseBad cn bk st r0 r1 r2 r3 r4 li fo tx co ke rf cp lk fl em tm rd (-2 : Int32) q3 e3q) gX5_day_X5_refuseBad rfl (by decide +kernel) ⟨⟨rfl, rfl⟩, Nat.le_of_ble_eq_true rfl, Nat.le_of_ble_eq_true rfl⟩ rfl rfl rfl rfl (Nat.le_of_ble_eq_true rfl) dX5_day_32 rfl ?_
  obtain rfl := Option.some.inj h
  exact wg_iret C hT dX5_day_35
set_option maxRecDepth 100000 in
set_option maxHeartbeats 4000000 in
theorem sX5_day (cn : Tcn) (bk : Tbk) (st : Tst) (r0 : Tbk) (r1 : Tbk) (r2 : Tbk) (r3 : Tbk) (r4 : Tbk) (li : Tli) (fo : Tfo) (tx : Ttx) (co : Tco) (ke : Tke) (rf : (Nat → Int32)) (cp : Int32) (lk : Tlk) (fl : Tfl) (em : Int32) (tm : Ttm) (rd : Trd) (x1 : Int32) (x2 : Int32) (x3 : Int32) (x4 : Int32) (o : Int32 × Tcn × Tbk × Tst × Tbk × Tbk × Tbk × Tbk × Tbk × Tli) (h : fX5_day cn bk st r0 r1 r2 r3 r4 li x1 x2 x3 x4 = some o) : Sp yX5_day wsX5_day rX5_day [.ref 0, .int x1, .int x2, .int x3, .int x4] (mkH cn bk st r0 r1 r2 r3 r4 li fo tx co ke rf cp lk fl em tm rd) (some (.int o.1)) (mkH o.2.1 o.2.2.1 o.2.2.2.1 o.2.2.2.2.1 o.2.2.2.2.2.1 o.2.2.2.2.2.2.1 o.2.2.2.2.2.2.2.1 o.2.2.2.2.2.2.2.2.1 o.2.2.2.2.2.2.2.2.2 fo tx co ke rf cp lk fl em tm rd) := by
  refine Sp.of (lv := [some (.ref 0), some (.int x1), some (.int x2), some (.int x3), some (.int x4)]) RX5 (by decide +kernel) rfl (Nat.le_of_ble_eq_true rfl) rfl ?_
  intro X C hT
  unfold fX5_day at h
  refine wg_iload_n C dX5_day_0 rfl ?_
  obtain ⟨q1, e1q, h⟩ := bnd h
  refine wg_callT (n := 1) (As := [.int x1]) (st := []) (st' := [.int q1]) C (sX5_isNote cn bk st r0 r1 r2 r3 r4 li fo tx co ke rf cp lk fl em tm rd x1 q1 e1q) gX5_day_X5_isNote rfl (by decide +kernel) ⟨⟨rfl, rfl⟩, Nat.le_of_ble_eq_true rfl, Nat.le_of_ble_eq_true rfl⟩ rfl rfl (Nat.le_of_ble_eq_true rfl) dX5_day_1 rfl ?_
  refine wg_if_eq (tgt := 29) C dX5_day_4 (by decide) (fun c2 => ?_) (fun c2 => ?_)
  · replace h := ifP c2 h
    refine wg_drop (lv' := [some (.ref 0), none, none, none, none]) [1, 2, 3, 4] rfl ?_
    exact sjX5_day_29 X C cn bk st r0 r1 r2 r3 r4 li fo tx co ke rf cp lk fl em tm rd  _ h hT
  · replace h := ifN c2 h
    refine wg_iload_n C dX5_day_7 rfl ?_
    obtain ⟨q4, e4q, h⟩ := bnd h
    refine wg_callT (n := 1) (As := [.int x2]) (st := []) (st' := [.int q4]) C (sX5_isNote cn bk st r0 r1 r2 r3 r4 li fo tx co ke rf cp lk fl em tm rd x2 q4 e4q) gX5_day_X5_isNote rfl (by decide +kernel) ⟨⟨rfl, rfl⟩, Nat.le_of_ble_eq_true rfl, Nat.le_of_ble_eq_true rfl⟩ rfl rfl (Nat.le_of_ble_eq_true rfl) dX5_day_8 rfl ?_
    refine wg_if_eq (tgt := 29) C dX5_day_11 (by decide) (fun c5 => ?_) (fun c5 => ?_)
    · replace h := ifP c5 h
      refine wg_drop (lv' := [some (.ref 0), none, none, none, none]) [1, 2, 3, 4] rfl ?_
      exact sjX5_day_29 X C cn bk st r0 r1 r2 r3 r4 li fo tx co ke rf cp lk fl em tm rd  _ h hT
    · replace h := ifN c5 h
      refine wg_iload_n C dX5_day_14 rfl ?_
      obtain ⟨q6, e6q, h⟩ := bnd h
      refine wg_callT (n := 1) (As := [.int x3]) (st := []) (st' := [.int q6]) C (sX5_isNote cn bk st r0 r1 r2 r3 r4 li fo tx co ke rf cp lk fl em tm rd x3 q6 e6q) gX5_day_X5_isNote rfl (by decide +kernel) ⟨⟨rfl, rfl⟩, Nat.le_of_ble_eq_true rfl, Nat.le_of_ble_eq_true rfl⟩ rfl rfl (Nat.le_of_ble_eq_true rfl) dX5_day_15 rfl ?_
      refine wg_if_eq (tgt := 29) C dX5_day_18 (by decide) (fun c7 => ?_) (fun c7 => ?_)
      · replace h := ifP c7 h
        refine wg_drop (lv' := [some (.ref 0), none, none, none, none]) [1, 2, 3, 4] rfl ?_
        exact sjX5_day_29 X C cn bk st r0 r1 r2 r3 r4 li fo tx co ke rf cp lk fl em tm rd  _ h hT
      · replace h := ifN c7 h
        refine wg_iload C dX5_day_21 rfl ?_
        obtain ⟨q8, e8q, h⟩ := bnd h
        refine wg_callT (n := 1) (As := [.int x4]) (st := []) (st' := [.int q8]) C (sX5_isNote cn bk st r0 r1 r2 r3 r4 li fo tx co ke rf cp lk fl em tm rd x4 q8 e8q) gX5_day_X5_isNote rfl (by decide +kernel) ⟨⟨rfl, rfl⟩, Nat.le_of_ble_eq_true rfl, Nat.le_of_ble_eq_true rfl⟩ rfl rfl (Nat.le_of_ble_eq_true rfl) dX5_day_23 rfl ?_
        refine wg_if_ne (tgt := 36) C dX5_day_26 (by decide) (fun c9 => ?_) (fun c9 => ?_)
        · replace h := ifP c9 h
          refine wg_aload_n C dX5_day_36 rfl ?_
          refine wg_get (v := .ref 1) C fgX5_day_10 rfl rfl dX5_day_37 ?_
          obtain ⟨q10, e10q, h⟩ := bnd h
          refine wg_callV (n := 0) (As := []) (st := []) (st' := [.int q10]) C (sX0_days cn bk st r0 r1 r2 r3 r4 li fo tx co ke rf cp lk fl em tm rd  q10 e10q) gX5_day_X0_days rfl (by decide +kernel) ⟨⟨rfl, rfl⟩, Nat.le_of_ble_eq_true rfl, Nat.le_of_ble_eq_true rfl⟩ rfl rfl rfl rfl (Nat.le_of_ble_eq_true rfl) dX5_day_40 rfl ?_
          refine wg_bipush (v := 50) C dX5_day_43 (by decide) ?_
          refine wg_icmp_lt (tgt := 53) C dX5_day_45 (by decide) (fun c11 => ?_) (fun c11 => ?_)
          · replace h := ifP c11 h
            refine wg_aload_n C dX5_day_53 rfl ?_
            obtain ⟨q12, e12q, h⟩ := bnd h
            refine wg_callV (n := 0) (As := []) (st := []) (st' := []) C (sX5_keepState cn bk st r0 r1 r2 r3 r4 li fo tx co ke rf cp lk fl em tm rd  q12 e12q) gX5_day_X5_keepState rfl (by decide +kernel) ⟨⟨rfl, rfl⟩, Nat.le_of_ble_eq_true rfl, Nat.le_of_ble_eq_true rfl⟩ rfl rfl rfl rfl (Nat.le_of_ble_eq_true rfl) dX5_day_54 rfl ?_
            refine wg_aload_n C dX5_day_57 rfl ?_
            refine wg_get (v := .ref 1) C fgX5_day_10 rfl rfl dX5_day_58 ?_
            refine wg_iload_n C dX5_day_61 rfl ?_
            refine wg_iload_n C dX5_day_62 rfl ?_
            refine wg_iload_n C dX5_day_63 rfl ?_
            refine wg_iload C dX5_day_64 rfl ?_
            obtain ⟨q13, e13q, h⟩ := bnd h
            refine wg_callV (n := 4) (As := [.int x1, .int x2, .int x3, .int x4]) (st := []) (st' := [.int q13.1]) C (sX0_append cn bk q12.1 q12.2.1 q12.2.2.1 q12.2.2.2.1 q12.2.2.2.2.1 q12.2.2.2.2.2.1 q12.2.2.2.2.2.2 fo tx co ke rf cp lk fl em tm rd x1 x2 x3 x4 q13 e13q) gX5_day_X0_append rfl (by decide +kernel) ⟨⟨rfl, rfl⟩, Nat.le_of_ble_eq_true rfl, Nat.le_of_ble_eq_true rfl⟩ rfl rfl rfl rfl (Nat.le_of_ble_eq_true rfl) dX5_day_66 rfl ?_
            obtain rfl := Option.some.inj h
            exact wg_iret C hT dX5_day_69
          · replace h := ifN c11 h
            refine wg_aload_n C dX5_day_48 rfl ?_
            obtain ⟨q14, e14q, h⟩ := bnd h
            refine wg_callV (n := 0) (As := []) (st := []) (st' := [.int q14.1]) C (sX5_refuseFull cn bk st r0 r1 r2 r3 r4 li fo tx co ke rf cp lk fl em tm rd  q14 e14q) gX5_day_X5_refuseFull rfl (by decide +kernel) ⟨⟨rfl, rfl⟩, Nat.le_of_ble_eq_true rfl, Nat.le_of_ble_eq_true rfl⟩ rfl rfl rfl rfl (Nat.le_of_ble_eq_true rfl) dX5_day_49 rfl ?_
            obtain rfl := Option.some.inj h
            exact wg_iret C hT dX5_day_52
        · replace h := ifN c9 h
          refine wg_drop (lv' := [some (.ref 0), none, none, none, none]) [1, 2, 3, 4] rfl ?_
          exact sjX5_day_29 X C cn bk st r0 r1 r2 r3 r4 li fo tx co ke rf cp lk fl em tm rd  _ h hT
abbrev rX0_member : Room := { frames := 2, cells := 0, slots := 0, locals := 42 }
theorem iwX0_member_0 : ∀ w ∈ wsX00, w ∈ wsX0_member := by decide +kernel
theorem fgX0_member_9 : FG wsX0_member RX0 9 0 0 := ⟨RX0, TX0, 5, rfl, by decide, by decide +kernel, iwX0_member_0⟩
set_option maxRecDepth 100000 in
set_option maxHeartbeats 4000000 in
theorem sjX0_member_31 (X : CX) (C : Ok X RX0 cX0_member wsX0_member rX0_member) (cn : Tcn) (bk : Tbk) (st : Tst) (r0 : Tbk) (r1 : Tbk) (r2 : Tbk) (r3 : Tbk) (r4 : Tbk) (li : Tli) (fo : Tfo) (tx : Ttx) (co : Tco) (ke : Tke) (rf : (Nat → Int32)) (cp : Int32) (lk : Tlk) (fl : Tfl) (em : Int32) (tm : Ttm) (rd : Trd) (y0 : Int32) (o : Int32) (h : jX0_member_31 bk y0 = some o) (hT : Rt X (some .int) (some (.int o)) (mkH cn bk st r0 r1 r2 r3 r4 li fo tx co ke rf cp lk fl em tm rd)) : Wg X 31 [none, none, none] [.int y0] (mkH cn bk st r0 r1 r2 r3 r4 li fo tx co ke rf cp lk fl em tm rd) := by
  unfold jX0_member_31 at h
  obtain rfl := Option.some.inj h
  exact wg_iret C hT dX0_member_31
set_option maxRecDepth 100000 in
set_option maxHeartbeats 4000000 in
theorem sjX0_member_28 (X : CX) (C : Ok X RX0 cX0_member wsX0_member rX0_member) (cn : Tcn) (bk : Tbk) (st : Tst) (r0 : Tbk) (r1 : Tbk) (r2 : Tbk) (r3 : Tbk) (r4 : Tbk) (li : Tli) (fo : Tfo) (tx : Ttx) (co : Tco) (ke : Tke) (rf : (Nat → Int32)) (cp : Int32) (lk : Tlk) (fl : Tfl) (em : Int32) (tm : Ttm) (rd : Trd)  (o : Int32) (h : jX0_member_28 bk  = some o) (hT : Rt X (some .int) (some (.int o)) (mkH cn bk st r0 r1 r2 r3 r4 li fo tx co ke rf cp lk fl em tm rd)) : Wg X 28 [none, none, none] [] (mkH cn bk st r0 r1 r2 r3 r4 li fo tx co ke rf cp lk fl em tm rd) := by
  unfold jX0_member_28 at h
  refine wg_sipush (v := -10000) C dX0_member_28 (by decide) ?_
  exact sjX0_member_31 X C cn bk st r0 r1 r2 r3 r4 li fo tx co ke rf cp lk fl em tm rd (-10000 : Int32) _ h hT
set_option maxRecDepth 100000 in
set_option maxHeartbeats 4000000 in
theorem sX0_member (cn : Tcn) (bk : Tbk) (st : Tst) (r0 : Tbk) (r1 : Tbk) (r2 : Tbk) (r3 : Tbk) (r4 : Tbk) (li : Tli) (fo : Tfo) (tx : Ttx) (co : Tco) (ke : Tke) (rf : (Nat → Int32)) (cp : Int32) (lk : Tlk) (fl : Tfl) (em : Int32) (tm : Ttm) (rd : Trd) (x1 : Int32) (x2 : Int32) (o : Int32) (h : fX0_member bk x1 x2 = some o) : Sp yX0_member wsX0_member rX0_member [.ref 1, .int x1, .int x2] (mkH cn bk st r0 r1 r2 r3 r4 li fo tx co ke rf cp lk fl em tm rd) (some (.int o)) (mkH cn bk st r0 r1 r2 r3 r4 li fo tx co ke rf cp lk fl em tm rd) := by
  refine Sp.of (lv := [some (.ref 1), some (.int x1), some (.int x2)]) RX0 (by decide +kernel) rfl (Nat.le_of_ble_eq_true rfl) rfl ?_
  intro X C hT
  unfold fX0_member at h
  refine wg_aload_n C dX0_member_0 rfl ?_
  refine wg_iload_n C dX0_member_1 rfl ?_
  obtain ⟨q1, e1q, h⟩ := bnd h
  refine wg_callV (n := 1) (As := [.int x1]) (st := []) (st' := [.int q1]) C (sX0_has cn bk st r0 r1 r2 r3 r4 li fo tx co ke rf cp lk fl em tm rd x1 q1 e1q) gX0_member_X0_has rfl (by decide +kernel) ⟨⟨rfl, rfl⟩, Nat.le_of_ble_eq_true rfl, Nat.le_of_ble_eq_true rfl⟩ rfl rfl rfl rfl (Nat.le_of_ble_eq_true rfl) dX0_member_2 rfl ?_
  refine wg_if_eq (tgt := 28) C dX0_member_5 (by decide) (fun c2 => ?_) (fun c2 => ?_)
  · replace h := ifP c2 h
    refine wg_drop (lv' := [none, none, none]) [0, 1, 2] rfl ?_
    exact sjX0_member_28 X C cn bk st r0 r1 r2 r3 r4 li fo tx co ke rf cp lk fl em tm rd  _ h hT
  · replace h := ifN c2 h
    refine wg_iload_n C dX0_member_8 rfl ?_
    obtain ⟨q3, e3q, h⟩ := bnd h
    refine wg_callN (n := 1) (As := [.int x2]) (st := []) (st' := [.int q3]) C (sX5_isMember cn bk st r0 r1 r2 r3 r4 li fo tx co ke rf cp lk fl em tm rd x2 q3 e3q) (fun U h => h.1) gX0_member_X5_isMember_n38 ⟨by decide +kernel, by decide +kernel⟩ rfl (by decide +kernel) ⟨⟨rfl, rfl⟩, Nat.le_of_ble_eq_true rfl, Nat.le_of_ble_eq_true rfl⟩ rfl rfl (Nat.le_of_ble_eq_true rfl) dX0_member_9 rfl ?_
    refine wg_if_eq (tgt := 28) C dX0_member_12 (by decide) (fun c4 => ?_) (fun c4 => ?_)
    · replace h := ifP c4 h
      refine wg_drop (lv' := [none, none, none]) [0, 1, 2] rfl ?_
      exact sjX0_member_28 X C cn bk st r0 r1 r2 r3 r4 li fo tx co ke rf cp lk fl em tm rd  _ h hT
    · replace h := ifN c4 h
      refine wg_aload_n C dX0_member_15 rfl ?_
      refine wg_get (v := .ref 2) C fgX0_member_9 rfl rfl dX0_member_16 ?_
      refine wg_iload_n C dX0_member_19 rfl ?_
      refine wg_iconst (v := 4) C dX0_member_20 (by decide) ?_
      refine wg_imul C dX0_member_21 ?_
      refine wg_iload_n C dX0_member_22 rfl ?_
      refine wg_iadd C dX0_member_23 ?_
      obtain ⟨g5, h⟩ := gdP h
      refine wg_iald (f := bk.1) (n := 200) C rfl g5 dX0_member_24 ?_
      refine wg_goto (tgt := 31) C dX0_member_25 (by decide) ?_
      refine wg_drop (lv' := [none, none, none]) [0, 1, 2] rfl ?_
      exact sjX0_member_31 X C cn bk st r0 r1 r2 r3 r4 li fo tx co ke rf cp lk fl em tm rd (bk.1 (((x1 * (4 : Int32)) + x2)).toNatClampNeg) _ h hT
abbrev rX5_sets : Room := { frames := 4, cells := 0, slots := 0, locals := 102 }
theorem iwX5_sets_5 : ∀ w ∈ wsX50, w ∈ wsX5_sets := by decide +kernel
theorem fgX5_sets_10 : FG wsX5_sets RX5 10 5 0 := ⟨RX5, TX5, 8, rfl, by decide, by decide +kernel, iwX5_sets_5⟩
set_option maxRecDepth 100000 in
set_option maxHeartbeats 4000000 in
theorem sjX5_sets_25 (X : CX) (C : Ok X RX5 cX5_sets wsX5_sets rX5_sets) (cn : Tcn) (bk : Tbk) (st : Tst) (r0 : Tbk) (r1 : Tbk) (r2 : Tbk) (r3 : Tbk) (r4 : Tbk) (li : Tli) (fo : Tfo) (tx : Ttx) (co : Tco) (ke : Tke) (rf : (Nat → Int32)) (cp : Int32) (lk : Tlk) (fl : Tfl) (em : Int32) (tm : Ttm) (rd : Trd)  (o : Int32 × Tcn × Tbk × Tst × Tbk × Tbk × Tbk × Tbk × Tbk × Tli) (h : jX5_sets_25 cn bk st r0 r1 r2 r3 r4 li  = some o) (hT : Rt X (some .int) (some (.int o.1)) (mkH o.2.1 o.2.2.1 o.2.2.2.1 o.2.2.2.2.1 o.2.2.2.2.2.1 o.2.2.2.2.2.2.1 o.2.2.2.2.2.2.2.1 o.2.2.2.2.2.2.2.2.1 o.2.2.2.2.2.2.2.2.2 fo tx co ke rf cp lk fl em tm rd)) : Wg X 25 [some (.ref 0), none, none, none, none] [] (mkH cn bk st r0 r1 r2 r3 r4 li fo tx co ke rf cp lk fl em tm rd) := by
  unfold jX5_sets_25 at h
  refine wg_aload_n C dX5_sets_25 rfl ?_
  refine wg_sipush (v := -20000) C dX5_sets_26 (by decide) ?_
  obtain ⟨q3, e3q, h⟩ := bnd h
  refine wg_callV (n := 1) (As := [.int (-20000 : Int32)]) (st := []) (st' := [.int q3.1]) C (sX5_refuseBad cn bk st r0 r1 r2 r3 r4 li fo tx co ke rf cp lk fl em tm rd (-20000 : Int32) q3 e3q) gX5_sets_X5_refuseBad rfl (by decide +kernel) ⟨⟨rfl, rfl⟩, Nat.le_of_ble_eq_true rfl, Nat.le_of_ble_eq_true rfl⟩ rfl rfl rfl rfl (Nat.le_of_ble_eq_true rfl) dX5_sets_29 rfl ?_
  obtain rfl := Option.some.inj h
  exact wg_iret C hT dX5_sets_32
set_option maxRecDepth 100000 in
set_option maxHeartbeats 4000000 in
theorem sX5_sets (cn : Tcn) (bk : Tbk) (st : Tst) (r0 : Tbk) (r1 : Tbk) (r2 : Tbk) (r3 : Tbk) (r4 : Tbk) (li : Tli) (fo : Tfo) (tx : Ttx) (co : Tco) (ke : Tke) (rf : (Nat → Int32)) (cp : Int32) (lk : Tlk) (fl : Tfl) (em : Int32) (tm : Ttm) (rd : Trd) (x1 : Int32) (x2 : Int32) (x3 : Int32) (o : Int32 × Tcn × Tbk × Tst × Tbk × Tbk × Tbk × Tbk × Tbk × Tli) (h : fX5_sets cn bk st r0 r1 r2 r3 r4 li x1 x2 x3 = some o) : Sp yX5_sets wsX5_sets rX5_sets [.ref 0, .int x1, .int x2, .int x3] (mkH cn bk st r0 r1 r2 r3 r4 li fo tx co ke rf cp lk fl em tm rd) (some (.int o.1)) (mkH o.2.1 o.2.2.1 o.2.2.2.1 o.2.2.2.2.1 o.2.2.2.2.2.1 o.2.2.2.2.2.2.1 o.2.2.2.2.2.2.2.1 o.2.2.2.2.2.2.2.2.1 o.2.2.2.2.2.2.2.2.2 fo tx co ke rf cp lk fl em tm rd) := by
  refine Sp.of (lv := [some (.ref 0), some (.int x1), some (.int x2), some (.int x3), none]) RX5 (by decide +kernel) rfl (Nat.le_of_ble_eq_true rfl) rfl ?_
  intro X C hT
  unfold fX5_sets at h
  refine wg_aload_n C dX5_sets_0 rfl ?_
  refine wg_get (v := .ref 1) C fgX5_sets_10 rfl rfl dX5_sets_1 ?_
  refine wg_iload_n C dX5_sets_4 rfl ?_
  obtain ⟨q1, e1q, h⟩ := bnd h
  refine wg_callV (n := 1) (As := [.int x1]) (st := []) (st' := [.int q1]) C (sX0_has cn bk st r0 r1 r2 r3 r4 li fo tx co ke rf cp lk fl em tm rd x1 q1 e1q) gX5_sets_X0_has rfl (by decide +kernel) ⟨⟨rfl, rfl⟩, Nat.le_of_ble_eq_true rfl, Nat.le_of_ble_eq_true rfl⟩ rfl rfl rfl rfl (Nat.le_of_ble_eq_true rfl) dX5_sets_5 rfl ?_
  refine wg_if_eq (tgt := 25) C dX5_sets_8 (by decide) (fun c2 => ?_) (fun c2 => ?_)
  · replace h := ifP c2 h
    refine wg_drop (lv' := [some (.ref 0), none, none, none, none]) [1, 2, 3] rfl ?_
    exact sjX5_sets_25 X C cn bk st r0 r1 r2 r3 r4 li fo tx co ke rf cp lk fl em tm rd  _ h hT
  · replace h := ifN c2 h
    refine wg_iload_n C dX5_sets_11 rfl ?_
    obtain ⟨q4, e4q, h⟩ := bnd h
    refine wg_callT (n := 1) (As := [.int x2]) (st := []) (st' := [.int q4]) C (sX5_isMember cn bk st r0 r1 r2 r3 r4 li fo tx co ke rf cp lk fl em tm rd x2 q4 e4q) gX5_sets_X5_isMember rfl (by decide +kernel) ⟨⟨rfl, rfl⟩, Nat.le_of_ble_eq_true rfl, Nat.le_of_ble_eq_true rfl⟩ rfl rfl (Nat.le_of_ble_eq_true rfl) dX5_sets_12 rfl ?_
    refine wg_if_eq (tgt := 25) C dX5_sets_15 (by decide) (fun c5 => ?_) (fun c5 => ?_)
    · replace h := ifP c5 h
      refine wg_drop (lv' := [some (.ref 0), none, none, none, none]) [1, 2, 3] rfl ?_
      exact sjX5_sets_25 X C cn bk st r0 r1 r2 r3 r4 li fo tx co ke rf cp lk fl em tm rd  _ h hT
    · replace h := ifN c5 h
      refine wg_iload_n C dX5_sets_18 rfl ?_
      obtain ⟨q6, e6q, h⟩ := bnd h
      refine wg_callT (n := 1) (As := [.int x3]) (st := []) (st' := [.int q6]) C (sX5_isNote cn bk st r0 r1 r2 r3 r4 li fo tx co ke rf cp lk fl em tm rd x3 q6 e6q) gX5_sets_X5_isNote rfl (by decide +kernel) ⟨⟨rfl, rfl⟩, Nat.le_of_ble_eq_true rfl, Nat.le_of_ble_eq_true rfl⟩ rfl rfl (Nat.le_of_ble_eq_true rfl) dX5_sets_19 rfl ?_
      refine wg_if_ne (tgt := 33) C dX5_sets_22 (by decide) (fun c7 => ?_) (fun c7 => ?_)
      · replace h := ifP c7 h
        refine wg_aload_n C dX5_sets_33 rfl ?_
        refine wg_get (v := .ref 1) C fgX5_sets_10 rfl rfl dX5_sets_34 ?_
        refine wg_iload_n C dX5_sets_37 rfl ?_
        refine wg_iload_n C dX5_sets_38 rfl ?_
        obtain ⟨q8, e8q, h⟩ := bnd h
        refine wg_callV (n := 2) (As := [.int x1, .int x2]) (st := []) (st' := [.int q8]) C (sX0_member cn bk st r0 r1 r2 r3 r4 li fo tx co ke rf cp lk fl em tm rd x1 x2 q8 e8q) gX5_sets_X0_member rfl (by decide +kernel) ⟨⟨rfl, rfl⟩, Nat.le_of_ble_eq_true rfl, Nat.le_of_ble_eq_true rfl⟩ rfl rfl rfl rfl (Nat.le_of_ble_eq_true rfl) dX5_sets_39 rfl ?_
        refine wg_istore (lv' := [some (.ref 0), some (.int x1), some (.int x2), some (.int x3), some (.int q8)]) C dX5_sets_42 (Nat.le_of_ble_eq_true rfl) rfl ?_
        refine wg_aload_n C dX5_sets_44 rfl ?_
        obtain ⟨q9, e9q, h⟩ := bnd h
        refine wg_callV (n := 0) (As := []) (st := []) (st' := []) C (sX5_keepState cn bk st r0 r1 r2 r3 r4 li fo tx co ke rf cp lk fl em tm rd  q9 e9q) gX5_sets_X5_keepState rfl (by decide +kernel) ⟨⟨rfl, rfl⟩, Nat.le_of_ble_eq_true rfl, Nat.le_of_ble_eq_true rfl⟩ rfl rfl rfl rfl (Nat.le_of_ble_eq_true rfl) dX5_sets_45 rfl ?_
        refine wg_aload_n C dX5_sets_48 rfl ?_
        refine wg_get (v := .ref 1) C fgX5_sets_10 rfl rfl dX5_sets_49 ?_
        refine wg_iload_n C dX5_sets_52 rfl ?_
        refine wg_iload_n C dX5_sets_53 rfl ?_
        refine wg_iload_n C dX5_sets_54 rfl ?_
        obtain ⟨q10, e10q, h⟩ := bnd h
        refine wg_callV (n := 3) (As := [.int x1, .int x2, .int x3]) (st := []) (st' := []) C (sX0_put cn bk q9.1 q9.2.1 q9.2.2.1 q9.2.2.2.1 q9.2.2.2.2.1 q9.2.2.2.2.2.1 q9.2.2.2.2.2.2 fo tx co ke rf cp lk fl em tm rd x1 x2 x3 q10 e10q) gX5_sets_X0_put rfl (by decide +kernel) ⟨⟨rfl, rfl⟩, Nat.le_of_ble_eq_true rfl, Nat.le_of_ble_eq_true rfl⟩ rfl rfl rfl rfl (Nat.le_of_ble_eq_true rfl) dX5_sets_55 rfl ?_
        refine wg_iload C dX5_sets_58 rfl ?_
        obtain rfl := Option.some.inj h
        exact wg_iret C hT dX5_sets_60
      · replace h := ifN c7 h
        refine wg_drop (lv' := [some (.ref 0), none, none, none, none]) [1, 2, 3] rfl ?_
        exact sjX5_sets_25 X C cn bk st r0 r1 r2 r3 r4 li fo tx co ke rf cp lk fl em tm rd  _ h hT
abbrev rX0_lastNoted : Room := { frames := 3, cells := 0, slots := 0, locals := 64 }
set_option maxRecDepth 100000 in
set_option maxHeartbeats 4000000 in
theorem sbX0_lastNoted_4 (X : CX) (C : Ok X RX0 cX0_lastNoted wsX0_lastNoted rX0_lastNoted) (cn : Tcn) (bk : Tbk) (st : Tst) (r0 : Tbk) (r1 : Tbk) (r2 : Tbk) (r3 : Tbk) (r4 : Tbk) (li : Tli) (fo : Tfo) (tx : Ttx) (co : Tco) (ke : Tke) (rf : (Nat → Int32)) (cp : Int32) (lk : Tlk) (fl : Tfl) (em : Int32) (tm : Ttm) (rd : Trd) (x2 : Int32) (z : Int32) (o : (Int32) ⊕ (Int32 ⊕ Unit)) (h : bX0_lastNoted_4 bk x2 z = some o) (k0 : ∀ a : Int32, o = .inl a → Wg X 4 [some (.ref 1), none, some (.int x2), some (.int a), none] [] (mkH cn bk st r0 r1 r2 r3 r4 li fo tx co ke rf cp lk fl em tm rd)) (e0 : ∀ a : Int32, o = .inr (.inl a) → Wg X 24 [none, none, none, none, some (.int a)] [] (mkH cn bk st r0 r1 r2 r3 r4 li fo tx co ke rf cp lk fl em tm rd)) (e1 : ∀ a : Unit, o = .inr (.inr a) → Wg X 33 [none, none, none, none, none] [] (mkH cn bk st r0 r1 r2 r3 r4 li fo tx co ke rf cp lk fl em tm rd)) : Wg X 4 [some (.ref 1), none, some (.int x2), some (.int z), none] [] (mkH cn bk st r0 r1 r2 r3 r4 li fo tx co ke rf cp lk fl em tm rd) := by
  unfold bX0_lastNoted_4 at h
  refine wg_iload_n C dX0_lastNoted_4 rfl ?_
  refine wg_if_lt (tgt := 33) C dX0_lastNoted_5 (by decide) (fun c1 => ?_) (fun c1 => ?_)
  · replace h := ifP c1 h
    refine wg_drop (lv' := [none, none, none, none, none]) [0, 2, 3] rfl ?_
    have hk := e1 _ (Option.some.inj h).symm
    exact hk
  · replace h := ifN c1 h
    refine wg_aload_n C dX0_lastNoted_8 rfl ?_
    refine wg_iload_n C dX0_lastNoted_9 rfl ?_
    refine wg_iload_n C dX0_lastNoted_10 rfl ?_
    obtain ⟨q2, e2q, h⟩ := bnd h
    refine wg_callV (n := 2) (As := [.int z, .int x2]) (st := []) (st' := [.int q2]) C (sX0_member cn bk st r0 r1 r2 r3 r4 li fo tx co ke rf cp lk fl em tm rd z x2 q2 e2q) gX0_lastNoted_X0_member rfl (by decide +kernel) ⟨⟨rfl, rfl⟩, Nat.le_of_ble_eq_true rfl, Nat.le_of_ble_eq_true rfl⟩ rfl rfl rfl rfl (Nat.le_of_ble_eq_true rfl) dX0_lastNoted_11 rfl ?_
    refine wg_istore (lv' := [some (.ref 1), none, some (.int x2), some (.int z), some (.int q2)]) C dX0_lastNoted_14 (Nat.le_of_ble_eq_true rfl) rfl ?_
    refine wg_iload C dX0_lastNoted_16 rfl ?_
    refine wg_sipush (v := -10000) C dX0_lastNoted_18 (by decide) ?_
    refine wg_icmp_eq (tgt := 27) C dX0_lastNoted_21 (by decide) (fun c3 => ?_) (fun c3 => ?_)
    · replace h := ifP c3 h
      refine wg_iinc (v := (z + (-1 : Int32))) (lv' := [some (.ref 1), none, some (.int x2), some (.int (z + (-1 : Int32))), some (.int q2)]) C dX0_lastNoted_27 rfl rfl rfl ?_
      refine wg_goto (tgt := 4) C dX0_lastNoted_30 (by decide) ?_
      refine wg_drop (lv' := [some (.ref 1), none, some (.int x2), some (.int (z + (-1 : Int32))), none]) [4] rfl ?_
      have hk := k0 _ (Option.some.inj h).symm
      exact hk
    · replace h := ifN c3 h
      refine wg_drop (lv' := [none, none, none, none, some (.int q2)]) [0, 2, 3] rfl ?_
      have hk := e0 _ (Option.some.inj h).symm
      exact hk
set_option maxRecDepth 100000 in
set_option maxHeartbeats 4000000 in
theorem slX0_lastNoted_4 (X : CX) (C : Ok X RX0 cX0_lastNoted wsX0_lastNoted rX0_lastNoted) (cn : Tcn) (bk : Tbk) (st : Tst) (r0 : Tbk) (r1 : Tbk) (r2 : Tbk) (r3 : Tbk) (r4 : Tbk) (li : Tli) (fo : Tfo) (tx : Ttx) (co : Tco) (ke : Tke) (rf : (Nat → Int32)) (cp : Int32) (lk : Tlk) (fl : Tfl) (em : Int32) (tm : Ttm) (rd : Trd) (x2 : Int32) (o : (Int32 ⊕ Unit)) (e0 : ∀ a : Int32, o = (.inl a) → Wg X 24 [none, none, none, none, some (.int a)] [] (mkH cn bk st r0 r1 r2 r3 r4 li fo tx co ke rf cp lk fl em tm rd)) (e1 : ∀ a : Unit, o = (.inr a) → Wg X 33 [none, none, none, none, none] [] (mkH cn bk st r0 r1 r2 r3 r4 li fo tx co ke rf cp lk fl em tm rd)) : ∀ (n : Nat) (z : Int32), lpF (bX0_lastNoted_4 bk x2) n z = some o → Wg X 4 [some (.ref 1), none, some (.int x2), some (.int z), none] [] (mkH cn bk st r0 r1 r2 r3 r4 li fo tx co ke rf cp lk fl em tm rd) := by
  intro n
  induction n with
  | zero => intro z h; cases h
  | succ n ih =>
    intro z h
    obtain ⟨r, hB, h⟩ := bnd h
    refine sbX0_lastNoted_4 X C cn bk st r0 r1 r2 r3 r4 li fo tx co ke rf cp lk fl em tm rd x2 z r hB (fun a e => ih a (by subst e; exact h)) (fun a e => e0 a (by subst e; exact (Option.some.inj h).symm)) (fun a e => e1 a (by subst e; exact (Option.some.inj h).symm))
set_option maxRecDepth 100000 in
set_option maxHeartbeats 4000000 in
theorem sX0_lastNoted (cn : Tcn) (bk : Tbk) (st : Tst) (r0 : Tbk) (r1 : Tbk) (r2 : Tbk) (r3 : Tbk) (r4 : Tbk) (li : Tli) (fo : Tfo) (tx : Ttx) (co : Tco) (ke : Tke) (rf : (Nat → Int32)) (cp : Int32) (lk : Tlk) (fl : Tfl) (em : Int32) (tm : Ttm) (rd : Trd) (x1 : Int32) (x2 : Int32) (o : Int32) (h : fX0_lastNoted bk x1 x2 = some o) : Sp yX0_lastNoted wsX0_lastNoted rX0_lastNoted [.ref 1, .int x1, .int x2] (mkH cn bk st r0 r1 r2 r3 r4 li fo tx co ke rf cp lk fl em tm rd) (some (.int o)) (mkH cn bk st r0 r1 r2 r3 r4 li fo tx co ke rf cp lk fl em tm rd) := by
  refine Sp.of (lv := [some (.ref 1), some (.int x1), some (.int x2), none, none]) RX0 (by decide +kernel) rfl (Nat.le_of_ble_eq_true rfl) rfl ?_
  intro X C hT
  unfold fX0_lastNoted at h
  refine wg_iload_n C dX0_lastNoted_0 rfl ?_
  refine wg_iconst (v := 1) C dX0_lastNoted_1 (by decide) ?_
  refine wg_isub C dX0_lastNoted_2 ?_
  refine wg_istore_n (lv' := [some (.ref 1), some (.int x1), some (.int x2), some (.int (x1 - (1 : Int32))), none]) C dX0_lastNoted_3 (Nat.le_of_ble_eq_true rfl) rfl ?_
  refine wg_drop (lv' := [some (.ref 1), none, some (.int x2), some (.int (x1 - (1 : Int32))), none]) [1] rfl ?_
  obtain ⟨t4, hL4, h⟩ := bnd h
  refine slX0_lastNoted_4 X C cn bk st r0 r1 r2 r3 r4 li fo tx co ke rf cp lk fl em tm rd x2 t4 (fun u4 e => ?_) (fun u4 e => ?_) FU (x1 - (1 : Int32)) hL4
  · subst e
    refine wg_iload C dX0_lastNoted_24 rfl ?_
    obtain rfl := Option.some.inj h
    exact wg_iret C hT dX0_lastNoted_26
  · subst e
    refine wg_iconst (v := 0) C dX0_lastNoted_33 (by decide) ?_
    obtain rfl := Option.some.inj h
    exact wg_iret C hT dX0_lastNoted_34
abbrev rX0_fillByChance : Room := { frames := 4, cells := 0, slots := 0, locals := 88 }
theorem iwX0_fillByChance_0 : ∀ w ∈ wsX00, w ∈ wsX0_fillByChance := by decide +kernel
theorem fgX0_fillByChance_28 : FG wsX0_fillByChance RX0 28 0 2 := ⟨RX0, TX0, 5, rfl, by decide, by decide +kernel, iwX0_fillByChance_0⟩
theorem fwX0_fillByChance_28 : FW wsX0_fillByChance RX0 28 0 2 .int := ⟨RX0, TX0, 5, tyX0, rfl, by decide, by decide +kernel, iwX0_fillByChance_0, tyX0_ok, nmX0, rfl, by decide +kernel⟩
set_option maxRecDepth 100000 in
set_option maxHeartbeats 4000000 in
theorem sjX0_fillByChance_35_132 (X : CX) (C : Ok X RX0 cX0_fillByChance wsX0_fillByChance rX0_fillByChance) (cn : Tcn) (bk : Tbk) (st : Tst) (r0 : Tbk) (r1 : Tbk) (r2 : Tbk) (r3 : Tbk) (r4 : Tbk) (li : Tli) (fo : Tfo) (tx : Ttx) (co : Tco) (ke : Tke) (rf : (Nat → Int32)) (cp : Int32) (lk : Tlk) (fl : Tfl) (em : Int32) (tm : Ttm) (rd : Trd) (x3 : Int64) (x5 : Int32) (x6 : Int32) (x7 : Int32) (o : (Int64 × Int32 × Int32 × Tbk) ⊕ (Int64 × Int32 × Tbk)) (h : jX0_fillByChance_35_132 bk x3 x5 x6 x7 = some o) (k0 : ∀ a : Int64 × Int32 × Int32 × Tbk, o = .inl a → Wg X 35 [some (.ref 1), none, none, some (.long a.1), none, some (.int a.2.1), some (.int x6), some (.int a.2.2.1), none] [] (mkH cn a.2.2.2 st r0 r1 r2 r3 r4 li fo tx co ke rf cp lk fl em tm rd)) (e0 : ∀ a : Int64 × Int32 × Tbk, o = .inr a → Wg X 138 [some (.ref 1), none, none, some (.long a.1), none, some (.int a.2.1), some (.int x6), none, none] [] (mkH cn a.2.2 st r0 r1 r2 r3 r4 li fo tx co ke rf cp lk fl em tm rd)) : Wg X 132 [some (.ref 1), none, none, some (.long x3), none, some (.int x5), some (.int x6), some (.int x7), none] [] (mkH cn bk st r0 r1 r2 r3 r4 li fo tx co ke rf cp lk fl em tm rd) := by
  unfold jX0_fillByChance_35_132 at h
  refine wg_iinc (v := (x7 + (1 : Int32))) (lv' := [some (.ref 1), none, none, some (.long x3), none, some (.int x5), some (.int x6), some (.int (x7 + (1 : Int32))), none]) C dX0_fillByChance_132 rfl rfl rfl ?_
  refine wg_goto (tgt := 35) C dX0_fillByChance_135 (by decide) ?_
  have hk := k0 _ (Option.some.inj h).symm
  exact hk
set_option maxRecDepth 100000 in
set_option maxHeartbeats 4000000 in
theorem sbX0_fillByChance_35 (X : CX) (C : Ok X RX0 cX0_fillByChance wsX0_fillByChance rX0_fillByChance) (cn : Tcn) (bk : Tbk) (st : Tst) (r0 : Tbk) (r1 : Tbk) (r2 : Tbk) (r3 : Tbk) (r4 : Tbk) (li : Tli) (fo : Tfo) (tx : Ttx) (co : Tco) (ke : Tke) (rf : (Nat → Int32)) (cp : Int32) (lk : Tlk) (fl : Tfl) (em : Int32) (tm : Ttm) (rd : Trd) (x6 : Int32) (z : Int64 × Int32 × Int32 × Tbk) (o : (Int64 × Int32 × Int32 × Tbk) ⊕ (Int64 × Int32 × Tbk)) (h : bX0_fillByChance_35  x6 z = some o) (k0 : ∀ a : Int64 × Int32 × Int32 × Tbk, o = .inl a → Wg X 35 [some (.ref 1), none, none, some (.long a.1), none, some (.int a.2.1), some (.int x6), some (.int a.2.2.1), none] [] (mkH cn a.2.2.2 st r0 r1 r2 r3 r4 li fo tx co ke rf cp lk fl em tm rd)) (e0 : ∀ a : Int64 × Int32 × Tbk, o = .inr a → Wg X 138 [some (.ref 1), none, none, some (.long a.1), none, some (.int a.2.1), some (.int x6), none, none] [] (mkH cn a.2.2 st r0 r1 r2 r3 r4 li fo tx co ke rf cp lk fl em tm rd)) : Wg X 35 [some (.ref 1), none, none, some (.long z.1), none, some (.int z.2.1), some (.int x6), some (.int z.2.2.1), none] [] (mkH cn z.2.2.2 st r0 r1 r2 r3 r4 li fo tx co ke rf cp lk fl em tm rd) := by
  unfold bX0_fillByChance_35 at h
  refine wg_iload C dX0_fillByChance_35 rfl ?_
  refine wg_iconst (v := 4) C dX0_fillByChance_37 (by decide) ?_
  refine wg_icmp_ge (tgt := 138) C dX0_fillByChance_38 (by decide) (fun c2 => ?_) (fun c2 => ?_)
  · replace h := ifP c2 h
    refine wg_drop (lv' := [some (.ref 1), none, none, some (.long z.1), none, some (.int z.2.1), some (.int x6), none, none]) [7] rfl ?_
    have hk := e0 _ (Option.some.inj h).symm
    exact hk
  · replace h := ifN c2 h
    refine wg_lload_n C dX0_fillByChance_41 rfl ?_
    refine wg_ldcl (v := 1103515245) C (by decide +kernel) dX0_fillByChance_42 ?_
    refine wg_lmul C dX0_fillByChance_45 ?_
    refine wg_ldcl (v := 12345) C (by decide +kernel) dX0_fillByChance_46 ?_
    refine wg_ladd C dX0_fillByChance_49 ?_
    refine wg_ldcl (v := 2147483648) C (by decide +kernel) dX0_fillByChance_50 ?_
    refine wg_lrem C dX0_fillByChance_53 (by decide) ?_
    refine wg_lstore_n (lv' := [some (.ref 1), none, none, some (.long (((z.1 * (1103515245 : Int64)) + (12345 : Int64)) - ((z.1 * (1103515245 : Int64)) + (12345 : Int64)) / (2147483648 : Int64) * (2147483648 : Int64))), none, some (.int z.2.1), some (.int x6), some (.int z.2.2.1), none]) C dX0_fillByChance_54 (Nat.le_of_ble_eq_true rfl) rfl ?_
    refine wg_lload_n C dX0_fillByChance_55 rfl ?_
    refine wg_ldcl (v := 65536) C (by decide +kernel) dX0_fillByChance_56 ?_
    refine wg_ldiv C dX0_fillByChance_59 (by decide) ?_
    refine wg_ldcl (v := 16) C (by decide +kernel) dX0_fillByChance_60 ?_
    refine wg_lrem C dX0_fillByChance_63 (by decide) ?_
    refine wg_lconst (v := 0) C dX0_fillByChance_64 (by decide) ?_
    refine wg_lcmp C dX0_fillByChance_65 ?_
    refine wg_if_ne (tgt := 86) C dX0_fillByChance_66 (by decide) (fun c3 => ?_) (fun c3 => ?_)
    · replace h := ifP c3 h
      refine wg_lload_n C dX0_fillByChance_86 rfl ?_
      refine wg_ldcl (v := 1024) C (by decide +kernel) dX0_fillByChance_87 ?_
      refine wg_ldiv C dX0_fillByChance_90 (by decide) ?_
      refine wg_ldcl (v := 41) C (by decide +kernel) dX0_fillByChance_91 ?_
      refine wg_lrem C dX0_fillByChance_94 (by decide) ?_
      refine wg_l2i C dX0_fillByChance_95 ?_
      refine wg_bipush (v := 20) C dX0_fillByChance_96 (by decide) ?_
      refine wg_isub C dX0_fillByChance_98 ?_
      refine wg_istore (lv' := [some (.ref 1), none, none, some (.long (((z.1 * (1103515245 : Int64)) + (12345 : Int64)) - ((z.1 * (1103515245 : Int64)) + (12345 : Int64)) / (2147483648 : Int64) * (2147483648 : Int64))), none, some (.int z.2.1), some (.int x6), some (.int z.2.2.1), some (.int (((((((z.1 * (1103515245 : Int64)) + (12345 : Int64)) - ((z.1 * (1103515245 : Int64)) + (12345 : Int64)) / (2147483648 : Int64) * (2147483648 : Int64)) / (1024 : Int64)) - ((((z.1 * (1103515245 : Int64)) + (12345 : Int64)) - ((z.1 * (1103515245 : Int64)) + (12345 : Int64)) / (2147483648 : Int64) * (2147483648 : Int64)) / (1024 : Int64)) / (41 : Int64) * (41 : Int64))).toInt32 - (20 : Int32)))]) C dX0_fillByChance_99 (Nat.le_of_ble_eq_true rfl) rfl ?_
      refine wg_aload_n C dX0_fillByChance_101 rfl ?_
      refine wg_iload C dX0_fillByChance_102 rfl ?_
      refine wg_iload C dX0_fillByChance_104 rfl ?_
      refine wg_sipush (v := -999) C dX0_fillByChance_106 (by decide) ?_
      refine wg_aload_n C dX0_fillByChance_109 rfl ?_
      refine wg_iload C dX0_fillByChance_110 rfl ?_
      refine wg_iload C dX0_fillByChance_112 rfl ?_
      obtain ⟨q4, e4q, h⟩ := bnd h
      refine wg_callV (n := 2) (As := [.int x6, .int z.2.2.1]) (st := [.int (-999 : Int32), .int z.2.2.1, .int x6, .ref 1]) (st' := [.int q4, .int (-999 : Int32), .int z.2.2.1, .int x6, .ref 1]) C (sX0_lastNoted cn z.2.2.2 st r0 r1 r2 r3 r4 li fo tx co ke rf cp lk fl em tm rd x6 z.2.2.1 q4 e4q) gX0_fillByChance_X0_lastNoted rfl (by decide +kernel) ⟨⟨rfl, rfl⟩, Nat.le_of_ble_eq_true rfl, Nat.le_of_ble_eq_true rfl⟩ rfl rfl rfl rfl (Nat.le_of_ble_eq_true rfl) dX0_fillByChance_114 rfl ?_
      refine wg_iload C dX0_fillByChance_117 rfl ?_
      refine wg_iadd C dX0_fillByChance_119 ?_
      refine wg_sipush (v := 999) C dX0_fillByChance_120 (by decide) ?_
      refine wg_mmin C ⟨by decide +kernel, by decide +kernel, by decide +kernel, by decide +kernel⟩ ⟨Nat.le_of_ble_eq_true rfl, Nat.le_of_ble_eq_true rfl⟩ dX0_fillByChance_123 ?_
      refine wg_mmax C ⟨by decide +kernel, by decide +kernel, by decide +kernel, by decide +kernel⟩ ⟨Nat.le_of_ble_eq_true rfl, Nat.le_of_ble_eq_true rfl⟩ dX0_fillByChance_126 ?_
      obtain ⟨q5, e5q, h⟩ := bnd h
      refine wg_callV (n := 3) (As := [.int x6, .int z.2.2.1, .int (if (-999 : Int32) < (if (999 : Int32) < (q4 + (((((((z.1 * (1103515245 : Int64)) + (12345 : Int64)) - ((z.1 * (1103515245 : Int64)) + (12345 : Int64)) / (2147483648 : Int64) * (2147483648 : Int64)) / (1024 : Int64)) - ((((z.1 * (1103515245 : Int64)) + (12345 : Int64)) - ((z.1 * (1103515245 : Int64)) + (12345 : Int64)) / (2147483648 : Int64) * (2147483648 : Int64)) / (1024 : Int64)) / (41 : Int64) * (41 : Int64))).toInt32 - (20 : Int32))) then (999 : Int32) else (q4 + (((((((z.1 * (1103515245 : Int64)) + (12345 : Int64)) - ((z.1 * (1103515245 : Int64)) + (12345 : Int64)) / (2147483648 : Int64) * (2147483648 : Int64)) / (1024 : Int64)) - ((((z.1 * (1103515245 : Int64)) + (12345 : Int64)) - ((z.1 * (1103515245 : Int64)) + (12345 : Int64)) / (2147483648 : Int64) * (2147483648 : Int64)) / (1024 : Int64)) / (41 : Int64) * (41 : Int64))).toInt32 - (20 : Int32)))) then (if (999 : Int32) < (q4 + (((((((z.1 * (1103515245 : Int64)) + (12345 : Int64)) - ((z.1 * (1103515245 : Int64)) + (12345 : Int64)) / (2147483648 : Int64) * (2147483648 : Int64)) / (1024 : Int64)) - ((((z.1 * (1103515245 : Int64)) + (12345 : Int64)) - ((z.1 * (1103515245 : Int64)) + (12345 : Int64)) / (2147483648 : Int64) * (2147483648 : Int64)) / (1024 : Int64)) / (41 : Int64) * (41 : Int64))).toInt32 - (20 : Int32))) then (999 : Int32) else (q4 + (((((((z.1 * (1103515245 : Int64)) + (12345 : Int64)) - ((z.1 * (1103515245 : Int64)) + (12345 : Int64)) / (2147483648 : Int64) * (2147483648 : Int64)) / (1024 : Int64)) - ((((z.1 * (1103515245 : Int64)) + (12345 : Int64)) - ((z.1 * (1103515245 : Int64)) + (12345 : Int64)) / (2147483648 : Int64) * (2147483648 : Int64)) / (1024 : Int64)) / (41 : Int64) * (41 : Int64))).toInt32 - (20 : Int32)))) else (-999 : Int32))]) (st := []) (st' := []) C (sX0_put cn z.2.2.2 st r0 r1 r2 r3 r4 li fo tx co ke rf cp lk fl em tm rd x6 z.2.2.1 (if (-999 : Int32) < (if (999 : Int32) < (q4 + (((((((z.1 * (1103515245 : Int64)) + (12345 : Int64)) - ((z.1 * (1103515245 : Int64)) + (12345 : Int64)) / (2147483648 : Int64) * (2147483648 : Int64)) / (1024 : Int64)) - ((((z.1 * (1103515245 : Int64)) + (12345 : Int64)) - ((z.1 * (1103515245 : Int64)) + (12345 : Int64)) / (2147483648 : Int64) * (2147483648 : Int64)) / (1024 : Int64)) / (41 : Int64) * (41 : Int64))).toInt32 - (20 : Int32))) then (999 : Int32) else (q4 + (((((((z.1 * (1103515245 : Int64)) + (12345 : Int64)) - ((z.1 * (1103515245 : Int64)) + (12345 : Int64)) / (2147483648 : Int64) * (2147483648 : Int64)) / (1024 : Int64)) - ((((z.1 * (1103515245 : Int64)) + (12345 : Int64)) - ((z.1 * (1103515245 : Int64)) + (12345 : Int64)) / (2147483648 : Int64) * (2147483648 : Int64)) / (1024 : Int64)) / (41 : Int64) * (41 : Int64))).toInt32 - (20 : Int32)))) then (if (999 : Int32) < (q4 + (((((((z.1 * (1103515245 : Int64)) + (12345 : Int64)) - ((z.1 * (1103515245 : Int64)) + (12345 : Int64)) / (2147483648 : Int64) * (2147483648 : Int64)) / (1024 : Int64)) - ((((z.1 * (1103515245 : Int64)) + (12345 : Int64)) - ((z.1 * (1103515245 : Int64)) + (12345 : Int64)) / (2147483648 : Int64) * (2147483648 : Int64)) / (1024 : Int64)) / (41 : Int64) * (41 : Int64))).toInt32 - (20 : Int32))) then (999 : Int32) else (q4 + (((((((z.1 * (1103515245 : Int64)) + (12345 : Int64)) - ((z.1 * (1103515245 : Int64)) + (12345 : Int64)) / (2147483648 : Int64) * (2147483648 : Int64)) / (1024 : Int64)) - ((((z.1 * (1103515245 : Int64)) + (12345 : Int64)) - ((z.1 * (1103515245 : Int64)) + (12345 : Int64)) / (2147483648 : Int64) * (2147483648 : Int64)) / (1024 : Int64)) / (41 : Int64) * (41 : Int64))).toInt32 - (20 : Int32)))) else (-999 : Int32)) q5 e5q) gX0_fillByChance_X0_put rfl (by decide +kernel) ⟨⟨rfl, rfl⟩, Nat.le_of_ble_eq_true rfl, Nat.le_of_ble_eq_true rfl⟩ rfl rfl rfl rfl (Nat.le_of_ble_eq_true rfl) dX0_fillByChance_129 rfl ?_
      refine wg_drop (lv' := [some (.ref 1), none, none, some (.long (((z.1 * (1103515245 : Int64)) + (12345 : Int64)) - ((z.1 * (1103515245 : Int64)) + (12345 : Int64)) / (2147483648 : Int64) * (2147483648 : Int64))), none, some (.int z.2.1), some (.int x6), some (.int z.2.2.1), none]) [8] rfl ?_
      exact sjX0_fillByChance_35_132 X C cn q5 st r0 r1 r2 r3 r4 li fo tx co ke rf cp lk fl em tm rd (((z.1 * (1103515245 : Int64)) + (12345 : Int64)) - ((z.1 * (1103515245 : Int64)) + (12345 : Int64)) / (2147483648 : Int64) * (2147483648 : Int64)) z.2.1 x6 z.2.2.1 _ h k0 e0
    · replace h := ifN c3 h
      refine wg_aload_n C dX0_fillByChance_69 rfl ?_
      refine wg_iload C dX0_fillByChance_70 rfl ?_
      refine wg_iload C dX0_fillByChance_72 rfl ?_
      refine wg_sipush (v := -10000) C dX0_fillByChance_74 (by decide) ?_
      obtain ⟨q6, e6q, h⟩ := bnd h
      refine wg_callV (n := 3) (As := [.int x6, .int z.2.2.1, .int (-10000 : Int32)]) (st := []) (st' := []) C (sX0_put cn z.2.2.2 st r0 r1 r2 r3 r4 li fo tx co ke rf cp lk fl em tm rd x6 z.2.2.1 (-10000 : Int32) q6 e6q) gX0_fillByChance_X0_put rfl (by decide +kernel) ⟨⟨rfl, rfl⟩, Nat.le_of_ble_eq_true rfl, Nat.le_of_ble_eq_true rfl⟩ rfl rfl rfl rfl (Nat.le_of_ble_eq_true rfl) dX0_fillByChance_77 rfl ?_
      refine wg_iinc (v := (z.2.1 + (1 : Int32))) (lv' := [some (.ref 1), none, none, some (.long (((z.1 * (1103515245 : Int64)) + (12345 : Int64)) - ((z.1 * (1103515245 : Int64)) + (12345 : Int64)) / (2147483648 : Int64) * (2147483648 : Int64))), none, some (.int (z.2.1 + (1 : Int32))), some (.int x6), some (.int z.2.2.1), none]) C dX0_fillByChance_80 rfl rfl rfl ?_
      refine wg_goto (tgt := 132) C dX0_fillByChance_83 (by decide) ?_
      exact sjX0_fillByChance_35_132 X C cn q6 st r0 r1 r2 r3 r4 li fo tx co ke rf cp lk fl em tm rd (((z.1 * (1103515245 : Int64)) + (12345 : Int64)) - ((z.1 * (1103515245 : Int64)) + (12345 : Int64)) / (2147483648 : Int64) * (2147483648 : Int64)) (z.2.1 + (1 : Int32)) x6 z.2.2.1 _ h k0 e0
set_option maxRecDepth 100000 in
set_option maxHeartbeats 4000000 in
theorem slX0_fillByChance_35 (X : CX) (C : Ok X RX0 cX0_fillByChance wsX0_fillByChance rX0_fillByChance) (cn : Tcn) (bk : Tbk) (st : Tst) (r0 : Tbk) (r1 : Tbk) (r2 : Tbk) (r3 : Tbk) (r4 : Tbk) (li : Tli) (fo : Tfo) (tx : Ttx) (co : Tco) (ke : Tke) (rf : (Nat → Int32)) (cp : Int32) (lk : Tlk) (fl : Tfl) (em : Int32) (tm : Ttm) (rd : Trd) (x6 : Int32) (o : (Int64 × Int32 × Tbk)) (e0 : ∀ a : Int64 × Int32 × Tbk, o = a → Wg X 138 [some (.ref 1), none, none, some (.long a.1), none, some (.int a.2.1), some (.int x6), none, none] [] (mkH cn a.2.2 st r0 r1 r2 r3 r4 li fo tx co ke rf cp lk fl em tm rd)) : ∀ (n : Nat) (z : Int64 × Int32 × Int32 × Tbk), lpF (bX0_fillByChance_35  x6) n z = some o → Wg X 35 [some (.ref 1), none, none, some (.long z.1), none, some (.int z.2.1), some (.int x6), some (.int z.2.2.1), none] [] (mkH cn z.2.2.2 st r0 r1 r2 r3 r4 li fo tx co ke rf cp lk fl em tm rd) := by
  intro n
  induction n with
  | zero => intro z h; cases h
  | succ n ih =>
    intro z h
    obtain ⟨r, hB, h⟩ := bnd h
    refine sbX0_fillByChance_35 X C cn bk st r0 r1 r2 r3 r4 li fo tx co ke rf cp lk fl em tm rd x6 z r hB (fun a e => ih a (by subst e; exact h)) (fun a e => e0 a (by subst e; exact (Option.some.inj h).symm))
set_option maxRecDepth 100000 in
set_option maxHeartbeats 4000000 in
theorem sbX0_fillByChance_23 (X : CX) (C : Ok X RX0 cX0_fillByChance wsX0_fillByChance rX0_fillByChance) (cn : Tcn) (bk : Tbk) (st : Tst) (r0 : Tbk) (r1 : Tbk) (r2 : Tbk) (r3 : Tbk) (r4 : Tbk) (li : Tli) (fo : Tfo) (tx : Ttx) (co : Tco) (ke : Tke) (rf : (Nat → Int32)) (cp : Int32) (lk : Tlk) (fl : Tfl) (em : Int32) (tm : Ttm) (rd : Trd)  (z : Int64 × Int32 × Int32 × Tbk) (o : (Int64 × Int32 × Int32 × Tbk) ⊕ (Int32 × Tbk)) (h : bX0_fillByChance_23   z = some o) (k0 : ∀ a : Int64 × Int32 × Int32 × Tbk, o = .inl a → Wg X 23 [some (.ref 1), none, none, some (.long a.1), none, some (.int a.2.1), some (.int a.2.2.1), none, none] [] (mkH cn a.2.2.2 st r0 r1 r2 r3 r4 li fo tx co ke rf cp lk fl em tm rd)) (e0 : ∀ a : Int32 × Tbk, o = .inr a → Wg X 144 [none, none, none, none, none, some (.int a.1), none, none, none] [] (mkH cn a.2 st r0 r1 r2 r3 r4 li fo tx co ke rf cp lk fl em tm rd)) : Wg X 23 [some (.ref 1), none, none, some (.long z.1), none, some (.int z.2.1), some (.int z.2.2.1), none, none] [] (mkH cn z.2.2.2 st r0 r1 r2 r3 r4 li fo tx co ke rf cp lk fl em tm rd) := by
  unfold bX0_fillByChance_23 at h
  refine wg_iload C dX0_fillByChance_23 rfl ?_
  refine wg_aload_n C dX0_fillByChance_25 rfl ?_
  refine wg_get (v := .int z.2.2.2.2.2.1) C fgX0_fillByChance_28 rfl rfl dX0_fillByChance_26 ?_
  refine wg_icmp_ge (tgt := 144) C dX0_fillByChance_29 (by decide) (fun c1 => ?_) (fun c1 => ?_)
  · replace h := ifP c1 h
    refine wg_drop (lv' := [none, none, none, none, none, some (.int z.2.1), none, none, none]) [0, 3, 6] rfl ?_
    have hk := e0 _ (Option.some.inj h).symm
    exact hk
  · replace h := ifN c1 h
    refine wg_iconst (v := 0) C dX0_fillByChance_32 (by decide) ?_
    refine wg_istore (lv' := [some (.ref 1), none, none, some (.long z.1), none, some (.int z.2.1), some (.int z.2.2.1), some (.int (0 : Int32)), none]) C dX0_fillByChance_33 (Nat.le_of_ble_eq_true rfl) rfl ?_
    obtain ⟨t7, hL7, h⟩ := bnd h
    refine slX0_fillByChance_35 X C cn z.2.2.2 st r0 r1 r2 r3 r4 li fo tx co ke rf cp lk fl em tm rd z.2.2.1 t7 (fun a e => ?_) FU (z.1, z.2.1, (0 : Int32), z.2.2.2) hL7
    subst e
    refine wg_iinc (v := (z.2.2.1 + (1 : Int32))) (lv' := [some (.ref 1), none, none, some (.long t7.1), none, some (.int t7.2.1), some (.int (z.2.2.1 + (1 : Int32))), none, none]) C dX0_fillByChance_138 rfl rfl rfl ?_
    refine wg_goto (tgt := 23) C dX0_fillByChance_141 (by decide) ?_
    have hk := k0 _ (Option.some.inj h).symm
    exact hk
set_option maxRecDepth 100000 in
set_option maxHeartbeats 4000000 in
theorem slX0_fillByChance_23 (X : CX) (C : Ok X RX0 cX0_fillByChance wsX0_fillByChance rX0_fillByChance) (cn : Tcn) (bk : Tbk) (st : Tst) (r0 : Tbk) (r1 : Tbk) (r2 : Tbk) (r3 : Tbk) (r4 : Tbk) (li : Tli) (fo : Tfo) (tx : Ttx) (co : Tco) (ke : Tke) (rf : (Nat → Int32)) (cp : Int32) (lk : Tlk) (fl : Tfl) (em : Int32) (tm : Ttm) (rd : Trd)  (o : (Int32 × Tbk)) (e0 : ∀ a : Int32 × Tbk, o = a → Wg X 144 [none, none, none, none, none, some (.int a.1), none, none, none] [] (mkH cn a.2 st r0 r1 r2 r3 r4 li fo tx co ke rf cp lk fl em tm rd)) : ∀ (n : Nat) (z : Int64 × Int32 × Int32 × Tbk), lpF (bX0_fillByChance_23  ) n z = some o → Wg X 23 [some (.ref 1), none, none, some (.long z.1), none, some (.int z.2.1), some (.int z.2.2.1), none, none] [] (mkH cn z.2.2.2 st r0 r1 r2 r3 r4 li fo tx co ke rf cp lk fl em tm rd) := by
  intro n
  induction n with
  | zero => intro z h; cases h
  | succ n ih =>
    intro z h
    obtain ⟨r, hB, h⟩ := bnd h
    refine sbX0_fillByChance_23 X C cn bk st r0 r1 r2 r3 r4 li fo tx co ke rf cp lk fl em tm rd  z r hB (fun a e => ih a (by subst e; exact h)) (fun a e => e0 a (by subst e; exact (Option.some.inj h).symm))
set_option maxRecDepth 100000 in
set_option maxHeartbeats 4000000 in
theorem sX0_fillByChance (cn : Tcn) (bk : Tbk) (st : Tst) (r0 : Tbk) (r1 : Tbk) (r2 : Tbk) (r3 : Tbk) (r4 : Tbk) (li : Tli) (fo : Tfo) (tx : Ttx) (co : Tco) (ke : Tke) (rf : (Nat → Int32)) (cp : Int32) (lk : Tlk) (fl : Tfl) (em : Int32) (tm : Ttm) (rd : Trd) (x1 : Int32) (x2 : Int32) (o : Int32 × Tbk) (h : fX0_fillByChance bk x1 x2 = some o) : Sp yX0_fillByChance wsX0_fillByChance rX0_fillByChance [.ref 1, .int x1, .int x2] (mkH cn bk st r0 r1 r2 r3 r4 li fo tx co ke rf cp lk fl em tm rd) (some (.int o.1)) (mkH cn o.2 st r0 r1 r2 r3 r4 li fo tx co ke rf cp lk fl em tm rd) := by
  refine Sp.of (lv := [some (.ref 1), some (.int x1), some (.int x2), none, none, none, none, none, none]) RX0 (by decide +kernel) rfl (Nat.le_of_ble_eq_true rfl) rfl ?_
  intro X C hT
  unfold fX0_fillByChance at h
  refine wg_aload_n C dX0_fillByChance_0 rfl ?_
  refine wg_iconst (v := 0) C dX0_fillByChance_1 (by decide) ?_
  refine wg_iload_n C dX0_fillByChance_2 rfl ?_
  refine wg_bipush (v := 50) C dX0_fillByChance_3 (by decide) ?_
  refine wg_mmin C ⟨by decide +kernel, by decide +kernel, by decide +kernel, by decide +kernel⟩ ⟨Nat.le_of_ble_eq_true rfl, Nat.le_of_ble_eq_true rfl⟩ dX0_fillByChance_5 ?_
  refine wg_mmax C ⟨by decide +kernel, by decide +kernel, by decide +kernel, by decide +kernel⟩ ⟨Nat.le_of_ble_eq_true rfl, Nat.le_of_ble_eq_true rfl⟩ dX0_fillByChance_8 ?_
  refine wg_put (hp' := (mkH cn (bk.1, bk.2.1, (if (0 : Int32) < (if (50 : Int32) < x2 then (50 : Int32) else x2) then (if (50 : Int32) < x2 then (50 : Int32) else x2) else (0 : Int32)), bk.2.2.2.1, bk.2.2.2.2) st r0 r1 r2 r3 r4 li fo tx co ke rf cp lk fl em tm rd)) C fwX0_fillByChance_28 rfl (Nat.le_of_ble_eq_true rfl) rfl rfl rfl dX0_fillByChance_11 ?_
  refine wg_iload_n C dX0_fillByChance_14 rfl ?_
  refine wg_i2l C dX0_fillByChance_15 ?_
  refine wg_lstore_n (lv' := [some (.ref 1), some (.int x1), some (.int x2), some (.long ((x1).toInt64)), none, none, none, none, none]) C dX0_fillByChance_16 (Nat.le_of_ble_eq_true rfl) rfl ?_
  refine wg_iconst (v := 0) C dX0_fillByChance_17 (by decide) ?_
  refine wg_istore (lv' := [some (.ref 1), some (.int x1), some (.int x2), some (.long ((x1).toInt64)), none, some (.int (0 : Int32)), none, none, none]) C dX0_fillByChance_18 (Nat.le_of_ble_eq_true rfl) rfl ?_
  refine wg_iconst (v := 0) C dX0_fillByChance_20 (by decide) ?_
  refine wg_istore (lv' := [some (.ref 1), some (.int x1), some (.int x2), some (.long ((x1).toInt64)), none, some (.int (0 : Int32)), some (.int (0 : Int32)), none, none]) C dX0_fillByChance_21 (Nat.le_of_ble_eq_true rfl) rfl ?_
  refine wg_drop (lv' := [some (.ref 1), none, none, some (.long ((x1).toInt64)), none, some (.int (0 : Int32)), some (.int (0 : Int32)), none, none]) [1, 2] rfl ?_
  obtain ⟨t8, hL8, h⟩ := bnd h
  refine slX0_fillByChance_23 X C cn (bk.1, bk.2.1, (if (0 : Int32) < (if (50 : Int32) < x2 then (50 : Int32) else x2) then (if (50 : Int32) < x2 then (50 : Int32) else x2) else (0 : Int32)), bk.2.2.2.1, bk.2.2.2.2) st r0 r1 r2 r3 r4 li fo tx co ke rf cp lk fl em tm rd  t8 (fun a e => ?_) FU ((x1).toInt64, (0 : Int32), (0 : Int32), (bk.1, bk.2.1, (if (0 : Int32) < (if (50 : Int32) < x2 then (50 : Int32) else x2) then (if (50 : Int32) < x2 then (50 : Int32) else x2) else (0 : Int32)), bk.2.2.2.1, bk.2.2.2.2)) hL8
  subst e
  refine wg_iload C dX0_fillByChance_144 rfl ?_
  obtain rfl := Option.some.inj h
  exact wg_iret C hT dX0_fillByChance_146
abbrev rX5_draw : Room := { frames := 5, cells := 0, slots := 0, locals := 116 }
theorem iwX5_draw_5 : ∀ w ∈ wsX50, w ∈ wsX5_draw := by decide +kernel
theorem fgX5_draw_10 : FG wsX5_draw RX5 10 5 0 := ⟨RX5, TX5, 8, rfl, by decide, by decide +kernel, iwX5_draw_5⟩
set_option maxRecDepth 100000 in
set_option maxHeartbeats 4000000 in
theorem sjX5_draw_20 (X : CX) (C : Ok X RX5 cX5_draw wsX5_draw rX5_draw) (cn : Tcn) (bk : Tbk) (st : Tst) (r0 : Tbk) (r1 : Tbk) (r2 : Tbk) (r3 : Tbk) (r4 : Tbk) (li : Tli) (fo : Tfo) (tx : Ttx) (co : Tco) (ke : Tke) (rf : (Nat → Int32)) (cp : Int32) (lk : Tlk) (fl : Tfl) (em : Int32) (tm : Ttm) (rd : Trd)  (o : Int32 × Tcn × Tbk × Tst × Tbk × Tbk × Tbk × Tbk × Tbk × Tli) (h : jX5_draw_20 cn bk st r0 r1 r2 r3 r4 li  = some o) (hT : Rt X (some .int) (some (.int o.1)) (mkH o.2.1 o.2.2.1 o.2.2.2.1 o.2.2.2.2.1 o.2.2.2.2.2.1 o.2.2.2.2.2.2.1 o.2.2.2.2.2.2.2.1 o.2.2.2.2.2.2.2.2.1 o.2.2.2.2.2.2.2.2.2 fo tx co ke rf cp lk fl em tm rd)) : Wg X 20 [some (.ref 0), none, none] [] (mkH cn bk st r0 r1 r2 r3 r4 li fo tx co ke rf cp lk fl em tm rd) := by
  unfold jX5_draw_20 at h
  refine wg_aload_n C dX5_draw_20 rfl ?_
  refine wg_bipush (v := -2) C dX5_draw_21 (by decide) ?_
  obtain ⟨q3, e3q, h⟩ := bnd h
  refine wg_callV (n := 1) (As := [.int (-2 : Int32)]) (st := []) (st' := [.int q3.1]) C (sX5_refuseBad cn bk st r0 r1 r2 r3 r4 li fo tx co ke rf cp lk fl em tm rd (-2 : Int32) q3 e3q) gX5_draw_X5_refuseBad rfl (by decide +kernel) ⟨⟨rfl, rfl⟩, Nat.le_of_ble_eq_true rfl, Nat.le_of_ble_eq_true rfl⟩ rfl rfl rfl rfl (Nat.le_of_ble_eq_true rfl) dX5_draw_23 rfl ?_
  obtain rfl := Option.some.inj h
  exact wg_iret C hT dX5_draw_26
set_option maxRecDepth 100000 in
set_option maxHeartbeats 4000000 in
theorem sX5_draw (cn : Tcn) (bk : Tbk) (st : Tst) (r0 : Tbk) (r1 : Tbk) (r2 : Tbk) (r3 : Tbk) (r4 : Tbk) (li : Tli) (fo : Tfo) (tx : Ttx) (co : Tco) (ke : Tke) (rf : (Nat → Int32)) (cp : Int32) (lk : Tlk) (fl : Tfl) (em : Int32) (tm : Ttm) (rd : Trd) (x1 : Int32) (x2 : Int32) (o : Int32 × Tcn × Tbk × Tst × Tbk × Tbk × Tbk × Tbk × Tbk × Tli) (h : fX5_draw cn bk st r0 r1 r2 r3 r4 li x1 x2 = some o) : Sp yX5_draw wsX5_draw rX5_draw [.ref 0, .int x1, .int x2] (mkH cn bk st r0 r1 r2 r3 r4 li fo tx co ke rf cp lk fl em tm rd) (some (.int o.1)) (mkH o.2.1 o.2.2.1 o.2.2.2.1 o.2.2.2.2.1 o.2.2.2.2.2.1 o.2.2.2.2.2.2.1 o.2.2.2.2.2.2.2.1 o.2.2.2.2.2.2.2.2.1 o.2.2.2.2.2.2.2.2.2 fo tx co ke rf cp lk fl em tm rd) := by
  refine Sp.of (lv := [some (.ref 0), some (.int x1), some (.int x2)]) RX5 (by decide +kernel) rfl (Nat.le_of_ble_eq_true rfl) rfl ?_
  intro X C hT
  unfold fX5_draw at h
  refine wg_iload_n C dX5_draw_0 rfl ?_
  refine wg_iconst (v := 0) C dX5_draw_1 (by decide) ?_
  refine wg_ldci (v := 999999) C (by decide +kernel) dX5_draw_2 ?_
  obtain ⟨q1, e1q, h⟩ := bnd h
  refine wg_callT (n := 3) (As := [.int x1, .int (0 : Int32), .int (999999 : Int32)]) (st := []) (st' := [.int q1]) C (sX5_isWithin cn bk st r0 r1 r2 r3 r4 li fo tx co ke rf cp lk fl em tm rd x1 (0 : Int32) (999999 : Int32) q1 e1q) gX5_draw_X5_isWithin rfl (by decide +kernel) ⟨⟨rfl, rfl⟩, Nat.le_of_ble_eq_true rfl, Nat.le_of_ble_eq_true rfl⟩ rfl rfl (Nat.le_of_ble_eq_true rfl) dX5_draw_4 rfl ?_
  refine wg_if_eq (tgt := 20) C dX5_draw_7 (by decide) (fun c2 => ?_) (fun c2 => ?_)
  · replace h := ifP c2 h
    refine wg_drop (lv' := [some (.ref 0), none, none]) [1, 2] rfl ?_
    exact sjX5_draw_20 X C cn bk st r0 r1 r2 r3 r4 li fo tx co ke rf cp lk fl em tm rd  _ h hT
  · replace h := ifN c2 h
    refine wg_iload_n C dX5_draw_10 rfl ?_
    refine wg_iconst (v := 1) C dX5_draw_11 (by decide) ?_
    refine wg_bipush (v := 50) C dX5_draw_12 (by decide) ?_
    obtain ⟨q4, e4q, h⟩ := bnd h
    refine wg_callT (n := 3) (As := [.int x2, .int (1 : Int32), .int (50 : Int32)]) (st := []) (st' := [.int q4]) C (sX5_isWithin cn bk st r0 r1 r2 r3 r4 li fo tx co ke rf cp lk fl em tm rd x2 (1 : Int32) (50 : Int32) q4 e4q) gX5_draw_X5_isWithin rfl (by decide +kernel) ⟨⟨rfl, rfl⟩, Nat.le_of_ble_eq_true rfl, Nat.le_of_ble_eq_true rfl⟩ rfl rfl (Nat.le_of_ble_eq_true rfl) dX5_draw_14 rfl ?_
    refine wg_if_ne (tgt := 27) C dX5_draw_17 (by decide) (fun c5 => ?_) (fun c5 => ?_)
    · replace h := ifP c5 h
      refine wg_aload_n C dX5_draw_27 rfl ?_
      obtain ⟨q6, e6q, h⟩ := bnd h
      refine wg_callV (n := 0) (As := []) (st := []) (st' := []) C (sX5_keepState cn bk st r0 r1 r2 r3 r4 li fo tx co ke rf cp lk fl em tm rd  q6 e6q) gX5_draw_X5_keepState rfl (by decide +kernel) ⟨⟨rfl, rfl⟩, Nat.le_of_ble_eq_true rfl, Nat.le_of_ble_eq_true rfl⟩ rfl rfl rfl rfl (Nat.le_of_ble_eq_true rfl) dX5_draw_28 rfl ?_
      refine wg_aload_n C dX5_draw_31 rfl ?_
      refine wg_get (v := .ref 1) C fgX5_draw_10 rfl rfl dX5_draw_32 ?_
      refine wg_iload_n C dX5_draw_35 rfl ?_
      refine wg_iload_n C dX5_draw_36 rfl ?_
      obtain ⟨q7, e7q, h⟩ := bnd h
      refine wg_callV (n := 2) (As := [.int x1, .int x2]) (st := []) (st' := [.int q7.1]) C (sX0_fillByChance cn bk q6.1 q6.2.1 q6.2.2.1 q6.2.2.2.1 q6.2.2.2.2.1 q6.2.2.2.2.2.1 q6.2.2.2.2.2.2 fo tx co ke rf cp lk fl em tm rd x1 x2 q7 e7q) gX5_draw_X0_fillByChance rfl (by decide +kernel) ⟨⟨rfl, rfl⟩, Nat.le_of_ble_eq_true rfl, Nat.le_of_ble_eq_true rfl⟩ rfl rfl rfl rfl (Nat.le_of_ble_eq_true rfl) dX5_draw_37 rfl ?_
      obtain rfl := Option.some.inj h
      exact wg_iret C hT dX5_draw_40
    · replace h := ifN c5 h
      refine wg_drop (lv' := [some (.ref 0), none, none]) [1, 2] rfl ?_
      exact sjX5_draw_20 X C cn bk st r0 r1 r2 r3 r4 li fo tx co ke rf cp lk fl em tm rd  _ h hT
abbrev rX0_removeAll : Room := { frames := 0, cells := 0, slots := 0, locals := 0 }
theorem iwX0_removeAll_0 : ∀ w ∈ wsX00, w ∈ wsX0_removeAll := by decide +kernel
theorem fwX0_removeAll_28 : FW wsX0_removeAll RX0 28 0 2 .int := ⟨RX0, TX0, 5, tyX0, rfl, by decide, by decide +kernel, iwX0_removeAll_0, tyX0_ok, nmX0, rfl, by decide +kernel⟩
set_option maxRecDepth 100000 in
set_option maxHeartbeats 4000000 in
theorem sX0_removeAll (cn : Tcn) (bk : Tbk) (st : Tst) (r0 : Tbk) (r1 : Tbk) (r2 : Tbk) (r3 : Tbk) (r4 : Tbk) (li : Tli) (fo : Tfo) (tx : Ttx) (co : Tco) (ke : Tke) (rf : (Nat → Int32)) (cp : Int32) (lk : Tlk) (fl : Tfl) (em : Int32) (tm : Ttm) (rd : Trd)  (o : Tbk) (h : fX0_removeAll bk  = some o) : Sp yX0_removeAll wsX0_removeAll rX0_removeAll [.ref 1] (mkH cn bk st r0 r1 r2 r3 r4 li fo tx co ke rf cp lk fl em tm rd) none (mkH cn o st r0 r1 r2 r3 r4 li fo tx co ke rf cp lk fl em tm rd) := by
  refine Sp.of (lv := [some (.ref 1)]) RX0 (by decide +kernel) rfl (Nat.le_of_ble_eq_true rfl) rfl ?_
  intro X C hT
  unfold fX0_removeAll at h
  refine wg_aload_n C dX0_removeAll_0 rfl ?_
  refine wg_iconst (v := 0) C dX0_removeAll_1 (by decide) ?_
  refine wg_put (hp' := (mkH cn (bk.1, bk.2.1, (0 : Int32), bk.2.2.2.1, bk.2.2.2.2) st r0 r1 r2 r3 r4 li fo tx co ke rf cp lk fl em tm rd)) C fwX0_removeAll_28 rfl (Nat.le_of_ble_eq_true rfl) rfl rfl rfl dX0_removeAll_2 ?_
  obtain rfl := Option.some.inj h
  exact wg_vret C hT dX0_removeAll_5
abbrev rX5_empties : Room := { frames := 4, cells := 0, slots := 0, locals := 102 }
theorem iwX5_empties_5 : ∀ w ∈ wsX50, w ∈ wsX5_empties := by decide +kernel
theorem fgX5_empties_10 : FG wsX5_empties RX5 10 5 0 := ⟨RX5, TX5, 8, rfl, by decide, by decide +kernel, iwX5_empties_5⟩
set_option maxRecDepth 100000 in
set_option maxHeartbeats 4000000 in
theorem sX5_empties (cn : Tcn) (bk : Tbk) (st : Tst) (r0 : Tbk) (r1 : Tbk) (r2 : Tbk) (r3 : Tbk) (r4 : Tbk) (li : Tli) (fo : Tfo) (tx : Ttx) (co : Tco) (ke : Tke) (rf : (Nat → Int32)) (cp : Int32) (lk : Tlk) (fl : Tfl) (em : Int32) (tm : Ttm) (rd : Trd)  (o : Int32 × Tbk × Tst × Tbk × Tbk × Tbk × Tbk × Tbk × Tli) (h : fX5_empties bk st r0 r1 r2 r3 r4 li  = some o) : Sp yX5_empties wsX5_empties rX5_empties [.ref 0] (mkH cn bk st r0 r1 r2 r3 r4 li fo tx co ke rf cp lk fl em tm rd) (some (.int o.1)) (mkH cn o.2.1 o.2.2.1 o.2.2.2.1 o.2.2.2.2.1 o.2.2.2.2.2.1 o.2.2.2.2.2.2.1 o.2.2.2.2.2.2.2.1 o.2.2.2.2.2.2.2.2 fo tx co ke rf cp lk fl em tm rd) := by
  refine Sp.of (lv := [some (.ref 0), none]) RX5 (by decide +kernel) rfl (Nat.le_of_ble_eq_true rfl) rfl ?_
  intro X C hT
  unfold fX5_empties at h
  refine wg_aload_n C dX5_empties_0 rfl ?_
  refine wg_get (v := .ref 1) C fgX5_empties_10 rfl rfl dX5_empties_1 ?_
  obtain ⟨q1, e1q, h⟩ := bnd h
  refine wg_callV (n := 0) (As := []) (st := []) (st' := [.int q1]) C (sX0_days cn bk st r0 r1 r2 r3 r4 li fo tx co ke rf cp lk fl em tm rd  q1 e1q) gX5_empties_X0_days rfl (by decide +kernel) ⟨⟨rfl, rfl⟩, Nat.le_of_ble_eq_true rfl, Nat.le_of_ble_eq_true rfl⟩ rfl rfl rfl rfl (Nat.le_of_ble_eq_true rfl) dX5_empties_4 rfl ?_
  refine wg_istore_n (lv' := [some (.ref 0), some (.int q1)]) C dX5_empties_7 (Nat.le_of_ble_eq_true rfl) rfl ?_
  refine wg_aload_n C dX5_empties_8 rfl ?_
  obtain ⟨q2, e2q, h⟩ := bnd h
  refine wg_callV (n := 0) (As := []) (st := []) (st' := []) C (sX5_keepState cn bk st r0 r1 r2 r3 r4 li fo tx co ke rf cp lk fl em tm rd  q2 e2q) gX5_empties_X5_keepState rfl (by decide +kernel) ⟨⟨rfl, rfl⟩, Nat.le_of_ble_eq_true rfl, Nat.le_of_ble_eq_true rfl⟩ rfl rfl rfl rfl (Nat.le_of_ble_eq_true rfl) dX5_empties_9 rfl ?_
  refine wg_aload_n C dX5_empties_12 rfl ?_
  refine wg_get (v := .ref 1) C fgX5_empties_10 rfl rfl dX5_empties_13 ?_
  obtain ⟨q3, e3q, h⟩ := bnd h
  refine wg_callV (n := 0) (As := []) (st := []) (st' := []) C (sX0_removeAll cn bk q2.1 q2.2.1 q2.2.2.1 q2.2.2.2.1 q2.2.2.2.2.1 q2.2.2.2.2.2.1 q2.2.2.2.2.2.2 fo tx co ke rf cp lk fl em tm rd  q3 e3q) gX5_empties_X0_removeAll rfl (by decide +kernel) ⟨⟨rfl, rfl⟩, Nat.le_of_ble_eq_true rfl, Nat.le_of_ble_eq_true rfl⟩ rfl rfl rfl rfl (Nat.le_of_ble_eq_true rfl) dX5_empties_16 rfl ?_
  refine wg_iload_n C dX5_empties_19 rfl ?_
  obtain rfl := Option.some.inj h
  exact wg_iret C hT dX5_empties_20
abbrev rX5_isRule : Room := { frames := 2, cells := 0, slots := 0, locals := 42 }
set_option maxRecDepth 100000 in
set_option maxHeartbeats 4000000 in
theorem sjX5_isRule_48 (X : CX) (C : Ok X RX5 cX5_isRule wsX5_isRule rX5_isRule) (cn : Tcn) (bk : Tbk) (st : Tst) (r0 : Tbk) (r1 : Tbk) (r2 : Tbk) (r3 : Tbk) (r4 : Tbk) (li : Tli) (fo : Tfo) (tx : Ttx) (co : Tco) (ke : Tke) (rf : (Nat → Int32)) (cp : Int32) (lk : Tlk) (fl : Tfl) (em : Int32) (tm : Ttm) (rd : Trd) (y0 : Int32) (o : Int32) (h : jX5_isRule_48  y0 = some o) (hT : Rt X (some .boolean) (some (.int o)) (mkH cn bk st r0 r1 r2 r3 r4 li fo tx co ke rf cp lk fl em tm rd)) : Wg X 48 [none, none] [.int y0] (mkH cn bk st r0 r1 r2 r3 r4 li fo tx co ke rf cp lk fl em tm rd) := by
  unfold jX5_isRule_48 at h
  obtain ⟨g5, h⟩ := gdP h
  obtain rfl := Option.some.inj h
  exact wg_zret C hT (of_decide_eq_true g5) dX5_isRule_48
set_option maxRecDepth 100000 in
set_option maxHeartbeats 4000000 in
theorem sjX5_isRule_47 (X : CX) (C : Ok X RX5 cX5_isRule wsX5_isRule rX5_isRule) (cn : Tcn) (bk : Tbk) (st : Tst) (r0 : Tbk) (r1 : Tbk) (r2 : Tbk) (r3 : Tbk) (r4 : Tbk) (li : Tli) (fo : Tfo) (tx : Ttx) (co : Tco) (ke : Tke) (rf : (Nat → Int32)) (cp : Int32) (lk : Tlk) (fl : Tfl) (em : Int32) (tm : Ttm) (rd : Trd)  (o : Int32) (h : jX5_isRule_47   = some o) (hT : Rt X (some .boolean) (some (.int o)) (mkH cn bk st r0 r1 r2 r3 r4 li fo tx co ke rf cp lk fl em tm rd)) : Wg X 47 [none, none] [] (mkH cn bk st r0 r1 r2 r3 r4 li fo tx co ke rf cp lk fl em tm rd) := by
  unfold jX5_isRule_47 at h
  refine wg_iconst (v := 0) C dX5_isRule_47 (by decide) ?_
  exact sjX5_isRule_48 X C cn bk st r0 r1 r2 r3 r4 li fo tx co ke rf cp lk fl em tm rd (0 : Int32) _ h hT
set_option maxRecDepth 100000 in
set_option maxHeartbeats 4000000 in
theorem sX5_isRule (cn : Tcn) (bk : Tbk) (st : Tst) (r0 : Tbk) (r1 : Tbk) (r2 : Tbk) (r3 : Tbk) (r4 : Tbk) (li : Tli) (fo : Tfo) (tx : Ttx) (co : Tco) (ke : Tke) (rf : (Nat → Int32)) (cp : Int32) (lk : Tlk) (fl : Tfl) (em : Int32) (tm : Ttm) (rd : Trd) (x0 : Int32) (x1 : Int32) (o : Int32) (h : fX5_isRule  x0 x1 = some o) : Sp yX5_isRule wsX5_isRule rX5_isRule [.int x0, .int x1] (mkH cn bk st r0 r1 r2 r3 r4 li fo tx co ke rf cp lk fl em tm rd) (some (.int o)) (mkH cn bk st r0 r1 r2 r3 r4 li fo tx co ke rf cp lk fl em tm rd) := by
  refine Sp.of (lv := [some (.int x0), some (.int x1)]) RX5 (by decide +kernel) rfl (Nat.le_of_ble_eq_true rfl) rfl ?_
  intro X C hT
  unfold fX5_isRule at h
  refine wg_iload_n C dX5_isRule_0 rfl ?_
  refine wg_iconst (v := 4) C dX5_isRule_1 (by decide) ?_
  refine wg_icmp_ne (tgt := 13) C dX5_isRule_2 (by decide) (fun c1 => ?_) (fun c1 => ?_)
  · replace h := ifP c1 h
    refine wg_iload_n C dX5_isRule_13 rfl ?_
    refine wg_iconst (v := 5) C dX5_isRule_14 (by decide) ?_
    refine wg_icmp_ne (tgt := 26) C dX5_isRule_15 (by decide) (fun c2 => ?_) (fun c2 => ?_)
    · replace h := ifP c2 h
      refine wg_iload_n C dX5_isRule_26 rfl ?_
      obtain ⟨q3, e3q, h⟩ := bnd h
      refine wg_callT (n := 1) (As := [.int x0]) (st := []) (st' := [.int q3]) C (sX5_isMember cn bk st r0 r1 r2 r3 r4 li fo tx co ke rf cp lk fl em tm rd x0 q3 e3q) gX5_isRule_X5_isMember rfl (by decide +kernel) ⟨⟨rfl, rfl⟩, Nat.le_of_ble_eq_true rfl, Nat.le_of_ble_eq_true rfl⟩ rfl rfl (Nat.le_of_ble_eq_true rfl) dX5_isRule_27 rfl ?_
      refine wg_if_eq (tgt := 47) C dX5_isRule_30 (by decide) (fun c4 => ?_) (fun c4 => ?_)
      · replace h := ifP c4 h
        refine wg_drop (lv' := [none, none]) [0, 1] rfl ?_
        exact sjX5_isRule_47 X C cn bk st r0 r1 r2 r3 r4 li fo tx co ke rf cp lk fl em tm rd  _ h hT
      · replace h := ifN c4 h
        refine wg_iload_n C dX5_isRule_33 rfl ?_
        refine wg_iconst (v := 0) C dX5_isRule_34 (by decide) ?_
        refine wg_bipush (v := 80) C dX5_isRule_35 (by decide) ?_
        obtain ⟨q6, e6q, h⟩ := bnd h
        refine wg_callT (n := 3) (As := [.int x1, .int (0 : Int32), .int (80 : Int32)]) (st := []) (st' := [.int q6]) C (sX5_isWithin cn bk st r0 r1 r2 r3 r4 li fo tx co ke rf cp lk fl em tm rd x1 (0 : Int32) (80 : Int32) q6 e6q) gX5_isRule_X5_isWithin rfl (by decide +kernel) ⟨⟨rfl, rfl⟩, Nat.le_of_ble_eq_true rfl, Nat.le_of_ble_eq_true rfl⟩ rfl rfl (Nat.le_of_ble_eq_true rfl) dX5_isRule_37 rfl ?_
        refine wg_if_eq (tgt := 47) C dX5_isRule_40 (by decide) (fun c7 => ?_) (fun c7 => ?_)
        · replace h := ifP c7 h
          refine wg_drop (lv' := [none, none]) [0, 1] rfl ?_
          exact sjX5_isRule_47 X C cn bk st r0 r1 r2 r3 r4 li fo tx co ke rf cp lk fl em tm rd  _ h hT
        · replace h := ifN c7 h
          refine wg_iconst (v := 1) C dX5_isRule_43 (by decide) ?_
          refine wg_goto (tgt := 48) C dX5_isRule_44 (by decide) ?_
          refine wg_drop (lv' := [none, none]) [0, 1] rfl ?_
          exact sjX5_isRule_48 X C cn bk st r0 r1 r2 r3 r4 li fo tx co ke rf cp lk fl em tm rd (1 : Int32) _ h hT
    · replace h := ifN c2 h
      refine wg_iload_n C dX5_isRule_18 rfl ?_
      refine wg_iconst (v := 1) C dX5_isRule_19 (by decide) ?_
      refine wg_bipush (v := 12) C dX5_isRule_20 (by decide) ?_
      obtain ⟨q8, e8q, h⟩ := bnd h
      refine wg_callT (n := 3) (As := [.int x1, .int (1 : Int32), .int (12 : Int32)]) (st := []) (st' := [.int q8]) C (sX5_isWithin cn bk st r0 r1 r2 r3 r4 li fo tx co ke rf cp lk fl em tm rd x1 (1 : Int32) (12 : Int32) q8 e8q) gX5_isRule_X5_isWithin rfl (by decide +kernel) ⟨⟨rfl, rfl⟩, Nat.le_of_ble_eq_true rfl, Nat.le_of_ble_eq_true rfl⟩ rfl rfl (Nat.le_of_ble_eq_true rfl) dX5_isRule_22 rfl ?_
      obtain ⟨g9, h⟩ := gdP h
      obtain rfl := Option.some.inj h
      exact wg_zret C hT (of_decide_eq_true g9) dX5_isRule_25
  · replace h := ifN c1 h
    refine wg_iload_n C dX5_isRule_5 rfl ?_
    refine wg_iconst (v := 0) C dX5_isRule_6 (by decide) ?_
    refine wg_bipush (v := 9) C dX5_isRule_7 (by decide) ?_
    obtain ⟨q10, e10q, h⟩ := bnd h
    refine wg_callT (n := 3) (As := [.int x1, .int (0 : Int32), .int (9 : Int32)]) (st := []) (st' := [.int q10]) C (sX5_isWithin cn bk st r0 r1 r2 r3 r4 li fo tx co ke rf cp lk fl em tm rd x1 (0 : Int32) (9 : Int32) q10 e10q) gX5_isRule_X5_isWithin rfl (by decide +kernel) ⟨⟨rfl, rfl⟩, Nat.le_of_ble_eq_true rfl, Nat.le_of_ble_eq_true rfl⟩ rfl rfl (Nat.le_of_ble_eq_true rfl) dX5_isRule_9 rfl ?_
    obtain ⟨g11, h⟩ := gdP h
    obtain rfl := Option.some.inj h
    exact wg_zret C hT (of_decide_eq_true g11) dX5_isRule_12
abbrev rX0_rule : Room := { frames := 2, cells := 0, slots := 0, locals := 42 }
theorem iwX0_rule_0 : ∀ w ∈ wsX00, w ∈ wsX0_rule := by decide +kernel
theorem fgX0_rule_15 : FG wsX0_rule RX0 15 0 1 := ⟨RX0, TX0, 5, rfl, by decide, by decide +kernel, iwX0_rule_0⟩
theorem fgX0_rule_24 : FG wsX0_rule RX0 24 0 4 := ⟨RX0, TX0, 5, rfl, by decide, by decide +kernel, iwX0_rule_0⟩
theorem fgX0_rule_31 : FG wsX0_rule RX0 31 0 3 := ⟨RX0, TX0, 5, rfl, by decide, by decide +kernel, iwX0_rule_0⟩
set_option maxRecDepth 100000 in
set_option maxHeartbeats 4000000 in
theorem sjX0_rule_37 (X : CX) (C : Ok X RX0 cX0_rule wsX0_rule rX0_rule) (cn : Tcn) (bk : Tbk) (st : Tst) (r0 : Tbk) (r1 : Tbk) (r2 : Tbk) (r3 : Tbk) (r4 : Tbk) (li : Tli) (fo : Tfo) (tx : Ttx) (co : Tco) (ke : Tke) (rf : (Nat → Int32)) (cp : Int32) (lk : Tlk) (fl : Tfl) (em : Int32) (tm : Ttm) (rd : Trd) (y0 : Int32) (o : Int32) (h : jX0_rule_37 bk y0 = some o) (hT : Rt X (some .int) (some (.int o)) (mkH cn bk st r0 r1 r2 r3 r4 li fo tx co ke rf cp lk fl em tm rd)) : Wg X 37 [none, none] [.int y0] (mkH cn bk st r0 r1 r2 r3 r4 li fo tx co ke rf cp lk fl em tm rd) := by
  unfold jX0_rule_37 at h
  obtain rfl := Option.some.inj h
  exact wg_iret C hT dX0_rule_37
set_option maxRecDepth 100000 in
set_option maxHeartbeats 4000000 in
theorem sX0_rule (cn : Tcn) (bk : Tbk) (st : Tst) (r0 : Tbk) (r1 : Tbk) (r2 : Tbk) (r3 : Tbk) (r4 : Tbk) (li : Tli) (fo : Tfo) (tx : Ttx) (co : Tco) (ke : Tke) (rf : (Nat → Int32)) (cp : Int32) (lk : Tlk) (fl : Tfl) (em : Int32) (tm : Ttm) (rd : Trd) (x1 : Int32) (o : Int32) (h : fX0_rule bk x1 = some o) : Sp yX0_rule wsX0_rule rX0_rule [.ref 1, .int x1] (mkH cn bk st r0 r1 r2 r3 r4 li fo tx co ke rf cp lk fl em tm rd) (some (.int o)) (mkH cn bk st r0 r1 r2 r3 r4 li fo tx co ke rf cp lk fl em tm rd) := by
  refine Sp.of (lv := [some (.ref 1), some (.int x1)]) RX0 (by decide +kernel) rfl (Nat.le_of_ble_eq_true rfl) rfl ?_
  intro X C hT
  unfold fX0_rule at h
  refine wg_iload_n C dX0_rule_0 rfl ?_
  refine wg_iconst (v := 4) C dX0_rule_1 (by decide) ?_
  refine wg_icmp_ne (tgt := 10) C dX0_rule_2 (by decide) (fun c1 => ?_) (fun c1 => ?_)
  · replace h := ifP c1 h
    refine wg_iload_n C dX0_rule_10 rfl ?_
    refine wg_iconst (v := 5) C dX0_rule_11 (by decide) ?_
    refine wg_icmp_ne (tgt := 20) C dX0_rule_12 (by decide) (fun c2 => ?_) (fun c2 => ?_)
    · replace h := ifP c2 h
      refine wg_iload_n C dX0_rule_20 rfl ?_
      obtain ⟨q3, e3q, h⟩ := bnd h
      refine wg_callN (n := 1) (As := [.int x1]) (st := []) (st' := [.int q3]) C (sX5_isMember cn bk st r0 r1 r2 r3 r4 li fo tx co ke rf cp lk fl em tm rd x1 q3 e3q) (fun U h => h.1) gX0_rule_X5_isMember_n38 ⟨by decide +kernel, by decide +kernel⟩ rfl (by decide +kernel) ⟨⟨rfl, rfl⟩, Nat.le_of_ble_eq_true rfl, Nat.le_of_ble_eq_true rfl⟩ rfl rfl (Nat.le_of_ble_eq_true rfl) dX0_rule_21 rfl ?_
      refine wg_if_eq (tgt := 36) C dX0_rule_24 (by decide) (fun c4 => ?_) (fun c4 => ?_)
      · replace h := ifP c4 h
        refine wg_iconst (v := 0) C dX0_rule_36 (by decide) ?_
        refine wg_drop (lv' := [none, none]) [0, 1] rfl ?_
        exact sjX0_rule_37 X C cn bk st r0 r1 r2 r3 r4 li fo tx co ke rf cp lk fl em tm rd (0 : Int32) _ h hT
      · replace h := ifN c4 h
        refine wg_aload_n C dX0_rule_27 rfl ?_
        refine wg_get (v := .ref 3) C fgX0_rule_15 rfl rfl dX0_rule_28 ?_
        refine wg_iload_n C dX0_rule_31 rfl ?_
        obtain ⟨g5, h⟩ := gdP h
        refine wg_iald (f := bk.2.1) (n := 4) C rfl g5 dX0_rule_32 ?_
        refine wg_goto (tgt := 37) C dX0_rule_33 (by decide) ?_
        refine wg_drop (lv' := [none, none]) [0, 1] rfl ?_
        exact sjX0_rule_37 X C cn bk st r0 r1 r2 r3 r4 li fo tx co ke rf cp lk fl em tm rd (bk.2.1 (x1).toNatClampNeg) _ h hT
    · replace h := ifN c2 h
      refine wg_aload_n C dX0_rule_15 rfl ?_
      refine wg_get (v := .int bk.2.2.2.2) C fgX0_rule_24 rfl rfl dX0_rule_16 ?_
      obtain rfl := Option.some.inj h
      exact wg_iret C hT dX0_rule_19
  · replace h := ifN c1 h
    refine wg_aload_n C dX0_rule_5 rfl ?_
    refine wg_get (v := .int bk.2.2.2.1) C fgX0_rule_31 rfl rfl dX0_rule_6 ?_
    obtain rfl := Option.some.inj h
    exact wg_iret C hT dX0_rule_9
abbrev rX0_setRule : Room := { frames := 2, cells := 0, slots := 0, locals := 42 }
theorem iwX0_setRule_0 : ∀ w ∈ wsX00, w ∈ wsX0_setRule := by decide +kernel
theorem fgX0_setRule_15 : FG wsX0_setRule RX0 15 0 1 := ⟨RX0, TX0, 5, rfl, by decide, by decide +kernel, iwX0_setRule_0⟩
theorem fwX0_setRule_24 : FW wsX0_setRule RX0 24 0 4 .int := ⟨RX0, TX0, 5, tyX0, rfl, by decide, by decide +kernel, iwX0_setRule_0, tyX0_ok, nmX0, rfl, by decide +kernel⟩
theorem fwX0_setRule_31 : FW wsX0_setRule RX0 31 0 3 .int := ⟨RX0, TX0, 5, tyX0, rfl, by decide, by decide +kernel, iwX0_setRule_0, tyX0_ok, nmX0, rfl, by decide +kernel⟩
set_option maxRecDepth 100000 in
set_option maxHeartbeats 4000000 in
theorem sjX0_setRule_40 (X : CX) (C : Ok X RX0 cX0_setRule wsX0_setRule rX0_setRule) (cn : Tcn) (bk : Tbk) (st : Tst) (r0 : Tbk) (r1 : Tbk) (r2 : Tbk) (r3 : Tbk) (r4 : Tbk) (li : Tli) (fo : Tfo) (tx : Ttx) (co : Tco) (ke : Tke) (rf : (Nat → Int32)) (cp : Int32) (lk : Tlk) (fl : Tfl) (em : Int32) (tm : Ttm) (rd : Trd)  (o : Tbk) (h : jX0_setRule_40 bk  = some o) (hT : Rt X none none (mkH cn o st r0 r1 r2 r3 r4 li fo tx co ke rf cp lk fl em tm rd)) : Wg X 40 [none, none, none] [] (mkH cn bk st r0 r1 r2 r3 r4 li fo tx co ke rf cp lk fl em tm rd) := by
  unfold jX0_setRule_40 at h
  obtain rfl := Option.some.inj h
  exact wg_vret C hT dX0_setRule_40
set_option maxRecDepth 100000 in
set_option maxHeartbeats 4000000 in
theorem sX0_setRule (cn : Tcn) (bk : Tbk) (st : Tst) (r0 : Tbk) (r1 : Tbk) (r2 : Tbk) (r3 : Tbk) (r4 : Tbk) (li : Tli) (fo : Tfo) (tx : Ttx) (co : Tco) (ke : Tke) (rf : (Nat → Int32)) (cp : Int32) (lk : Tlk) (fl : Tfl) (em : Int32) (tm : Ttm) (rd : Trd) (x1 : Int32) (x2 : Int32) (o : Tbk) (h : fX0_setRule bk x1 x2 = some o) : Sp yX0_setRule wsX0_setRule rX0_setRule [.ref 1, .int x1, .int x2] (mkH cn bk st r0 r1 r2 r3 r4 li fo tx co ke rf cp lk fl em tm rd) none (mkH cn o st r0 r1 r2 r3 r4 li fo tx co ke rf cp lk fl em tm rd) := by
  refine Sp.of (lv := [some (.ref 1), some (.int x1), some (.int x2)]) RX0 (by decide +kernel) rfl (Nat.le_of_ble_eq_true rfl) rfl ?_
  intro X C hT
  unfold fX0_setRule at h
  refine wg_iload_n C dX0_setRule_0 rfl ?_
  refine wg_iconst (v := 4) C dX0_setRule_1 (by decide) ?_
  refine wg_icmp_ne (tgt := 13) C dX0_setRule_2 (by decide) (fun c1 => ?_) (fun c1 => ?_)
  · replace h := ifP c1 h
    refine wg_iload_n C dX0_setRule_13 rfl ?_
    refine wg_iconst (v := 5) C dX0_setRule_14 (by decide) ?_
    refine wg_icmp_ne (tgt := 26) C dX0_setRule_15 (by decide) (fun c2 => ?_) (fun c2 => ?_)
    · replace h := ifP c2 h
      refine wg_iload_n C dX0_setRule_26 rfl ?_
      obtain ⟨q3, e3q, h⟩ := bnd h
      refine wg_callN (n := 1) (As := [.int x1]) (st := []) (st' := [.int q3]) C (sX5_isMember cn bk st r0 r1 r2 r3 r4 li fo tx co ke rf cp lk fl em tm rd x1 q3 e3q) (fun U h => h.1) gX0_setRule_X5_isMember_n38 ⟨by decide +kernel, by decide +kernel⟩ rfl (by decide +kernel) ⟨⟨rfl, rfl⟩, Nat.le_of_ble_eq_true rfl, Nat.le_of_ble_eq_true rfl⟩ rfl rfl (Nat.le_of_ble_eq_true rfl) dX0_setRule_27 rfl ?_
      refine wg_if_eq (tgt := 40) C dX0_setRule_30 (by decide) (fun c4 => ?_) (fun c4 => ?_)
      · replace h := ifP c4 h
        refine wg_drop (lv' := [none, none, none]) [0, 1, 2] rfl ?_
        exact sjX0_setRule_40 X C cn bk st r0 r1 r2 r3 r4 li fo tx co ke rf cp lk fl em tm rd  _ h hT
      · replace h := ifN c4 h
        refine wg_aload_n C dX0_setRule_33 rfl ?_
        refine wg_get (v := .ref 3) C fgX0_setRule_15 rfl rfl dX0_setRule_34 ?_
        refine wg_iload_n C dX0_setRule_37 rfl ?_
        refine wg_iload_n C dX0_setRule_38 rfl ?_
        obtain ⟨g5, h⟩ := gdP h
        refine wg_iast (f := bk.2.1) (n := 4) (hp' := (mkH cn (bk.1, (upd bk.2.1 (x1).toNatClampNeg x2), bk.2.2.1, bk.2.2.2.1, bk.2.2.2.2) st r0 r1 r2 r3 r4 li fo tx co ke rf cp lk fl em tm rd)) C rfl g5 rfl dX0_setRule_39 ?_
        refine wg_drop (lv' := [none, none, none]) [0, 1, 2] rfl ?_
        exact sjX0_setRule_40 X C cn (bk.1, (upd bk.2.1 (x1).toNatClampNeg x2), bk.2.2.1, bk.2.2.2.1, bk.2.2.2.2) st r0 r1 r2 r3 r4 li fo tx co ke rf cp lk fl em tm rd  _ h hT
    · replace h := ifN c2 h
      refine wg_aload_n C dX0_setRule_18 rfl ?_
      refine wg_iload_n C dX0_setRule_19 rfl ?_
      refine wg_put (hp' := (mkH cn (bk.1, bk.2.1, bk.2.2.1, bk.2.2.2.1, x2) st r0 r1 r2 r3 r4 li fo tx co ke rf cp lk fl em tm rd)) C fwX0_setRule_24 rfl (Nat.le_of_ble_eq_true rfl) rfl rfl rfl dX0_setRule_20 ?_
      refine wg_goto (tgt := 40) C dX0_setRule_23 (by decide) ?_
      refine wg_drop (lv' := [none, none, none]) [0, 1, 2] rfl ?_
      exact sjX0_setRule_40 X C cn (bk.1, bk.2.1, bk.2.2.1, bk.2.2.2.1, x2) st r0 r1 r2 r3 r4 li fo tx co ke rf cp lk fl em tm rd  _ h hT
  · replace h := ifN c1 h
    refine wg_aload_n C dX0_setRule_5 rfl ?_
    refine wg_iload_n C dX0_setRule_6 rfl ?_
    refine wg_put (hp' := (mkH cn (bk.1, bk.2.1, bk.2.2.1, x2, bk.2.2.2.2) st r0 r1 r2 r3 r4 li fo tx co ke rf cp lk fl em tm rd)) C fwX0_setRule_31 rfl (Nat.le_of_ble_eq_true rfl) rfl rfl rfl dX0_setRule_7 ?_
    refine wg_goto (tgt := 40) C dX0_setRule_10 (by decide) ?_
    refine wg_drop (lv' := [none, none, none]) [0, 1, 2] rfl ?_
    exact sjX0_setRule_40 X C cn (bk.1, bk.2.1, bk.2.2.1, x2, bk.2.2.2.2) st r0 r1 r2 r3 r4 li fo tx co ke rf cp lk fl em tm rd  _ h hT
abbrev rX5_rules : Room := { frames := 4, cells := 0, slots := 0, locals := 102 }
theorem iwX5_rules_5 : ∀ w ∈ wsX50, w ∈ wsX5_rules := by decide +kernel
theorem fgX5_rules_10 : FG wsX5_rules RX5 10 5 0 := ⟨RX5, TX5, 8, rfl, by decide, by decide +kernel, iwX5_rules_5⟩
set_option maxRecDepth 100000 in
set_option maxHeartbeats 4000000 in
theorem sX5_rules (cn : Tcn) (bk : Tbk) (st : Tst) (r0 : Tbk) (r1 : Tbk) (r2 : Tbk) (r3 : Tbk) (r4 : Tbk) (li : Tli) (fo : Tfo) (tx : Ttx) (co : Tco) (ke : Tke) (rf : (Nat → Int32)) (cp : Int32) (lk : Tlk) (fl : Tfl) (em : Int32) (tm : Ttm) (rd : Trd) (x1 : Int32) (x2 : Int32) (o : Int32 × Tcn × Tbk × Tst × Tbk × Tbk × Tbk × Tbk × Tbk × Tli) (h : fX5_rules cn bk st r0 r1 r2 r3 r4 li x1 x2 = some o) : Sp yX5_rules wsX5_rules rX5_rules [.ref 0, .int x1, .int x2] (mkH cn bk st r0 r1 r2 r3 r4 li fo tx co ke rf cp lk fl em tm rd) (some (.int o.1)) (mkH o.2.1 o.2.2.1 o.2.2.2.1 o.2.2.2.2.1 o.2.2.2.2.2.1 o.2.2.2.2.2.2.1 o.2.2.2.2.2.2.2.1 o.2.2.2.2.2.2.2.2.1 o.2.2.2.2.2.2.2.2.2 fo tx co ke rf cp lk fl em tm rd) := by
  refine Sp.of (lv := [some (.ref 0), some (.int x1), some (.int x2), none]) RX5 (by decide +kernel) rfl (Nat.le_of_ble_eq_true rfl) rfl ?_
  intro X C hT
  unfold fX5_rules at h
  refine wg_iload_n C dX5_rules_0 rfl ?_
  refine wg_iload_n C dX5_rules_1 rfl ?_
  obtain ⟨q1, e1q, h⟩ := bnd h
  refine wg_callT (n := 2) (As := [.int x1, .int x2]) (st := []) (st' := [.int q1]) C (sX5_isRule cn bk st r0 r1 r2 r3 r4 li fo tx co ke rf cp lk fl em tm rd x1 x2 q1 e1q) gX5_rules_X5_isRule rfl (by decide +kernel) ⟨⟨rfl, rfl⟩, Nat.le_of_ble_eq_true rfl, Nat.le_of_ble_eq_true rfl⟩ rfl rfl (Nat.le_of_ble_eq_true rfl) dX5_rules_2 rfl ?_
  refine wg_if_ne (tgt := 15) C dX5_rules_5 (by decide) (fun c2 => ?_) (fun c2 => ?_)
  · replace h := ifP c2 h
    refine wg_aload_n C dX5_rules_15 rfl ?_
    refine wg_get (v := .ref 1) C fgX5_rules_10 rfl rfl dX5_rules_16 ?_
    refine wg_iload_n C dX5_rules_19 rfl ?_
    obtain ⟨q3, e3q, h⟩ := bnd h
    refine wg_callV (n := 1) (As := [.int x1]) (st := []) (st' := [.int q3]) C (sX0_rule cn bk st r0 r1 r2 r3 r4 li fo tx co ke rf cp lk fl em tm rd x1 q3 e3q) gX5_rules_X0_rule rfl (by decide +kernel) ⟨⟨rfl, rfl⟩, Nat.le_of_ble_eq_true rfl, Nat.le_of_ble_eq_true rfl⟩ rfl rfl rfl rfl (Nat.le_of_ble_eq_true rfl) dX5_rules_20 rfl ?_
    refine wg_istore_n (lv' := [some (.ref 0), some (.int x1), some (.int x2), some (.int q3)]) C dX5_rules_23 (Nat.le_of_ble_eq_true rfl) rfl ?_
    refine wg_aload_n C dX5_rules_24 rfl ?_
    obtain ⟨q4, e4q, h⟩ := bnd h
    refine wg_callV (n := 0) (As := []) (st := []) (st' := []) C (sX5_keepState cn bk st r0 r1 r2 r3 r4 li fo tx co ke rf cp lk fl em tm rd  q4 e4q) gX5_rules_X5_keepState rfl (by decide +kernel) ⟨⟨rfl, rfl⟩, Nat.le_of_ble_eq_true rfl, Nat.le_of_ble_eq_true rfl⟩ rfl rfl rfl rfl (Nat.le_of_ble_eq_true rfl) dX5_rules_25 rfl ?_
    refine wg_aload_n C dX5_rules_28 rfl ?_
    refine wg_get (v := .ref 1) C fgX5_rules_10 rfl rfl dX5_rules_29 ?_
    refine wg_iload_n C dX5_rules_32 rfl ?_
    refine wg_iload_n C dX5_rules_33 rfl ?_
    obtain ⟨q5, e5q, h⟩ := bnd h
    refine wg_callV (n := 2) (As := [.int x1, .int x2]) (st := []) (st' := []) C (sX0_setRule cn bk q4.1 q4.2.1 q4.2.2.1 q4.2.2.2.1 q4.2.2.2.2.1 q4.2.2.2.2.2.1 q4.2.2.2.2.2.2 fo tx co ke rf cp lk fl em tm rd x1 x2 q5 e5q) gX5_rules_X0_setRule rfl (by decide +kernel) ⟨⟨rfl, rfl⟩, Nat.le_of_ble_eq_true rfl, Nat.le_of_ble_eq_true rfl⟩ rfl rfl rfl rfl (Nat.le_of_ble_eq_true rfl) dX5_rules_34 rfl ?_
    refine wg_iload_n C dX5_rules_37 rfl ?_
    obtain rfl := Option.some.inj h
    exact wg_iret C hT dX5_rules_38
  · replace h := ifN c2 h
    refine wg_aload_n C dX5_rules_8 rfl ?_
    refine wg_bipush (v := -2) C dX5_rules_9 (by decide) ?_
    obtain ⟨q6, e6q, h⟩ := bnd h
    refine wg_callV (n := 1) (As := [.int (-2 : Int32)]) (st := []) (st' := [.int q6.1]) C (sX5_refuseBad cn bk st r0 r1 r2 r3 r4 li fo tx co ke rf cp lk fl em tm rd (-2 : Int32) q6 e6q) gX5_rules_X5_refuseBad rfl (by decide +kernel) ⟨⟨rfl, rfl⟩, Nat.le_of_ble_eq_true rfl, Nat.le_of_ble_eq_true rfl⟩ rfl rfl rfl rfl (Nat.le_of_ble_eq_true rfl) dX5_rules_11 rfl ?_
    obtain rfl := Option.some.inj h
    exact wg_iret C hT dX5_rules_14
abbrev rX5_at : Room := { frames := 3, cells := 0, slots := 0, locals := 64 }
theorem iwX5_at_5 : ∀ w ∈ wsX50, w ∈ wsX5_at := by decide +kernel
theorem fgX5_at_10 : FG wsX5_at RX5 10 5 0 := ⟨RX5, TX5, 8, rfl, by decide, by decide +kernel, iwX5_at_5⟩
set_option maxRecDepth 100000 in
set_option maxHeartbeats 4000000 in
theorem sjX5_at_18 (X : CX) (C : Ok X RX5 cX5_at wsX5_at rX5_at) (cn : Tcn) (bk : Tbk) (st : Tst) (r0 : Tbk) (r1 : Tbk) (r2 : Tbk) (r3 : Tbk) (r4 : Tbk) (li : Tli) (fo : Tfo) (tx : Ttx) (co : Tco) (ke : Tke) (rf : (Nat → Int32)) (cp : Int32) (lk : Tlk) (fl : Tfl) (em : Int32) (tm : Ttm) (rd : Trd)  (o : Int32 × Tcn) (h : jX5_at_18 cn bk  = some o) (hT : Rt X (some .int) (some (.int o.1)) (mkH o.2 bk st r0 r1 r2 r3 r4 li fo tx co ke rf cp lk fl em tm rd)) : Wg X 18 [some (.ref 0), none, none] [] (mkH cn bk st r0 r1 r2 r3 r4 li fo tx co ke rf cp lk fl em tm rd) := by
  unfold jX5_at_18 at h
  refine wg_aload_n C dX5_at_18 rfl ?_
  refine wg_sipush (v := -20000) C dX5_at_19 (by decide) ?_
  obtain ⟨q3, e3q, h⟩ := bnd h
  refine wg_callV (n := 1) (As := [.int (-20000 : Int32)]) (st := []) (st' := [.int q3.1]) C (sX5_refuseBad cn bk st r0 r1 r2 r3 r4 li fo tx co ke rf cp lk fl em tm rd (-20000 : Int32) q3 e3q) gX5_at_X5_refuseBad rfl (by decide +kernel) ⟨⟨rfl, rfl⟩, Nat.le_of_ble_eq_true rfl, Nat.le_of_ble_eq_true rfl⟩ rfl rfl rfl rfl (Nat.le_of_ble_eq_true rfl) dX5_at_22 rfl ?_
  obtain rfl := Option.some.inj h
  exact wg_iret C hT dX5_at_25
set_option maxRecDepth 100000 in
set_option maxHeartbeats 4000000 in
theorem sX5_at (cn : Tcn) (bk : Tbk) (st : Tst) (r0 : Tbk) (r1 : Tbk) (r2 : Tbk) (r3 : Tbk) (r4 : Tbk) (li : Tli) (fo : Tfo) (tx : Ttx) (co : Tco) (ke : Tke) (rf : (Nat → Int32)) (cp : Int32) (lk : Tlk) (fl : Tfl) (em : Int32) (tm : Ttm) (rd : Trd) (x1 : Int32) (x2 : Int32) (o : Int32 × Tcn) (h : fX5_at cn bk x1 x2 = some o) : Sp yX5_at wsX5_at rX5_at [.ref 0, .int x1, .int x2] (mkH cn bk st r0 r1 r2 r3 r4 li fo tx co ke rf cp lk fl em tm rd) (some (.int o.1)) (mkH o.2 bk st r0 r1 r2 r3 r4 li fo tx co ke rf cp lk fl em tm rd) := by
  refine Sp.of (lv := [some (.ref 0), some (.int x1), some (.int x2)]) RX5 (by decide +kernel) rfl (Nat.le_of_ble_eq_true rfl) rfl ?_
  intro X C hT
  unfold fX5_at at h
  refine wg_aload_n C dX5_at_0 rfl ?_
  refine wg_get (v := .ref 1) C fgX5_at_10 rfl rfl dX5_at_1 ?_
  refine wg_iload_n C dX5_at_4 rfl ?_
  obtain ⟨q1, e1q, h⟩ := bnd h
  refine wg_callV (n := 1) (As := [.int x1]) (st := []) (st' := [.int q1]) C (sX0_has cn bk st r0 r1 r2 r3 r4 li fo tx co ke rf cp lk fl em tm rd x1 q1 e1q) gX5_at_X0_has rfl (by decide +kernel) ⟨⟨rfl, rfl⟩, Nat.le_of_ble_eq_true rfl, Nat.le_of_ble_eq_true rfl⟩ rfl rfl rfl rfl (Nat.le_of_ble_eq_true rfl) dX5_at_5 rfl ?_
  refine wg_if_eq (tgt := 18) C dX5_at_8 (by decide) (fun c2 => ?_) (fun c2 => ?_)
  · replace h := ifP c2 h
    refine wg_drop (lv' := [some (.ref 0), none, none]) [1, 2] rfl ?_
    exact sjX5_at_18 X C cn bk st r0 r1 r2 r3 r4 li fo tx co ke rf cp lk fl em tm rd  _ h hT
  · replace h := ifN c2 h
    refine wg_iload_n C dX5_at_11 rfl ?_
    obtain ⟨q4, e4q, h⟩ := bnd h
    refine wg_callT (n := 1) (As := [.int x2]) (st := []) (st' := [.int q4]) C (sX5_isMember cn bk st r0 r1 r2 r3 r4 li fo tx co ke rf cp lk fl em tm rd x2 q4 e4q) gX5_at_X5_isMember rfl (by decide +kernel) ⟨⟨rfl, rfl⟩, Nat.le_of_ble_eq_true rfl, Nat.le_of_ble_eq_true rfl⟩ rfl rfl (Nat.le_of_ble_eq_true rfl) dX5_at_12 rfl ?_
    refine wg_if_ne (tgt := 26) C dX5_at_15 (by decide) (fun c5 => ?_) (fun c5 => ?_)
    · replace h := ifP c5 h
      refine wg_aload_n C dX5_at_26 rfl ?_
      refine wg_get (v := .ref 1) C fgX5_at_10 rfl rfl dX5_at_27 ?_
      refine wg_iload_n C dX5_at_30 rfl ?_
      refine wg_iload_n C dX5_at_31 rfl ?_
      obtain ⟨q6, e6q, h⟩ := bnd h
      refine wg_callV (n := 2) (As := [.int x1, .int x2]) (st := []) (st' := [.int q6]) C (sX0_member cn bk st r0 r1 r2 r3 r4 li fo tx co ke rf cp lk fl em tm rd x1 x2 q6 e6q) gX5_at_X0_member rfl (by decide +kernel) ⟨⟨rfl, rfl⟩, Nat.le_of_ble_eq_true rfl, Nat.le_of_ble_eq_true rfl⟩ rfl rfl rfl rfl (Nat.le_of_ble_eq_true rfl) dX5_at_32 rfl ?_
      obtain rfl := Option.some.inj h
      exact wg_iret C hT dX5_at_35
    · replace h := ifN c5 h
      refine wg_drop (lv' := [some (.ref 0), none, none]) [1, 2] rfl ?_
      exact sjX5_at_18 X C cn bk st r0 r1 r2 r3 r4 li fo tx co ke rf cp lk fl em tm rd  _ h hT
