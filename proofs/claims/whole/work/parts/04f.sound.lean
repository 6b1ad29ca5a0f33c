abbrev rX6_rules : Room := { frames := 2, cells := 0, slots := 0, locals := 42 }
theorem iwX6_rules_6 : ∀ w ∈ wsX60, w ∈ wsX6_rules := by decide +kernel
theorem fgX6_rules_13 : FG wsX6_rules RX6 13 6 2 := ⟨RX6, TX6, 21, rfl, by decide, by decide +kernel, iwX6_rules_6⟩
set_option maxRecDepth 100000 in
set_option maxHeartbeats 4000000 in
theorem sjX6_rules_52 (X : CX) (C : Ok X RX6 cX6_rules wsX6_rules rX6_rules) (cn : Tcn) (bk : Tbk) (st : Tst) (r0 : Tbk) (r1 : Tbk) (r2 : Tbk) (r3 : Tbk) (r4 : Tbk) (li : Tli) (fo : Tfo) (tx : Ttx) (co : Tco) (ke : Tke) (rf : (Nat → Int32)) (cp : Int32) (lk : Tlk) (fl : Tfl) (em : Int32) (tm : Ttm) (rd : Trd) (x1 : Int32) (x2 : Int32) (y0 : Int32) (o : Int32 × Tco × Tke × (Nat → Int32)) (h : jX6_rules_52 co ke rf x1 x2 y0 = some o) (hT : Rt X (some .int) (some (.int o.1)) (mkH cn bk st r0 r1 r2 r3 r4 li fo tx o.2.1 o.2.2.1 o.2.2.2 cp lk fl em tm rd)) : Wg X 52 [some (.ref 36), some (.int x1), some (.int x2), none, none] [.int y0] (mkH cn bk st r0 r1 r2 r3 r4 li fo tx co ke rf cp lk fl em tm rd) := by
  unfold jX6_rules_52 at h
  refine wg_istore_n (lv' := [some (.ref 36), some (.int x1), some (.int x2), some (.int y0), none]) C dX6_rules_52 (Nat.le_of_ble_eq_true rfl) rfl ?_
  refine wg_iload_n C dX6_rules_53 rfl ?_
  refine wg_if_ne (tgt := 62) C dX6_rules_54 (by decide) (fun c5 => ?_) (fun c5 => ?_)
  · replace h := ifP c5 h
    refine wg_aload_n C dX6_rules_62 rfl ?_
    obtain ⟨q6, e6q, h⟩ := bnd h
    refine wg_callV (n := 0) (As := []) (st := []) (st' := []) C (sX6_leavesState cn bk st r0 r1 r2 r3 r4 li fo tx co ke rf cp lk fl em tm rd  q6 e6q) gX6_rules_X6_leavesState rfl (by decide +kernel) ⟨⟨rfl, rfl⟩, Nat.le_of_ble_eq_true rfl, Nat.le_of_ble_eq_true rfl⟩ rfl rfl rfl rfl (Nat.le_of_ble_eq_true rfl) dX6_rules_63 rfl ?_
    refine wg_aload_n C dX6_rules_66 rfl ?_
    refine wg_get (v := .ref 38) C fgX6_rules_13 rfl rfl dX6_rules_67 ?_
    refine wg_iload_n C dX6_rules_70 rfl ?_
    obtain ⟨g7, h⟩ := gdP h
    refine wg_iald (f := co.2.1) (n := 6) C rfl g7 dX6_rules_71 ?_
    refine wg_istore (lv' := [some (.ref 36), some (.int x1), some (.int x2), some (.int y0), some (.int (co.2.1 (x1).toNatClampNeg))]) C dX6_rules_72 (Nat.le_of_ble_eq_true rfl) rfl ?_
    refine wg_aload_n C dX6_rules_74 rfl ?_
    refine wg_get (v := .ref 38) C fgX6_rules_13 rfl rfl dX6_rules_75 ?_
    refine wg_iload_n C dX6_rules_78 rfl ?_
    refine wg_iload_n C dX6_rules_79 rfl ?_
    obtain ⟨g8, h⟩ := gdP h
    refine wg_iast (f := co.2.1) (n := 6) (hp' := (mkH cn bk st r0 r1 r2 r3 r4 li fo tx (co.1, (upd co.2.1 (x1).toNatClampNeg x2), co.2.2) q6 rf cp lk fl em tm rd)) C rfl g8 rfl dX6_rules_80 ?_
    refine wg_iload C dX6_rules_81 rfl ?_
    obtain rfl := Option.some.inj h
    exact wg_iret C hT dX6_rules_83
  · replace h := ifN c5 h
    refine wg_aload_n C dX6_rules_57 rfl ?_
    obtain ⟨q9, e9q, h⟩ := bnd h
    refine wg_callV (n := 0) (As := []) (st := []) (st' := [.int q9.1]) C (sX6_bad cn bk st r0 r1 r2 r3 r4 li fo tx co ke rf cp lk fl em tm rd  q9 e9q) gX6_rules_X6_bad rfl (by decide +kernel) ⟨⟨rfl, rfl⟩, Nat.le_of_ble_eq_true rfl, Nat.le_of_ble_eq_true rfl⟩ rfl rfl rfl rfl (Nat.le_of_ble_eq_true rfl) dX6_rules_58 rfl ?_
    obtain rfl := Option.some.inj h
    exact wg_iret C hT dX6_rules_61
set_option maxRecDepth 100000 in
set_option maxHeartbeats 4000000 in
theorem sjX6_rules_51 (X : CX) (C : Ok X RX6 cX6_rules wsX6_rules rX6_rules) (cn : Tcn) (bk : Tbk) (st : Tst) (r0 : Tbk) (r1 : Tbk) (r2 : Tbk) (r3 : Tbk) (r4 : Tbk) (li : Tli) (fo : Tfo) (tx : Ttx) (co : Tco) (ke : Tke) (rf : (Nat → Int32)) (cp : Int32) (lk : Tlk) (fl : Tfl) (em : Int32) (tm : Ttm) (rd : Trd) (x1 : Int32) (x2 : Int32) (o : Int32 × Tco × Tke × (Nat → Int32)) (h : jX6_rules_51 co ke rf x1 x2 = some o) (hT : Rt X (some .int) (some (.int o.1)) (mkH cn bk st r0 r1 r2 r3 r4 li fo tx o.2.1 o.2.2.1 o.2.2.2 cp lk fl em tm rd)) : Wg X 51 [some (.ref 36), some (.int x1), some (.int x2), none, none] [] (mkH cn bk st r0 r1 r2 r3 r4 li fo tx co ke rf cp lk fl em tm rd) := by
  unfold jX6_rules_51 at h
  refine wg_iconst (v := 0) C dX6_rules_51 (by decide) ?_
  exact sjX6_rules_52 X C cn bk st r0 r1 r2 r3 r4 li fo tx co ke rf cp lk fl em tm rd x1 x2 (0 : Int32) _ h hT
set_option maxRecDepth 100000 in
set_option maxHeartbeats 4000000 in
theorem sX6_rules (cn : Tcn) (bk : Tbk) (st : Tst) (r0 : Tbk) (r1 : Tbk) (r2 : Tbk) (r3 : Tbk) (r4 : Tbk) (li : Tli) (fo : Tfo) (tx : Ttx) (co : Tco) (ke : Tke) (rf : (Nat → Int32)) (cp : Int32) (lk : Tlk) (fl : Tfl) (em : Int32) (tm : Ttm) (rd : Trd) (x1 : Int32) (x2 : Int32) (o : Int32 × Tco × Tke × (Nat → Int32)) (h : fX6_rules co ke rf x1 x2 = some o) : Sp yX6_rules wsX6_rules rX6_rules [.ref 36, .int x1, .int x2] (mkH cn bk st r0 r1 r2 r3 r4 li fo tx co ke rf cp lk fl em tm rd) (some (.int o.1)) (mkH cn bk st r0 r1 r2 r3 r4 li fo tx o.2.1 o.2.2.1 o.2.2.2 cp lk fl em tm rd) := by
  refine Sp.of (lv := [some (.ref 36), some (.int x1), some (.int x2), none, none]) RX6 (by decide +kernel) rfl (Nat.le_of_ble_eq_true rfl) rfl ?_
  intro X C hT
  unfold fX6_rules at h
  refine wg_iload_n C dX6_rules_0 rfl ?_
  refine wg_iconst (v := 4) C dX6_rules_1 (by decide) ?_
  refine wg_icmp_ne (tgt := 15) C dX6_rules_2 (by decide) (fun c1 => ?_) (fun c1 => ?_)
  · replace h := ifP c1 h
    refine wg_iload_n C dX6_rules_15 rfl ?_
    refine wg_iconst (v := 5) C dX6_rules_16 (by decide) ?_
    refine wg_icmp_ne (tgt := 30) C dX6_rules_17 (by decide) (fun c2 => ?_) (fun c2 => ?_)
    · replace h := ifP c2 h
      refine wg_iload_n C dX6_rules_30 rfl ?_
      obtain ⟨q3, e3q, h⟩ := bnd h
      refine wg_callT (n := 1) (As := [.int x1]) (st := []) (st' := [.int q3]) C (sX6_isMember cn bk st r0 r1 r2 r3 r4 li fo tx co ke rf cp lk fl em tm rd x1 q3 e3q) gX6_rules_X6_isMember rfl (by decide +kernel) ⟨⟨rfl, rfl⟩, Nat.le_of_ble_eq_true rfl, Nat.le_of_ble_eq_true rfl⟩ rfl rfl (Nat.le_of_ble_eq_true rfl) dX6_rules_31 rfl ?_
      refine wg_if_eq (tgt := 51) C dX6_rules_34 (by decide) (fun c4 => ?_) (fun c4 => ?_)
      · replace h := ifP c4 h
        exact sjX6_rules_51 X C cn bk st r0 r1 r2 r3 r4 li fo tx co ke rf cp lk fl em tm rd x1 x2 _ h hT
      · replace h := ifN c4 h
        refine wg_iload_n C dX6_rules_37 rfl ?_
        refine wg_iconst (v := 0) C dX6_rules_38 (by decide) ?_
        refine wg_bipush (v := 80) C dX6_rules_39 (by decide) ?_
        obtain ⟨q10, e10q, h⟩ := bnd h
        refine wg_callT (n := 3) (As := [.int x2, .int (0 : Int32), .int (80 : Int32)]) (st := []) (st' := [.int q10]) C (sX6_in cn bk st r0 r1 r2 r3 r4 li fo tx co ke rf cp lk fl em tm rd x2 (0 : Int32) (80 : Int32) q10 e10q) gX6_rules_X6_in rfl (by decide +kernel) ⟨⟨rfl, rfl⟩, Nat.le_of_ble_eq_true rfl, Nat.le_of_ble_eq_true rfl⟩ rfl rfl (Nat.le_of_ble_eq_true rfl) dX6_rules_41 rfl ?_
        refine wg_if_eq (tgt := 51) C dX6_rules_44 (by decide) (fun c11 => ?_) (fun c11 => ?_)
        · replace h := ifP c11 h
          exact sjX6_rules_51 X C cn bk st r0 r1 r2 r3 r4 li fo tx co ke rf cp lk fl em tm rd x1 x2 _ h hT
        · replace h := ifN c11 h
          refine wg_iconst (v := 1) C dX6_rules_47 (by decide) ?_
          refine wg_goto (tgt := 52) C dX6_rules_48 (by decide) ?_
          exact sjX6_rules_52 X C cn bk st r0 r1 r2 r3 r4 li fo tx co ke rf cp lk fl em tm rd x1 x2 (1 : Int32) _ h hT
    · replace h := ifN c2 h
      refine wg_iload_n C dX6_rules_20 rfl ?_
      refine wg_iconst (v := 1) C dX6_rules_21 (by decide) ?_
      refine wg_bipush (v := 12) C dX6_rules_22 (by decide) ?_
      obtain ⟨q12, e12q, h⟩ := bnd h
      refine wg_callT (n := 3) (As := [.int x2, .int (1 : Int32), .int (12 : Int32)]) (st := []) (st' := [.int q12]) C (sX6_in cn bk st r0 r1 r2 r3 r4 li fo tx co ke rf cp lk fl em tm rd x2 (1 : Int32) (12 : Int32) q12 e12q) gX6_rules_X6_in rfl (by decide +kernel) ⟨⟨rfl, rfl⟩, Nat.le_of_ble_eq_true rfl, Nat.le_of_ble_eq_true rfl⟩ rfl rfl (Nat.le_of_ble_eq_true rfl) dX6_rules_24 rfl ?_
      refine wg_goto (tgt := 52) C dX6_rules_27 (by decide) ?_
      exact sjX6_rules_52 X C cn bk st r0 r1 r2 r3 r4 li fo tx co ke rf cp lk fl em tm rd x1 x2 q12 _ h hT
  · replace h := ifN c1 h
    refine wg_iload_n C dX6_rules_5 rfl ?_
    refine wg_iconst (v := 0) C dX6_rules_6 (by decide) ?_
    refine wg_bipush (v := 9) C dX6_rules_7 (by decide) ?_
    obtain ⟨q13, e13q, h⟩ := bnd h
    refine wg_callT (n := 3) (As := [.int x2, .int (0 : Int32), .int (9 : Int32)]) (st := []) (st' := [.int q13]) C (sX6_in cn bk st r0 r1 r2 r3 r4 li fo tx co ke rf cp lk fl em tm rd x2 (0 : Int32) (9 : Int32) q13 e13q) gX6_rules_X6_in rfl (by decide +kernel) ⟨⟨rfl, rfl⟩, Nat.le_of_ble_eq_true rfl, Nat.le_of_ble_eq_true rfl⟩ rfl rfl (Nat.le_of_ble_eq_true rfl) dX6_rules_9 rfl ?_
    refine wg_goto (tgt := 52) C dX6_rules_12 (by decide) ?_
    exact sjX6_rules_52 X C cn bk st r0 r1 r2 r3 r4 li fo tx co ke rf cp lk fl em tm rd x1 x2 q13 _ h hT
abbrev rX6_at : Room := { frames := 2, cells := 0, slots := 0, locals := 43 }
theorem iwX6_at_6 : ∀ w ∈ wsX60, w ∈ wsX6_at := by decide +kernel
theorem fgX6_at_16 : FG wsX6_at RX6 16 6 3 := ⟨RX6, TX6, 21, rfl, by decide, by decide +kernel, iwX6_at_6⟩
set_option maxRecDepth 100000 in
set_option maxHeartbeats 4000000 in
theorem sjX6_at_32 (X : CX) (C : Ok X RX6 cX6_at wsX6_at rX6_at) (cn : Tcn) (bk : Tbk) (st : Tst) (r0 : Tbk) (r1 : Tbk) (r2 : Tbk) (r3 : Tbk) (r4 : Tbk) (li : Tli) (fo : Tfo) (tx : Ttx) (co : Tco) (ke : Tke) (rf : (Nat → Int32)) (cp : Int32) (lk : Tlk) (fl : Tfl) (em : Int32) (tm : Ttm) (rd : Trd) (y0 : Int32) (o : Int32 × (Nat → Int32)) (h : jX6_at_32 co rf y0 = some o) (hT : Rt X (some .int) (some (.int o.1)) (mkH cn bk st r0 r1 r2 r3 r4 li fo tx co ke o.2 cp lk fl em tm rd)) : Wg X 32 [none, none, none] [.int y0] (mkH cn bk st r0 r1 r2 r3 r4 li fo tx co ke rf cp lk fl em tm rd) := by
  unfold jX6_at_32 at h
  obtain rfl := Option.some.inj h
  exact wg_iret C hT dX6_at_32
set_option maxRecDepth 100000 in
set_option maxHeartbeats 4000000 in
theorem sjX6_at_28 (X : CX) (C : Ok X RX6 cX6_at wsX6_at rX6_at) (cn : Tcn) (bk : Tbk) (st : Tst) (r0 : Tbk) (r1 : Tbk) (r2 : Tbk) (r3 : Tbk) (r4 : Tbk) (li : Tli) (fo : Tfo) (tx : Ttx) (co : Tco) (ke : Tke) (rf : (Nat → Int32)) (cp : Int32) (lk : Tlk) (fl : Tfl) (em : Int32) (tm : Ttm) (rd : Trd)  (o : Int32 × (Nat → Int32)) (h : jX6_at_28 co rf  = some o) (hT : Rt X (some .int) (some (.int o.1)) (mkH cn bk st r0 r1 r2 r3 r4 li fo tx co ke o.2 cp lk fl em tm rd)) : Wg X 28 [some (.ref 36), none, none] [] (mkH cn bk st r0 r1 r2 r3 r4 li fo tx co ke rf cp lk fl em tm rd) := by
  unfold jX6_at_28 at h
  refine wg_aload_n C dX6_at_28 rfl ?_
  obtain ⟨q3, e3q, h⟩ := bnd h
  refine wg_callV (n := 0) (As := []) (st := []) (st' := [.int q3.1]) C (sX6_badly cn bk st r0 r1 r2 r3 r4 li fo tx co ke rf cp lk fl em tm rd  q3 e3q) gX6_at_X6_badly rfl (by decide +kernel) ⟨⟨rfl, rfl⟩, Nat.le_of_ble_eq_true rfl, Nat.le_of_ble_eq_true rfl⟩ rfl rfl rfl rfl (Nat.le_of_ble_eq_true rfl) dX6_at_29 rfl ?_
  refine wg_drop (lv' := [none, none, none]) [0] rfl ?_
  exact sjX6_at_32 X C cn bk st r0 r1 r2 r3 r4 li fo tx co ke q3.2 cp lk fl em tm rd q3.1 _ h hT
set_option maxRecDepth 100000 in
set_option maxHeartbeats 4000000 in
theorem sX6_at (cn : Tcn) (bk : Tbk) (st : Tst) (r0 : Tbk) (r1 : Tbk) (r2 : Tbk) (r3 : Tbk) (r4 : Tbk) (li : Tli) (fo : Tfo) (tx : Ttx) (co : Tco) (ke : Tke) (rf : (Nat → Int32)) (cp : Int32) (lk : Tlk) (fl : Tfl) (em : Int32) (tm : Ttm) (rd : Trd) (x1 : Int32) (x2 : Int32) (o : Int32 × (Nat → Int32)) (h : fX6_at co rf x1 x2 = some o) : Sp yX6_at wsX6_at rX6_at [.ref 36, .int x1, .int x2] (mkH cn bk st r0 r1 r2 r3 r4 li fo tx co ke rf cp lk fl em tm rd) (some (.int o.1)) (mkH cn bk st r0 r1 r2 r3 r4 li fo tx co ke o.2 cp lk fl em tm rd) := by
  refine Sp.of (lv := [some (.ref 36), some (.int x1), some (.int x2)]) RX6 (by decide +kernel) rfl (Nat.le_of_ble_eq_true rfl) rfl ?_
  intro X C hT
  unfold fX6_at at h
  refine wg_aload_n C dX6_at_0 rfl ?_
  refine wg_iload_n C dX6_at_1 rfl ?_
  obtain ⟨q1, e1q, h⟩ := bnd h
  refine wg_callV (n := 1) (As := [.int x1]) (st := []) (st' := [.int q1]) C (sX6_isDay cn bk st r0 r1 r2 r3 r4 li fo tx co ke rf cp lk fl em tm rd x1 q1 e1q) gX6_at_X6_isDay rfl (by decide +kernel) ⟨⟨rfl, rfl⟩, Nat.le_of_ble_eq_true rfl, Nat.le_of_ble_eq_true rfl⟩ rfl rfl rfl rfl (Nat.le_of_ble_eq_true rfl) dX6_at_2 rfl ?_
  refine wg_if_eq (tgt := 28) C dX6_at_5 (by decide) (fun c2 => ?_) (fun c2 => ?_)
  · replace h := ifP c2 h
    refine wg_drop (lv' := [some (.ref 36), none, none]) [1, 2] rfl ?_
    exact sjX6_at_28 X C cn bk st r0 r1 r2 r3 r4 li fo tx co ke rf cp lk fl em tm rd  _ h hT
  · replace h := ifN c2 h
    refine wg_iload_n C dX6_at_8 rfl ?_
    obtain ⟨q4, e4q, h⟩ := bnd h
    refine wg_callT (n := 1) (As := [.int x2]) (st := []) (st' := [.int q4]) C (sX6_isMember cn bk st r0 r1 r2 r3 r4 li fo tx co ke rf cp lk fl em tm rd x2 q4 e4q) gX6_at_X6_isMember rfl (by decide +kernel) ⟨⟨rfl, rfl⟩, Nat.le_of_ble_eq_true rfl, Nat.le_of_ble_eq_true rfl⟩ rfl rfl (Nat.le_of_ble_eq_true rfl) dX6_at_9 rfl ?_
    refine wg_if_eq (tgt := 28) C dX6_at_12 (by decide) (fun c5 => ?_) (fun c5 => ?_)
    · replace h := ifP c5 h
      refine wg_drop (lv' := [some (.ref 36), none, none]) [1, 2] rfl ?_
      exact sjX6_at_28 X C cn bk st r0 r1 r2 r3 r4 li fo tx co ke rf cp lk fl em tm rd  _ h hT
    · replace h := ifN c5 h
      refine wg_aload_n C dX6_at_15 rfl ?_
      refine wg_get (v := .ref 39) C fgX6_at_16 rfl rfl dX6_at_16 ?_
      refine wg_iconst (v := 4) C dX6_at_19 (by decide) ?_
      refine wg_iload_n C dX6_at_20 rfl ?_
      refine wg_imul C dX6_at_21 ?_
      refine wg_iload_n C dX6_at_22 rfl ?_
      refine wg_iadd C dX6_at_23 ?_
      obtain ⟨g6, h⟩ := gdP h
      refine wg_iald (f := co.2.2) (n := 200) C rfl g6 dX6_at_24 ?_
      refine wg_goto (tgt := 32) C dX6_at_25 (by decide) ?_
      refine wg_drop (lv' := [none, none, none]) [0, 1, 2] rfl ?_
      exact sjX6_at_32 X C cn bk st r0 r1 r2 r3 r4 li fo tx co ke rf cp lk fl em tm rd (co.2.2 ((((4 : Int32) * x1) + x2)).toNatClampNeg) _ h hT
abbrev rX6_isNoted : Room := { frames := 0, cells := 0, slots := 0, locals := 0 }
set_option maxRecDepth 100000 in
set_option maxHeartbeats 4000000 in
theorem sjX6_isNoted_12 (X : CX) (C : Ok X RX6 cX6_isNoted wsX6_isNoted rX6_isNoted) (cn : Tcn) (bk : Tbk) (st : Tst) (r0 : Tbk) (r1 : Tbk) (r2 : Tbk) (r3 : Tbk) (r4 : Tbk) (li : Tli) (fo : Tfo) (tx : Ttx) (co : Tco) (ke : Tke) (rf : (Nat → Int32)) (cp : Int32) (lk : Tlk) (fl : Tfl) (em : Int32) (tm : Ttm) (rd : Trd) (y0 : Int32) (o : Int32) (h : jX6_isNoted_12  y0 = some o) (hT : Rt X (some .boolean) (some (.int o)) (mkH cn bk st r0 r1 r2 r3 r4 li fo tx co ke rf cp lk fl em tm rd)) : Wg X 12 [none] [.int y0] (mkH cn bk st r0 r1 r2 r3 r4 li fo tx co ke rf cp lk fl em tm rd) := by
  unfold jX6_isNoted_12 at h
  obtain ⟨g2, h⟩ := gdP h
  obtain rfl := Option.some.inj h
  exact wg_zret C hT (of_decide_eq_true g2) dX6_isNoted_12
set_option maxRecDepth 100000 in
set_option maxHeartbeats 4000000 in
theorem sX6_isNoted (cn : Tcn) (bk : Tbk) (st : Tst) (r0 : Tbk) (r1 : Tbk) (r2 : Tbk) (r3 : Tbk) (r4 : Tbk) (li : Tli) (fo : Tfo) (tx : Ttx) (co : Tco) (ke : Tke) (rf : (Nat → Int32)) (cp : Int32) (lk : Tlk) (fl : Tfl) (em : Int32) (tm : Ttm) (rd : Trd) (x0 : Int32) (o : Int32) (h : fX6_isNoted  x0 = some o) : Sp yX6_isNoted wsX6_isNoted rX6_isNoted [.int x0] (mkH cn bk st r0 r1 r2 r3 r4 li fo tx co ke rf cp lk fl em tm rd) (some (.int o)) (mkH cn bk st r0 r1 r2 r3 r4 li fo tx co ke rf cp lk fl em tm rd) := by
  refine Sp.of (lv := [some (.int x0)]) RX6 (by decide +kernel) rfl (Nat.le_of_ble_eq_true rfl) rfl ?_
  intro X C hT
  unfold fX6_isNoted at h
  refine wg_iload_n C dX6_isNoted_0 rfl ?_
  refine wg_sipush (v := -10000) C dX6_isNoted_1 (by decide) ?_
  refine wg_icmp_eq (tgt := 11) C dX6_isNoted_4 (by decide) (fun c1 => ?_) (fun c1 => ?_)
  · replace h := ifP c1 h
    refine wg_iconst (v := 0) C dX6_isNoted_11 (by decide) ?_
    refine wg_drop (lv' := [none]) [0] rfl ?_
    exact sjX6_isNoted_12 X C cn bk st r0 r1 r2 r3 r4 li fo tx co ke rf cp lk fl em tm rd (0 : Int32) _ h hT
  · replace h := ifN c1 h
    refine wg_iconst (v := 1) C dX6_isNoted_7 (by decide) ?_
    refine wg_goto (tgt := 12) C dX6_isNoted_8 (by decide) ?_
    refine wg_drop (lv' := [none]) [0] rfl ?_
    exact sjX6_isNoted_12 X C cn bk st r0 r1 r2 r3 r4 li fo tx co ke rf cp lk fl em tm rd (1 : Int32) _ h hT
abbrev rX6_value : Room := { frames := 0, cells := 0, slots := 0, locals := 0 }
set_option maxRecDepth 100000 in
set_option maxHeartbeats 4000000 in
theorem sX6_value (cn : Tcn) (bk : Tbk) (st : Tst) (r0 : Tbk) (r1 : Tbk) (r2 : Tbk) (r3 : Tbk) (r4 : Tbk) (li : Tli) (fo : Tfo) (tx : Ttx) (co : Tco) (ke : Tke) (rf : (Nat → Int32)) (cp : Int32) (lk : Tlk) (fl : Tfl) (em : Int32) (tm : Ttm) (rd : Trd) (x0 : Int32) (o : UInt32) (h : fX6_value  x0 = some o) : Sp yX6_value wsX6_value rX6_value [.int x0] (mkH cn bk st r0 r1 r2 r3 r4 li fo tx co ke rf cp lk fl em tm rd) (some (.float o)) (mkH cn bk st r0 r1 r2 r3 r4 li fo tx co ke rf cp lk fl em tm rd) := by
  refine Sp.of (lv := [some (.int x0)]) RX6 (by decide +kernel) rfl (Nat.le_of_ble_eq_true rfl) rfl ?_
  intro X C hT
  unfold fX6_value at h
  refine wg_iload_n C dX6_value_0 rfl ?_
  refine wg_i2f C dX6_value_1 ?_
  refine wg_ldcf (v := 1092616192) C (by decide +kernel) dX6_value_2 ?_
  obtain ⟨g1, h⟩ := gdP h
  refine wg_fdiv C dX6_value_4 g1 ?_
  obtain rfl := Option.some.inj h
  exact wg_fret C hT dX6_value_5
abbrev rX6_distanceOf : Room := { frames := 1, cells := 0, slots := 0, locals := 20 }
theorem iwX6_distanceOf_6 : ∀ w ∈ wsX60, w ∈ wsX6_distanceOf := by decide +kernel
theorem fgX6_distanceOf_13 : FG wsX6_distanceOf RX6 13 6 2 := ⟨RX6, TX6, 21, rfl, by decide, by decide +kernel, iwX6_distanceOf_6⟩
theorem fgX6_distanceOf_16 : FG wsX6_distanceOf RX6 16 6 3 := ⟨RX6, TX6, 21, rfl, by decide, by decide +kernel, iwX6_distanceOf_6⟩
theorem fgX6_distanceOf_102 : FG wsX6_distanceOf RX6 102 6 6 := ⟨RX6, TX6, 21, rfl, by decide, by decide +kernel, iwX6_distanceOf_6⟩
theorem fwX6_distanceOf_102 : FW wsX6_distanceOf RX6 102 6 6 .boolean := ⟨RX6, TX6, 21, tyX6, rfl, by decide, by decide +kernel, iwX6_distanceOf_6, tyX6_ok, nmX6, rfl, by decide +kernel⟩
set_option maxRecDepth 100000 in
set_option maxHeartbeats 4000000 in
theorem sjX6_distanceOf_37_147 (X : CX) (C : Ok X RX6 cX6_distanceOf wsX6_distanceOf rX6_distanceOf) (cn : Tcn) (bk : Tbk) (st : Tst) (r0 : Tbk) (r1 : Tbk) (r2 : Tbk) (r3 : Tbk) (r4 : Tbk) (li : Tli) (fo : Tfo) (tx : Ttx) (co : Tco) (ke : Tke) (rf : (Nat → Int32)) (cp : Int32) (lk : Tlk) (fl : Tfl) (em : Int32) (tm : Ttm) (rd : Trd) (x3 : Int32) (x4 : Int32) (x5 : UInt32) (x6 : UInt32) (x7 : Int32) (o : (UInt32 × UInt32 × Int32 × Int32) ⊕ (UInt32 × UInt32 × Int32)) (h : jX6_distanceOf_37_147 co cp x3 x4 x5 x6 x7 = some o) (k0 : ∀ a : UInt32 × UInt32 × Int32 × Int32, o = .inl a → Wg X 37 [some (.ref 36), none, none, some (.int x3), some (.int x4), some (.float a.1), some (.float a.2.1), some (.int a.2.2.1), none, none, none, none] [] (mkH cn bk st r0 r1 r2 r3 r4 li fo tx co ke rf a.2.2.2 lk fl em tm rd)) (e0 : ∀ a : UInt32 × UInt32 × Int32, o = .inr a → Wg X 153 [some (.ref 36), none, none, none, none, some (.float a.1), some (.float a.2.1), none, none, none, none, none] [] (mkH cn bk st r0 r1 r2 r3 r4 li fo tx co ke rf a.2.2 lk fl em tm rd)) : Wg X 147 [some (.ref 36), none, none, some (.int x3), some (.int x4), some (.float x5), some (.float x6), some (.int x7), none, none, none, none] [] (mkH cn bk st r0 r1 r2 r3 r4 li fo tx co ke rf cp lk fl em tm rd) := by
  unfold jX6_distanceOf_37_147 at h
  refine wg_iinc (v := (x7 + (1 : Int32))) (lv' := [some (.ref 36), none, none, some (.int x3), some (.int x4), some (.float x5), some (.float x6), some (.int (x7 + (1 : Int32))), none, none, none, none]) C dX6_distanceOf_147 rfl rfl rfl ?_
  refine wg_goto (tgt := 37) C dX6_distanceOf_150 (by decide) ?_
  have hk := k0 _ (Option.some.inj h).symm
  exact hk
set_option maxRecDepth 100000 in
set_option maxHeartbeats 4000000 in
theorem sbX6_distanceOf_37 (X : CX) (C : Ok X RX6 cX6_distanceOf wsX6_distanceOf rX6_distanceOf) (cn : Tcn) (bk : Tbk) (st : Tst) (r0 : Tbk) (r1 : Tbk) (r2 : Tbk) (r3 : Tbk) (r4 : Tbk) (li : Tli) (fo : Tfo) (tx : Ttx) (co : Tco) (ke : Tke) (rf : (Nat → Int32)) (cp : Int32) (lk : Tlk) (fl : Tfl) (em : Int32) (tm : Ttm) (rd : Trd) (x3 : Int32) (x4 : Int32) (z : UInt32 × UInt32 × Int32 × Int32) (o : (UInt32 × UInt32 × Int32 × Int32) ⊕ (UInt32 × UInt32 × Int32)) (h : bX6_distanceOf_37 co x3 x4 z = some o) (k0 : ∀ a : UInt32 × UInt32 × Int32 × Int32, o = .inl a → Wg X 37 [some (.ref 36), none, none, some (.int x3), some (.int x4), some (.float a.1), some (.float a.2.1), some (.int a.2.2.1), none, none, none, none] [] (mkH cn bk st r0 r1 r2 r3 r4 li fo tx co ke rf a.2.2.2 lk fl em tm rd)) (e0 : ∀ a : UInt32 × UInt32 × Int32, o = .inr a → Wg X 153 [some (.ref 36), none, none, none, none, some (.float a.1), some (.float a.2.1), none, none, none, none, none] [] (mkH cn bk st r0 r1 r2 r3 r4 li fo tx co ke rf a.2.2 lk fl em tm rd)) : Wg X 37 [some (.ref 36), none, none, some (.int x3), some (.int x4), some (.float z.1), some (.float z.2.1), some (.int z.2.2.1), none, none, none, none] [] (mkH cn bk st r0 r1 r2 r3 r4 li fo tx co ke rf z.2.2.2 lk fl em tm rd) := by
  unfold bX6_distanceOf_37 at h
  refine wg_iload C dX6_distanceOf_37 rfl ?_
  refine wg_iconst (v := 4) C dX6_distanceOf_39 (by decide) ?_
  refine wg_icmp_ge (tgt := 153) C dX6_distanceOf_40 (by decide) (fun c3 => ?_) (fun c3 => ?_)
  · replace h := ifP c3 h
    refine wg_drop (lv' := [some (.ref 36), none, none, none, none, some (.float z.1), some (.float z.2.1), none, none, none, none, none]) [3, 4, 7] rfl ?_
    have hk := e0 _ (Option.some.inj h).symm
    exact hk
  · replace h := ifN c3 h
    refine wg_aload_n C dX6_distanceOf_43 rfl ?_
    refine wg_get (v := .ref 39) C fgX6_distanceOf_16 rfl rfl dX6_distanceOf_44 ?_
    refine wg_iconst (v := 4) C dX6_distanceOf_47 (by decide) ?_
    refine wg_iload_n C dX6_distanceOf_48 rfl ?_
    refine wg_imul C dX6_distanceOf_49 ?_
    refine wg_iload C dX6_distanceOf_50 rfl ?_
    refine wg_iadd C dX6_distanceOf_52 ?_
    obtain ⟨g4, h⟩ := gdP h
    refine wg_iald (f := co.2.2) (n := 200) C rfl g4 dX6_distanceOf_53 ?_
    refine wg_istore (lv' := [some (.ref 36), none, none, some (.int x3), some (.int x4), some (.float z.1), some (.float z.2.1), some (.int z.2.2.1), some (.int (co.2.2 ((((4 : Int32) * x3) + z.2.2.1)).toNatClampNeg)), none, none, none]) C dX6_distanceOf_54 (Nat.le_of_ble_eq_true rfl) rfl ?_
    refine wg_aload_n C dX6_distanceOf_56 rfl ?_
    refine wg_get (v := .ref 39) C fgX6_distanceOf_16 rfl rfl dX6_distanceOf_57 ?_
    refine wg_iconst (v := 4) C dX6_distanceOf_60 (by decide) ?_
    refine wg_iload C dX6_distanceOf_61 rfl ?_
    refine wg_imul C dX6_distanceOf_63 ?_
    refine wg_iload C dX6_distanceOf_64 rfl ?_
    refine wg_iadd C dX6_distanceOf_66 ?_
    obtain ⟨g5, h⟩ := gdP h
    refine wg_iald (f := co.2.2) (n := 200) C rfl g5 dX6_distanceOf_67 ?_
    refine wg_istore (lv' := [some (.ref 36), none, none, some (.int x3), some (.int x4), some (.float z.1), some (.float z.2.1), some (.int z.2.2.1), some (.int (co.2.2 ((((4 : Int32) * x3) + z.2.2.1)).toNatClampNeg)), some (.int (co.2.2 ((((4 : Int32) * x4) + z.2.2.1)).toNatClampNeg)), none, none]) C dX6_distanceOf_68 (Nat.le_of_ble_eq_true rfl) rfl ?_
    refine wg_iload C dX6_distanceOf_70 rfl ?_
    obtain ⟨q6, e6q, h⟩ := bnd h
    refine wg_callT (n := 1) (As := [.int (co.2.2 ((((4 : Int32) * x3) + z.2.2.1)).toNatClampNeg)]) (st := []) (st' := [.int q6]) C (sX6_isNoted cn bk st r0 r1 r2 r3 r4 li fo tx co ke rf z.2.2.2 lk fl em tm rd (co.2.2 ((((4 : Int32) * x3) + z.2.2.1)).toNatClampNeg) q6 e6q) gX6_distanceOf_X6_isNoted rfl (by decide +kernel) ⟨⟨rfl, rfl⟩, Nat.le_of_ble_eq_true rfl, Nat.le_of_ble_eq_true rfl⟩ rfl rfl (Nat.le_of_ble_eq_true rfl) dX6_distanceOf_72 rfl ?_
    refine wg_if_eq (tgt := 147) C dX6_distanceOf_75 (by decide) (fun c7 => ?_) (fun c7 => ?_)
    · replace h := ifP c7 h
      refine wg_drop (lv' := [some (.ref 36), none, none, some (.int x3), some (.int x4), some (.float z.1), some (.float z.2.1), some (.int z.2.2.1), none, none, none, none]) [8, 9] rfl ?_
      exact sjX6_distanceOf_37_147 X C cn bk st r0 r1 r2 r3 r4 li fo tx co ke rf z.2.2.2 lk fl em tm rd x3 x4 z.1 z.2.1 z.2.2.1 _ h k0 e0
    · replace h := ifN c7 h
      refine wg_iload C dX6_distanceOf_78 rfl ?_
      obtain ⟨q8, e8q, h⟩ := bnd h
      refine wg_callT (n := 1) (As := [.int (co.2.2 ((((4 : Int32) * x4) + z.2.2.1)).toNatClampNeg)]) (st := []) (st' := [.int q8]) C (sX6_isNoted cn bk st r0 r1 r2 r3 r4 li fo tx co ke rf z.2.2.2 lk fl em tm rd (co.2.2 ((((4 : Int32) * x4) + z.2.2.1)).toNatClampNeg) q8 e8q) gX6_distanceOf_X6_isNoted rfl (by decide +kernel) ⟨⟨rfl, rfl⟩, Nat.le_of_ble_eq_true rfl, Nat.le_of_ble_eq_true rfl⟩ rfl rfl (Nat.le_of_ble_eq_true rfl) dX6_distanceOf_80 rfl ?_
      refine wg_if_eq (tgt := 147) C dX6_distanceOf_83 (by decide) (fun c9 => ?_) (fun c9 => ?_)
      · replace h := ifP c9 h
        refine wg_drop (lv' := [some (.ref 36), none, none, some (.int x3), some (.int x4), some (.float z.1), some (.float z.2.1), some (.int z.2.2.1), none, none, none, none]) [8, 9] rfl ?_
        exact sjX6_distanceOf_37_147 X C cn bk st r0 r1 r2 r3 r4 li fo tx co ke rf z.2.2.2 lk fl em tm rd x3 x4 z.1 z.2.1 z.2.2.1 _ h k0 e0
      · replace h := ifN c9 h
        refine wg_aload_n C dX6_distanceOf_86 rfl ?_
        refine wg_get (v := .ref 38) C fgX6_distanceOf_13 rfl rfl dX6_distanceOf_87 ?_
        refine wg_iload C dX6_distanceOf_90 rfl ?_
        obtain ⟨g10, h⟩ := gdP h
        refine wg_iald (f := co.2.1) (n := 6) C rfl g10 dX6_distanceOf_92 ?_
        refine wg_if_le (tgt := 147) C dX6_distanceOf_93 (by decide) (fun c11 => ?_) (fun c11 => ?_)
        · replace h := ifP c11 h
          refine wg_drop (lv' := [some (.ref 36), none, none, some (.int x3), some (.int x4), some (.float z.1), some (.float z.2.1), some (.int z.2.2.1), none, none, none, none]) [8, 9] rfl ?_
          exact sjX6_distanceOf_37_147 X C cn bk st r0 r1 r2 r3 r4 li fo tx co ke rf z.2.2.2 lk fl em tm rd x3 x4 z.1 z.2.1 z.2.2.1 _ h k0 e0
        · replace h := ifN c11 h
          refine wg_aload_n C dX6_distanceOf_96 rfl ?_
          refine wg_get (v := .ref 38) C fgX6_distanceOf_13 rfl rfl dX6_distanceOf_97 ?_
          refine wg_iload C dX6_distanceOf_100 rfl ?_
          obtain ⟨g12, h⟩ := gdP h
          refine wg_iald (f := co.2.1) (n := 6) C rfl g12 dX6_distanceOf_102 ?_
          refine wg_i2f C dX6_distanceOf_103 ?_
          refine wg_ldcf (v := 1090519040) C (by decide +kernel) dX6_distanceOf_104 ?_
          obtain ⟨g13, h⟩ := gdP h
          refine wg_fdiv C dX6_distanceOf_106 g13 ?_
          refine wg_fstore (lv' := [some (.ref 36), none, none, some (.int x3), some (.int x4), some (.float z.1), some (.float z.2.1), some (.int z.2.2.1), some (.int (co.2.2 ((((4 : Int32) * x3) + z.2.2.1)).toNatClampNeg)), some (.int (co.2.2 ((((4 : Int32) * x4) + z.2.2.1)).toNatClampNeg)), some (.float (FP.fdiv (FP.i2f (co.2.1 (z.2.2.1).toNatClampNeg)) (1090519040 : UInt32))), none]) C dX6_distanceOf_107 (Nat.le_of_ble_eq_true rfl) rfl ?_
          refine wg_iload C dX6_distanceOf_109 rfl ?_
          obtain ⟨q14, e14q, h⟩ := bnd h
          refine wg_callT (n := 1) (As := [.int (co.2.2 ((((4 : Int32) * x3) + z.2.2.1)).toNatClampNeg)]) (st := []) (st' := [.float q14]) C (sX6_value cn bk st r0 r1 r2 r3 r4 li fo tx co ke rf z.2.2.2 lk fl em tm rd (co.2.2 ((((4 : Int32) * x3) + z.2.2.1)).toNatClampNeg) q14 e14q) gX6_distanceOf_X6_value rfl (by decide +kernel) ⟨⟨rfl, rfl⟩, Nat.le_of_ble_eq_true rfl, Nat.le_of_ble_eq_true rfl⟩ rfl rfl (Nat.le_of_ble_eq_true rfl) dX6_distanceOf_111 rfl ?_
          refine wg_iload C dX6_distanceOf_114 rfl ?_
          obtain ⟨q15, e15q, h⟩ := bnd h
          refine wg_callT (n := 1) (As := [.int (co.2.2 ((((4 : Int32) * x4) + z.2.2.1)).toNatClampNeg)]) (st := [.float q14]) (st' := [.float q15, .float q14]) C (sX6_value cn bk st r0 r1 r2 r3 r4 li fo tx co ke rf z.2.2.2 lk fl em tm rd (co.2.2 ((((4 : Int32) * x4) + z.2.2.1)).toNatClampNeg) q15 e15q) gX6_distanceOf_X6_value rfl (by decide +kernel) ⟨⟨rfl, rfl⟩, Nat.le_of_ble_eq_true rfl, Nat.le_of_ble_eq_true rfl⟩ rfl rfl (Nat.le_of_ble_eq_true rfl) dX6_distanceOf_116 rfl ?_
          obtain ⟨g16, h⟩ := gdP h
          refine wg_fsub C dX6_distanceOf_119 g16 ?_
          refine wg_fstore (lv' := [some (.ref 36), none, none, some (.int x3), some (.int x4), some (.float z.1), some (.float z.2.1), some (.int z.2.2.1), some (.int (co.2.2 ((((4 : Int32) * x3) + z.2.2.1)).toNatClampNeg)), some (.int (co.2.2 ((((4 : Int32) * x4) + z.2.2.1)).toNatClampNeg)), some (.float (FP.fdiv (FP.i2f (co.2.1 (z.2.2.1).toNatClampNeg)) (1090519040 : UInt32))), some (.float (FP.fsub q14 q15))]) C dX6_distanceOf_120 (Nat.le_of_ble_eq_true rfl) rfl ?_
          refine wg_fload C dX6_distanceOf_122 rfl ?_
          refine wg_fload C dX6_distanceOf_124 rfl ?_
          refine wg_fload C dX6_distanceOf_126 rfl ?_
          refine wg_fload C dX6_distanceOf_128 rfl ?_
          obtain ⟨g17, h⟩ := gdP h
          refine wg_fmul C dX6_distanceOf_130 g17 ?_
          obtain ⟨g18, h⟩ := gdP h
          refine wg_fmul C dX6_distanceOf_131 g18 ?_
          obtain ⟨g19, h⟩ := gdP h
          refine wg_fadd C dX6_distanceOf_132 g19 ?_
          refine wg_fstore (lv' := [some (.ref 36), none, none, some (.int x3), some (.int x4), some (.float (FP.fadd z.1 (FP.fmul (FP.fdiv (FP.i2f (co.2.1 (z.2.2.1).toNatClampNeg)) (1090519040 : UInt32)) (FP.fmul (FP.fsub q14 q15) (FP.fsub q14 q15))))), some (.float z.2.1), some (.int z.2.2.1), some (.int (co.2.2 ((((4 : Int32) * x3) + z.2.2.1)).toNatClampNeg)), some (.int (co.2.2 ((((4 : Int32) * x4) + z.2.2.1)).toNatClampNeg)), some (.float (FP.fdiv (FP.i2f (co.2.1 (z.2.2.1).toNatClampNeg)) (1090519040 : UInt32))), some (.float (FP.fsub q14 q15))]) C dX6_distanceOf_133 (Nat.le_of_ble_eq_true rfl) rfl ?_
          refine wg_fload C dX6_distanceOf_135 rfl ?_
          refine wg_fload C dX6_distanceOf_137 rfl ?_
          obtain ⟨g20, h⟩ := gdP h
          refine wg_fadd C dX6_distanceOf_139 g20 ?_
          refine wg_fstore (lv' := [some (.ref 36), none, none, some (.int x3), some (.int x4), some (.float (FP.fadd z.1 (FP.fmul (FP.fdiv (FP.i2f (co.2.1 (z.2.2.1).toNatClampNeg)) (1090519040 : UInt32)) (FP.fmul (FP.fsub q14 q15) (FP.fsub q14 q15))))), some (.float (FP.fadd z.2.1 (FP.fdiv (FP.i2f (co.2.1 (z.2.2.1).toNatClampNeg)) (1090519040 : UInt32)))), some (.int z.2.2.1), some (.int (co.2.2 ((((4 : Int32) * x3) + z.2.2.1)).toNatClampNeg)), some (.int (co.2.2 ((((4 : Int32) * x4) + z.2.2.1)).toNatClampNeg)), some (.float (FP.fdiv (FP.i2f (co.2.1 (z.2.2.1).toNatClampNeg)) (1090519040 : UInt32))), some (.float (FP.fsub q14 q15))]) C dX6_distanceOf_140 (Nat.le_of_ble_eq_true rfl) rfl ?_
          refine wg_aload_n C dX6_distanceOf_142 rfl ?_
          refine wg_iconst (v := 1) C dX6_distanceOf_143 (by decide) ?_
          refine wg_put (hp' := (mkH cn bk st r0 r1 r2 r3 r4 li fo tx co ke rf (1 : Int32) lk fl em tm rd)) C fwX6_distanceOf_102 rfl (Nat.le_of_ble_eq_true rfl) (by decide) (by decide) rfl dX6_distanceOf_144 ?_
          refine wg_drop (lv' := [some (.ref 36), none, none, some (.int x3), some (.int x4), some (.float (FP.fadd z.1 (FP.fmul (FP.fdiv (FP.i2f (co.2.1 (z.2.2.1).toNatClampNeg)) (1090519040 : UInt32)) (FP.fmul (FP.fsub q14 q15) (FP.fsub q14 q15))))), some (.float (FP.fadd z.2.1 (FP.fdiv (FP.i2f (co.2.1 (z.2.2.1).toNatClampNeg)) (1090519040 : UInt32)))), some (.int z.2.2.1), none, none, none, none]) [8, 9, 10, 11] rfl ?_
          exact sjX6_distanceOf_37_147 X C cn bk st r0 r1 r2 r3 r4 li fo tx co ke rf (1 : Int32) lk fl em tm rd x3 x4 (FP.fadd z.1 (FP.fmul (FP.fdiv (FP.i2f (co.2.1 (z.2.2.1).toNatClampNeg)) (1090519040 : UInt32)) (FP.fmul (FP.fsub q14 q15) (FP.fsub q14 q15)))) (FP.fadd z.2.1 (FP.fdiv (FP.i2f (co.2.1 (z.2.2.1).toNatClampNeg)) (1090519040 : UInt32))) z.2.2.1 _ h k0 e0
set_option maxRecDepth 100000 in
set_option maxHeartbeats 4000000 in
theorem slX6_distanceOf_37 (X : CX) (C : Ok X RX6 cX6_distanceOf wsX6_distanceOf rX6_distanceOf) (cn : Tcn) (bk : Tbk) (st : Tst) (r0 : Tbk) (r1 : Tbk) (r2 : Tbk) (r3 : Tbk) (r4 : Tbk) (li : Tli) (fo : Tfo) (tx : Ttx) (co : Tco) (ke : Tke) (rf : (Nat → Int32)) (cp : Int32) (lk : Tlk) (fl : Tfl) (em : Int32) (tm : Ttm) (rd : Trd) (x3 : Int32) (x4 : Int32) (o : (UInt32 × UInt32 × Int32)) (e0 : ∀ a : UInt32 × UInt32 × Int32, o = a → Wg X 153 [some (.ref 36), none, none, none, none, some (.float a.1), some (.float a.2.1), none, none, none, none, none] [] (mkH cn bk st r0 r1 r2 r3 r4 li fo tx co ke rf a.2.2 lk fl em tm rd)) : ∀ (n : Nat) (z : UInt32 × UInt32 × Int32 × Int32), lpF (bX6_distanceOf_37 co x3 x4) n z = some o → Wg X 37 [some (.ref 36), none, none, some (.int x3), some (.int x4), some (.float z.1), some (.float z.2.1), some (.int z.2.2.1), none, none, none, none] [] (mkH cn bk st r0 r1 r2 r3 r4 li fo tx co ke rf z.2.2.2 lk fl em tm rd) := by
  intro n
  induction n with
  | zero => intro z h; cases h
  | succ n ih =>
    intro z h
    obtain ⟨r, hB, h⟩ := bnd h
    refine sbX6_distanceOf_37 X C cn bk st r0 r1 r2 r3 r4 li fo tx co ke rf cp lk fl em tm rd x3 x4 z r hB (fun a e => ih a (by subst e; exact h)) (fun a e => e0 a (by subst e; exact (Option.some.inj h).symm))
set_option maxRecDepth 100000 in
set_option maxHeartbeats 4000000 in
theorem sjX6_distanceOf_169 (X : CX) (C : Ok X RX6 cX6_distanceOf wsX6_distanceOf rX6_distanceOf) (cn : Tcn) (bk : Tbk) (st : Tst) (r0 : Tbk) (r1 : Tbk) (r2 : Tbk) (r3 : Tbk) (r4 : Tbk) (li : Tli) (fo : Tfo) (tx : Ttx) (co : Tco) (ke : Tke) (rf : (Nat → Int32)) (cp : Int32) (lk : Tlk) (fl : Tfl) (em : Int32) (tm : Ttm) (rd : Trd) (y0 : UInt32) (o : UInt32 × Int32) (h : jX6_distanceOf_169 co cp y0 = some o) (hT : Rt X (some .float) (some (.float o.1)) (mkH cn bk st r0 r1 r2 r3 r4 li fo tx co ke rf o.2 lk fl em tm rd)) : Wg X 169 [none, none, none, none, none, none, none, none, none, none, none, none] [.float y0] (mkH cn bk st r0 r1 r2 r3 r4 li fo tx co ke rf cp lk fl em tm rd) := by
  unfold jX6_distanceOf_169 at h
  obtain rfl := Option.some.inj h
  exact wg_fret C hT dX6_distanceOf_169
set_option maxRecDepth 100000 in
set_option maxHeartbeats 4000000 in
theorem sjX6_distanceOf_21 (X : CX) (C : Ok X RX6 cX6_distanceOf wsX6_distanceOf rX6_distanceOf) (cn : Tcn) (bk : Tbk) (st : Tst) (r0 : Tbk) (r1 : Tbk) (r2 : Tbk) (r3 : Tbk) (r4 : Tbk) (li : Tli) (fo : Tfo) (tx : Ttx) (co : Tco) (ke : Tke) (rf : (Nat → Int32)) (cp : Int32) (lk : Tlk) (fl : Tfl) (em : Int32) (tm : Ttm) (rd : Trd) (x3 : Int32) (y0 : Int32) (o : UInt32 × Int32) (h : jX6_distanceOf_21 co cp x3 y0 = some o) (hT : Rt X (some .float) (some (.float o.1)) (mkH cn bk st r0 r1 r2 r3 r4 li fo tx co ke rf o.2 lk fl em tm rd)) : Wg X 21 [some (.ref 36), none, none, some (.int x3), none, none, none, none, none, none, none, none] [.int y0] (mkH cn bk st r0 r1 r2 r3 r4 li fo tx co ke rf cp lk fl em tm rd) := by
  unfold jX6_distanceOf_21 at h
  refine wg_istore (lv' := [some (.ref 36), none, none, some (.int x3), some (.int y0), none, none, none, none, none, none, none]) C dX6_distanceOf_21 (Nat.le_of_ble_eq_true rfl) rfl ?_
  refine wg_fconst0 C dX6_distanceOf_23 ?_
  refine wg_fstore (lv' := [some (.ref 36), none, none, some (.int x3), some (.int y0), some (.float FP.fconst0), none, none, none, none, none, none]) C dX6_distanceOf_24 (Nat.le_of_ble_eq_true rfl) rfl ?_
  refine wg_fconst0 C dX6_distanceOf_26 ?_
  refine wg_fstore (lv' := [some (.ref 36), none, none, some (.int x3), some (.int y0), some (.float FP.fconst0), some (.float FP.fconst0), none, none, none, none, none]) C dX6_distanceOf_27 (Nat.le_of_ble_eq_true rfl) rfl ?_
  refine wg_aload_n C dX6_distanceOf_29 rfl ?_
  refine wg_iconst (v := 0) C dX6_distanceOf_30 (by decide) ?_
  refine wg_put (hp' := (mkH cn bk st r0 r1 r2 r3 r4 li fo tx co ke rf (0 : Int32) lk fl em tm rd)) C fwX6_distanceOf_102 rfl (Nat.le_of_ble_eq_true rfl) (by decide) (by decide) rfl dX6_distanceOf_31 ?_
  refine wg_iconst (v := 0) C dX6_distanceOf_34 (by decide) ?_
  refine wg_istore (lv' := [some (.ref 36), none, none, some (.int x3), some (.int y0), some (.float FP.fconst0), some (.float FP.fconst0), some (.int (0 : Int32)), none, none, none, none]) C dX6_distanceOf_35 (Nat.le_of_ble_eq_true rfl) rfl ?_
  obtain ⟨t21, hL21, h⟩ := bnd h
  refine slX6_distanceOf_37 X C cn bk st r0 r1 r2 r3 r4 li fo tx co ke rf (0 : Int32) lk fl em tm rd x3 y0 t21 (fun a e => ?_) FU (FP.fconst0, FP.fconst0, (0 : Int32), (0 : Int32)) hL21
  subst e
  refine wg_aload_n C dX6_distanceOf_153 rfl ?_
  refine wg_get (v := .int t21.2.2) C fgX6_distanceOf_102 rfl rfl dX6_distanceOf_154 ?_
  refine wg_if_eq (tgt := 168) C dX6_distanceOf_157 (by decide) (fun c22 => ?_) (fun c22 => ?_)
  · replace h := ifP c22 h
    refine wg_fconst0 C dX6_distanceOf_168 ?_
    refine wg_drop (lv' := [none, none, none, none, none, none, none, none, none, none, none, none]) [0, 5, 6] rfl ?_
    exact sjX6_distanceOf_169 X C cn bk st r0 r1 r2 r3 r4 li fo tx co ke rf t21.2.2 lk fl em tm rd FP.fconst0 _ h hT
  · replace h := ifN c22 h
    refine wg_fload C dX6_distanceOf_160 rfl ?_
    refine wg_fload C dX6_distanceOf_162 rfl ?_
    obtain ⟨g23, h⟩ := gdP h
    refine wg_fdiv C dX6_distanceOf_164 g23 ?_
    refine wg_goto (tgt := 169) C dX6_distanceOf_165 (by decide) ?_
    refine wg_drop (lv' := [none, none, none, none, none, none, none, none, none, none, none, none]) [0, 5, 6] rfl ?_
    exact sjX6_distanceOf_169 X C cn bk st r0 r1 r2 r3 r4 li fo tx co ke rf t21.2.2 lk fl em tm rd (FP.fdiv t21.1 t21.2.1) _ h hT
set_option maxRecDepth 100000 in
set_option maxHeartbeats 4000000 in
theorem sjX6_distanceOf_10 (X : CX) (C : Ok X RX6 cX6_distanceOf wsX6_distanceOf rX6_distanceOf) (cn : Tcn) (bk : Tbk) (st : Tst) (r0 : Tbk) (r1 : Tbk) (r2 : Tbk) (r3 : Tbk) (r4 : Tbk) (li : Tli) (fo : Tfo) (tx : Ttx) (co : Tco) (ke : Tke) (rf : (Nat → Int32)) (cp : Int32) (lk : Tlk) (fl : Tfl) (em : Int32) (tm : Ttm) (rd : Trd) (x1 : Int32) (x2 : Int32) (y0 : Int32) (o : UInt32 × Int32) (h : jX6_distanceOf_10 co cp x1 x2 y0 = some o) (hT : Rt X (some .float) (some (.float o.1)) (mkH cn bk st r0 r1 r2 r3 r4 li fo tx co ke rf o.2 lk fl em tm rd)) : Wg X 10 [some (.ref 36), some (.int x1), some (.int x2), none, none, none, none, none, none, none, none, none] [.int y0] (mkH cn bk st r0 r1 r2 r3 r4 li fo tx co ke rf cp lk fl em tm rd) := by
  unfold jX6_distanceOf_10 at h
  refine wg_istore_n (lv' := [some (.ref 36), some (.int x1), some (.int x2), some (.int y0), none, none, none, none, none, none, none, none]) C dX6_distanceOf_10 (Nat.le_of_ble_eq_true rfl) rfl ?_
  refine wg_iload_n C dX6_distanceOf_11 rfl ?_
  refine wg_iload_n C dX6_distanceOf_12 rfl ?_
  refine wg_icmp_ge (tgt := 20) C dX6_distanceOf_13 (by decide) (fun c2 => ?_) (fun c2 => ?_)
  · replace h := ifP c2 h
    refine wg_iload_n C dX6_distanceOf_20 rfl ?_
    refine wg_drop (lv' := [some (.ref 36), none, none, some (.int y0), none, none, none, none, none, none, none, none]) [1, 2] rfl ?_
    exact sjX6_distanceOf_21 X C cn bk st r0 r1 r2 r3 r4 li fo tx co ke rf cp lk fl em tm rd y0 x1 _ h hT
  · replace h := ifN c2 h
    refine wg_iload_n C dX6_distanceOf_16 rfl ?_
    refine wg_goto (tgt := 21) C dX6_distanceOf_17 (by decide) ?_
    refine wg_drop (lv' := [some (.ref 36), none, none, some (.int y0), none, none, none, none, none, none, none, none]) [1, 2] rfl ?_
    exact sjX6_distanceOf_21 X C cn bk st r0 r1 r2 r3 r4 li fo tx co ke rf cp lk fl em tm rd y0 x2 _ h hT
set_option maxRecDepth 100000 in
set_option maxHeartbeats 4000000 in
theorem sX6_distanceOf (cn : Tcn) (bk : Tbk) (st : Tst) (r0 : Tbk) (r1 : Tbk) (r2 : Tbk) (r3 : Tbk) (r4 : Tbk) (li : Tli) (fo : Tfo) (tx : Ttx) (co : Tco) (ke : Tke) (rf : (Nat → Int32)) (cp : Int32) (lk : Tlk) (fl : Tfl) (em : Int32) (tm : Ttm) (rd : Trd) (x1 : Int32) (x2 : Int32) (o : UInt32 × Int32) (h : fX6_distanceOf co cp x1 x2 = some o) : Sp yX6_distanceOf wsX6_distanceOf rX6_distanceOf [.ref 36, .int x1, .int x2] (mkH cn bk st r0 r1 r2 r3 r4 li fo tx co ke rf cp lk fl em tm rd) (some (.float o.1)) (mkH cn bk st r0 r1 r2 r3 r4 li fo tx co ke rf o.2 lk fl em tm rd) := by
  refine Sp.of (lv := [some (.ref 36), some (.int x1), some (.int x2), none, none, none, none, none, none, none, none, none]) RX6 (by decide +kernel) rfl (Nat.le_of_ble_eq_true rfl) rfl ?_
  intro X C hT
  unfold fX6_distanceOf at h
  refine wg_iload_n C dX6_distanceOf_0 rfl ?_
  refine wg_iload_n C dX6_distanceOf_1 rfl ?_
  refine wg_icmp_ge (tgt := 9) C dX6_distanceOf_2 (by decide) (fun c1 => ?_) (fun c1 => ?_)
  · replace h := ifP c1 h
    refine wg_iload_n C dX6_distanceOf_9 rfl ?_
    exact sjX6_distanceOf_10 X C cn bk st r0 r1 r2 r3 r4 li fo tx co ke rf cp lk fl em tm rd x1 x2 x2 _ h hT
  · replace h := ifN c1 h
    refine wg_iload_n C dX6_distanceOf_5 rfl ?_
    refine wg_goto (tgt := 10) C dX6_distanceOf_6 (by decide) ?_
    exact sjX6_distanceOf_10 X C cn bk st r0 r1 r2 r3 r4 li fo tx co ke rf cp lk fl em tm rd x1 x2 x1 _ h hT
abbrev rJxf58ca_isNaN_12338 : Room := { frames := 0, cells := 0, slots := 0, locals := 0 }
set_option maxRecDepth 100000 in
set_option maxHeartbeats 4000000 in
theorem sjJxf58ca_isNaN_12338_11 (X : CX) (C : Ok X RJxf58ca cJxf58ca_isNaN_12338 wsJxf58ca_isNaN_12338 rJxf58ca_isNaN_12338) (cn : Tcn) (bk : Tbk) (st : Tst) (r0 : Tbk) (r1 : Tbk) (r2 : Tbk) (r3 : Tbk) (r4 : Tbk) (li : Tli) (fo : Tfo) (tx : Ttx) (co : Tco) (ke : Tke) (rf : (Nat → Int32)) (cp : Int32) (lk : Tlk) (fl : Tfl) (em : Int32) (tm : Ttm) (rd : Trd) (y0 : Int32) (o : Int32) (h : jJxf58ca_isNaN_12338_11  y0 = some o) (hT : Rt X (some .boolean) (some (.int o)) (mkH cn bk st r0 r1 r2 r3 r4 li fo tx co ke rf cp lk fl em tm rd)) : Wg X 11 [none] [.int y0] (mkH cn bk st r0 r1 r2 r3 r4 li fo tx co ke rf cp lk fl em tm rd) := by
  unfold jJxf58ca_isNaN_12338_11 at h
  obtain ⟨g2, h⟩ := gdP h
  obtain rfl := Option.some.inj h
  exact wg_zret C hT (of_decide_eq_true g2) dJxf58ca_isNaN_12338_11
set_option maxRecDepth 100000 in
set_option maxHeartbeats 4000000 in
theorem sJxf58ca_isNaN_12338 (cn : Tcn) (bk : Tbk) (st : Tst) (r0 : Tbk) (r1 : Tbk) (r2 : Tbk) (r3 : Tbk) (r4 : Tbk) (li : Tli) (fo : Tfo) (tx : Ttx) (co : Tco) (ke : Tke) (rf : (Nat → Int32)) (cp : Int32) (lk : Tlk) (fl : Tfl) (em : Int32) (tm : Ttm) (rd : Trd) (x0 : UInt32) (o : Int32) (h : fJxf58ca_isNaN_12338  x0 = some o) : Sp yJxf58ca_isNaN_12338 wsJxf58ca_isNaN_12338 rJxf58ca_isNaN_12338 [.float x0] (mkH cn bk st r0 r1 r2 r3 r4 li fo tx co ke rf cp lk fl em tm rd) (some (.int o)) (mkH cn bk st r0 r1 r2 r3 r4 li fo tx co ke rf cp lk fl em tm rd) := by
  refine Sp.of (lv := [some (.float x0)]) RJxf58ca (by decide +kernel) rfl (Nat.le_of_ble_eq_true rfl) rfl ?_
  intro X C hT
  unfold fJxf58ca_isNaN_12338 at h
  refine wg_fload_n C dJxf58ca_isNaN_12338_0 rfl ?_
  refine wg_fload_n C dJxf58ca_isNaN_12338_1 rfl ?_
  refine wg_fcmp C dJxf58ca_isNaN_12338_2 ?_
  refine wg_if_eq (tgt := 10) C dJxf58ca_isNaN_12338_3 (by decide) (fun c1 => ?_) (fun c1 => ?_)
  · replace h := ifP c1 h
    refine wg_iconst (v := 0) C dJxf58ca_isNaN_12338_10 (by decide) ?_
    refine wg_drop (lv' := [none]) [0] rfl ?_
    exact sjJxf58ca_isNaN_12338_11 X C cn bk st r0 r1 r2 r3 r4 li fo tx co ke rf cp lk fl em tm rd (0 : Int32) _ h hT
  · replace h := ifN c1 h
    refine wg_iconst (v := 1) C dJxf58ca_isNaN_12338_6 (by decide) ?_
    refine wg_goto (tgt := 11) C dJxf58ca_isNaN_12338_7 (by decide) ?_
    refine wg_drop (lv' := [none]) [0] rfl ?_
    exact sjJxf58ca_isNaN_12338_11 X C cn bk st r0 r1 r2 r3 r4 li fo tx co ke rf cp lk fl em tm rd (1 : Int32) _ h hT
abbrev rJxf58ca_floatToIntBits_5c35a : Room := { frames := 1, cells := 0, slots := 0, locals := 20 }
set_option maxRecDepth 100000 in
set_option maxHeartbeats 4000000 in
theorem sJxf58ca_floatToIntBits_5c35a (cn : Tcn) (bk : Tbk) (st : Tst) (r0 : Tbk) (r1 : Tbk) (r2 : Tbk) (r3 : Tbk) (r4 : Tbk) (li : Tli) (fo : Tfo) (tx : Ttx) (co : Tco) (ke : Tke) (rf : (Nat → Int32)) (cp : Int32) (lk : Tlk) (fl : Tfl) (em : Int32) (tm : Ttm) (rd : Trd) (x0 : UInt32) (o : Int32) (h : fJxf58ca_floatToIntBits_5c35a  x0 = some o) : Sp yJxf58ca_floatToIntBits_5c35a wsJxf58ca_floatToIntBits_5c35a rJxf58ca_floatToIntBits_5c35a [.float x0] (mkH cn bk st r0 r1 r2 r3 r4 li fo tx co ke rf cp lk fl em tm rd) (some (.int o)) (mkH cn bk st r0 r1 r2 r3 r4 li fo tx co ke rf cp lk fl em tm rd) := by
  refine Sp.of (lv := [some (.float x0)]) RJxf58ca (by decide +kernel) rfl (Nat.le_of_ble_eq_true rfl) rfl ?_
  intro X C hT
  unfold fJxf58ca_floatToIntBits_5c35a at h
  refine wg_fload_n C dJxf58ca_floatToIntBits_5c35a_0 rfl ?_
  obtain ⟨q1, e1q, h⟩ := bnd h
  refine wg_callT (n := 1) (As := [.float x0]) (st := []) (st' := [.int q1]) C (sJxf58ca_isNaN_12338 cn bk st r0 r1 r2 r3 r4 li fo tx co ke rf cp lk fl em tm rd x0 q1 e1q) gJxf58ca_floatToIntBits_5c35a_Jxf58ca_isNaN_12338 rfl (by decide +kernel) ⟨⟨rfl, rfl⟩, Nat.le_of_ble_eq_true rfl, Nat.le_of_ble_eq_true rfl⟩ rfl rfl (Nat.le_of_ble_eq_true rfl) dJxf58ca_floatToIntBits_5c35a_1 rfl ?_
  refine wg_if_ne (tgt := 12) C dJxf58ca_floatToIntBits_5c35a_4 (by decide) (fun c2 => ?_) (fun c2 => ?_)
  · replace h := ifP c2 h
    refine wg_ldci (v := 2143289344) C (by decide +kernel) dJxf58ca_floatToIntBits_5c35a_12 ?_
    obtain rfl := Option.some.inj h
    exact wg_iret C hT dJxf58ca_floatToIntBits_5c35a_14
  · replace h := ifN c2 h
    refine wg_fload_n C dJxf58ca_floatToIntBits_5c35a_7 rfl ?_
    refine wg_f2b C ⟨by decide +kernel, by decide +kernel, by decide +kernel, by decide +kernel⟩ ⟨Nat.le_of_ble_eq_true rfl, Nat.le_of_ble_eq_true rfl⟩ dJxf58ca_floatToIntBits_5c35a_8 ?_
    obtain rfl := Option.some.inj h
    exact wg_iret C hT dJxf58ca_floatToIntBits_5c35a_11
abbrev rX6_distance : Room := { frames := 2, cells := 0, slots := 0, locals := 51 }
theorem iwX6_distance_6 : ∀ w ∈ wsX60, w ∈ wsX6_distance := by decide +kernel
theorem fgX6_distance_102 : FG wsX6_distance RX6 102 6 6 := ⟨RX6, TX6, 21, rfl, by decide, by decide +kernel, iwX6_distance_6⟩
set_option maxRecDepth 100000 in
set_option maxHeartbeats 4000000 in
theorem sjX6_distance_21 (X : CX) (C : Ok X RX6 cX6_distance wsX6_distance rX6_distance) (cn : Tcn) (bk : Tbk) (st : Tst) (r0 : Tbk) (r1 : Tbk) (r2 : Tbk) (r3 : Tbk) (r4 : Tbk) (li : Tli) (fo : Tfo) (tx : Ttx) (co : Tco) (ke : Tke) (rf : (Nat → Int32)) (cp : Int32) (lk : Tlk) (fl : Tfl) (em : Int32) (tm : Ttm) (rd : Trd)  (o : Int32 × (Nat → Int32) × Int32) (h : jX6_distance_21 co rf cp  = some o) (hT : Rt X (some .int) (some (.int o.1)) (mkH cn bk st r0 r1 r2 r3 r4 li fo tx co ke o.2.1 o.2.2 lk fl em tm rd)) : Wg X 21 [some (.ref 36), none, none, none] [] (mkH cn bk st r0 r1 r2 r3 r4 li fo tx co ke rf cp lk fl em tm rd) := by
  unfold jX6_distance_21 at h
  refine wg_aload_n C dX6_distance_21 rfl ?_
  obtain ⟨q3, e3q, h⟩ := bnd h
  refine wg_callV (n := 0) (As := []) (st := []) (st' := [.int q3.1]) C (sX6_bad cn bk st r0 r1 r2 r3 r4 li fo tx co ke rf cp lk fl em tm rd  q3 e3q) gX6_distance_X6_bad rfl (by decide +kernel) ⟨⟨rfl, rfl⟩, Nat.le_of_ble_eq_true rfl, Nat.le_of_ble_eq_true rfl⟩ rfl rfl rfl rfl (Nat.le_of_ble_eq_true rfl) dX6_distance_22 rfl ?_
  obtain rfl := Option.some.inj h
  exact wg_iret C hT dX6_distance_25
set_option maxRecDepth 100000 in
set_option maxHeartbeats 4000000 in
theorem sjX6_distance_48 (X : CX) (C : Ok X RX6 cX6_distance wsX6_distance rX6_distance) (cn : Tcn) (bk : Tbk) (st : Tst) (r0 : Tbk) (r1 : Tbk) (r2 : Tbk) (r3 : Tbk) (r4 : Tbk) (li : Tli) (fo : Tfo) (tx : Ttx) (co : Tco) (ke : Tke) (rf : (Nat → Int32)) (cp : Int32) (lk : Tlk) (fl : Tfl) (em : Int32) (tm : Ttm) (rd : Trd) (y0 : Int32) (o : Int32 × (Nat → Int32) × Int32) (h : jX6_distance_48 co rf cp y0 = some o) (hT : Rt X (some .int) (some (.int o.1)) (mkH cn bk st r0 r1 r2 r3 r4 li fo tx co ke o.2.1 o.2.2 lk fl em tm rd)) : Wg X 48 [none, none, none, none] [.int y0] (mkH cn bk st r0 r1 r2 r3 r4 li fo tx co ke rf cp lk fl em tm rd) := by
  unfold jX6_distance_48 at h
  obtain rfl := Option.some.inj h
  exact wg_iret C hT dX6_distance_48
set_option maxRecDepth 100000 in
set_option maxHeartbeats 4000000 in
theorem sX6_distance (cn : Tcn) (bk : Tbk) (st : Tst) (r0 : Tbk) (r1 : Tbk) (r2 : Tbk) (r3 : Tbk) (r4 : Tbk) (li : Tli) (fo : Tfo) (tx : Ttx) (co : Tco) (ke : Tke) (rf : (Nat → Int32)) (cp : Int32) (lk : Tlk) (fl : Tfl) (em : Int32) (tm : Ttm) (rd : Trd) (x1 : Int32) (x2 : Int32) (o : Int32 × (Nat → Int32) × Int32) (h : fX6_distance co rf cp x1 x2 = some o) : Sp yX6_distance wsX6_distance rX6_distance [.ref 36, .int x1, .int x2] (mkH cn bk st r0 r1 r2 r3 r4 li fo tx co ke rf cp lk fl em tm rd) (some (.int o.1)) (mkH cn bk st r0 r1 r2 r3 r4 li fo tx co ke o.2.1 o.2.2 lk fl em tm rd) := by
  refine Sp.of (lv := [some (.ref 36), some (.int x1), some (.int x2), none]) RX6 (by decide +kernel) rfl (Nat.le_of_ble_eq_true rfl) rfl ?_
  intro X C hT
  unfold fX6_distance at h
  refine wg_aload_n C dX6_distance_0 rfl ?_
  refine wg_iload_n C dX6_distance_1 rfl ?_
  obtain ⟨q1, e1q, h⟩ := bnd h
  refine wg_callV (n := 1) (As := [.int x1]) (st := []) (st' := [.int q1]) C (sX6_isDay cn bk st r0 r1 r2 r3 r4 li fo tx co ke rf cp lk fl em tm rd x1 q1 e1q) gX6_distance_X6_isDay rfl (by decide +kernel) ⟨⟨rfl, rfl⟩, Nat.le_of_ble_eq_true rfl, Nat.le_of_ble_eq_true rfl⟩ rfl rfl rfl rfl (Nat.le_of_ble_eq_true rfl) dX6_distance_2 rfl ?_
  refine wg_if_eq (tgt := 21) C dX6_distance_5 (by decide) (fun c2 => ?_) (fun c2 => ?_)
  · replace h := ifP c2 h
    refine wg_drop (lv' := [some (.ref 36), none, none, none]) [1, 2] rfl ?_
    exact sjX6_distance_21 X C cn bk st r0 r1 r2 r3 r4 li fo tx co ke rf cp lk fl em tm rd  _ h hT
  · replace h := ifN c2 h
    refine wg_aload_n C dX6_distance_8 rfl ?_
    refine wg_iload_n C dX6_distance_9 rfl ?_
    obtain ⟨q4, e4q, h⟩ := bnd h
    refine wg_callV (n := 1) (As := [.int x2]) (st := []) (st' := [.int q4]) C (sX6_isDay cn bk st r0 r1 r2 r3 r4 li fo tx co ke rf cp lk fl em tm rd x2 q4 e4q) gX6_distance_X6_isDay rfl (by decide +kernel) ⟨⟨rfl, rfl⟩, Nat.le_of_ble_eq_true rfl, Nat.le_of_ble_eq_true rfl⟩ rfl rfl rfl rfl (Nat.le_of_ble_eq_true rfl) dX6_distance_10 rfl ?_
    refine wg_if_eq (tgt := 21) C dX6_distance_13 (by decide) (fun c5 => ?_) (fun c5 => ?_)
    · replace h := ifP c5 h
      refine wg_drop (lv' := [some (.ref 36), none, none, none]) [1, 2] rfl ?_
      exact sjX6_distance_21 X C cn bk st r0 r1 r2 r3 r4 li fo tx co ke rf cp lk fl em tm rd  _ h hT
    · replace h := ifN c5 h
      refine wg_iload_n C dX6_distance_16 rfl ?_
      refine wg_iload_n C dX6_distance_17 rfl ?_
      refine wg_icmp_ne (tgt := 26) C dX6_distance_18 (by decide) (fun c6 => ?_) (fun c6 => ?_)
      · replace h := ifP c6 h
        refine wg_aload_n C dX6_distance_26 rfl ?_
        refine wg_iload_n C dX6_distance_27 rfl ?_
        refine wg_iload_n C dX6_distance_28 rfl ?_
        obtain ⟨q7, e7q, h⟩ := bnd h
        refine wg_callV (n := 2) (As := [.int x1, .int x2]) (st := []) (st' := [.float q7.1]) C (sX6_distanceOf cn bk st r0 r1 r2 r3 r4 li fo tx co ke rf cp lk fl em tm rd x1 x2 q7 e7q) gX6_distance_X6_distanceOf rfl (by decide +kernel) ⟨⟨rfl, rfl⟩, Nat.le_of_ble_eq_true rfl, Nat.le_of_ble_eq_true rfl⟩ rfl rfl rfl rfl (Nat.le_of_ble_eq_true rfl) dX6_distance_29 rfl ?_
        refine wg_fstore_n (lv' := [some (.ref 36), some (.int x1), some (.int x2), some (.float q7.1)]) C dX6_distance_32 (Nat.le_of_ble_eq_true rfl) rfl ?_
        refine wg_aload_n C dX6_distance_33 rfl ?_
        refine wg_get (v := .int q7.2) C fgX6_distance_102 rfl rfl dX6_distance_34 ?_
        refine wg_if_eq (tgt := 47) C dX6_distance_37 (by decide) (fun c8 => ?_) (fun c8 => ?_)
        · replace h := ifP c8 h
          refine wg_iconst (v := -1) C dX6_distance_47 (by decide) ?_
          refine wg_drop (lv' := [none, none, none, none]) [0, 1, 2, 3] rfl ?_
          exact sjX6_distance_48 X C cn bk st r0 r1 r2 r3 r4 li fo tx co ke rf q7.2 lk fl em tm rd (-1 : Int32) _ h hT
        · replace h := ifN c8 h
          refine wg_fload_n C dX6_distance_40 rfl ?_
          obtain ⟨q9, e9q, h⟩ := bnd h
          refine wg_callT (n := 1) (As := [.float q7.1]) (st := []) (st' := [.int q9]) C (sJxf58ca_floatToIntBits_5c35a cn bk st r0 r1 r2 r3 r4 li fo tx co ke rf q7.2 lk fl em tm rd q7.1 q9 e9q) gX6_distance_Jxf58ca_floatToIntBits_5c35a rfl (by decide +kernel) ⟨⟨rfl, rfl⟩, Nat.le_of_ble_eq_true rfl, Nat.le_of_ble_eq_true rfl⟩ rfl rfl (Nat.le_of_ble_eq_true rfl) dX6_distance_41 rfl ?_
          refine wg_goto (tgt := 48) C dX6_distance_44 (by decide) ?_
          refine wg_drop (lv' := [none, none, none, none]) [0, 1, 2, 3] rfl ?_
          exact sjX6_distance_48 X C cn bk st r0 r1 r2 r3 r4 li fo tx co ke rf q7.2 lk fl em tm rd q9 _ h hT
      · replace h := ifN c6 h
        refine wg_drop (lv' := [some (.ref 36), none, none, none]) [1, 2] rfl ?_
        exact sjX6_distance_21 X C cn bk st r0 r1 r2 r3 r4 li fo tx co ke rf cp lk fl em tm rd  _ h hT
abbrev rX6_mayBeLike : Room := { frames := 0, cells := 0, slots := 0, locals := 0 }
theorem iwX6_mayBeLike_6 : ∀ w ∈ wsX60, w ∈ wsX6_mayBeLike := by decide +kernel
theorem fgX6_mayBeLike_13 : FG wsX6_mayBeLike RX6 13 6 2 := ⟨RX6, TX6, 21, rfl, by decide, by decide +kernel, iwX6_mayBeLike_6⟩
theorem fgX6_mayBeLike_48 : FG wsX6_mayBeLike RX6 48 6 1 := ⟨RX6, TX6, 21, rfl, by decide, by decide +kernel, iwX6_mayBeLike_6⟩
set_option maxRecDepth 100000 in
set_option maxHeartbeats 4000000 in
theorem sjX6_mayBeLike_52 (X : CX) (C : Ok X RX6 cX6_mayBeLike wsX6_mayBeLike rX6_mayBeLike) (cn : Tcn) (bk : Tbk) (st : Tst) (r0 : Tbk) (r1 : Tbk) (r2 : Tbk) (r3 : Tbk) (r4 : Tbk) (li : Tli) (fo : Tfo) (tx : Ttx) (co : Tco) (ke : Tke) (rf : (Nat → Int32)) (cp : Int32) (lk : Tlk) (fl : Tfl) (em : Int32) (tm : Ttm) (rd : Trd) (y0 : Int32) (o : Int32) (h : jX6_mayBeLike_52 co y0 = some o) (hT : Rt X (some .boolean) (some (.int o)) (mkH cn bk st r0 r1 r2 r3 r4 li fo tx co ke rf cp lk fl em tm rd)) : Wg X 52 [none, none, none, none] [.int y0] (mkH cn bk st r0 r1 r2 r3 r4 li fo tx co ke rf cp lk fl em tm rd) := by
  unfold jX6_mayBeLike_52 at h
  obtain ⟨g3, h⟩ := gdP h
  obtain rfl := Option.some.inj h
  exact wg_zret C hT (of_decide_eq_true g3) dX6_mayBeLike_52
set_option maxRecDepth 100000 in
set_option maxHeartbeats 4000000 in
theorem sjX6_mayBeLike_51 (X : CX) (C : Ok X RX6 cX6_mayBeLike wsX6_mayBeLike rX6_mayBeLike) (cn : Tcn) (bk : Tbk) (st : Tst) (r0 : Tbk) (r1 : Tbk) (r2 : Tbk) (r3 : Tbk) (r4 : Tbk) (li : Tli) (fo : Tfo) (tx : Ttx) (co : Tco) (ke : Tke) (rf : (Nat → Int32)) (cp : Int32) (lk : Tlk) (fl : Tfl) (em : Int32) (tm : Ttm) (rd : Trd)  (o : Int32) (h : jX6_mayBeLike_51 co  = some o) (hT : Rt X (some .boolean) (some (.int o)) (mkH cn bk st r0 r1 r2 r3 r4 li fo tx co ke rf cp lk fl em tm rd)) : Wg X 51 [none, none, none, none] [] (mkH cn bk st r0 r1 r2 r3 r4 li fo tx co ke rf cp lk fl em tm rd) := by
  unfold jX6_mayBeLike_51 at h
  refine wg_iconst (v := 0) C dX6_mayBeLike_51 (by decide) ?_
  exact sjX6_mayBeLike_52 X C cn bk st r0 r1 r2 r3 r4 li fo tx co ke rf cp lk fl em tm rd (0 : Int32) _ h hT
set_option maxRecDepth 100000 in
set_option maxHeartbeats 4000000 in
theorem sjX6_mayBeLike_14 (X : CX) (C : Ok X RX6 cX6_mayBeLike wsX6_mayBeLike rX6_mayBeLike) (cn : Tcn) (bk : Tbk) (st : Tst) (r0 : Tbk) (r1 : Tbk) (r2 : Tbk) (r3 : Tbk) (r4 : Tbk) (li : Tli) (fo : Tfo) (tx : Ttx) (co : Tco) (ke : Tke) (rf : (Nat → Int32)) (cp : Int32) (lk : Tlk) (fl : Tfl) (em : Int32) (tm : Ttm) (rd : Trd) (x1 : Int32) (x2 : Int32) (y0 : Int32) (o : Int32) (h : jX6_mayBeLike_14 co x1 x2 y0 = some o) (hT : Rt X (some .boolean) (some (.int o)) (mkH cn bk st r0 r1 r2 r3 r4 li fo tx co ke rf cp lk fl em tm rd)) : Wg X 14 [some (.ref 36), some (.int x1), some (.int x2), none] [.int y0] (mkH cn bk st r0 r1 r2 r3 r4 li fo tx co ke rf cp lk fl em tm rd) := by
  unfold jX6_mayBeLike_14 at h
  refine wg_istore_n (lv' := [some (.ref 36), some (.int x1), some (.int x2), some (.int y0)]) C dX6_mayBeLike_14 (Nat.le_of_ble_eq_true rfl) rfl ?_
  refine wg_iload_n C dX6_mayBeLike_15 rfl ?_
  refine wg_iload_n C dX6_mayBeLike_16 rfl ?_
  refine wg_icmp_eq (tgt := 51) C dX6_mayBeLike_17 (by decide) (fun c2 => ?_) (fun c2 => ?_)
  · replace h := ifP c2 h
    refine wg_drop (lv' := [none, none, none, none]) [0, 1, 2, 3] rfl ?_
    exact sjX6_mayBeLike_51 X C cn bk st r0 r1 r2 r3 r4 li fo tx co ke rf cp lk fl em tm rd  _ h hT
  · replace h := ifN c2 h
    refine wg_iload_n C dX6_mayBeLike_20 rfl ?_
    refine wg_aload_n C dX6_mayBeLike_21 rfl ?_
    refine wg_get (v := .ref 38) C fgX6_mayBeLike_13 rfl rfl dX6_mayBeLike_22 ?_
    refine wg_iconst (v := 4) C dX6_mayBeLike_25 (by decide) ?_
    obtain ⟨g4, h⟩ := gdP h
    refine wg_iald (f := co.2.1) (n := 6) C rfl g4 dX6_mayBeLike_26 ?_
    refine wg_icmp_le (tgt := 51) C dX6_mayBeLike_27 (by decide) (fun c5 => ?_) (fun c5 => ?_)
    · replace h := ifP c5 h
      refine wg_drop (lv' := [none, none, none, none]) [0, 1, 2, 3] rfl ?_
      exact sjX6_mayBeLike_51 X C cn bk st r0 r1 r2 r3 r4 li fo tx co ke rf cp lk fl em tm rd  _ h hT
    · replace h := ifN c5 h
      refine wg_iload_n C dX6_mayBeLike_30 rfl ?_
      refine wg_iconst (v := 1) C dX6_mayBeLike_31 (by decide) ?_
      refine wg_iadd C dX6_mayBeLike_32 ?_
      refine wg_aload_n C dX6_mayBeLike_33 rfl ?_
      refine wg_get (v := .int co.1) C fgX6_mayBeLike_48 rfl rfl dX6_mayBeLike_34 ?_
      refine wg_icmp_ge (tgt := 51) C dX6_mayBeLike_37 (by decide) (fun c6 => ?_) (fun c6 => ?_)
      · replace h := ifP c6 h
        refine wg_drop (lv' := [none, none, none, none]) [0, 1, 2, 3] rfl ?_
        exact sjX6_mayBeLike_51 X C cn bk st r0 r1 r2 r3 r4 li fo tx co ke rf cp lk fl em tm rd  _ h hT
      · replace h := ifN c6 h
        refine wg_iload_n C dX6_mayBeLike_40 rfl ?_
        refine wg_iconst (v := 1) C dX6_mayBeLike_41 (by decide) ?_
        refine wg_iadd C dX6_mayBeLike_42 ?_
        refine wg_iload_n C dX6_mayBeLike_43 rfl ?_
        refine wg_icmp_eq (tgt := 51) C dX6_mayBeLike_44 (by decide) (fun c7 => ?_) (fun c7 => ?_)
        · replace h := ifP c7 h
          refine wg_drop (lv' := [none, none, none, none]) [0, 1, 2, 3] rfl ?_
          exact sjX6_mayBeLike_51 X C cn bk st r0 r1 r2 r3 r4 li fo tx co ke rf cp lk fl em tm rd  _ h hT
        · replace h := ifN c7 h
          refine wg_iconst (v := 1) C dX6_mayBeLike_47 (by decide) ?_
          refine wg_goto (tgt := 52) C dX6_mayBeLike_48 (by decide) ?_
          refine wg_drop (lv' := [none, none, none, none]) [0, 1, 2, 3] rfl ?_
          exact sjX6_mayBeLike_52 X C cn bk st r0 r1 r2 r3 r4 li fo tx co ke rf cp lk fl em tm rd (1 : Int32) _ h hT
set_option maxRecDepth 100000 in
set_option maxHeartbeats 4000000 in
theorem sX6_mayBeLike (cn : Tcn) (bk : Tbk) (st : Tst) (r0 : Tbk) (r1 : Tbk) (r2 : Tbk) (r3 : Tbk) (r4 : Tbk) (li : Tli) (fo : Tfo) (tx : Ttx) (co : Tco) (ke : Tke) (rf : (Nat → Int32)) (cp : Int32) (lk : Tlk) (fl : Tfl) (em : Int32) (tm : Ttm) (rd : Trd) (x1 : Int32) (x2 : Int32) (o : Int32) (h : fX6_mayBeLike co x1 x2 = some o) : Sp yX6_mayBeLike wsX6_mayBeLike rX6_mayBeLike [.ref 36, .int x1, .int x2] (mkH cn bk st r0 r1 r2 r3 r4 li fo tx co ke rf cp lk fl em tm rd) (some (.int o)) (mkH cn bk st r0 r1 r2 r3 r4 li fo tx co ke rf cp lk fl em tm rd) := by
  refine Sp.of (lv := [some (.ref 36), some (.int x1), some (.int x2), none]) RX6 (by decide +kernel) rfl (Nat.le_of_ble_eq_true rfl) rfl ?_
  intro X C hT
  unfold fX6_mayBeLike at h
  refine wg_iload_n C dX6_mayBeLike_0 rfl ?_
  refine wg_iload_n C dX6_mayBeLike_1 rfl ?_
  refine wg_icmp_ge (tgt := 11) C dX6_mayBeLike_2 (by decide) (fun c1 => ?_) (fun c1 => ?_)
  · replace h := ifP c1 h
    refine wg_iload_n C dX6_mayBeLike_11 rfl ?_
    refine wg_iload_n C dX6_mayBeLike_12 rfl ?_
    refine wg_isub C dX6_mayBeLike_13 ?_
    exact sjX6_mayBeLike_14 X C cn bk st r0 r1 r2 r3 r4 li fo tx co ke rf cp lk fl em tm rd x1 x2 (x1 - x2) _ h hT
  · replace h := ifN c1 h
    refine wg_iload_n C dX6_mayBeLike_5 rfl ?_
    refine wg_iload_n C dX6_mayBeLike_6 rfl ?_
    refine wg_isub C dX6_mayBeLike_7 ?_
    refine wg_goto (tgt := 14) C dX6_mayBeLike_8 (by decide) ?_
    exact sjX6_mayBeLike_14 X C cn bk st r0 r1 r2 r3 r4 li fo tx co ke rf cp lk fl em tm rd x1 x2 (x2 - x1) _ h hT
abbrev rX6_setLike : Room := { frames := 2, cells := 0, slots := 0, locals := 51 }
theorem iwX6_setLike_6 : ∀ w ∈ wsX60, w ∈ wsX6_setLike := by decide +kernel
theorem fgX6_setLike_22 : FG wsX6_setLike RX6 22 6 8 := ⟨RX6, TX6, 21, rfl, by decide, by decide +kernel, iwX6_setLike_6⟩
theorem fgX6_setLike_25 : FG wsX6_setLike RX6 25 6 9 := ⟨RX6, TX6, 21, rfl, by decide, by decide +kernel, iwX6_setLike_6⟩
theorem fgX6_setLike_48 : FG wsX6_setLike RX6 48 6 1 := ⟨RX6, TX6, 21, rfl, by decide, by decide +kernel, iwX6_setLike_6⟩
theorem fgX6_setLike_102 : FG wsX6_setLike RX6 102 6 6 := ⟨RX6, TX6, 21, rfl, by decide, by decide +kernel, iwX6_setLike_6⟩
theorem fgX6_setLike_124 : FG wsX6_setLike RX6 124 6 7 := ⟨RX6, TX6, 21, rfl, by decide, by decide +kernel, iwX6_setLike_6⟩
theorem fwX6_setLike_124 : FW wsX6_setLike RX6 124 6 7 .int := ⟨RX6, TX6, 21, tyX6, rfl, by decide, by decide +kernel, iwX6_setLike_6, tyX6_ok, nmX6, rfl, by decide +kernel⟩
set_option maxRecDepth 100000 in
set_option maxHeartbeats 4000000 in
theorem sjX6_setLike_7_127 (X : CX) (C : Ok X RX6 cX6_setLike wsX6_setLike rX6_setLike) (cn : Tcn) (bk : Tbk) (st : Tst) (r0 : Tbk) (r1 : Tbk) (r2 : Tbk) (r3 : Tbk) (r4 : Tbk) (li : Tli) (fo : Tfo) (tx : Ttx) (co : Tco) (ke : Tke) (rf : (Nat → Int32)) (cp : Int32) (lk : Tlk) (fl : Tfl) (em : Int32) (tm : Ttm) (rd : Trd) (x1 : Int32) (x2 : Int32) (o : (Int32 × Int32 × Tlk) ⊕ (Int32 × Tlk)) (h : jX6_setLike_7_127 co cp lk x1 x2 = some o) (k0 : ∀ a : Int32 × Int32 × Tlk, o = .inl a → Wg X 7 [some (.ref 36), some (.int x1), some (.int a.1), none, none] [] (mkH cn bk st r0 r1 r2 r3 r4 li fo tx co ke rf a.2.1 a.2.2 fl em tm rd)) (e0 : ∀ a : Int32 × Tlk, o = .inr a → Wg X 133 [none, none, none, none, none] [] (mkH cn bk st r0 r1 r2 r3 r4 li fo tx co ke rf a.1 a.2 fl em tm rd)) : Wg X 127 [some (.ref 36), some (.int x1), some (.int x2), none, none] [] (mkH cn bk st r0 r1 r2 r3 r4 li fo tx co ke rf cp lk fl em tm rd) := by
  unfold jX6_setLike_7_127 at h
  refine wg_iinc (v := (x2 + (1 : Int32))) (lv' := [some (.ref 36), some (.int x1), some (.int (x2 + (1 : Int32))), none, none]) C dX6_setLike_127 rfl rfl rfl ?_
  refine wg_goto (tgt := 7) C dX6_setLike_130 (by decide) ?_
  have hk := k0 _ (Option.some.inj h).symm
  exact hk
set_option maxRecDepth 100000 in
set_option maxHeartbeats 4000000 in
theorem sbX6_setLike_44 (X : CX) (C : Ok X RX6 cX6_setLike wsX6_setLike rX6_setLike) (cn : Tcn) (bk : Tbk) (st : Tst) (r0 : Tbk) (r1 : Tbk) (r2 : Tbk) (r3 : Tbk) (r4 : Tbk) (li : Tli) (fo : Tfo) (tx : Ttx) (co : Tco) (ke : Tke) (rf : (Nat → Int32)) (cp : Int32) (lk : Tlk) (fl : Tfl) (em : Int32) (tm : Ttm) (rd : Trd) (x1 : Int32) (x2 : Int32) (x3 : UInt32) (z : Int32 × Tlk) (o : (Int32 × Tlk) ⊕ (Int32 × Tlk)) (h : bX6_setLike_44 co cp x1 x2 x3 z = some o) (k0 : ∀ a : Int32 × Tlk, o = .inl a → Wg X 44 [some (.ref 36), some (.int x1), some (.int x2), some (.float x3), some (.int a.1)] [] (mkH cn bk st r0 r1 r2 r3 r4 li fo tx co ke rf cp a.2 fl em tm rd)) (e0 : ∀ a : Int32 × Tlk, o = .inr a → Wg X 101 [some (.ref 36), some (.int x1), some (.int x2), some (.float x3), some (.int a.1)] [] (mkH cn bk st r0 r1 r2 r3 r4 li fo tx co ke rf cp a.2 fl em tm rd)) : Wg X 44 [some (.ref 36), some (.int x1), some (.int x2), some (.float x3), some (.int z.1)] [] (mkH cn bk st r0 r1 r2 r3 r4 li fo tx co ke rf cp z.2 fl em tm rd) := by
  unfold bX6_setLike_44 at h
  refine wg_iload C dX6_setLike_44 rfl ?_
  refine wg_if_le (tgt := 101) C dX6_setLike_46 (by decide) (fun c6 => ?_) (fun c6 => ?_)
  · replace h := ifP c6 h
    have hk := e0 _ (Option.some.inj h).symm
    exact hk
  · replace h := ifN c6 h
    refine wg_aload_n C dX6_setLike_49 rfl ?_
    refine wg_get (v := .ref 42) C fgX6_setLike_25 rfl rfl dX6_setLike_50 ?_
    refine wg_iload C dX6_setLike_53 rfl ?_
    refine wg_iconst (v := 1) C dX6_setLike_55 (by decide) ?_
    refine wg_isub C dX6_setLike_56 ?_
    obtain ⟨g7, h⟩ := gdP h
    refine wg_fald (f := z.2.2.2) (n := 50) C rfl g7 dX6_setLike_57 ?_
    refine wg_fload_n C dX6_setLike_58 rfl ?_
    refine wg_fcmp C dX6_setLike_59 ?_
    refine wg_if_le (tgt := 101) C dX6_setLike_60 (by decide) (fun c8 => ?_) (fun c8 => ?_)
    · replace h := ifP c8 h
      have hk := e0 _ (Option.some.inj h).symm
      exact hk
    · replace h := ifN c8 h
      refine wg_aload_n C dX6_setLike_63 rfl ?_
      refine wg_get (v := .ref 41) C fgX6_setLike_22 rfl rfl dX6_setLike_64 ?_
      refine wg_iload C dX6_setLike_67 rfl ?_
      refine wg_aload_n C dX6_setLike_69 rfl ?_
      refine wg_get (v := .ref 41) C fgX6_setLike_22 rfl rfl dX6_setLike_70 ?_
      refine wg_iload C dX6_setLike_73 rfl ?_
      refine wg_iconst (v := 1) C dX6_setLike_75 (by decide) ?_
      refine wg_isub C dX6_setLike_76 ?_
      obtain ⟨g9, h⟩ := gdP h
      refine wg_iald (f := z.2.2.1) (n := 50) C rfl g9 dX6_setLike_77 ?_
      obtain ⟨g10, h⟩ := gdP h
      refine wg_iast (f := z.2.2.1) (n := 50) (hp' := (mkH cn bk st r0 r1 r2 r3 r4 li fo tx co ke rf cp (z.2.1, (upd z.2.2.1 (z.1).toNatClampNeg (z.2.2.1 ((z.1 - (1 : Int32))).toNatClampNeg)), z.2.2.2) fl em tm rd)) C rfl g10 rfl dX6_setLike_78 ?_
      refine wg_aload_n C dX6_setLike_79 rfl ?_
      refine wg_get (v := .ref 42) C fgX6_setLike_25 rfl rfl dX6_setLike_80 ?_
      refine wg_iload C dX6_setLike_83 rfl ?_
      refine wg_aload_n C dX6_setLike_85 rfl ?_
      refine wg_get (v := .ref 42) C fgX6_setLike_25 rfl rfl dX6_setLike_86 ?_
      refine wg_iload C dX6_setLike_89 rfl ?_
      refine wg_iconst (v := 1) C dX6_setLike_91 (by decide) ?_
      refine wg_isub C dX6_setLike_92 ?_
      obtain ⟨g11, h⟩ := gdP h
      refine wg_fald (f := z.2.2.2) (n := 50) C rfl g11 dX6_setLike_93 ?_
      obtain ⟨g12, h⟩ := gdP h
      refine wg_fast (f := z.2.2.2) (n := 50) (hp' := (mkH cn bk st r0 r1 r2 r3 r4 li fo tx co ke rf cp (z.2.1, (upd z.2.2.1 (z.1).toNatClampNeg (z.2.2.1 ((z.1 - (1 : Int32))).toNatClampNeg)), (vf_upd z.2.2.2 (z.1).toNatClampNeg (z.2.2.2 ((z.1 - (1 : Int32))).toNatClampNeg))) fl em tm rd)) C rfl g12 rfl dX6_setLike_94 ?_
      refine wg_iinc (v := (z.1 + (-1 : Int32))) (lv' := [some (.ref 36), some (.int x1), some (.int x2), some (.float x3), some (.int (z.1 + (-1 : Int32)))]) C dX6_setLike_95 rfl rfl rfl ?_
      refine wg_goto (tgt := 44) C dX6_setLike_98 (by decide) ?_
      have hk := k0 _ (Option.some.inj h).symm
      exact hk
set_option maxRecDepth 100000 in
set_option maxHeartbeats 4000000 in
theorem slX6_setLike_44 (X : CX) (C : Ok X RX6 cX6_setLike wsX6_setLike rX6_setLike) (cn : Tcn) (bk : Tbk) (st : Tst) (r0 : Tbk) (r1 : Tbk) (r2 : Tbk) (r3 : Tbk) (r4 : Tbk) (li : Tli) (fo : Tfo) (tx : Ttx) (co : Tco) (ke : Tke) (rf : (Nat → Int32)) (cp : Int32) (lk : Tlk) (fl : Tfl) (em : Int32) (tm : Ttm) (rd : Trd) (x1 : Int32) (x2 : Int32) (x3 : UInt32) (o : (Int32 × Tlk)) (e0 : ∀ a : Int32 × Tlk, o = a → Wg X 101 [some (.ref 36), some (.int x1), some (.int x2), some (.float x3), some (.int a.1)] [] (mkH cn bk st r0 r1 r2 r3 r4 li fo tx co ke rf cp a.2 fl em tm rd)) : ∀ (n : Nat) (z : Int32 × Tlk), lpF (bX6_setLike_44 co cp x1 x2 x3) n z = some o → Wg X 44 [some (.ref 36), some (.int x1), some (.int x2), some (.float x3), some (.int z.1)] [] (mkH cn bk st r0 r1 r2 r3 r4 li fo tx co ke rf cp z.2 fl em tm rd) := by
  intro n
  induction n with
  | zero => intro z h; cases h
  | succ n ih =>
    intro z h
    obtain ⟨r, hB, h⟩ := bnd h
    refine sbX6_setLike_44 X C cn bk st r0 r1 r2 r3 r4 li fo tx co ke rf cp lk fl em tm rd x1 x2 x3 z r hB (fun a e => ih a (by subst e; exact h)) (fun a e => e0 a (by subst e; exact (Option.some.inj h).symm))
set_option maxRecDepth 100000 in
set_option maxHeartbeats 4000000 in
theorem sbX6_setLike_7 (X : CX) (C : Ok X RX6 cX6_setLike wsX6_setLike rX6_setLike) (cn : Tcn) (bk : Tbk) (st : Tst) (r0 : Tbk) (r1 : Tbk) (r2 : Tbk) (r3 : Tbk) (r4 : Tbk) (li : Tli) (fo : Tfo) (tx : Ttx) (co : Tco) (ke : Tke) (rf : (Nat → Int32)) (cp : Int32) (lk : Tlk) (fl : Tfl) (em : Int32) (tm : Ttm) (rd : Trd) (x1 : Int32) (z : Int32 × Int32 × Tlk) (o : (Int32 × Int32 × Tlk) ⊕ (Int32 × Tlk)) (h : bX6_setLike_7 co x1 z = some o) (k0 : ∀ a : Int32 × Int32 × Tlk, o = .inl a → Wg X 7 [some (.ref 36), some (.int x1), some (.int a.1), none, none] [] (mkH cn bk st r0 r1 r2 r3 r4 li fo tx co ke rf a.2.1 a.2.2 fl em tm rd)) (e0 : ∀ a : Int32 × Tlk, o = .inr a → Wg X 133 [none, none, none, none, none] [] (mkH cn bk st r0 r1 r2 r3 r4 li fo tx co ke rf a.1 a.2 fl em tm rd)) : Wg X 7 [some (.ref 36), some (.int x1), some (.int z.1), none, none] [] (mkH cn bk st r0 r1 r2 r3 r4 li fo tx co ke rf z.2.1 z.2.2 fl em tm rd) := by
  unfold bX6_setLike_7 at h
  refine wg_iload_n C dX6_setLike_7 rfl ?_
  refine wg_aload_n C dX6_setLike_8 rfl ?_
  refine wg_get (v := .int co.1) C fgX6_setLike_48 rfl rfl dX6_setLike_9 ?_
  refine wg_icmp_ge (tgt := 133) C dX6_setLike_12 (by decide) (fun c1 => ?_) (fun c1 => ?_)
  · replace h := ifP c1 h
    refine wg_drop (lv' := [none, none, none, none, none]) [0, 1, 2] rfl ?_
    have hk := e0 _ (Option.some.inj h).symm
    exact hk
  · replace h := ifN c1 h
    refine wg_aload_n C dX6_setLike_15 rfl ?_
    refine wg_iload_n C dX6_setLike_16 rfl ?_
    refine wg_iload_n C dX6_setLike_17 rfl ?_
    obtain ⟨q2, e2q, h⟩ := bnd h
    refine wg_callV (n := 2) (As := [.int x1, .int z.1]) (st := []) (st' := [.int q2]) C (sX6_mayBeLike cn bk st r0 r1 r2 r3 r4 li fo tx co ke rf z.2.1 z.2.2 fl em tm rd x1 z.1 q2 e2q) gX6_setLike_X6_mayBeLike rfl (by decide +kernel) ⟨⟨rfl, rfl⟩, Nat.le_of_ble_eq_true rfl, Nat.le_of_ble_eq_true rfl⟩ rfl rfl rfl rfl (Nat.le_of_ble_eq_true rfl) dX6_setLike_18 rfl ?_
    refine wg_if_eq (tgt := 127) C dX6_setLike_21 (by decide) (fun c3 => ?_) (fun c3 => ?_)
    · replace h := ifP c3 h
      exact sjX6_setLike_7_127 X C cn bk st r0 r1 r2 r3 r4 li fo tx co ke rf z.2.1 z.2.2 fl em tm rd x1 z.1 _ h k0 e0
    · replace h := ifN c3 h
      refine wg_aload_n C dX6_setLike_24 rfl ?_
      refine wg_iload_n C dX6_setLike_25 rfl ?_
      refine wg_iload_n C dX6_setLike_26 rfl ?_
      obtain ⟨q4, e4q, h⟩ := bnd h
      refine wg_callV (n := 2) (As := [.int x1, .int z.1]) (st := []) (st' := [.float q4.1]) C (sX6_distanceOf cn bk st r0 r1 r2 r3 r4 li fo tx co ke rf z.2.1 z.2.2 fl em tm rd x1 z.1 q4 e4q) gX6_setLike_X6_distanceOf rfl (by decide +kernel) ⟨⟨rfl, rfl⟩, Nat.le_of_ble_eq_true rfl, Nat.le_of_ble_eq_true rfl⟩ rfl rfl rfl rfl (Nat.le_of_ble_eq_true rfl) dX6_setLike_27 rfl ?_
      refine wg_fstore_n (lv' := [some (.ref 36), some (.int x1), some (.int z.1), some (.float q4.1), none]) C dX6_setLike_30 (Nat.le_of_ble_eq_true rfl) rfl ?_
      refine wg_aload_n C dX6_setLike_31 rfl ?_
      refine wg_get (v := .int q4.2) C fgX6_setLike_102 rfl rfl dX6_setLike_32 ?_
      refine wg_if_eq (tgt := 127) C dX6_setLike_35 (by decide) (fun c5 => ?_) (fun c5 => ?_)
      · replace h := ifP c5 h
        refine wg_drop (lv' := [some (.ref 36), some (.int x1), some (.int z.1), none, none]) [3] rfl ?_
        exact sjX6_setLike_7_127 X C cn bk st r0 r1 r2 r3 r4 li fo tx co ke rf q4.2 z.2.2 fl em tm rd x1 z.1 _ h k0 e0
      · replace h := ifN c5 h
        refine wg_aload_n C dX6_setLike_38 rfl ?_
        refine wg_get (v := .int z.2.2.1) C fgX6_setLike_124 rfl rfl dX6_setLike_39 ?_
        refine wg_istore (lv' := [some (.ref 36), some (.int x1), some (.int z.1), some (.float q4.1), some (.int z.2.2.1)]) C dX6_setLike_42 (Nat.le_of_ble_eq_true rfl) rfl ?_
        obtain ⟨t13, hL13, h⟩ := bnd h
        refine slX6_setLike_44 X C cn bk st r0 r1 r2 r3 r4 li fo tx co ke rf q4.2 z.2.2 fl em tm rd x1 z.1 q4.1 t13 (fun a e => ?_) FU (z.2.2.1, z.2.2) hL13
        subst e
        refine wg_aload_n C dX6_setLike_101 rfl ?_
        refine wg_get (v := .ref 41) C fgX6_setLike_22 rfl rfl dX6_setLike_102 ?_
        refine wg_iload C dX6_setLike_105 rfl ?_
        refine wg_iload_n C dX6_setLike_107 rfl ?_
        obtain ⟨g14, h⟩ := gdP h
        refine wg_iast (f := t13.2.2.1) (n := 50) (hp' := (mkH cn bk st r0 r1 r2 r3 r4 li fo tx co ke rf q4.2 (t13.2.1, (upd t13.2.2.1 (t13.1).toNatClampNeg z.1), t13.2.2.2) fl em tm rd)) C rfl g14 rfl dX6_setLike_108 ?_
        refine wg_aload_n C dX6_setLike_109 rfl ?_
        refine wg_get (v := .ref 42) C fgX6_setLike_25 rfl rfl dX6_setLike_110 ?_
        refine wg_iload C dX6_setLike_113 rfl ?_
        refine wg_fload_n C dX6_setLike_115 rfl ?_
        obtain ⟨g15, h⟩ := gdP h
        refine wg_fast (f := t13.2.2.2) (n := 50) (hp' := (mkH cn bk st r0 r1 r2 r3 r4 li fo tx co ke rf q4.2 (t13.2.1, (upd t13.2.2.1 (t13.1).toNatClampNeg z.1), (vf_upd t13.2.2.2 (t13.1).toNatClampNeg q4.1)) fl em tm rd)) C rfl g15 rfl dX6_setLike_116 ?_
        refine wg_aload_n C dX6_setLike_117 rfl ?_
        refine wg_dup C dX6_setLike_118 rfl ?_
        refine wg_get (v := .int t13.2.1) C fgX6_setLike_124 rfl rfl dX6_setLike_119 ?_
        refine wg_iconst (v := 1) C dX6_setLike_122 (by decide) ?_
        refine wg_iadd C dX6_setLike_123 ?_
        refine wg_put (hp' := (mkH cn bk st r0 r1 r2 r3 r4 li fo tx co ke rf q4.2 ((t13.2.1 + (1 : Int32)), (upd t13.2.2.1 (t13.1).toNatClampNeg z.1), (vf_upd t13.2.2.2 (t13.1).toNatClampNeg q4.1)) fl em tm rd)) C fwX6_setLike_124 rfl (Nat.le_of_ble_eq_true rfl) rfl rfl rfl dX6_setLike_124 ?_
        refine wg_drop (lv' := [some (.ref 36), some (.int x1), some (.int z.1), none, none]) [3, 4] rfl ?_
        exact sjX6_setLike_7_127 X C cn bk st r0 r1 r2 r3 r4 li fo tx co ke rf q4.2 ((t13.2.1 + (1 : Int32)), (upd t13.2.2.1 (t13.1).toNatClampNeg z.1), (vf_upd t13.2.2.2 (t13.1).toNatClampNeg q4.1)) fl em tm rd x1 z.1 _ h k0 e0
set_option maxRecDepth 100000 in
set_option maxHeartbeats 4000000 in
theorem slX6_setLike_7 (X : CX) (C : Ok X RX6 cX6_setLike wsX6_setLike rX6_setLike) (cn : Tcn) (bk : Tbk) (st : Tst) (r0 : Tbk) (r1 : Tbk) (r2 : Tbk) (r3 : Tbk) (r4 : Tbk) (li : Tli) (fo : Tfo) (tx : Ttx) (co : Tco) (ke : Tke) (rf : (Nat → Int32)) (cp : Int32) (lk : Tlk) (fl : Tfl) (em : Int32) (tm : Ttm) (rd : Trd) (x1 : Int32) (o : (Int32 × Tlk)) (e0 : ∀ a : Int32 × Tlk, o = a → Wg X 133 [none, none, none, none, none] [] (mkH cn bk st r0 r1 r2 r3 r4 li fo tx co ke rf a.1 a.2 fl em tm rd)) : ∀ (n : Nat) (z : Int32 × Int32 × Tlk), lpF (bX6_setLike_7 co x1) n z = some o → Wg X 7 [some (.ref 36), some (.int x1), some (.int z.1), none, none] [] (mkH cn bk st r0 r1 r2 r3 r4 li fo tx co ke rf z.2.1 z.2.2 fl em tm rd) := by
  intro n
  induction n with
  | zero => intro z h; cases h
  | succ n ih =>
    intro z h
    obtain ⟨r, hB, h⟩ := bnd h
    refine sbX6_setLike_7 X C cn bk st r0 r1 r2 r3 r4 li fo tx co ke rf cp lk fl em tm rd x1 z r hB (fun a e => ih a (by subst e; exact h)) (fun a e => e0 a (by subst e; exact (Option.some.inj h).symm))
set_option maxRecDepth 100000 in
set_option maxHeartbeats 4000000 in
theorem sX6_setLike (cn : Tcn) (bk : Tbk) (st : Tst) (r0 : Tbk) (r1 : Tbk) (r2 : Tbk) (r3 : Tbk) (r4 : Tbk) (li : Tli) (fo : Tfo) (tx : Ttx) (co : Tco) (ke : Tke) (rf : (Nat → Int32)) (cp : Int32) (lk : Tlk) (fl : Tfl) (em : Int32) (tm : Ttm) (rd : Trd) (x1 : Int32) (o : Int32 × Tlk) (h : fX6_setLike co cp lk x1 = some o) : Sp yX6_setLike wsX6_setLike rX6_setLike [.ref 36, .int x1] (mkH cn bk st r0 r1 r2 r3 r4 li fo tx co ke rf cp lk fl em tm rd) none (mkH cn bk st r0 r1 r2 r3 r4 li fo tx co ke rf o.1 o.2 fl em tm rd) := by
  refine Sp.of (lv := [some (.ref 36), some (.int x1), none, none, none]) RX6 (by decide +kernel) rfl (Nat.le_of_ble_eq_true rfl) rfl ?_
  intro X C hT
  unfold fX6_setLike at h
  refine wg_aload_n C dX6_setLike_0 rfl ?_
  refine wg_iconst (v := 0) C dX6_setLike_1 (by decide) ?_
  refine wg_put (hp' := (mkH cn bk st r0 r1 r2 r3 r4 li fo tx co ke rf cp ((0 : Int32), lk.2.1, lk.2.2) fl em tm rd)) C fwX6_setLike_124 rfl (Nat.le_of_ble_eq_true rfl) rfl rfl rfl dX6_setLike_2 ?_
  refine wg_iconst (v := 0) C dX6_setLike_5 (by decide) ?_
  refine wg_istore_n (lv' := [some (.ref 36), some (.int x1), some (.int (0 : Int32)), none, none]) C dX6_setLike_6 (Nat.le_of_ble_eq_true rfl) rfl ?_
  obtain ⟨t16, hL16, h⟩ := bnd h
  refine slX6_setLike_7 X C cn bk st r0 r1 r2 r3 r4 li fo tx co ke rf cp ((0 : Int32), lk.2.1, lk.2.2) fl em tm rd x1 t16 (fun a e => ?_) FU ((0 : Int32), cp, ((0 : Int32), lk.2.1, lk.2.2)) hL16
  subst e
  obtain rfl := Option.some.inj h
  exact wg_vret C hT dX6_setLike_133
abbrev rX6_setNearest : Room := { frames := 3, cells := 0, slots := 0, locals := 75 }
theorem iwX6_setNearest_6 : ∀ w ∈ wsX60, w ∈ wsX6_setNearest := by decide +kernel
theorem fgX6_setNearest_13 : FG wsX6_setNearest RX6 13 6 2 := ⟨RX6, TX6, 21, rfl, by decide, by decide +kernel, iwX6_setNearest_6⟩
theorem fgX6_setNearest_124 : FG wsX6_setNearest RX6 124 6 7 := ⟨RX6, TX6, 21, rfl, by decide, by decide +kernel, iwX6_setNearest_6⟩
theorem fwX6_setNearest_124 : FW wsX6_setNearest RX6 124 6 7 .int := ⟨RX6, TX6, 21, tyX6, rfl, by decide, by decide +kernel, iwX6_setNearest_6, tyX6_ok, nmX6, rfl, by decide +kernel⟩
set_option maxRecDepth 100000 in
set_option maxHeartbeats 4000000 in
theorem sjX6_setNearest_32 (X : CX) (C : Ok X RX6 cX6_setNearest wsX6_setNearest rX6_setNearest) (cn : Tcn) (bk : Tbk) (st : Tst) (r0 : Tbk) (r1 : Tbk) (r2 : Tbk) (r3 : Tbk) (r4 : Tbk) (li : Tli) (fo : Tfo) (tx : Ttx) (co : Tco) (ke : Tke) (rf : (Nat → Int32)) (cp : Int32) (lk : Tlk) (fl : Tfl) (em : Int32) (tm : Ttm) (rd : Trd) (y1 : Int32) (o : Int32 × Tlk) (h : jX6_setNearest_32 co cp lk y1 = some o) (hT : Rt X none none (mkH cn bk st r0 r1 r2 r3 r4 li fo tx co ke rf o.1 o.2 fl em tm rd)) : Wg X 32 [none, none] [.int y1, .ref 36] (mkH cn bk st r0 r1 r2 r3 r4 li fo tx co ke rf cp lk fl em tm rd) := by
  unfold jX6_setNearest_32 at h
  refine wg_put (hp' := (mkH cn bk st r0 r1 r2 r3 r4 li fo tx co ke rf cp (y1, lk.2.1, lk.2.2) fl em tm rd)) C fwX6_setNearest_124 rfl (Nat.le_of_ble_eq_true rfl) rfl rfl rfl dX6_setNearest_32 ?_
  obtain rfl := Option.some.inj h
  exact wg_vret C hT dX6_setNearest_35
set_option maxRecDepth 100000 in
set_option maxHeartbeats 4000000 in
theorem sX6_setNearest (cn : Tcn) (bk : Tbk) (st : Tst) (r0 : Tbk) (r1 : Tbk) (r2 : Tbk) (r3 : Tbk) (r4 : Tbk) (li : Tli) (fo : Tfo) (tx : Ttx) (co : Tco) (ke : Tke) (rf : (Nat → Int32)) (cp : Int32) (lk : Tlk) (fl : Tfl) (em : Int32) (tm : Ttm) (rd : Trd) (x1 : Int32) (o : Int32 × Tlk) (h : fX6_setNearest co cp lk x1 = some o) : Sp yX6_setNearest wsX6_setNearest rX6_setNearest [.ref 36, .int x1] (mkH cn bk st r0 r1 r2 r3 r4 li fo tx co ke rf cp lk fl em tm rd) none (mkH cn bk st r0 r1 r2 r3 r4 li fo tx co ke rf o.1 o.2 fl em tm rd) := by
  refine Sp.of (lv := [some (.ref 36), some (.int x1)]) RX6 (by decide +kernel) rfl (Nat.le_of_ble_eq_true rfl) rfl ?_
  intro X C hT
  unfold fX6_setNearest at h
  refine wg_aload_n C dX6_setNearest_0 rfl ?_
  refine wg_iload_n C dX6_setNearest_1 rfl ?_
  obtain ⟨q1, e1q, h⟩ := bnd h
  refine wg_callV (n := 1) (As := [.int x1]) (st := []) (st' := []) C (sX6_setLike cn bk st r0 r1 r2 r3 r4 li fo tx co ke rf cp lk fl em tm rd x1 q1 e1q) gX6_setNearest_X6_setLike rfl (by decide +kernel) ⟨⟨rfl, rfl⟩, Nat.le_of_ble_eq_true rfl, Nat.le_of_ble_eq_true rfl⟩ rfl rfl rfl rfl (Nat.le_of_ble_eq_true rfl) dX6_setNearest_2 rfl ?_
  refine wg_aload_n C dX6_setNearest_5 rfl ?_
  refine wg_aload_n C dX6_setNearest_6 rfl ?_
  refine wg_get (v := .int q1.2.1) C fgX6_setNearest_124 rfl rfl dX6_setNearest_7 ?_
  refine wg_aload_n C dX6_setNearest_10 rfl ?_
  refine wg_get (v := .ref 38) C fgX6_setNearest_13 rfl rfl dX6_setNearest_11 ?_
  refine wg_iconst (v := 5) C dX6_setNearest_14 (by decide) ?_
  obtain ⟨g2, h⟩ := gdP h
  refine wg_iald (f := co.2.1) (n := 6) C rfl g2 dX6_setNearest_15 ?_
  refine wg_icmp_ge (tgt := 26) C dX6_setNearest_16 (by decide) (fun c3 => ?_) (fun c3 => ?_)
  · replace h := ifP c3 h
    refine wg_aload_n C dX6_setNearest_26 rfl ?_
    refine wg_get (v := .ref 38) C fgX6_setNearest_13 rfl rfl dX6_setNearest_27 ?_
    refine wg_iconst (v := 5) C dX6_setNearest_30 (by decide) ?_
    obtain ⟨g4, h⟩ := gdP h
    refine wg_iald (f := co.2.1) (n := 6) C rfl g4 dX6_setNearest_31 ?_
    refine wg_drop (lv' := [none, none]) [0, 1] rfl ?_
    exact sjX6_setNearest_32 X C cn bk st r0 r1 r2 r3 r4 li fo tx co ke rf q1.1 q1.2 fl em tm rd (co.2.1 ((5 : Int32)).toNatClampNeg) _ h hT
  · replace h := ifN c3 h
    refine wg_aload_n C dX6_setNearest_19 rfl ?_
    refine wg_get (v := .int q1.2.1) C fgX6_setNearest_124 rfl rfl dX6_setNearest_20 ?_
    refine wg_goto (tgt := 32) C dX6_setNearest_23 (by decide) ?_
    refine wg_drop (lv' := [none, none]) [0, 1] rfl ?_
    exact sjX6_setNearest_32 X C cn bk st r0 r1 r2 r3 r4 li fo tx co ke rf q1.1 q1.2 fl em tm rd q1.2.1 _ h hT
abbrev rX6_nearest : Room := { frames := 4, cells := 0, slots := 0, locals := 96 }
theorem iwX6_nearest_6 : ∀ w ∈ wsX60, w ∈ wsX6_nearest := by decide +kernel
theorem fgX6_nearest_22 : FG wsX6_nearest RX6 22 6 8 := ⟨RX6, TX6, 21, rfl, by decide, by decide +kernel, iwX6_nearest_6⟩
theorem fgX6_nearest_25 : FG wsX6_nearest RX6 25 6 9 := ⟨RX6, TX6, 21, rfl, by decide, by decide +kernel, iwX6_nearest_6⟩
theorem fgX6_nearest_124 : FG wsX6_nearest RX6 124 6 7 := ⟨RX6, TX6, 21, rfl, by decide, by decide +kernel, iwX6_nearest_6⟩
set_option maxRecDepth 100000 in
set_option maxHeartbeats 4000000 in
theorem sjX6_nearest_21 (X : CX) (C : Ok X RX6 cX6_nearest wsX6_nearest rX6_nearest) (cn : Tcn) (bk : Tbk) (st : Tst) (r0 : Tbk) (r1 : Tbk) (r2 : Tbk) (r3 : Tbk) (r4 : Tbk) (li : Tli) (fo : Tfo) (tx : Ttx) (co : Tco) (ke : Tke) (rf : (Nat → Int32)) (cp : Int32) (lk : Tlk) (fl : Tfl) (em : Int32) (tm : Ttm) (rd : Trd)  (o : Int32 × (Nat → Int32) × Int32 × Tlk) (h : jX6_nearest_21 co rf cp lk  = some o) (hT : Rt X (some .int) (some (.int o.1)) (mkH cn bk st r0 r1 r2 r3 r4 li fo tx co ke o.2.1 o.2.2.1 o.2.2.2 fl em tm rd)) : Wg X 21 [some (.ref 36), none, none, none] [] (mkH cn bk st r0 r1 r2 r3 r4 li fo tx co ke rf cp lk fl em tm rd) := by
  unfold jX6_nearest_21 at h
  refine wg_aload_n C dX6_nearest_21 rfl ?_
  obtain ⟨q3, e3q, h⟩ := bnd h
  refine wg_callV (n := 0) (As := []) (st := []) (st' := [.int q3.1]) C (sX6_bad cn bk st r0 r1 r2 r3 r4 li fo tx co ke rf cp lk fl em tm rd  q3 e3q) gX6_nearest_X6_bad rfl (by decide +kernel) ⟨⟨rfl, rfl⟩, Nat.le_of_ble_eq_true rfl, Nat.le_of_ble_eq_true rfl⟩ rfl rfl rfl rfl (Nat.le_of_ble_eq_true rfl) dX6_nearest_22 rfl ?_
  obtain rfl := Option.some.inj h
  exact wg_iret C hT dX6_nearest_25
set_option maxRecDepth 100000 in
set_option maxHeartbeats 4000000 in
theorem sjX6_nearest_63 (X : CX) (C : Ok X RX6 cX6_nearest wsX6_nearest rX6_nearest) (cn : Tcn) (bk : Tbk) (st : Tst) (r0 : Tbk) (r1 : Tbk) (r2 : Tbk) (r3 : Tbk) (r4 : Tbk) (li : Tli) (fo : Tfo) (tx : Ttx) (co : Tco) (ke : Tke) (rf : (Nat → Int32)) (cp : Int32) (lk : Tlk) (fl : Tfl) (em : Int32) (tm : Ttm) (rd : Trd) (y0 : Int32) (o : Int32 × (Nat → Int32) × Int32 × Tlk) (h : jX6_nearest_63 co rf cp lk y0 = some o) (hT : Rt X (some .int) (some (.int o.1)) (mkH cn bk st r0 r1 r2 r3 r4 li fo tx co ke o.2.1 o.2.2.1 o.2.2.2 fl em tm rd)) : Wg X 63 [none, none, none, none] [.int y0] (mkH cn bk st r0 r1 r2 r3 r4 li fo tx co ke rf cp lk fl em tm rd) := by
  unfold jX6_nearest_63 at h
  obtain rfl := Option.some.inj h
  exact wg_iret C hT dX6_nearest_63
set_option maxRecDepth 100000 in
set_option maxHeartbeats 4000000 in
theorem sX6_nearest (cn : Tcn) (bk : Tbk) (st : Tst) (r0 : Tbk) (r1 : Tbk) (r2 : Tbk) (r3 : Tbk) (r4 : Tbk) (li : Tli) (fo : Tfo) (tx : Ttx) (co : Tco) (ke : Tke) (rf : (Nat → Int32)) (cp : Int32) (lk : Tlk) (fl : Tfl) (em : Int32) (tm : Ttm) (rd : Trd) (x1 : Int32) (x2 : Int32) (x3 : Int32) (o : Int32 × (Nat → Int32) × Int32 × Tlk) (h : fX6_nearest co rf cp lk x1 x2 x3 = some o) : Sp yX6_nearest wsX6_nearest rX6_nearest [.ref 36, .int x1, .int x2, .int x3] (mkH cn bk st r0 r1 r2 r3 r4 li fo tx co ke rf cp lk fl em tm rd) (some (.int o.1)) (mkH cn bk st r0 r1 r2 r3 r4 li fo tx co ke o.2.1 o.2.2.1 o.2.2.2 fl em tm rd) := by
  refine Sp.of (lv := [some (.ref 36), some (.int x1), some (.int x2), some (.int x3)]) RX6 (by decide +kernel) rfl (Nat.le_of_ble_eq_true rfl) rfl ?_
  intro X C hT
  unfold fX6_nearest at h
  refine wg_aload_n C dX6_nearest_0 rfl ?_
  refine wg_iload_n C dX6_nearest_1 rfl ?_
  obtain ⟨q1, e1q, h⟩ := bnd h
  refine wg_callV (n := 1) (As := [.int x1]) (st := []) (st' := [.int q1]) C (sX6_isDay cn bk st r0 r1 r2 r3 r4 li fo tx co ke rf cp lk fl em tm rd x1 q1 e1q) gX6_nearest_X6_isDay rfl (by decide +kernel) ⟨⟨rfl, rfl⟩, Nat.le_of_ble_eq_true rfl, Nat.le_of_ble_eq_true rfl⟩ rfl rfl rfl rfl (Nat.le_of_ble_eq_true rfl) dX6_nearest_2 rfl ?_
  refine wg_if_eq (tgt := 21) C dX6_nearest_5 (by decide) (fun c2 => ?_) (fun c2 => ?_)
  · replace h := ifP c2 h
    refine wg_drop (lv' := [some (.ref 36), none, none, none]) [1, 2, 3] rfl ?_
    exact sjX6_nearest_21 X C cn bk st r0 r1 r2 r3 r4 li fo tx co ke rf cp lk fl em tm rd  _ h hT
  · replace h := ifN c2 h
    refine wg_iload_n C dX6_nearest_8 rfl ?_
    refine wg_if_lt (tgt := 21) C dX6_nearest_9 (by decide) (fun c4 => ?_) (fun c4 => ?_)
    · replace h := ifP c4 h
      refine wg_drop (lv' := [some (.ref 36), none, none, none]) [1, 2, 3] rfl ?_
      exact sjX6_nearest_21 X C cn bk st r0 r1 r2 r3 r4 li fo tx co ke rf cp lk fl em tm rd  _ h hT
    · replace h := ifN c4 h
      refine wg_iload_n C dX6_nearest_12 rfl ?_
      refine wg_iconst (v := 0) C dX6_nearest_13 (by decide) ?_
      refine wg_iconst (v := 1) C dX6_nearest_14 (by decide) ?_
      obtain ⟨q5, e5q, h⟩ := bnd h
      refine wg_callT (n := 3) (As := [.int x3, .int (0 : Int32), .int (1 : Int32)]) (st := []) (st' := [.int q5]) C (sX6_in cn bk st r0 r1 r2 r3 r4 li fo tx co ke rf cp lk fl em tm rd x3 (0 : Int32) (1 : Int32) q5 e5q) gX6_nearest_X6_in rfl (by decide +kernel) ⟨⟨rfl, rfl⟩, Nat.le_of_ble_eq_true rfl, Nat.le_of_ble_eq_true rfl⟩ rfl rfl (Nat.le_of_ble_eq_true rfl) dX6_nearest_15 rfl ?_
      refine wg_if_ne (tgt := 26) C dX6_nearest_18 (by decide) (fun c6 => ?_) (fun c6 => ?_)
      · replace h := ifP c6 h
        refine wg_aload_n C dX6_nearest_26 rfl ?_
        refine wg_iload_n C dX6_nearest_27 rfl ?_
        obtain ⟨q7, e7q, h⟩ := bnd h
        refine wg_callV (n := 1) (As := [.int x1]) (st := []) (st' := []) C (sX6_setNearest cn bk st r0 r1 r2 r3 r4 li fo tx co ke rf cp lk fl em tm rd x1 q7 e7q) gX6_nearest_X6_setNearest rfl (by decide +kernel) ⟨⟨rfl, rfl⟩, Nat.le_of_ble_eq_true rfl, Nat.le_of_ble_eq_true rfl⟩ rfl rfl rfl rfl (Nat.le_of_ble_eq_true rfl) dX6_nearest_28 rfl ?_
        refine wg_iload_n C dX6_nearest_31 rfl ?_
        refine wg_aload_n C dX6_nearest_32 rfl ?_
        refine wg_get (v := .int q7.2.1) C fgX6_nearest_124 rfl rfl dX6_nearest_33 ?_
        refine wg_icmp_lt (tgt := 41) C dX6_nearest_36 (by decide) (fun c8 => ?_) (fun c8 => ?_)
        · replace h := ifP c8 h
          refine wg_iload_n C dX6_nearest_41 rfl ?_
          refine wg_if_ne (tgt := 54) C dX6_nearest_42 (by decide) (fun c9 => ?_) (fun c9 => ?_)
          · replace h := ifP c9 h
            refine wg_aload_n C dX6_nearest_54 rfl ?_
            refine wg_get (v := .ref 42) C fgX6_nearest_25 rfl rfl dX6_nearest_55 ?_
            refine wg_iload_n C dX6_nearest_58 rfl ?_
            obtain ⟨g10, h⟩ := gdP h
            refine wg_fald (f := q7.2.2.2) (n := 50) C rfl g10 dX6_nearest_59 ?_
            obtain ⟨q11, e11q, h⟩ := bnd h
            refine wg_callT (n := 1) (As := [.float (q7.2.2.2 (x2).toNatClampNeg)]) (st := []) (st' := [.int q11]) C (sJxf58ca_floatToIntBits_5c35a cn bk st r0 r1 r2 r3 r4 li fo tx co ke rf q7.1 q7.2 fl em tm rd (q7.2.2.2 (x2).toNatClampNeg) q11 e11q) gX6_nearest_Jxf58ca_floatToIntBits_5c35a rfl (by decide +kernel) ⟨⟨rfl, rfl⟩, Nat.le_of_ble_eq_true rfl, Nat.le_of_ble_eq_true rfl⟩ rfl rfl (Nat.le_of_ble_eq_true rfl) dX6_nearest_60 rfl ?_
            refine wg_drop (lv' := [none, none, none, none]) [0, 1, 2, 3] rfl ?_
            exact sjX6_nearest_63 X C cn bk st r0 r1 r2 r3 r4 li fo tx co ke rf q7.1 q7.2 fl em tm rd q11 _ h hT
          · replace h := ifN c9 h
            refine wg_aload_n C dX6_nearest_45 rfl ?_
            refine wg_get (v := .ref 41) C fgX6_nearest_22 rfl rfl dX6_nearest_46 ?_
            refine wg_iload_n C dX6_nearest_49 rfl ?_
            obtain ⟨g12, h⟩ := gdP h
            refine wg_iald (f := q7.2.2.1) (n := 50) C rfl g12 dX6_nearest_50 ?_
            refine wg_goto (tgt := 63) C dX6_nearest_51 (by decide) ?_
            refine wg_drop (lv' := [none, none, none, none]) [0, 1, 2, 3] rfl ?_
            exact sjX6_nearest_63 X C cn bk st r0 r1 r2 r3 r4 li fo tx co ke rf q7.1 q7.2 fl em tm rd (q7.2.2.1 (x2).toNatClampNeg) _ h hT
        · replace h := ifN c8 h
          refine wg_iconst (v := -1) C dX6_nearest_39 (by decide) ?_
          obtain rfl := Option.some.inj h
          exact wg_iret C hT dX6_nearest_40
      · replace h := ifN c6 h
        refine wg_drop (lv' := [some (.ref 36), none, none, none]) [1, 2, 3] rfl ?_
        exact sjX6_nearest_21 X C cn bk st r0 r1 r2 r3 r4 li fo tx co ke rf cp lk fl em tm rd  _ h hT
abbrev rX6_likes : Room := { frames := 3, cells := 0, slots := 0, locals := 75 }
theorem iwX6_likes_6 : ∀ w ∈ wsX60, w ∈ wsX6_likes := by decide +kernel
theorem fgX6_likes_124 : FG wsX6_likes RX6 124 6 7 := ⟨RX6, TX6, 21, rfl, by decide, by decide +kernel, iwX6_likes_6⟩
set_option maxRecDepth 100000 in
set_option maxHeartbeats 4000000 in
theorem sX6_likes (cn : Tcn) (bk : Tbk) (st : Tst) (r0 : Tbk) (r1 : Tbk) (r2 : Tbk) (r3 : Tbk) (r4 : Tbk) (li : Tli) (fo : Tfo) (tx : Ttx) (co : Tco) (ke : Tke) (rf : (Nat → Int32)) (cp : Int32) (lk : Tlk) (fl : Tfl) (em : Int32) (tm : Ttm) (rd : Trd) (x1 : Int32) (o : Int32 × (Nat → Int32) × Int32 × Tlk) (h : fX6_likes co rf cp lk x1 = some o) : Sp yX6_likes wsX6_likes rX6_likes [.ref 36, .int x1] (mkH cn bk st r0 r1 r2 r3 r4 li fo tx co ke rf cp lk fl em tm rd) (some (.int o.1)) (mkH cn bk st r0 r1 r2 r3 r4 li fo tx co ke o.2.1 o.2.2.1 o.2.2.2 fl em tm rd) := by
  refine Sp.of (lv := [some (.ref 36), some (.int x1)]) RX6 (by decide +kernel) rfl (Nat.le_of_ble_eq_true rfl) rfl ?_
  intro X C hT
  unfold fX6_likes at h
  refine wg_aload_n C dX6_likes_0 rfl ?_
  refine wg_iload_n C dX6_likes_1 rfl ?_
  obtain ⟨q1, e1q, h⟩ := bnd h
  refine wg_callV (n := 1) (As := [.int x1]) (st := []) (st' := [.int q1]) C (sX6_isDay cn bk st r0 r1 r2 r3 r4 li fo tx co ke rf cp lk fl em tm rd x1 q1 e1q) gX6_likes_X6_isDay rfl (by decide +kernel) ⟨⟨rfl, rfl⟩, Nat.le_of_ble_eq_true rfl, Nat.le_of_ble_eq_true rfl⟩ rfl rfl rfl rfl (Nat.le_of_ble_eq_true rfl) dX6_likes_2 rfl ?_
  refine wg_if_ne (tgt := 13) C dX6_likes_5 (by decide) (fun c2 => ?_) (fun c2 => ?_)
  · replace h := ifP c2 h
    refine wg_aload_n C dX6_likes_13 rfl ?_
    refine wg_iload_n C dX6_likes_14 rfl ?_
    obtain ⟨q3, e3q, h⟩ := bnd h
    refine wg_callV (n := 1) (As := [.int x1]) (st := []) (st' := []) C (sX6_setLike cn bk st r0 r1 r2 r3 r4 li fo tx co ke rf cp lk fl em tm rd x1 q3 e3q) gX6_likes_X6_setLike rfl (by decide +kernel) ⟨⟨rfl, rfl⟩, Nat.le_of_ble_eq_true rfl, Nat.le_of_ble_eq_true rfl⟩ rfl rfl rfl rfl (Nat.le_of_ble_eq_true rfl) dX6_likes_15 rfl ?_
    refine wg_aload_n C dX6_likes_18 rfl ?_
    refine wg_get (v := .int q3.2.1) C fgX6_likes_124 rfl rfl dX6_likes_19 ?_
    obtain rfl := Option.some.inj h
    exact wg_iret C hT dX6_likes_22
  · replace h := ifN c2 h
    refine wg_aload_n C dX6_likes_8 rfl ?_
    obtain ⟨q4, e4q, h⟩ := bnd h
    refine wg_callV (n := 0) (As := []) (st := []) (st' := [.int q4.1]) C (sX6_bad cn bk st r0 r1 r2 r3 r4 li fo tx co ke rf cp lk fl em tm rd  q4 e4q) gX6_likes_X6_bad rfl (by decide +kernel) ⟨⟨rfl, rfl⟩, Nat.le_of_ble_eq_true rfl, Nat.le_of_ble_eq_true rfl⟩ rfl rfl rfl rfl (Nat.le_of_ble_eq_true rfl) dX6_likes_9 rfl ?_
    obtain rfl := Option.some.inj h
    exact wg_iret C hT dX6_likes_12
abbrev rX6_serves : Room := { frames := 4, cells := 0, slots := 0, locals := 96 }
theorem iwX6_serves_6 : ∀ w ∈ wsX60, w ∈ wsX6_serves := by decide +kernel
theorem fgX6_serves_22 : FG wsX6_serves RX6 22 6 8 := ⟨RX6, TX6, 21, rfl, by decide, by decide +kernel, iwX6_serves_6⟩
theorem fgX6_serves_48 : FG wsX6_serves RX6 48 6 1 := ⟨RX6, TX6, 21, rfl, by decide, by decide +kernel, iwX6_serves_6⟩
theorem fgX6_serves_124 : FG wsX6_serves RX6 124 6 7 := ⟨RX6, TX6, 21, rfl, by decide, by decide +kernel, iwX6_serves_6⟩
set_option maxRecDepth 100000 in
set_option maxHeartbeats 4000000 in
theorem sjX6_serves_33_59 (X : CX) (C : Ok X RX6 cX6_serves wsX6_serves rX6_serves) (cn : Tcn) (bk : Tbk) (st : Tst) (r0 : Tbk) (r1 : Tbk) (r2 : Tbk) (r3 : Tbk) (r4 : Tbk) (li : Tli) (fo : Tfo) (tx : Ttx) (co : Tco) (ke : Tke) (rf : (Nat → Int32)) (cp : Int32) (lk : Tlk) (fl : Tfl) (em : Int32) (tm : Ttm) (rd : Trd) (x1 : Int32) (x3 : Int32) (x4 : Int32) (y0 : Int32) (y1 : Int32) (o : (Int32 × Int32) ⊕ Int32) (h : jX6_serves_33_59 co rf cp lk x1 x3 x4 y0 y1 = some o) (k0 : ∀ a : Int32 × Int32, o = .inl a → Wg X 33 [some (.ref 36), some (.int x1), some (.int a.1), some (.int x3), some (.int a.2)] [] (mkH cn bk st r0 r1 r2 r3 r4 li fo tx co ke rf cp lk fl em tm rd)) (e0 : ∀ a : Int32, o = .inr a → Wg X 67 [some (.ref 36), some (.int x1), some (.int a), some (.int x3), none] [] (mkH cn bk st r0 r1 r2 r3 r4 li fo tx co ke rf cp lk fl em tm rd)) : Wg X 59 [some (.ref 36), some (.int x1), none, some (.int x3), some (.int x4)] [.int y1, .int y0] (mkH cn bk st r0 r1 r2 r3 r4 li fo tx co ke rf cp lk fl em tm rd) := by
  unfold jX6_serves_33_59 at h
  refine wg_iadd C dX6_serves_59 ?_
  refine wg_istore_n (lv' := [some (.ref 36), some (.int x1), some (.int (y0 + y1)), some (.int x3), some (.int x4)]) C dX6_serves_60 (Nat.le_of_ble_eq_true rfl) rfl ?_
  refine wg_iinc (v := (x4 + (1 : Int32))) (lv' := [some (.ref 36), some (.int x1), some (.int (y0 + y1)), some (.int x3), some (.int (x4 + (1 : Int32)))]) C dX6_serves_61 rfl rfl rfl ?_
  refine wg_goto (tgt := 33) C dX6_serves_64 (by decide) ?_
  have hk := k0 _ (Option.some.inj h).symm
  exact hk
set_option maxRecDepth 100000 in
set_option maxHeartbeats 4000000 in
theorem sbX6_serves_33 (X : CX) (C : Ok X RX6 cX6_serves wsX6_serves rX6_serves) (cn : Tcn) (bk : Tbk) (st : Tst) (r0 : Tbk) (r1 : Tbk) (r2 : Tbk) (r3 : Tbk) (r4 : Tbk) (li : Tli) (fo : Tfo) (tx : Ttx) (co : Tco) (ke : Tke) (rf : (Nat → Int32)) (cp : Int32) (lk : Tlk) (fl : Tfl) (em : Int32) (tm : Ttm) (rd : Trd) (x1 : Int32) (x3 : Int32) (z : Int32 × Int32) (o : (Int32 × Int32) ⊕ Int32) (h : bX6_serves_33 co rf cp lk x1 x3 z = some o) (k0 : ∀ a : Int32 × Int32, o = .inl a → Wg X 33 [some (.ref 36), some (.int x1), some (.int a.1), some (.int x3), some (.int a.2)] [] (mkH cn bk st r0 r1 r2 r3 r4 li fo tx co ke rf cp lk fl em tm rd)) (e0 : ∀ a : Int32, o = .inr a → Wg X 67 [some (.ref 36), some (.int x1), some (.int a), some (.int x3), none] [] (mkH cn bk st r0 r1 r2 r3 r4 li fo tx co ke rf cp lk fl em tm rd)) : Wg X 33 [some (.ref 36), some (.int x1), some (.int z.1), some (.int x3), some (.int z.2)] [] (mkH cn bk st r0 r1 r2 r3 r4 li fo tx co ke rf cp lk fl em tm rd) := by
  unfold bX6_serves_33 at h
  refine wg_iload C dX6_serves_33 rfl ?_
  refine wg_aload_n C dX6_serves_35 rfl ?_
  refine wg_get (v := .int lk.1) C fgX6_serves_124 rfl rfl dX6_serves_36 ?_
  refine wg_icmp_ge (tgt := 67) C dX6_serves_39 (by decide) (fun c5 => ?_) (fun c5 => ?_)
  · replace h := ifP c5 h
    refine wg_drop (lv' := [some (.ref 36), some (.int x1), some (.int z.1), some (.int x3), none]) [4] rfl ?_
    have hk := e0 _ (Option.some.inj h).symm
    exact hk
  · replace h := ifN c5 h
    refine wg_iload_n C dX6_serves_42 rfl ?_
    refine wg_aload_n C dX6_serves_43 rfl ?_
    refine wg_get (v := .ref 41) C fgX6_serves_22 rfl rfl dX6_serves_44 ?_
    refine wg_iload C dX6_serves_47 rfl ?_
    obtain ⟨g6, h⟩ := gdP h
    refine wg_iald (f := lk.2.1) (n := 50) C rfl g6 dX6_serves_49 ?_
    refine wg_iload_n C dX6_serves_50 rfl ?_
    refine wg_icmp_ne (tgt := 58) C dX6_serves_51 (by decide) (fun c7 => ?_) (fun c7 => ?_)
    · replace h := ifP c7 h
      refine wg_iconst (v := 0) C dX6_serves_58 (by decide) ?_
      refine wg_drop (lv' := [some (.ref 36), some (.int x1), none, some (.int x3), some (.int z.2)]) [2] rfl ?_
      exact sjX6_serves_33_59 X C cn bk st r0 r1 r2 r3 r4 li fo tx co ke rf cp lk fl em tm rd x1 x3 z.2 z.1 (0 : Int32) _ h k0 e0
    · replace h := ifN c7 h
      refine wg_iconst (v := 1) C dX6_serves_54 (by decide) ?_
      refine wg_goto (tgt := 59) C dX6_serves_55 (by decide) ?_
      refine wg_drop (lv' := [some (.ref 36), some (.int x1), none, some (.int x3), some (.int z.2)]) [2] rfl ?_
      exact sjX6_serves_33_59 X C cn bk st r0 r1 r2 r3 r4 li fo tx co ke rf cp lk fl em tm rd x1 x3 z.2 z.1 (1 : Int32) _ h k0 e0
set_option maxRecDepth 100000 in
set_option maxHeartbeats 4000000 in
theorem slX6_serves_33 (X : CX) (C : Ok X RX6 cX6_serves wsX6_serves rX6_serves) (cn : Tcn) (bk : Tbk) (st : Tst) (r0 : Tbk) (r1 : Tbk) (r2 : Tbk) (r3 : Tbk) (r4 : Tbk) (li : Tli) (fo : Tfo) (tx : Ttx) (co : Tco) (ke : Tke) (rf : (Nat → Int32)) (cp : Int32) (lk : Tlk) (fl : Tfl) (em : Int32) (tm : Ttm) (rd : Trd) (x1 : Int32) (x3 : Int32) (o : Int32) (e0 : ∀ a : Int32, o = a → Wg X 67 [some (.ref 36), some (.int x1), some (.int a), some (.int x3), none] [] (mkH cn bk st r0 r1 r2 r3 r4 li fo tx co ke rf cp lk fl em tm rd)) : ∀ (n : Nat) (z : Int32 × Int32), lpF (bX6_serves_33 co rf cp lk x1 x3) n z = some o → Wg X 33 [some (.ref 36), some (.int x1), some (.int z.1), some (.int x3), some (.int z.2)] [] (mkH cn bk st r0 r1 r2 r3 r4 li fo tx co ke rf cp lk fl em tm rd) := by
  intro n
  induction n with
  | zero => intro z h; cases h
  | succ n ih =>
    intro z h
    obtain ⟨r, hB, h⟩ := bnd h
    refine sbX6_serves_33 X C cn bk st r0 r1 r2 r3 r4 li fo tx co ke rf cp lk fl em tm rd x1 x3 z r hB (fun a e => ih a (by subst e; exact h)) (fun a e => e0 a (by subst e; exact (Option.some.inj h).symm))
set_option maxRecDepth 100000 in
set_option maxHeartbeats 4000000 in
theorem sbX6_serves_17 (X : CX) (C : Ok X RX6 cX6_serves wsX6_serves rX6_serves) (cn : Tcn) (bk : Tbk) (st : Tst) (r0 : Tbk) (r1 : Tbk) (r2 : Tbk) (r3 : Tbk) (r4 : Tbk) (li : Tli) (fo : Tfo) (tx : Ttx) (co : Tco) (ke : Tke) (rf : (Nat → Int32)) (cp : Int32) (lk : Tlk) (fl : Tfl) (em : Int32) (tm : Ttm) (rd : Trd) (x1 : Int32) (z : Int32 × Int32 × Int32 × Tlk) (o : (Int32 × Int32 × Int32 × Tlk) ⊕ (Int32 × Int32 × Tlk)) (h : bX6_serves_17 co rf x1 z = some o) (k0 : ∀ a : Int32 × Int32 × Int32 × Tlk, o = .inl a → Wg X 17 [some (.ref 36), some (.int x1), some (.int a.1), some (.int a.2.1), none] [] (mkH cn bk st r0 r1 r2 r3 r4 li fo tx co ke rf a.2.2.1 a.2.2.2 fl em tm rd)) (e0 : ∀ a : Int32 × Int32 × Tlk, o = .inr a → Wg X 73 [none, none, some (.int a.1), none, none] [] (mkH cn bk st r0 r1 r2 r3 r4 li fo tx co ke rf a.2.1 a.2.2 fl em tm rd)) : Wg X 17 [some (.ref 36), some (.int x1), some (.int z.1), some (.int z.2.1), none] [] (mkH cn bk st r0 r1 r2 r3 r4 li fo tx co ke rf z.2.2.1 z.2.2.2 fl em tm rd) := by
  unfold bX6_serves_17 at h
  refine wg_iload_n C dX6_serves_17 rfl ?_
  refine wg_aload_n C dX6_serves_18 rfl ?_
  refine wg_get (v := .int co.1) C fgX6_serves_48 rfl rfl dX6_serves_19 ?_
  refine wg_icmp_ge (tgt := 73) C dX6_serves_22 (by decide) (fun c3 => ?_) (fun c3 => ?_)
  · replace h := ifP c3 h
    refine wg_drop (lv' := [none, none, some (.int z.1), none, none]) [0, 1, 3] rfl ?_
    have hk := e0 _ (Option.some.inj h).symm
    exact hk
  · replace h := ifN c3 h
    refine wg_aload_n C dX6_serves_25 rfl ?_
    refine wg_iload_n C dX6_serves_26 rfl ?_
    obtain ⟨q4, e4q, h⟩ := bnd h
    refine wg_callV (n := 1) (As := [.int z.2.1]) (st := []) (st' := []) C (sX6_setNearest cn bk st r0 r1 r2 r3 r4 li fo tx co ke rf z.2.2.1 z.2.2.2 fl em tm rd z.2.1 q4 e4q) gX6_serves_X6_setNearest rfl (by decide +kernel) ⟨⟨rfl, rfl⟩, Nat.le_of_ble_eq_true rfl, Nat.le_of_ble_eq_true rfl⟩ rfl rfl rfl rfl (Nat.le_of_ble_eq_true rfl) dX6_serves_27 rfl ?_
    refine wg_iconst (v := 0) C dX6_serves_30 (by decide) ?_
    refine wg_istore (lv' := [some (.ref 36), some (.int x1), some (.int z.1), some (.int z.2.1), some (.int (0 : Int32))]) C dX6_serves_31 (Nat.le_of_ble_eq_true rfl) rfl ?_
    obtain ⟨t8, hL8, h⟩ := bnd h
    refine slX6_serves_33 X C cn bk st r0 r1 r2 r3 r4 li fo tx co ke rf q4.1 q4.2 fl em tm rd x1 z.2.1 t8 (fun a e => ?_) FU (z.1, (0 : Int32)) hL8
    subst e
    refine wg_iinc (v := (z.2.1 + (1 : Int32))) (lv' := [some (.ref 36), some (.int x1), some (.int t8), some (.int (z.2.1 + (1 : Int32))), none]) C dX6_serves_67 rfl rfl rfl ?_
    refine wg_goto (tgt := 17) C dX6_serves_70 (by decide) ?_
    have hk := k0 _ (Option.some.inj h).symm
    exact hk
set_option maxRecDepth 100000 in
set_option maxHeartbeats 4000000 in
theorem slX6_serves_17 (X : CX) (C : Ok X RX6 cX6_serves wsX6_serves rX6_serves) (cn : Tcn) (bk : Tbk) (st : Tst) (r0 : Tbk) (r1 : Tbk) (r2 : Tbk) (r3 : Tbk) (r4 : Tbk) (li : Tli) (fo : Tfo) (tx : Ttx) (co : Tco) (ke : Tke) (rf : (Nat → Int32)) (cp : Int32) (lk : Tlk) (fl : Tfl) (em : Int32) (tm : Ttm) (rd : Trd) (x1 : Int32) (o : (Int32 × Int32 × Tlk)) (e0 : ∀ a : Int32 × Int32 × Tlk, o = a → Wg X 73 [none, none, some (.int a.1), none, none] [] (mkH cn bk st r0 r1 r2 r3 r4 li fo tx co ke rf a.2.1 a.2.2 fl em tm rd)) : ∀ (n : Nat) (z : Int32 × Int32 × Int32 × Tlk), lpF (bX6_serves_17 co rf x1) n z = some o → Wg X 17 [some (.ref 36), some (.int x1), some (.int z.1), some (.int z.2.1), none] [] (mkH cn bk st r0 r1 r2 r3 r4 li fo tx co ke rf z.2.2.1 z.2.2.2 fl em tm rd) := by
  intro n
  induction n with
  | zero => intro z h; cases h
  | succ n ih =>
    intro z h
    obtain ⟨r, hB, h⟩ := bnd h
    refine sbX6_serves_17 X C cn bk st r0 r1 r2 r3 r4 li fo tx co ke rf cp lk fl em tm rd x1 z r hB (fun a e => ih a (by subst e; exact h)) (fun a e => e0 a (by subst e; exact (Option.some.inj h).symm))
set_option maxRecDepth 100000 in
set_option maxHeartbeats 4000000 in
theorem sX6_serves (cn : Tcn) (bk : Tbk) (st : Tst) (r0 : Tbk) (r1 : Tbk) (r2 : Tbk) (r3 : Tbk) (r4 : Tbk) (li : Tli) (fo : Tfo) (tx : Ttx) (co : Tco) (ke : Tke) (rf : (Nat → Int32)) (cp : Int32) (lk : Tlk) (fl : Tfl) (em : Int32) (tm : Ttm) (rd : Trd) (x1 : Int32) (o : Int32 × (Nat → Int32) × Int32 × Tlk) (h : fX6_serves co rf cp lk x1 = some o) : Sp yX6_serves wsX6_serves rX6_serves [.ref 36, .int x1] (mkH cn bk st r0 r1 r2 r3 r4 li fo tx co ke rf cp lk fl em tm rd) (some (.int o.1)) (mkH cn bk st r0 r1 r2 r3 r4 li fo tx co ke o.2.1 o.2.2.1 o.2.2.2 fl em tm rd) := by
  refine Sp.of (lv := [some (.ref 36), some (.int x1), none, none, none]) RX6 (by decide +kernel) rfl (Nat.le_of_ble_eq_true rfl) rfl ?_
  intro X C hT
  unfold fX6_serves at h
  refine wg_aload_n C dX6_serves_0 rfl ?_
  refine wg_iload_n C dX6_serves_1 rfl ?_
  obtain ⟨q1, e1q, h⟩ := bnd h
  refine wg_callV (n := 1) (As := [.int x1]) (st := []) (st' := [.int q1]) C (sX6_isDay cn bk st r0 r1 r2 r3 r4 li fo tx co ke rf cp lk fl em tm rd x1 q1 e1q) gX6_serves_X6_isDay rfl (by decide +kernel) ⟨⟨rfl, rfl⟩, Nat.le_of_ble_eq_true rfl, Nat.le_of_ble_eq_true rfl⟩ rfl rfl rfl rfl (Nat.le_of_ble_eq_true rfl) dX6_serves_2 rfl ?_
  refine wg_if_ne (tgt := 13) C dX6_serves_5 (by decide) (fun c2 => ?_) (fun c2 => ?_)
  · replace h := ifP c2 h
    refine wg_iconst (v := 0) C dX6_serves_13 (by decide) ?_
    refine wg_istore_n (lv' := [some (.ref 36), some (.int x1), some (.int (0 : Int32)), none, none]) C dX6_serves_14 (Nat.le_of_ble_eq_true rfl) rfl ?_
    refine wg_iconst (v := 0) C dX6_serves_15 (by decide) ?_
    refine wg_istore_n (lv' := [some (.ref 36), some (.int x1), some (.int (0 : Int32)), some (.int (0 : Int32)), none]) C dX6_serves_16 (Nat.le_of_ble_eq_true rfl) rfl ?_
    obtain ⟨t9, hL9, h⟩ := bnd h
    refine slX6_serves_17 X C cn bk st r0 r1 r2 r3 r4 li fo tx co ke rf cp lk fl em tm rd x1 t9 (fun a e => ?_) FU ((0 : Int32), (0 : Int32), cp, lk) hL9
    subst e
    refine wg_iload_n C dX6_serves_73 rfl ?_
    obtain rfl := Option.some.inj h
    exact wg_iret C hT dX6_serves_74
  · replace h := ifN c2 h
    refine wg_aload_n C dX6_serves_8 rfl ?_
    obtain ⟨q10, e10q, h⟩ := bnd h
    refine wg_callV (n := 0) (As := []) (st := []) (st' := [.int q10.1]) C (sX6_bad cn bk st r0 r1 r2 r3 r4 li fo tx co ke rf cp lk fl em tm rd  q10 e10q) gX6_serves_X6_bad rfl (by decide +kernel) ⟨⟨rfl, rfl⟩, Nat.le_of_ble_eq_true rfl, Nat.le_of_ble_eq_true rfl⟩ rfl rfl rfl rfl (Nat.le_of_ble_eq_true rfl) dX6_serves_9 rfl ?_
    obtain rfl := Option.some.inj h
    exact wg_iret C hT dX6_serves_12
abbrev rX6_twins : Room := { frames := 2, cells := 0, slots := 0, locals := 51 }
theorem iwX6_twins_6 : ∀ w ∈ wsX60, w ∈ wsX6_twins := by decide +kernel
theorem fgX6_twins_48 : FG wsX6_twins RX6 48 6 1 := ⟨RX6, TX6, 21, rfl, by decide, by decide +kernel, iwX6_twins_6⟩
theorem fgX6_twins_102 : FG wsX6_twins RX6 102 6 6 := ⟨RX6, TX6, 21, rfl, by decide, by decide +kernel, iwX6_twins_6⟩
set_option maxRecDepth 100000 in
set_option maxHeartbeats 4000000 in
theorem sjX6_twins_39_88 (X : CX) (C : Ok X RX6 cX6_twins wsX6_twins rX6_twins) (cn : Tcn) (bk : Tbk) (st : Tst) (r0 : Tbk) (r1 : Tbk) (r2 : Tbk) (r3 : Tbk) (r4 : Tbk) (li : Tli) (fo : Tfo) (tx : Ttx) (co : Tco) (ke : Tke) (rf : (Nat → Int32)) (cp : Int32) (lk : Tlk) (fl : Tfl) (em : Int32) (tm : Ttm) (rd : Trd) (x1 : Int32) (x2 : Int32) (x3 : Int32) (x4 : UInt32) (x5 : Int32) (x6 : Int32) (o : (Int32 × Int32 × UInt32 × Int32 × Int32) ⊕ (Int32 × Int32 × UInt32 × Int32)) (h : jX6_twins_39_88 co rf cp x1 x2 x3 x4 x5 x6 = some o) (k0 : ∀ a : Int32 × Int32 × UInt32 × Int32 × Int32, o = .inl a → Wg X 39 [some (.ref 36), some (.int x1), some (.int a.1), some (.int a.2.1), some (.float a.2.2.1), some (.int x5), some (.int a.2.2.2.1), none] [] (mkH cn bk st r0 r1 r2 r3 r4 li fo tx co ke rf a.2.2.2.2 lk fl em tm rd)) (e0 : ∀ a : Int32 × Int32 × UInt32 × Int32, o = .inr a → Wg X 94 [some (.ref 36), some (.int x1), some (.int a.1), some (.int a.2.1), some (.float a.2.2.1), some (.int x5), none, none] [] (mkH cn bk st r0 r1 r2 r3 r4 li fo tx co ke rf a.2.2.2 lk fl em tm rd)) : Wg X 88 [some (.ref 36), some (.int x1), some (.int x2), some (.int x3), some (.float x4), some (.int x5), some (.int x6), none] [] (mkH cn bk st r0 r1 r2 r3 r4 li fo tx co ke rf cp lk fl em tm rd) := by
  unfold jX6_twins_39_88 at h
  refine wg_iinc (v := (x6 + (1 : Int32))) (lv' := [some (.ref 36), some (.int x1), some (.int x2), some (.int x3), some (.float x4), some (.int x5), some (.int (x6 + (1 : Int32))), none]) C dX6_twins_88 rfl rfl rfl ?_
  refine wg_goto (tgt := 39) C dX6_twins_91 (by decide) ?_
  have hk := k0 _ (Option.some.inj h).symm
  exact hk
set_option maxRecDepth 100000 in
set_option maxHeartbeats 4000000 in
theorem sjX6_twins_39_78 (X : CX) (C : Ok X RX6 cX6_twins wsX6_twins rX6_twins) (cn : Tcn) (bk : Tbk) (st : Tst) (r0 : Tbk) (r1 : Tbk) (r2 : Tbk) (r3 : Tbk) (r4 : Tbk) (li : Tli) (fo : Tfo) (tx : Ttx) (co : Tco) (ke : Tke) (rf : (Nat → Int32)) (cp : Int32) (lk : Tlk) (fl : Tfl) (em : Int32) (tm : Ttm) (rd : Trd) (x1 : Int32) (x5 : Int32) (x6 : Int32) (x7 : UInt32) (o : (Int32 × Int32 × UInt32 × Int32 × Int32) ⊕ (Int32 × Int32 × UInt32 × Int32)) (h : jX6_twins_39_78 co rf cp x1 x5 x6 x7 = some o) (k0 : ∀ a : Int32 × Int32 × UInt32 × Int32 × Int32, o = .inl a → Wg X 39 [some (.ref 36), some (.int x1), some (.int a.1), some (.int a.2.1), some (.float a.2.2.1), some (.int x5), some (.int a.2.2.2.1), none] [] (mkH cn bk st r0 r1 r2 r3 r4 li fo tx co ke rf a.2.2.2.2 lk fl em tm rd)) (e0 : ∀ a : Int32 × Int32 × UInt32 × Int32, o = .inr a → Wg X 94 [some (.ref 36), some (.int x1), some (.int a.1), some (.int a.2.1), some (.float a.2.2.1), some (.int x5), none, none] [] (mkH cn bk st r0 r1 r2 r3 r4 li fo tx co ke rf a.2.2.2 lk fl em tm rd)) : Wg X 78 [some (.ref 36), some (.int x1), none, none, none, some (.int x5), some (.int x6), some (.float x7)] [] (mkH cn bk st r0 r1 r2 r3 r4 li fo tx co ke rf cp lk fl em tm rd) := by
  unfold jX6_twins_39_78 at h
  refine wg_iload C dX6_twins_78 rfl ?_
  refine wg_istore_n (lv' := [some (.ref 36), some (.int x1), some (.int x5), none, none, some (.int x5), some (.int x6), some (.float x7)]) C dX6_twins_80 (Nat.le_of_ble_eq_true rfl) rfl ?_
  refine wg_iload C dX6_twins_81 rfl ?_
  refine wg_istore_n (lv' := [some (.ref 36), some (.int x1), some (.int x5), some (.int x6), none, some (.int x5), some (.int x6), some (.float x7)]) C dX6_twins_83 (Nat.le_of_ble_eq_true rfl) rfl ?_
  refine wg_fload C dX6_twins_84 rfl ?_
  refine wg_fstore (lv' := [some (.ref 36), some (.int x1), some (.int x5), some (.int x6), some (.float x7), some (.int x5), some (.int x6), some (.float x7)]) C dX6_twins_86 (Nat.le_of_ble_eq_true rfl) rfl ?_
  refine wg_drop (lv' := [some (.ref 36), some (.int x1), some (.int x5), some (.int x6), some (.float x7), some (.int x5), some (.int x6), none]) [7] rfl ?_
  exact sjX6_twins_39_88 X C cn bk st r0 r1 r2 r3 r4 li fo tx co ke rf cp lk fl em tm rd x1 x5 x6 x7 x5 x6 _ h k0 e0
set_option maxRecDepth 100000 in
set_option maxHeartbeats 4000000 in
theorem sbX6_twins_39 (X : CX) (C : Ok X RX6 cX6_twins wsX6_twins rX6_twins) (cn : Tcn) (bk : Tbk) (st : Tst) (r0 : Tbk) (r1 : Tbk) (r2 : Tbk) (r3 : Tbk) (r4 : Tbk) (li : Tli) (fo : Tfo) (tx : Ttx) (co : Tco) (ke : Tke) (rf : (Nat → Int32)) (cp : Int32) (lk : Tlk) (fl : Tfl) (em : Int32) (tm : Ttm) (rd : Trd) (x1 : Int32) (x5 : Int32) (z : Int32 × Int32 × UInt32 × Int32 × Int32) (o : (Int32 × Int32 × UInt32 × Int32 × Int32) ⊕ (Int32 × Int32 × UInt32 × Int32)) (h : bX6_twins_39 co rf x1 x5 z = some o) (k0 : ∀ a : Int32 × Int32 × UInt32 × Int32 × Int32, o = .inl a → Wg X 39 [some (.ref 36), some (.int x1), some (.int a.1), some (.int a.2.1), some (.float a.2.2.1), some (.int x5), some (.int a.2.2.2.1), none] [] (mkH cn bk st r0 r1 r2 r3 r4 li fo tx co ke rf a.2.2.2.2 lk fl em tm rd)) (e0 : ∀ a : Int32 × Int32 × UInt32 × Int32, o = .inr a → Wg X 94 [some (.ref 36), some (.int x1), some (.int a.1), some (.int a.2.1), some (.float a.2.2.1), some (.int x5), none, none] [] (mkH cn bk st r0 r1 r2 r3 r4 li fo tx co ke rf a.2.2.2 lk fl em tm rd)) : Wg X 39 [some (.ref 36), some (.int x1), some (.int z.1), some (.int z.2.1), some (.float z.2.2.1), some (.int x5), some (.int z.2.2.2.1), none] [] (mkH cn bk st r0 r1 r2 r3 r4 li fo tx co ke rf z.2.2.2.2 lk fl em tm rd) := by
  unfold bX6_twins_39 at h
  refine wg_iload C dX6_twins_39 rfl ?_
  refine wg_aload_n C dX6_twins_41 rfl ?_
  refine wg_get (v := .int co.1) C fgX6_twins_48 rfl rfl dX6_twins_42 ?_
  refine wg_icmp_ge (tgt := 94) C dX6_twins_45 (by decide) (fun c4 => ?_) (fun c4 => ?_)
  · replace h := ifP c4 h
    refine wg_drop (lv' := [some (.ref 36), some (.int x1), some (.int z.1), some (.int z.2.1), some (.float z.2.2.1), some (.int x5), none, none]) [6] rfl ?_
    have hk := e0 _ (Option.some.inj h).symm
    exact hk
  · replace h := ifN c4 h
    refine wg_aload_n C dX6_twins_48 rfl ?_
    refine wg_iload C dX6_twins_49 rfl ?_
    refine wg_iload C dX6_twins_51 rfl ?_
    obtain ⟨q5, e5q, h⟩ := bnd h
    refine wg_callV (n := 2) (As := [.int x5, .int z.2.2.2.1]) (st := []) (st' := [.float q5.1]) C (sX6_distanceOf cn bk st r0 r1 r2 r3 r4 li fo tx co ke rf z.2.2.2.2 lk fl em tm rd x5 z.2.2.2.1 q5 e5q) gX6_twins_X6_distanceOf rfl (by decide +kernel) ⟨⟨rfl, rfl⟩, Nat.le_of_ble_eq_true rfl, Nat.le_of_ble_eq_true rfl⟩ rfl rfl rfl rfl (Nat.le_of_ble_eq_true rfl) dX6_twins_53 rfl ?_
    refine wg_fstore (lv' := [some (.ref 36), some (.int x1), some (.int z.1), some (.int z.2.1), some (.float z.2.2.1), some (.int x5), some (.int z.2.2.2.1), some (.float q5.1)]) C dX6_twins_56 (Nat.le_of_ble_eq_true rfl) rfl ?_
    refine wg_aload_n C dX6_twins_58 rfl ?_
    refine wg_get (v := .int q5.2) C fgX6_twins_102 rfl rfl dX6_twins_59 ?_
    refine wg_if_eq (tgt := 88) C dX6_twins_62 (by decide) (fun c6 => ?_) (fun c6 => ?_)
    · replace h := ifP c6 h
      refine wg_drop (lv' := [some (.ref 36), some (.int x1), some (.int z.1), some (.int z.2.1), some (.float z.2.2.1), some (.int x5), some (.int z.2.2.2.1), none]) [7] rfl ?_
      exact sjX6_twins_39_88 X C cn bk st r0 r1 r2 r3 r4 li fo tx co ke rf q5.2 lk fl em tm rd x1 z.1 z.2.1 z.2.2.1 x5 z.2.2.2.1 _ h k0 e0
    · replace h := ifN c6 h
      refine wg_iload_n C dX6_twins_65 rfl ?_
      refine wg_iconst (v := -1) C dX6_twins_66 (by decide) ?_
      refine wg_icmp_eq (tgt := 78) C dX6_twins_67 (by decide) (fun c7 => ?_) (fun c7 => ?_)
      · replace h := ifP c7 h
        refine wg_drop (lv' := [some (.ref 36), some (.int x1), none, none, none, some (.int x5), some (.int z.2.2.2.1), some (.float q5.1)]) [2, 3, 4] rfl ?_
        exact sjX6_twins_39_78 X C cn bk st r0 r1 r2 r3 r4 li fo tx co ke rf q5.2 lk fl em tm rd x1 x5 z.2.2.2.1 q5.1 _ h k0 e0
      · replace h := ifN c7 h
        refine wg_fload C dX6_twins_70 rfl ?_
        refine wg_fload C dX6_twins_72 rfl ?_
        refine wg_fcmp C dX6_twins_74 ?_
        refine wg_if_ge (tgt := 88) C dX6_twins_75 (by decide) (fun c8 => ?_) (fun c8 => ?_)
        · replace h := ifP c8 h
          refine wg_drop (lv' := [some (.ref 36), some (.int x1), some (.int z.1), some (.int z.2.1), some (.float z.2.2.1), some (.int x5), some (.int z.2.2.2.1), none]) [7] rfl ?_
          exact sjX6_twins_39_88 X C cn bk st r0 r1 r2 r3 r4 li fo tx co ke rf q5.2 lk fl em tm rd x1 z.1 z.2.1 z.2.2.1 x5 z.2.2.2.1 _ h k0 e0
        · replace h := ifN c8 h
          refine wg_drop (lv' := [some (.ref 36), some (.int x1), none, none, none, some (.int x5), some (.int z.2.2.2.1), some (.float q5.1)]) [2, 3, 4] rfl ?_
          exact sjX6_twins_39_78 X C cn bk st r0 r1 r2 r3 r4 li fo tx co ke rf q5.2 lk fl em tm rd x1 x5 z.2.2.2.1 q5.1 _ h k0 e0
set_option maxRecDepth 100000 in
set_option maxHeartbeats 4000000 in
theorem slX6_twins_39 (X : CX) (C : Ok X RX6 cX6_twins wsX6_twins rX6_twins) (cn : Tcn) (bk : Tbk) (st : Tst) (r0 : Tbk) (r1 : Tbk) (r2 : Tbk) (r3 : Tbk) (r4 : Tbk) (li : Tli) (fo : Tfo) (tx : Ttx) (co : Tco) (ke : Tke) (rf : (Nat → Int32)) (cp : Int32) (lk : Tlk) (fl : Tfl) (em : Int32) (tm : Ttm) (rd : Trd) (x1 : Int32) (x5 : Int32) (o : (Int32 × Int32 × UInt32 × Int32)) (e0 : ∀ a : Int32 × Int32 × UInt32 × Int32, o = a → Wg X 94 [some (.ref 36), some (.int x1), some (.int a.1), some (.int a.2.1), some (.float a.2.2.1), some (.int x5), none, none] [] (mkH cn bk st r0 r1 r2 r3 r4 li fo tx co ke rf a.2.2.2 lk fl em tm rd)) : ∀ (n : Nat) (z : Int32 × Int32 × UInt32 × Int32 × Int32), lpF (bX6_twins_39 co rf x1 x5) n z = some o → Wg X 39 [some (.ref 36), some (.int x1), some (.int z.1), some (.int z.2.1), some (.float z.2.2.1), some (.int x5), some (.int z.2.2.2.1), none] [] (mkH cn bk st r0 r1 r2 r3 r4 li fo tx co ke rf z.2.2.2.2 lk fl em tm rd) := by
  intro n
  induction n with
  | zero => intro z h; cases h
  | succ n ih =>
    intro z h
    obtain ⟨r, hB, h⟩ := bnd h
    refine sbX6_twins_39 X C cn bk st r0 r1 r2 r3 r4 li fo tx co ke rf cp lk fl em tm rd x1 x5 z r hB (fun a e => ih a (by subst e; exact h)) (fun a e => e0 a (by subst e; exact (Option.some.inj h).symm))
set_option maxRecDepth 100000 in
set_option maxHeartbeats 4000000 in
theorem sbX6_twins_24 (X : CX) (C : Ok X RX6 cX6_twins wsX6_twins rX6_twins) (cn : Tcn) (bk : Tbk) (st : Tst) (r0 : Tbk) (r1 : Tbk) (r2 : Tbk) (r3 : Tbk) (r4 : Tbk) (li : Tli) (fo : Tfo) (tx : Ttx) (co : Tco) (ke : Tke) (rf : (Nat → Int32)) (cp : Int32) (lk : Tlk) (fl : Tfl) (em : Int32) (tm : Ttm) (rd : Trd) (x1 : Int32) (z : Int32 × Int32 × UInt32 × Int32 × Int32) (o : (Int32 × Int32 × UInt32 × Int32 × Int32) ⊕ (Int32 × Int32 × UInt32 × Int32)) (h : bX6_twins_24 co rf x1 z = some o) (k0 : ∀ a : Int32 × Int32 × UInt32 × Int32 × Int32, o = .inl a → Wg X 24 [some (.ref 36), some (.int x1), some (.int a.1), some (.int a.2.1), some (.float a.2.2.1), some (.int a.2.2.2.1), none, none] [] (mkH cn bk st r0 r1 r2 r3 r4 li fo tx co ke rf a.2.2.2.2 lk fl em tm rd)) (e0 : ∀ a : Int32 × Int32 × UInt32 × Int32, o = .inr a → Wg X 100 [none, some (.int x1), some (.int a.1), some (.int a.2.1), some (.float a.2.2.1), none, none, none] [] (mkH cn bk st r0 r1 r2 r3 r4 li fo tx co ke rf a.2.2.2 lk fl em tm rd)) : Wg X 24 [some (.ref 36), some (.int x1), some (.int z.1), some (.int z.2.1), some (.float z.2.2.1), some (.int z.2.2.2.1), none, none] [] (mkH cn bk st r0 r1 r2 r3 r4 li fo tx co ke rf z.2.2.2.2 lk fl em tm rd) := by
  unfold bX6_twins_24 at h
  refine wg_iload C dX6_twins_24 rfl ?_
  refine wg_aload_n C dX6_twins_26 rfl ?_
  refine wg_get (v := .int co.1) C fgX6_twins_48 rfl rfl dX6_twins_27 ?_
  refine wg_icmp_ge (tgt := 100) C dX6_twins_30 (by decide) (fun c3 => ?_) (fun c3 => ?_)
  · replace h := ifP c3 h
    refine wg_drop (lv' := [none, some (.int x1), some (.int z.1), some (.int z.2.1), some (.float z.2.2.1), none, none, none]) [0, 5] rfl ?_
    have hk := e0 _ (Option.some.inj h).symm
    exact hk
  · replace h := ifN c3 h
    refine wg_iload C dX6_twins_33 rfl ?_
    refine wg_iconst (v := 1) C dX6_twins_35 (by decide) ?_
    refine wg_iadd C dX6_twins_36 ?_
    refine wg_istore (lv' := [some (.ref 36), some (.int x1), some (.int z.1), some (.int z.2.1), some (.float z.2.2.1), some (.int z.2.2.2.1), some (.int (z.2.2.2.1 + (1 : Int32))), none]) C dX6_twins_37 (Nat.le_of_ble_eq_true rfl) rfl ?_
    obtain ⟨t9, hL9, h⟩ := bnd h
    refine slX6_twins_39 X C cn bk st r0 r1 r2 r3 r4 li fo tx co ke rf z.2.2.2.2 lk fl em tm rd x1 z.2.2.2.1 t9 (fun a e => ?_) FU (z.1, z.2.1, z.2.2.1, (z.2.2.2.1 + (1 : Int32)), z.2.2.2.2) hL9
    subst e
    refine wg_iinc (v := (z.2.2.2.1 + (1 : Int32))) (lv' := [some (.ref 36), some (.int x1), some (.int t9.1), some (.int t9.2.1), some (.float t9.2.2.1), some (.int (z.2.2.2.1 + (1 : Int32))), none, none]) C dX6_twins_94 rfl rfl rfl ?_
    refine wg_goto (tgt := 24) C dX6_twins_97 (by decide) ?_
    have hk := k0 _ (Option.some.inj h).symm
    exact hk
set_option maxRecDepth 100000 in
set_option maxHeartbeats 4000000 in
theorem slX6_twins_24 (X : CX) (C : Ok X RX6 cX6_twins wsX6_twins rX6_twins) (cn : Tcn) (bk : Tbk) (st : Tst) (r0 : Tbk) (r1 : Tbk) (r2 : Tbk) (r3 : Tbk) (r4 : Tbk) (li : Tli) (fo : Tfo) (tx : Ttx) (co : Tco) (ke : Tke) (rf : (Nat → Int32)) (cp : Int32) (lk : Tlk) (fl : Tfl) (em : Int32) (tm : Ttm) (rd : Trd) (x1 : Int32) (o : (Int32 × Int32 × UInt32 × Int32)) (e0 : ∀ a : Int32 × Int32 × UInt32 × Int32, o = a → Wg X 100 [none, some (.int x1), some (.int a.1), some (.int a.2.1), some (.float a.2.2.1), none, none, none] [] (mkH cn bk st r0 r1 r2 r3 r4 li fo tx co ke rf a.2.2.2 lk fl em tm rd)) : ∀ (n : Nat) (z : Int32 × Int32 × UInt32 × Int32 × Int32), lpF (bX6_twins_24 co rf x1) n z = some o → Wg X 24 [some (.ref 36), some (.int x1), some (.int z.1), some (.int z.2.1), some (.float z.2.2.1), some (.int z.2.2.2.1), none, none] [] (mkH cn bk st r0 r1 r2 r3 r4 li fo tx co ke rf z.2.2.2.2 lk fl em tm rd) := by
  intro n
  induction n with
  | zero => intro z h; cases h
  | succ n ih =>
    intro z h
    obtain ⟨r, hB, h⟩ := bnd h
    refine sbX6_twins_24 X C cn bk st r0 r1 r2 r3 r4 li fo tx co ke rf cp lk fl em tm rd x1 z r hB (fun a e => ih a (by subst e; exact h)) (fun a e => e0 a (by subst e; exact (Option.some.inj h).symm))
set_option maxRecDepth 100000 in
set_option maxHeartbeats 4000000 in
theorem sjX6_twins_127 (X : CX) (C : Ok X RX6 cX6_twins wsX6_twins rX6_twins) (cn : Tcn) (bk : Tbk) (st : Tst) (r0 : Tbk) (r1 : Tbk) (r2 : Tbk) (r3 : Tbk) (r4 : Tbk) (li : Tli) (fo : Tfo) (tx : Ttx) (co : Tco) (ke : Tke) (rf : (Nat → Int32)) (cp : Int32) (lk : Tlk) (fl : Tfl) (em : Int32) (tm : Ttm) (rd : Trd) (y0 : Int32) (o : Int32 × (Nat → Int32) × Int32) (h : jX6_twins_127 co rf cp y0 = some o) (hT : Rt X (some .int) (some (.int o.1)) (mkH cn bk st r0 r1 r2 r3 r4 li fo tx co ke o.2.1 o.2.2 lk fl em tm rd)) : Wg X 127 [none, none, none, none, none, none, none, none] [.int y0] (mkH cn bk st r0 r1 r2 r3 r4 li fo tx co ke rf cp lk fl em tm rd) := by
  unfold jX6_twins_127 at h
  obtain rfl := Option.some.inj h
  exact wg_iret C hT dX6_twins_127
set_option maxRecDepth 100000 in
set_option maxHeartbeats 4000000 in
theorem sjX6_twins_109 (X : CX) (C : Ok X RX6 cX6_twins wsX6_twins rX6_twins) (cn : Tcn) (bk : Tbk) (st : Tst) (r0 : Tbk) (r1 : Tbk) (r2 : Tbk) (r3 : Tbk) (r4 : Tbk) (li : Tli) (fo : Tfo) (tx : Ttx) (co : Tco) (ke : Tke) (rf : (Nat → Int32)) (cp : Int32) (lk : Tlk) (fl : Tfl) (em : Int32) (tm : Ttm) (rd : Trd) (x2 : Int32) (o : Int32 × (Nat → Int32) × Int32) (h : jX6_twins_109 co rf cp x2 = some o) (hT : Rt X (some .int) (some (.int o.1)) (mkH cn bk st r0 r1 r2 r3 r4 li fo tx co ke o.2.1 o.2.2 lk fl em tm rd)) : Wg X 109 [none, none, some (.int x2), none, none, none, none, none] [] (mkH cn bk st r0 r1 r2 r3 r4 li fo tx co ke rf cp lk fl em tm rd) := by
  unfold jX6_twins_109 at h
  refine wg_iload_n C dX6_twins_109 rfl ?_
  refine wg_goto (tgt := 127) C dX6_twins_110 (by decide) ?_
  refine wg_drop (lv' := [none, none, none, none, none, none, none, none]) [2] rfl ?_
  exact sjX6_twins_127 X C cn bk st r0 r1 r2 r3 r4 li fo tx co ke rf cp lk fl em tm rd x2 _ h hT
set_option maxRecDepth 100000 in
set_option maxHeartbeats 4000000 in
theorem sX6_twins (cn : Tcn) (bk : Tbk) (st : Tst) (r0 : Tbk) (r1 : Tbk) (r2 : Tbk) (r3 : Tbk) (r4 : Tbk) (li : Tli) (fo : Tfo) (tx : Ttx) (co : Tco) (ke : Tke) (rf : (Nat → Int32)) (cp : Int32) (lk : Tlk) (fl : Tfl) (em : Int32) (tm : Ttm) (rd : Trd) (x1 : Int32) (o : Int32 × (Nat → Int32) × Int32) (h : fX6_twins co rf cp x1 = some o) : Sp yX6_twins wsX6_twins rX6_twins [.ref 36, .int x1] (mkH cn bk st r0 r1 r2 r3 r4 li fo tx co ke rf cp lk fl em tm rd) (some (.int o.1)) (mkH cn bk st r0 r1 r2 r3 r4 li fo tx co ke o.2.1 o.2.2 lk fl em tm rd) := by
  refine Sp.of (lv := [some (.ref 36), some (.int x1), none, none, none, none, none, none]) RX6 (by decide +kernel) rfl (Nat.le_of_ble_eq_true rfl) rfl ?_
  intro X C hT
  unfold fX6_twins at h
  refine wg_iload_n C dX6_twins_0 rfl ?_
  refine wg_iconst (v := 0) C dX6_twins_1 (by decide) ?_
  refine wg_iconst (v := 2) C dX6_twins_2 (by decide) ?_
  obtain ⟨q1, e1q, h⟩ := bnd h
  refine wg_callT (n := 3) (As := [.int x1, .int (0 : Int32), .int (2 : Int32)]) (st := []) (st' := [.int q1]) C (sX6_in cn bk st r0 r1 r2 r3 r4 li fo tx co ke rf cp lk fl em tm rd x1 (0 : Int32) (2 : Int32) q1 e1q) gX6_twins_X6_in rfl (by decide +kernel) ⟨⟨rfl, rfl⟩, Nat.le_of_ble_eq_true rfl, Nat.le_of_ble_eq_true rfl⟩ rfl rfl (Nat.le_of_ble_eq_true rfl) dX6_twins_3 rfl ?_
  refine wg_if_ne (tgt := 14) C dX6_twins_6 (by decide) (fun c2 => ?_) (fun c2 => ?_)
  · replace h := ifP c2 h
    refine wg_iconst (v := -1) C dX6_twins_14 (by decide) ?_
    refine wg_istore_n (lv' := [some (.ref 36), some (.int x1), some (.int (-1 : Int32)), none, none, none, none, none]) C dX6_twins_15 (Nat.le_of_ble_eq_true rfl) rfl ?_
    refine wg_iconst (v := -1) C dX6_twins_16 (by decide) ?_
    refine wg_istore_n (lv' := [some (.ref 36), some (.int x1), some (.int (-1 : Int32)), some (.int (-1 : Int32)), none, none, none, none]) C dX6_twins_17 (Nat.le_of_ble_eq_true rfl) rfl ?_
    refine wg_fconst0 C dX6_twins_18 ?_
    refine wg_fstore (lv' := [some (.ref 36), some (.int x1), some (.int (-1 : Int32)), some (.int (-1 : Int32)), some (.float FP.fconst0), none, none, none]) C dX6_twins_19 (Nat.le_of_ble_eq_true rfl) rfl ?_
    refine wg_iconst (v := 0) C dX6_twins_21 (by decide) ?_
    refine wg_istore (lv' := [some (.ref 36), some (.int x1), some (.int (-1 : Int32)), some (.int (-1 : Int32)), some (.float FP.fconst0), some (.int (0 : Int32)), none, none]) C dX6_twins_22 (Nat.le_of_ble_eq_true rfl) rfl ?_
    obtain ⟨t10, hL10, h⟩ := bnd h
    refine slX6_twins_24 X C cn bk st r0 r1 r2 r3 r4 li fo tx co ke rf cp lk fl em tm rd x1 t10 (fun a e => ?_) FU ((-1 : Int32), (-1 : Int32), FP.fconst0, (0 : Int32), cp) hL10
    subst e
    refine wg_iload_n C dX6_twins_100 rfl ?_
    refine wg_if_eq (tgt := 109) C dX6_twins_101 (by decide) (fun c11 => ?_) (fun c11 => ?_)
    · replace h := ifP c11 h
      refine wg_drop (lv' := [none, none, some (.int t10.1), none, none, none, none, none]) [1, 3, 4] rfl ?_
      exact sjX6_twins_109 X C cn bk st r0 r1 r2 r3 r4 li fo tx co ke rf t10.2.2.2 lk fl em tm rd t10.1 _ h hT
    · replace h := ifN c11 h
      refine wg_iload_n C dX6_twins_104 rfl ?_
      refine wg_iconst (v := -1) C dX6_twins_105 (by decide) ?_
      refine wg_icmp_ne (tgt := 113) C dX6_twins_106 (by decide) (fun c12 => ?_) (fun c12 => ?_)
      · replace h := ifP c12 h
        refine wg_iload_n C dX6_twins_113 rfl ?_
        refine wg_iconst (v := 1) C dX6_twins_114 (by decide) ?_
        refine wg_icmp_ne (tgt := 122) C dX6_twins_115 (by decide) (fun c13 => ?_) (fun c13 => ?_)
        · replace h := ifP c13 h
          refine wg_fload C dX6_twins_122 rfl ?_
          obtain ⟨q14, e14q, h⟩ := bnd h
          refine wg_callT (n := 1) (As := [.float t10.2.2.1]) (st := []) (st' := [.int q14]) C (sJxf58ca_floatToIntBits_5c35a cn bk st r0 r1 r2 r3 r4 li fo tx co ke rf t10.2.2.2 lk fl em tm rd t10.2.2.1 q14 e14q) gX6_twins_Jxf58ca_floatToIntBits_5c35a rfl (by decide +kernel) ⟨⟨rfl, rfl⟩, Nat.le_of_ble_eq_true rfl, Nat.le_of_ble_eq_true rfl⟩ rfl rfl (Nat.le_of_ble_eq_true rfl) dX6_twins_124 rfl ?_
          refine wg_drop (lv' := [none, none, none, none, none, none, none, none]) [1, 2, 3, 4] rfl ?_
          exact sjX6_twins_127 X C cn bk st r0 r1 r2 r3 r4 li fo tx co ke rf t10.2.2.2 lk fl em tm rd q14 _ h hT
        · replace h := ifN c13 h
          refine wg_iload_n C dX6_twins_118 rfl ?_
          refine wg_goto (tgt := 127) C dX6_twins_119 (by decide) ?_
          refine wg_drop (lv' := [none, none, none, none, none, none, none, none]) [1, 2, 3, 4] rfl ?_
          exact sjX6_twins_127 X C cn bk st r0 r1 r2 r3 r4 li fo tx co ke rf t10.2.2.2 lk fl em tm rd t10.2.1 _ h hT
      · replace h := ifN c12 h
        refine wg_drop (lv' := [none, none, some (.int t10.1), none, none, none, none, none]) [1, 3, 4] rfl ?_
        exact sjX6_twins_109 X C cn bk st r0 r1 r2 r3 r4 li fo tx co ke rf t10.2.2.2 lk fl em tm rd t10.1 _ h hT
  · replace h := ifN c2 h
    refine wg_aload_n C dX6_twins_9 rfl ?_
    obtain ⟨q15, e15q, h⟩ := bnd h
    refine wg_callV (n := 0) (As := []) (st := []) (st' := [.int q15.1]) C (sX6_bad cn bk st r0 r1 r2 r3 r4 li fo tx co ke rf cp lk fl em tm rd  q15 e15q) gX6_twins_X6_bad rfl (by decide +kernel) ⟨⟨rfl, rfl⟩, Nat.le_of_ble_eq_true rfl, Nat.le_of_ble_eq_true rfl⟩ rfl rfl rfl rfl (Nat.le_of_ble_eq_true rfl) dX6_twins_10 rfl ?_
    obtain rfl := Option.some.inj h
    exact wg_iret C hT dX6_twins_13
abbrev rX6_strangers : Room := { frames := 2, cells := 0, slots := 0, locals := 51 }
theorem iwX6_strangers_6 : ∀ w ∈ wsX60, w ∈ wsX6_strangers := by decide +kernel
theorem fgX6_strangers_48 : FG wsX6_strangers RX6 48 6 1 := ⟨RX6, TX6, 21, rfl, by decide, by decide +kernel, iwX6_strangers_6⟩
theorem fgX6_strangers_102 : FG wsX6_strangers RX6 102 6 6 := ⟨RX6, TX6, 21, rfl, by decide, by decide +kernel, iwX6_strangers_6⟩
set_option maxRecDepth 100000 in
set_option maxHeartbeats 4000000 in
theorem sjX6_strangers_17_52 (X : CX) (C : Ok X RX6 cX6_strangers wsX6_strangers rX6_strangers) (cn : Tcn) (bk : Tbk) (st : Tst) (r0 : Tbk) (r1 : Tbk) (r2 : Tbk) (r3 : Tbk) (r4 : Tbk) (li : Tli) (fo : Tfo) (tx : Ttx) (co : Tco) (ke : Tke) (rf : (Nat → Int32)) (cp : Int32) (lk : Tlk) (fl : Tfl) (em : Int32) (tm : Ttm) (rd : Trd) (x1 : Int32) (x2 : Int32) (x3 : Int32) (o : (Int32 × Int32 × Int32) ⊕ (Int32 × Int32)) (h : jX6_strangers_17_52 co rf cp x1 x2 x3 = some o) (k0 : ∀ a : Int32 × Int32 × Int32, o = .inl a → Wg X 17 [some (.ref 36), some (.int x1), some (.int a.1), some (.int a.2.1)] [] (mkH cn bk st r0 r1 r2 r3 r4 li fo tx co ke rf a.2.2 lk fl em tm rd)) (e0 : ∀ a : Int32 × Int32, o = .inr a → Wg X 58 [none, none, some (.int a.1), none] [] (mkH cn bk st r0 r1 r2 r3 r4 li fo tx co ke rf a.2 lk fl em tm rd)) : Wg X 52 [some (.ref 36), some (.int x1), some (.int x2), some (.int x3)] [] (mkH cn bk st r0 r1 r2 r3 r4 li fo tx co ke rf cp lk fl em tm rd) := by
  unfold jX6_strangers_17_52 at h
  refine wg_iinc (v := (x3 + (1 : Int32))) (lv' := [some (.ref 36), some (.int x1), some (.int x2), some (.int (x3 + (1 : Int32)))]) C dX6_strangers_52 rfl rfl rfl ?_
  refine wg_goto (tgt := 17) C dX6_strangers_55 (by decide) ?_
  have hk := k0 _ (Option.some.inj h).symm
  exact hk
set_option maxRecDepth 100000 in
set_option maxHeartbeats 4000000 in
theorem sjX6_strangers_17_50 (X : CX) (C : Ok X RX6 cX6_strangers wsX6_strangers rX6_strangers) (cn : Tcn) (bk : Tbk) (st : Tst) (r0 : Tbk) (r1 : Tbk) (r2 : Tbk) (r3 : Tbk) (r4 : Tbk) (li : Tli) (fo : Tfo) (tx : Ttx) (co : Tco) (ke : Tke) (rf : (Nat → Int32)) (cp : Int32) (lk : Tlk) (fl : Tfl) (em : Int32) (tm : Ttm) (rd : Trd) (x1 : Int32) (x3 : Int32) (y0 : Int32) (y1 : Int32) (o : (Int32 × Int32 × Int32) ⊕ (Int32 × Int32)) (h : jX6_strangers_17_50 co rf cp x1 x3 y0 y1 = some o) (k0 : ∀ a : Int32 × Int32 × Int32, o = .inl a → Wg X 17 [some (.ref 36), some (.int x1), some (.int a.1), some (.int a.2.1)] [] (mkH cn bk st r0 r1 r2 r3 r4 li fo tx co ke rf a.2.2 lk fl em tm rd)) (e0 : ∀ a : Int32 × Int32, o = .inr a → Wg X 58 [none, none, some (.int a.1), none] [] (mkH cn bk st r0 r1 r2 r3 r4 li fo tx co ke rf a.2 lk fl em tm rd)) : Wg X 50 [some (.ref 36), some (.int x1), none, some (.int x3)] [.int y1, .int y0] (mkH cn bk st r0 r1 r2 r3 r4 li fo tx co ke rf cp lk fl em tm rd) := by
  unfold jX6_strangers_17_50 at h
  refine wg_iadd C dX6_strangers_50 ?_
  refine wg_istore_n (lv' := [some (.ref 36), some (.int x1), some (.int (y0 + y1)), some (.int x3)]) C dX6_strangers_51 (Nat.le_of_ble_eq_true rfl) rfl ?_
  exact sjX6_strangers_17_52 X C cn bk st r0 r1 r2 r3 r4 li fo tx co ke rf cp lk fl em tm rd x1 (y0 + y1) x3 _ h k0 e0
set_option maxRecDepth 100000 in
set_option maxHeartbeats 4000000 in
theorem sbX6_strangers_17 (X : CX) (C : Ok X RX6 cX6_strangers wsX6_strangers rX6_strangers) (cn : Tcn) (bk : Tbk) (st : Tst) (r0 : Tbk) (r1 : Tbk) (r2 : Tbk) (r3 : Tbk) (r4 : Tbk) (li : Tli) (fo : Tfo) (tx : Ttx) (co : Tco) (ke : Tke) (rf : (Nat → Int32)) (cp : Int32) (lk : Tlk) (fl : Tfl) (em : Int32) (tm : Ttm) (rd : Trd) (x1 : Int32) (z : Int32 × Int32 × Int32) (o : (Int32 × Int32 × Int32) ⊕ (Int32 × Int32)) (h : bX6_strangers_17 co rf x1 z = some o) (k0 : ∀ a : Int32 × Int32 × Int32, o = .inl a → Wg X 17 [some (.ref 36), some (.int x1), some (.int a.1), some (.int a.2.1)] [] (mkH cn bk st r0 r1 r2 r3 r4 li fo tx co ke rf a.2.2 lk fl em tm rd)) (e0 : ∀ a : Int32 × Int32, o = .inr a → Wg X 58 [none, none, some (.int a.1), none] [] (mkH cn bk st r0 r1 r2 r3 r4 li fo tx co ke rf a.2 lk fl em tm rd)) : Wg X 17 [some (.ref 36), some (.int x1), some (.int z.1), some (.int z.2.1)] [] (mkH cn bk st r0 r1 r2 r3 r4 li fo tx co ke rf z.2.2 lk fl em tm rd) := by
  unfold bX6_strangers_17 at h
  refine wg_iload_n C dX6_strangers_17 rfl ?_
  refine wg_aload_n C dX6_strangers_18 rfl ?_
  refine wg_get (v := .int co.1) C fgX6_strangers_48 rfl rfl dX6_strangers_19 ?_
  refine wg_icmp_ge (tgt := 58) C dX6_strangers_22 (by decide) (fun c3 => ?_) (fun c3 => ?_)
  · replace h := ifP c3 h
    refine wg_drop (lv' := [none, none, some (.int z.1), none]) [0, 1, 3] rfl ?_
    have hk := e0 _ (Option.some.inj h).symm
    exact hk
  · replace h := ifN c3 h
    refine wg_iload_n C dX6_strangers_25 rfl ?_
    refine wg_iload_n C dX6_strangers_26 rfl ?_
    refine wg_icmp_eq (tgt := 52) C dX6_strangers_27 (by decide) (fun c4 => ?_) (fun c4 => ?_)
    · replace h := ifP c4 h
      exact sjX6_strangers_17_52 X C cn bk st r0 r1 r2 r3 r4 li fo tx co ke rf z.2.2 lk fl em tm rd x1 z.1 z.2.1 _ h k0 e0
    · replace h := ifN c4 h
      refine wg_aload_n C dX6_strangers_30 rfl ?_
      refine wg_iload_n C dX6_strangers_31 rfl ?_
      refine wg_iload_n C dX6_strangers_32 rfl ?_
      obtain ⟨q5, e5q, h⟩ := bnd h
      refine wg_callV (n := 2) (As := [.int x1, .int z.2.1]) (st := []) (st' := [.float q5.1]) C (sX6_distanceOf cn bk st r0 r1 r2 r3 r4 li fo tx co ke rf z.2.2 lk fl em tm rd x1 z.2.1 q5 e5q) gX6_strangers_X6_distanceOf rfl (by decide +kernel) ⟨⟨rfl, rfl⟩, Nat.le_of_ble_eq_true rfl, Nat.le_of_ble_eq_true rfl⟩ rfl rfl rfl rfl (Nat.le_of_ble_eq_true rfl) dX6_strangers_33 rfl ?_
      refine wg_pop C dX6_strangers_36 rfl ?_
      refine wg_iload_n C dX6_strangers_37 rfl ?_
      refine wg_aload_n C dX6_strangers_38 rfl ?_
      refine wg_get (v := .int q5.2) C fgX6_strangers_102 rfl rfl dX6_strangers_39 ?_
      refine wg_if_eq (tgt := 49) C dX6_strangers_42 (by decide) (fun c6 => ?_) (fun c6 => ?_)
      · replace h := ifP c6 h
        refine wg_iconst (v := 1) C dX6_strangers_49 (by decide) ?_
        refine wg_drop (lv' := [some (.ref 36), some (.int x1), none, some (.int z.2.1)]) [2] rfl ?_
        exact sjX6_strangers_17_50 X C cn bk st r0 r1 r2 r3 r4 li fo tx co ke rf q5.2 lk fl em tm rd x1 z.2.1 z.1 (1 : Int32) _ h k0 e0
      · replace h := ifN c6 h
        refine wg_iconst (v := 0) C dX6_strangers_45 (by decide) ?_
        refine wg_goto (tgt := 50) C dX6_strangers_46 (by decide) ?_
        refine wg_drop (lv' := [some (.ref 36), some (.int x1), none, some (.int z.2.1)]) [2] rfl ?_
        exact sjX6_strangers_17_50 X C cn bk st r0 r1 r2 r3 r4 li fo tx co ke rf q5.2 lk fl em tm rd x1 z.2.1 z.1 (0 : Int32) _ h k0 e0
set_option maxRecDepth 100000 in
set_option maxHeartbeats 4000000 in
theorem slX6_strangers_17 (X : CX) (C : Ok X RX6 cX6_strangers wsX6_strangers rX6_strangers) (cn : Tcn) (bk : Tbk) (st : Tst) (r0 : Tbk) (r1 : Tbk) (r2 : Tbk) (r3 : Tbk) (r4 : Tbk) (li : Tli) (fo : Tfo) (tx : Ttx) (co : Tco) (ke : Tke) (rf : (Nat → Int32)) (cp : Int32) (lk : Tlk) (fl : Tfl) (em : Int32) (tm : Ttm) (rd : Trd) (x1 : Int32) (o : (Int32 × Int32)) (e0 : ∀ a : Int32 × Int32, o = a → Wg X 58 [none, none, some (.int a.1), none] [] (mkH cn bk st r0 r1 r2 r3 r4 li fo tx co ke rf a.2 lk fl em tm rd)) : ∀ (n : Nat) (z : Int32 × Int32 × Int32), lpF (bX6_strangers_17 co rf x1) n z = some o → Wg X 17 [some (.ref 36), some (.int x1), some (.int z.1), some (.int z.2.1)] [] (mkH cn bk st r0 r1 r2 r3 r4 li fo tx co ke rf z.2.2 lk fl em tm rd) := by
  intro n
  induction n with
  | zero => intro z h; cases h
  | succ n ih =>
    intro z h
    obtain ⟨r, hB, h⟩ := bnd h
    refine sbX6_strangers_17 X C cn bk st r0 r1 r2 r3 r4 li fo tx co ke rf cp lk fl em tm rd x1 z r hB (fun a e => ih a (by subst e; exact h)) (fun a e => e0 a (by subst e; exact (Option.some.inj h).symm))
set_option maxRecDepth 100000 in
set_option maxHeartbeats 4000000 in
theorem sX6_strangers (cn : Tcn) (bk : Tbk) (st : Tst) (r0 : Tbk) (r1 : Tbk) (r2 : Tbk) (r3 : Tbk) (r4 : Tbk) (li : Tli) (fo : Tfo) (tx : Ttx) (co : Tco) (ke : Tke) (rf : (Nat → Int32)) (cp : Int32) (lk : Tlk) (fl : Tfl) (em : Int32) (tm : Ttm) (rd : Trd) (x1 : Int32) (o : Int32 × (Nat → Int32) × Int32) (h : fX6_strangers co rf cp x1 = some o) : Sp yX6_strangers wsX6_strangers rX6_strangers [.ref 36, .int x1] (mkH cn bk st r0 r1 r2 r3 r4 li fo tx co ke rf cp lk fl em tm rd) (some (.int o.1)) (mkH cn bk st r0 r1 r2 r3 r4 li fo tx co ke o.2.1 o.2.2 lk fl em tm rd) := by
  refine Sp.of (lv := [some (.ref 36), some (.int x1), none, none]) RX6 (by decide +kernel) rfl (Nat.le_of_ble_eq_true rfl) rfl ?_
  intro X C hT
  unfold fX6_strangers at h
  refine wg_aload_n C dX6_strangers_0 rfl ?_
  refine wg_iload_n C dX6_strangers_1 rfl ?_
  obtain ⟨q1, e1q, h⟩ := bnd h
  refine wg_callV (n := 1) (As := [.int x1]) (st := []) (st' := [.int q1]) C (sX6_isDay cn bk st r0 r1 r2 r3 r4 li fo tx co ke rf cp lk fl em tm rd x1 q1 e1q) gX6_strangers_X6_isDay rfl (by decide +kernel) ⟨⟨rfl, rfl⟩, Nat.le_of_ble_eq_true rfl, Nat.le_of_ble_eq_true rfl⟩ rfl rfl rfl rfl (Nat.le_of_ble_eq_true rfl) dX6_strangers_2 rfl ?_
  refine wg_if_ne (tgt := 13) C dX6_strangers_5 (by decide) (fun c2 => ?_) (fun c2 => ?_)
  · replace h := ifP c2 h
    refine wg_iconst (v := 0) C dX6_strangers_13 (by decide) ?_
    refine wg_istore_n (lv' := [some (.ref 36), some (.int x1), some (.int (0 : Int32)), none]) C dX6_strangers_14 (Nat.le_of_ble_eq_true rfl) rfl ?_
    refine wg_iconst (v := 0) C dX6_strangers_15 (by decide) ?_
    refine wg_istore_n (lv' := [some (.ref 36), some (.int x1), some (.int (0 : Int32)), some (.int (0 : Int32))]) C dX6_strangers_16 (Nat.le_of_ble_eq_true rfl) rfl ?_
    obtain ⟨t7, hL7, h⟩ := bnd h
    refine slX6_strangers_17 X C cn bk st r0 r1 r2 r3 r4 li fo tx co ke rf cp lk fl em tm rd x1 t7 (fun a e => ?_) FU ((0 : Int32), (0 : Int32), cp) hL7
    subst e
    refine wg_iload_n C dX6_strangers_58 rfl ?_
    obtain rfl := Option.some.inj h
    exact wg_iret C hT dX6_strangers_59
  · replace h := ifN c2 h
    refine wg_aload_n C dX6_strangers_8 rfl ?_
    obtain ⟨q8, e8q, h⟩ := bnd h
    refine wg_callV (n := 0) (As := []) (st := []) (st' := [.int q8.1]) C (sX6_bad cn bk st r0 r1 r2 r3 r4 li fo tx co ke rf cp lk fl em tm rd  q8 e8q) gX6_strangers_X6_bad rfl (by decide +kernel) ⟨⟨rfl, rfl⟩, Nat.le_of_ble_eq_true rfl, Nat.le_of_ble_eq_true rfl⟩ rfl rfl rfl rfl (Nat.le_of_ble_eq_true rfl) dX6_strangers_9 rfl ?_
    obtain rfl := Option.some.inj h
    exact wg_iret C hT dX6_strangers_12
abbrev rX6_setFollowers : Room := { frames := 4, cells := 0, slots := 0, locals := 96 }
theorem iwX6_setFollowers_6 : ∀ w ∈ wsX60, w ∈ wsX6_setFollowers := by decide +kernel
theorem fgX6_setFollowers_16 : FG wsX6_setFollowers RX6 16 6 3 := ⟨RX6, TX6, 21, rfl, by decide, by decide +kernel, iwX6_setFollowers_6⟩
theorem fgX6_setFollowers_22 : FG wsX6_setFollowers RX6 22 6 8 := ⟨RX6, TX6, 21, rfl, by decide, by decide +kernel, iwX6_setFollowers_6⟩
theorem fgX6_setFollowers_25 : FG wsX6_setFollowers RX6 25 6 9 := ⟨RX6, TX6, 21, rfl, by decide, by decide +kernel, iwX6_setFollowers_6⟩
theorem fgX6_setFollowers_29 : FG wsX6_setFollowers RX6 29 6 11 := ⟨RX6, TX6, 21, rfl, by decide, by decide +kernel, iwX6_setFollowers_6⟩
theorem fgX6_setFollowers_32 : FG wsX6_setFollowers RX6 32 6 12 := ⟨RX6, TX6, 21, rfl, by decide, by decide +kernel, iwX6_setFollowers_6⟩
theorem fgX6_setFollowers_35 : FG wsX6_setFollowers RX6 35 6 13 := ⟨RX6, TX6, 21, rfl, by decide, by decide +kernel, iwX6_setFollowers_6⟩
theorem fgX6_setFollowers_124 : FG wsX6_setFollowers RX6 124 6 7 := ⟨RX6, TX6, 21, rfl, by decide, by decide +kernel, iwX6_setFollowers_6⟩
theorem fgX6_setFollowers_138 : FG wsX6_setFollowers RX6 138 6 10 := ⟨RX6, TX6, 21, rfl, by decide, by decide +kernel, iwX6_setFollowers_6⟩
theorem fwX6_setFollowers_138 : FW wsX6_setFollowers RX6 138 6 10 .int := ⟨RX6, TX6, 21, tyX6, rfl, by decide, by decide +kernel, iwX6_setFollowers_6, tyX6_ok, nmX6, rfl, by decide +kernel⟩
set_option maxRecDepth 100000 in
set_option maxHeartbeats 4000000 in
theorem sjX6_setFollowers_12_83 (X : CX) (C : Ok X RX6 cX6_setFollowers wsX6_setFollowers rX6_setFollowers) (cn : Tcn) (bk : Tbk) (st : Tst) (r0 : Tbk) (r1 : Tbk) (r2 : Tbk) (r3 : Tbk) (r4 : Tbk) (li : Tli) (fo : Tfo) (tx : Ttx) (co : Tco) (ke : Tke) (rf : (Nat → Int32)) (cp : Int32) (lk : Tlk) (fl : Tfl) (em : Int32) (tm : Ttm) (rd : Trd) (x2 : Int32) (x3 : Int32) (o : (Int32 × Tfl) ⊕ Tfl) (h : jX6_setFollowers_12_83 co cp lk fl x2 x3 = some o) (k0 : ∀ a : Int32 × Tfl, o = .inl a → Wg X 12 [some (.ref 36), none, some (.int x2), some (.int a.1), none] [] (mkH cn bk st r0 r1 r2 r3 r4 li fo tx co ke rf cp lk a.2 em tm rd)) (e0 : ∀ a : Tfl, o = .inr a → Wg X 89 [some (.ref 36), none, none, none, none] [] (mkH cn bk st r0 r1 r2 r3 r4 li fo tx co ke rf cp lk a em tm rd)) : Wg X 83 [some (.ref 36), none, some (.int x2), some (.int x3), none] [] (mkH cn bk st r0 r1 r2 r3 r4 li fo tx co ke rf cp lk fl em tm rd) := by
  unfold jX6_setFollowers_12_83 at h
  refine wg_iinc (v := (x3 + (1 : Int32))) (lv' := [some (.ref 36), none, some (.int x2), some (.int (x3 + (1 : Int32))), none]) C dX6_setFollowers_83 rfl rfl rfl ?_
  refine wg_goto (tgt := 12) C dX6_setFollowers_86 (by decide) ?_
  have hk := k0 _ (Option.some.inj h).symm
  exact hk
set_option maxRecDepth 100000 in
set_option maxHeartbeats 4000000 in
theorem sbX6_setFollowers_12 (X : CX) (C : Ok X RX6 cX6_setFollowers wsX6_setFollowers rX6_setFollowers) (cn : Tcn) (bk : Tbk) (st : Tst) (r0 : Tbk) (r1 : Tbk) (r2 : Tbk) (r3 : Tbk) (r4 : Tbk) (li : Tli) (fo : Tfo) (tx : Ttx) (co : Tco) (ke : Tke) (rf : (Nat → Int32)) (cp : Int32) (lk : Tlk) (fl : Tfl) (em : Int32) (tm : Ttm) (rd : Trd) (x2 : Int32) (z : Int32 × Tfl) (o : (Int32 × Tfl) ⊕ Tfl) (h : bX6_setFollowers_12 co cp lk x2 z = some o) (k0 : ∀ a : Int32 × Tfl, o = .inl a → Wg X 12 [some (.ref 36), none, some (.int x2), some (.int a.1), none] [] (mkH cn bk st r0 r1 r2 r3 r4 li fo tx co ke rf cp lk a.2 em tm rd)) (e0 : ∀ a : Tfl, o = .inr a → Wg X 89 [some (.ref 36), none, none, none, none] [] (mkH cn bk st r0 r1 r2 r3 r4 li fo tx co ke rf cp lk a em tm rd)) : Wg X 12 [some (.ref 36), none, some (.int x2), some (.int z.1), none] [] (mkH cn bk st r0 r1 r2 r3 r4 li fo tx co ke rf cp lk z.2 em tm rd) := by
  unfold bX6_setFollowers_12 at h
  refine wg_iload_n C dX6_setFollowers_12 rfl ?_
  refine wg_aload_n C dX6_setFollowers_13 rfl ?_
  refine wg_get (v := .int lk.1) C fgX6_setFollowers_124 rfl rfl dX6_setFollowers_14 ?_
  refine wg_icmp_ge (tgt := 89) C dX6_setFollowers_17 (by decide) (fun c2 => ?_) (fun c2 => ?_)
  · replace h := ifP c2 h
    refine wg_drop (lv' := [some (.ref 36), none, none, none, none]) [2, 3] rfl ?_
    have hk := e0 _ (Option.some.inj h).symm
    exact hk
  · replace h := ifN c2 h
    refine wg_aload_n C dX6_setFollowers_20 rfl ?_
    refine wg_get (v := .ref 39) C fgX6_setFollowers_16 rfl rfl dX6_setFollowers_21 ?_
    refine wg_iconst (v := 4) C dX6_setFollowers_24 (by decide) ?_
    refine wg_aload_n C dX6_setFollowers_25 rfl ?_
    refine wg_get (v := .ref 41) C fgX6_setFollowers_22 rfl rfl dX6_setFollowers_26 ?_
    refine wg_iload_n C dX6_setFollowers_29 rfl ?_
    obtain ⟨g3, h⟩ := gdP h
    refine wg_iald (f := lk.2.1) (n := 50) C rfl g3 dX6_setFollowers_30 ?_
    refine wg_iconst (v := 1) C dX6_setFollowers_31 (by decide) ?_
    refine wg_iadd C dX6_setFollowers_32 ?_
    refine wg_imul C dX6_setFollowers_33 ?_
    refine wg_iload_n C dX6_setFollowers_34 rfl ?_
    refine wg_iadd C dX6_setFollowers_35 ?_
    obtain ⟨g4, h⟩ := gdP h
    refine wg_iald (f := co.2.2) (n := 200) C rfl g4 dX6_setFollowers_36 ?_
    refine wg_istore (lv' := [some (.ref 36), none, some (.int x2), some (.int z.1), some (.int (co.2.2 ((((4 : Int32) * ((lk.2.1 (z.1).toNatClampNeg) + (1 : Int32))) + x2)).toNatClampNeg))]) C dX6_setFollowers_37 (Nat.le_of_ble_eq_true rfl) rfl ?_
    refine wg_iload C dX6_setFollowers_39 rfl ?_
    obtain ⟨q5, e5q, h⟩ := bnd h
    refine wg_callT (n := 1) (As := [.int (co.2.2 ((((4 : Int32) * ((lk.2.1 (z.1).toNatClampNeg) + (1 : Int32))) + x2)).toNatClampNeg)]) (st := []) (st' := [.int q5]) C (sX6_isNoted cn bk st r0 r1 r2 r3 r4 li fo tx co ke rf cp lk z.2 em tm rd (co.2.2 ((((4 : Int32) * ((lk.2.1 (z.1).toNatClampNeg) + (1 : Int32))) + x2)).toNatClampNeg) q5 e5q) gX6_setFollowers_X6_isNoted rfl (by decide +kernel) ⟨⟨rfl, rfl⟩, Nat.le_of_ble_eq_true rfl, Nat.le_of_ble_eq_true rfl⟩ rfl rfl (Nat.le_of_ble_eq_true rfl) dX6_setFollowers_41 rfl ?_
    refine wg_if_eq (tgt := 83) C dX6_setFollowers_44 (by decide) (fun c6 => ?_) (fun c6 => ?_)
    · replace h := ifP c6 h
      refine wg_drop (lv' := [some (.ref 36), none, some (.int x2), some (.int z.1), none]) [4] rfl ?_
      exact sjX6_setFollowers_12_83 X C cn bk st r0 r1 r2 r3 r4 li fo tx co ke rf cp lk z.2 em tm rd x2 z.1 _ h k0 e0
    · replace h := ifN c6 h
      refine wg_aload_n C dX6_setFollowers_47 rfl ?_
      refine wg_get (v := .ref 43) C fgX6_setFollowers_29 rfl rfl dX6_setFollowers_48 ?_
      refine wg_aload_n C dX6_setFollowers_51 rfl ?_
      refine wg_get (v := .int z.2.1) C fgX6_setFollowers_138 rfl rfl dX6_setFollowers_52 ?_
      refine wg_iload C dX6_setFollowers_55 rfl ?_
      obtain ⟨g7, h⟩ := gdP h
      refine wg_iast (f := z.2.2.1) (n := 50) (hp' := (mkH cn bk st r0 r1 r2 r3 r4 li fo tx co ke rf cp lk (z.2.1, (upd z.2.2.1 (z.2.1).toNatClampNeg (co.2.2 ((((4 : Int32) * ((lk.2.1 (z.1).toNatClampNeg) + (1 : Int32))) + x2)).toNatClampNeg)), z.2.2.2.1, z.2.2.2.2) em tm rd)) C rfl g7 rfl dX6_setFollowers_57 ?_
      refine wg_aload_n C dX6_setFollowers_58 rfl ?_
      refine wg_get (v := .ref 44) C fgX6_setFollowers_32 rfl rfl dX6_setFollowers_59 ?_
      refine wg_aload_n C dX6_setFollowers_62 rfl ?_
      refine wg_get (v := .int z.2.1) C fgX6_setFollowers_138 rfl rfl dX6_setFollowers_63 ?_
      refine wg_aload_n C dX6_setFollowers_66 rfl ?_
      refine wg_get (v := .ref 42) C fgX6_setFollowers_25 rfl rfl dX6_setFollowers_67 ?_
      refine wg_iload_n C dX6_setFollowers_70 rfl ?_
      obtain ⟨g8, h⟩ := gdP h
      refine wg_fald (f := lk.2.2) (n := 50) C rfl g8 dX6_setFollowers_71 ?_
      obtain ⟨g9, h⟩ := gdP h
      refine wg_fast (f := z.2.2.2.1) (n := 50) (hp' := (mkH cn bk st r0 r1 r2 r3 r4 li fo tx co ke rf cp lk (z.2.1, (upd z.2.2.1 (z.2.1).toNatClampNeg (co.2.2 ((((4 : Int32) * ((lk.2.1 (z.1).toNatClampNeg) + (1 : Int32))) + x2)).toNatClampNeg)), (vf_upd z.2.2.2.1 (z.2.1).toNatClampNeg (lk.2.2 (z.1).toNatClampNeg)), z.2.2.2.2) em tm rd)) C rfl g9 rfl dX6_setFollowers_72 ?_
      refine wg_aload_n C dX6_setFollowers_73 rfl ?_
      refine wg_dup C dX6_setFollowers_74 rfl ?_
      refine wg_get (v := .int z.2.1) C fgX6_setFollowers_138 rfl rfl dX6_setFollowers_75 ?_
      refine wg_iconst (v := 1) C dX6_setFollowers_78 (by decide) ?_
      refine wg_iadd C dX6_setFollowers_79 ?_
      refine wg_put (hp' := (mkH cn bk st r0 r1 r2 r3 r4 li fo tx co ke rf cp lk ((z.2.1 + (1 : Int32)), (upd z.2.2.1 (z.2.1).toNatClampNeg (co.2.2 ((((4 : Int32) * ((lk.2.1 (z.1).toNatClampNeg) + (1 : Int32))) + x2)).toNatClampNeg)), (vf_upd z.2.2.2.1 (z.2.1).toNatClampNeg (lk.2.2 (z.1).toNatClampNeg)), z.2.2.2.2) em tm rd)) C fwX6_setFollowers_138 rfl (Nat.le_of_ble_eq_true rfl) rfl rfl rfl dX6_setFollowers_80 ?_
      refine wg_drop (lv' := [some (.ref 36), none, some (.int x2), some (.int z.1), none]) [4] rfl ?_
      exact sjX6_setFollowers_12_83 X C cn bk st r0 r1 r2 r3 r4 li fo tx co ke rf cp lk ((z.2.1 + (1 : Int32)), (upd z.2.2.1 (z.2.1).toNatClampNeg (co.2.2 ((((4 : Int32) * ((lk.2.1 (z.1).toNatClampNeg) + (1 : Int32))) + x2)).toNatClampNeg)), (vf_upd z.2.2.2.1 (z.2.1).toNatClampNeg (lk.2.2 (z.1).toNatClampNeg)), z.2.2.2.2) em tm rd x2 z.1 _ h k0 e0
set_option maxRecDepth 100000 in
set_option maxHeartbeats 4000000 in
theorem slX6_setFollowers_12 (X : CX) (C : Ok X RX6 cX6_setFollowers wsX6_setFollowers rX6_setFollowers) (cn : Tcn) (bk : Tbk) (st : Tst) (r0 : Tbk) (r1 : Tbk) (r2 : Tbk) (r3 : Tbk) (r4 : Tbk) (li : Tli) (fo : Tfo) (tx : Ttx) (co : Tco) (ke : Tke) (rf : (Nat → Int32)) (cp : Int32) (lk : Tlk) (fl : Tfl) (em : Int32) (tm : Ttm) (rd : Trd) (x2 : Int32) (o : Tfl) (e0 : ∀ a : Tfl, o = a → Wg X 89 [some (.ref 36), none, none, none, none] [] (mkH cn bk st r0 r1 r2 r3 r4 li fo tx co ke rf cp lk a em tm rd)) : ∀ (n : Nat) (z : Int32 × Tfl), lpF (bX6_setFollowers_12 co cp lk x2) n z = some o → Wg X 12 [some (.ref 36), none, some (.int x2), some (.int z.1), none] [] (mkH cn bk st r0 r1 r2 r3 r4 li fo tx co ke rf cp lk z.2 em tm rd) := by
  intro n
  induction n with
  | zero => intro z h; cases h
  | succ n ih =>
    intro z h
    obtain ⟨r, hB, h⟩ := bnd h
    refine sbX6_setFollowers_12 X C cn bk st r0 r1 r2 r3 r4 li fo tx co ke rf cp lk fl em tm rd x2 z r hB (fun a e => ih a (by subst e; exact h)) (fun a e => e0 a (by subst e; exact (Option.some.inj h).symm))
set_option maxRecDepth 100000 in
set_option maxHeartbeats 4000000 in
theorem sbX6_setFollowers_102 (X : CX) (C : Ok X RX6 cX6_setFollowers wsX6_setFollowers rX6_setFollowers) (cn : Tcn) (bk : Tbk) (st : Tst) (r0 : Tbk) (r1 : Tbk) (r2 : Tbk) (r3 : Tbk) (r4 : Tbk) (li : Tli) (fo : Tfo) (tx : Ttx) (co : Tco) (ke : Tke) (rf : (Nat → Int32)) (cp : Int32) (lk : Tlk) (fl : Tfl) (em : Int32) (tm : Ttm) (rd : Trd) (x3 : Int32) (z : Int32 × Tfl) (o : (Int32 × Tfl) ⊕ (Int32 × Tfl)) (h : bX6_setFollowers_102 co cp lk x3 z = some o) (k0 : ∀ a : Int32 × Tfl, o = .inl a → Wg X 102 [some (.ref 36), none, none, some (.int x3), some (.int a.1)] [] (mkH cn bk st r0 r1 r2 r3 r4 li fo tx co ke rf cp lk a.2 em tm rd)) (e0 : ∀ a : Int32 × Tfl, o = .inr a → Wg X 147 [some (.ref 36), none, none, some (.int x3), some (.int a.1)] [] (mkH cn bk st r0 r1 r2 r3 r4 li fo tx co ke rf cp lk a.2 em tm rd)) : Wg X 102 [some (.ref 36), none, none, some (.int x3), some (.int z.1)] [] (mkH cn bk st r0 r1 r2 r3 r4 li fo tx co ke rf cp lk z.2 em tm rd) := by
  unfold bX6_setFollowers_102 at h
  refine wg_iload C dX6_setFollowers_102 rfl ?_
  refine wg_if_le (tgt := 147) C dX6_setFollowers_104 (by decide) (fun c12 => ?_) (fun c12 => ?_)
  · replace h := ifP c12 h
    have hk := e0 _ (Option.some.inj h).symm
    exact hk
  · replace h := ifN c12 h
    refine wg_aload_n C dX6_setFollowers_107 rfl ?_
    refine wg_get (v := .ref 45) C fgX6_setFollowers_35 rfl rfl dX6_setFollowers_108 ?_
    refine wg_iload C dX6_setFollowers_111 rfl ?_
    refine wg_iconst (v := 1) C dX6_setFollowers_113 (by decide) ?_
    refine wg_isub C dX6_setFollowers_114 ?_
    obtain ⟨g13, h⟩ := gdP h
    refine wg_iald (f := z.2.2.2.2) (n := 50) C rfl g13 dX6_setFollowers_115 ?_
    refine wg_aload_n C dX6_setFollowers_116 rfl ?_
    refine wg_get (v := .ref 43) C fgX6_setFollowers_29 rfl rfl dX6_setFollowers_117 ?_
    refine wg_iload_n C dX6_setFollowers_120 rfl ?_
    obtain ⟨g14, h⟩ := gdP h
    refine wg_iald (f := z.2.2.1) (n := 50) C rfl g14 dX6_setFollowers_121 ?_
    refine wg_icmp_le (tgt := 147) C dX6_setFollowers_122 (by decide) (fun c15 => ?_) (fun c15 => ?_)
    · replace h := ifP c15 h
      have hk := e0 _ (Option.some.inj h).symm
      exact hk
    · replace h := ifN c15 h
      refine wg_aload_n C dX6_setFollowers_125 rfl ?_
      refine wg_get (v := .ref 45) C fgX6_setFollowers_35 rfl rfl dX6_setFollowers_126 ?_
      refine wg_iload C dX6_setFollowers_129 rfl ?_
      refine wg_aload_n C dX6_setFollowers_131 rfl ?_
      refine wg_get (v := .ref 45) C fgX6_setFollowers_35 rfl rfl dX6_setFollowers_132 ?_
      refine wg_iload C dX6_setFollowers_135 rfl ?_
      refine wg_iconst (v := 1) C dX6_setFollowers_137 (by decide) ?_
      refine wg_isub C dX6_setFollowers_138 ?_
      obtain ⟨g16, h⟩ := gdP h
      refine wg_iald (f := z.2.2.2.2) (n := 50) C rfl g16 dX6_setFollowers_139 ?_
      obtain ⟨g17, h⟩ := gdP h
      refine wg_iast (f := z.2.2.2.2) (n := 50) (hp' := (mkH cn bk st r0 r1 r2 r3 r4 li fo tx co ke rf cp lk (z.2.1, z.2.2.1, z.2.2.2.1, (upd z.2.2.2.2 (z.1).toNatClampNeg (z.2.2.2.2 ((z.1 - (1 : Int32))).toNatClampNeg))) em tm rd)) C rfl g17 rfl dX6_setFollowers_140 ?_
      refine wg_iinc (v := (z.1 + (-1 : Int32))) (lv' := [some (.ref 36), none, none, some (.int x3), some (.int (z.1 + (-1 : Int32)))]) C dX6_setFollowers_141 rfl rfl rfl ?_
      refine wg_goto (tgt := 102) C dX6_setFollowers_144 (by decide) ?_
      have hk := k0 _ (Option.some.inj h).symm
      exact hk
set_option maxRecDepth 100000 in
set_option maxHeartbeats 4000000 in
theorem slX6_setFollowers_102 (X : CX) (C : Ok X RX6 cX6_setFollowers wsX6_setFollowers rX6_setFollowers) (cn : Tcn) (bk : Tbk) (st : Tst) (r0 : Tbk) (r1 : Tbk) (r2 : Tbk) (r3 : Tbk) (r4 : Tbk) (li : Tli) (fo : Tfo) (tx : Ttx) (co : Tco) (ke : Tke) (rf : (Nat → Int32)) (cp : Int32) (lk : Tlk) (fl : Tfl) (em : Int32) (tm : Ttm) (rd : Trd) (x3 : Int32) (o : (Int32 × Tfl)) (e0 : ∀ a : Int32 × Tfl, o = a → Wg X 147 [some (.ref 36), none, none, some (.int x3), some (.int a.1)] [] (mkH cn bk st r0 r1 r2 r3 r4 li fo tx co ke rf cp lk a.2 em tm rd)) : ∀ (n : Nat) (z : Int32 × Tfl), lpF (bX6_setFollowers_102 co cp lk x3) n z = some o → Wg X 102 [some (.ref 36), none, none, some (.int x3), some (.int z.1)] [] (mkH cn bk st r0 r1 r2 r3 r4 li fo tx co ke rf cp lk z.2 em tm rd) := by
  intro n
  induction n with
  | zero => intro z h; cases h
  | succ n ih =>
    intro z h
    obtain ⟨r, hB, h⟩ := bnd h
    refine sbX6_setFollowers_102 X C cn bk st r0 r1 r2 r3 r4 li fo tx co ke rf cp lk fl em tm rd x3 z r hB (fun a e => ih a (by subst e; exact h)) (fun a e => e0 a (by subst e; exact (Option.some.inj h).symm))
set_option maxRecDepth 100000 in
set_option maxHeartbeats 4000000 in
theorem sbX6_setFollowers_91 (X : CX) (C : Ok X RX6 cX6_setFollowers wsX6_setFollowers rX6_setFollowers) (cn : Tcn) (bk : Tbk) (st : Tst) (r0 : Tbk) (r1 : Tbk) (r2 : Tbk) (r3 : Tbk) (r4 : Tbk) (li : Tli) (fo : Tfo) (tx : Ttx) (co : Tco) (ke : Tke) (rf : (Nat → Int32)) (cp : Int32) (lk : Tlk) (fl : Tfl) (em : Int32) (tm : Ttm) (rd : Trd)  (z : Int32 × Tfl) (o : (Int32 × Tfl) ⊕ Tfl) (h : bX6_setFollowers_91 co cp lk  z = some o) (k0 : ∀ a : Int32 × Tfl, o = .inl a → Wg X 91 [some (.ref 36), none, none, some (.int a.1), none] [] (mkH cn bk st r0 r1 r2 r3 r4 li fo tx co ke rf cp lk a.2 em tm rd)) (e0 : ∀ a : Tfl, o = .inr a → Wg X 166 [none, none, none, none, none] [] (mkH cn bk st r0 r1 r2 r3 r4 li fo tx co ke rf cp lk a em tm rd)) : Wg X 91 [some (.ref 36), none, none, some (.int z.1), none] [] (mkH cn bk st r0 r1 r2 r3 r4 li fo tx co ke rf cp lk z.2 em tm rd) := by
  unfold bX6_setFollowers_91 at h
  refine wg_iload_n C dX6_setFollowers_91 rfl ?_
  refine wg_aload_n C dX6_setFollowers_92 rfl ?_
  refine wg_get (v := .int z.2.1) C fgX6_setFollowers_138 rfl rfl dX6_setFollowers_93 ?_
  refine wg_icmp_ge (tgt := 166) C dX6_setFollowers_96 (by decide) (fun c11 => ?_) (fun c11 => ?_)
  · replace h := ifP c11 h
    refine wg_drop (lv' := [none, none, none, none, none]) [0, 3] rfl ?_
    have hk := e0 _ (Option.some.inj h).symm
    exact hk
  · replace h := ifN c11 h
    refine wg_iload_n C dX6_setFollowers_99 rfl ?_
    refine wg_istore (lv' := [some (.ref 36), none, none, some (.int z.1), some (.int z.1)]) C dX6_setFollowers_100 (Nat.le_of_ble_eq_true rfl) rfl ?_
    obtain ⟨t18, hL18, h⟩ := bnd h
    refine slX6_setFollowers_102 X C cn bk st r0 r1 r2 r3 r4 li fo tx co ke rf cp lk z.2 em tm rd z.1 t18 (fun a e => ?_) FU (z.1, z.2) hL18
    subst e
    refine wg_aload_n C dX6_setFollowers_147 rfl ?_
    refine wg_get (v := .ref 45) C fgX6_setFollowers_35 rfl rfl dX6_setFollowers_148 ?_
    refine wg_iload C dX6_setFollowers_151 rfl ?_
    refine wg_aload_n C dX6_setFollowers_153 rfl ?_
    refine wg_get (v := .ref 43) C fgX6_setFollowers_29 rfl rfl dX6_setFollowers_154 ?_
    refine wg_iload_n C dX6_setFollowers_157 rfl ?_
    obtain ⟨g19, h⟩ := gdP h
    refine wg_iald (f := t18.2.2.1) (n := 50) C rfl g19 dX6_setFollowers_158 ?_
    obtain ⟨g20, h⟩ := gdP h
    refine wg_iast (f := t18.2.2.2.2) (n := 50) (hp' := (mkH cn bk st r0 r1 r2 r3 r4 li fo tx co ke rf cp lk (t18.2.1, t18.2.2.1, t18.2.2.2.1, (upd t18.2.2.2.2 (t18.1).toNatClampNeg (t18.2.2.1 (z.1).toNatClampNeg))) em tm rd)) C rfl g20 rfl dX6_setFollowers_159 ?_
    refine wg_iinc (v := (z.1 + (1 : Int32))) (lv' := [some (.ref 36), none, none, some (.int (z.1 + (1 : Int32))), some (.int t18.1)]) C dX6_setFollowers_160 rfl rfl rfl ?_
    refine wg_goto (tgt := 91) C dX6_setFollowers_163 (by decide) ?_
    refine wg_drop (lv' := [some (.ref 36), none, none, some (.int (z.1 + (1 : Int32))), none]) [4] rfl ?_
    have hk := k0 _ (Option.some.inj h).symm
    exact hk
set_option maxRecDepth 100000 in
set_option maxHeartbeats 4000000 in
theorem slX6_setFollowers_91 (X : CX) (C : Ok X RX6 cX6_setFollowers wsX6_setFollowers rX6_setFollowers) (cn : Tcn) (bk : Tbk) (st : Tst) (r0 : Tbk) (r1 : Tbk) (r2 : Tbk) (r3 : Tbk) (r4 : Tbk) (li : Tli) (fo : Tfo) (tx : Ttx) (co : Tco) (ke : Tke) (rf : (Nat → Int32)) (cp : Int32) (lk : Tlk) (fl : Tfl) (em : Int32) (tm : Ttm) (rd : Trd)  (o : Tfl) (e0 : ∀ a : Tfl, o = a → Wg X 166 [none, none, none, none, none] [] (mkH cn bk st r0 r1 r2 r3 r4 li fo tx co ke rf cp lk a em tm rd)) : ∀ (n : Nat) (z : Int32 × Tfl), lpF (bX6_setFollowers_91 co cp lk ) n z = some o → Wg X 91 [some (.ref 36), none, none, some (.int z.1), none] [] (mkH cn bk st r0 r1 r2 r3 r4 li fo tx co ke rf cp lk z.2 em tm rd) := by
  intro n
  induction n with
  | zero => intro z h; cases h
  | succ n ih =>
    intro z h
    obtain ⟨r, hB, h⟩ := bnd h
    refine sbX6_setFollowers_91 X C cn bk st r0 r1 r2 r3 r4 li fo tx co ke rf cp lk fl em tm rd  z r hB (fun a e => ih a (by subst e; exact h)) (fun a e => e0 a (by subst e; exact (Option.some.inj h).symm))
set_option maxRecDepth 100000 in
set_option maxHeartbeats 4000000 in
theorem sX6_setFollowers (cn : Tcn) (bk : Tbk) (st : Tst) (r0 : Tbk) (r1 : Tbk) (r2 : Tbk) (r3 : Tbk) (r4 : Tbk) (li : Tli) (fo : Tfo) (tx : Ttx) (co : Tco) (ke : Tke) (rf : (Nat → Int32)) (cp : Int32) (lk : Tlk) (fl : Tfl) (em : Int32) (tm : Ttm) (rd : Trd) (x1 : Int32) (x2 : Int32) (o : Int32 × Tlk × Tfl) (h : fX6_setFollowers co cp lk fl x1 x2 = some o) : Sp yX6_setFollowers wsX6_setFollowers rX6_setFollowers [.ref 36, .int x1, .int x2] (mkH cn bk st r0 r1 r2 r3 r4 li fo tx co ke rf cp lk fl em tm rd) none (mkH cn bk st r0 r1 r2 r3 r4 li fo tx co ke rf o.1 o.2.1 o.2.2 em tm rd) := by
  refine Sp.of (lv := [some (.ref 36), some (.int x1), some (.int x2), none, none]) RX6 (by decide +kernel) rfl (Nat.le_of_ble_eq_true rfl) rfl ?_
  intro X C hT
  unfold fX6_setFollowers at h
  refine wg_aload_n C dX6_setFollowers_0 rfl ?_
  refine wg_iload_n C dX6_setFollowers_1 rfl ?_
  obtain ⟨q1, e1q, h⟩ := bnd h
  refine wg_callV (n := 1) (As := [.int x1]) (st := []) (st' := []) C (sX6_setNearest cn bk st r0 r1 r2 r3 r4 li fo tx co ke rf cp lk fl em tm rd x1 q1 e1q) gX6_setFollowers_X6_setNearest rfl (by decide +kernel) ⟨⟨rfl, rfl⟩, Nat.le_of_ble_eq_true rfl, Nat.le_of_ble_eq_true rfl⟩ rfl rfl rfl rfl (Nat.le_of_ble_eq_true rfl) dX6_setFollowers_2 rfl ?_
  refine wg_aload_n C dX6_setFollowers_5 rfl ?_
  refine wg_iconst (v := 0) C dX6_setFollowers_6 (by decide) ?_
  refine wg_put (hp' := (mkH cn bk st r0 r1 r2 r3 r4 li fo tx co ke rf q1.1 q1.2 ((0 : Int32), fl.2.1, fl.2.2.1, fl.2.2.2) em tm rd)) C fwX6_setFollowers_138 rfl (Nat.le_of_ble_eq_true rfl) rfl rfl rfl dX6_setFollowers_7 ?_
  refine wg_iconst (v := 0) C dX6_setFollowers_10 (by decide) ?_
  refine wg_istore_n (lv' := [some (.ref 36), some (.int x1), some (.int x2), some (.int (0 : Int32)), none]) C dX6_setFollowers_11 (Nat.le_of_ble_eq_true rfl) rfl ?_
  refine wg_drop (lv' := [some (.ref 36), none, some (.int x2), some (.int (0 : Int32)), none]) [1] rfl ?_
  obtain ⟨t10, hL10, h⟩ := bnd h
  refine slX6_setFollowers_12 X C cn bk st r0 r1 r2 r3 r4 li fo tx co ke rf q1.1 q1.2 ((0 : Int32), fl.2.1, fl.2.2.1, fl.2.2.2) em tm rd x2 t10 (fun a e => ?_) FU ((0 : Int32), ((0 : Int32), fl.2.1, fl.2.2.1, fl.2.2.2)) hL10
  subst e
  refine wg_iconst (v := 0) C dX6_setFollowers_89 (by decide) ?_
  refine wg_istore_n (lv' := [some (.ref 36), none, none, some (.int (0 : Int32)), none]) C dX6_setFollowers_90 (Nat.le_of_ble_eq_true rfl) rfl ?_
  obtain ⟨t21, hL21, h⟩ := bnd h
  refine slX6_setFollowers_91 X C cn bk st r0 r1 r2 r3 r4 li fo tx co ke rf q1.1 q1.2 t10 em tm rd  t21 (fun a e => ?_) FU ((0 : Int32), t10) hL21
  subst e
  obtain rfl := Option.some.inj h
  exact wg_vret C hT dX6_setFollowers_166
