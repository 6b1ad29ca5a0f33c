abbrev rX6_follows : Room := { frames := 5, cells := 0, slots := 0, locals := 120 }
theorem iwX6_follows_6 : ∀ w ∈ wsX60, w ∈ wsX6_follows := by decide +kernel
theorem fgX6_follows_35 : FG wsX6_follows RX6 35 6 13 := ⟨RX6, TX6, 21, rfl, by decide, by decide +kernel, iwX6_follows_6⟩
theorem fgX6_follows_138 : FG wsX6_follows RX6 138 6 10 := ⟨RX6, TX6, 21, rfl, by decide, by decide +kernel, iwX6_follows_6⟩
set_option maxRecDepth 100000 in
set_option maxHeartbeats 4000000 in
theorem sjX6_follows_34 (X : CX) (C : Ok X RX6 cX6_follows wsX6_follows rX6_follows) (cn : Tcn) (bk : Tbk) (st : Tst) (r0 : Tbk) (r1 : Tbk) (r2 : Tbk) (r3 : Tbk) (r4 : Tbk) (li : Tli) (fo : Tfo) (tx : Ttx) (co : Tco) (ke : Tke) (rf : (Nat → Int32)) (cp : Int32) (lk : Tlk) (fl : Tfl) (em : Int32) (tm : Ttm) (rd : Trd)  (o : Int32 × (Nat → Int32) × Int32 × Tlk × Tfl) (h : jX6_follows_34 co rf cp lk fl  = some o) (hT : Rt X (some .int) (some (.int o.1)) (mkH cn bk st r0 r1 r2 r3 r4 li fo tx co ke o.2.1 o.2.2.1 o.2.2.2.1 o.2.2.2.2 em tm rd)) : Wg X 34 [some (.ref 36), none, none, none, none, none] [] (mkH cn bk st r0 r1 r2 r3 r4 li fo tx co ke rf cp lk fl em tm rd) := by
  unfold jX6_follows_34 at h
  refine wg_aload_n C dX6_follows_34 rfl ?_
  obtain ⟨q3, e3q, h⟩ := bnd h
  refine wg_callV (n := 0) (As := []) (st := []) (st' := [.int q3.1]) C (sX6_badly cn bk st r0 r1 r2 r3 r4 li fo tx co ke rf cp lk fl em tm rd  q3 e3q) gX6_follows_X6_badly rfl (by decide +kernel) ⟨⟨rfl, rfl⟩, Nat.le_of_ble_eq_true rfl, Nat.le_of_ble_eq_true rfl⟩ rfl rfl rfl rfl (Nat.le_of_ble_eq_true rfl) dX6_follows_35 rfl ?_
  obtain rfl := Option.some.inj h
  exact wg_iret C hT dX6_follows_38
set_option maxRecDepth 100000 in
set_option maxHeartbeats 4000000 in
theorem sjX6_follows_94 (X : CX) (C : Ok X RX6 cX6_follows wsX6_follows rX6_follows) (cn : Tcn) (bk : Tbk) (st : Tst) (r0 : Tbk) (r1 : Tbk) (r2 : Tbk) (r3 : Tbk) (r4 : Tbk) (li : Tli) (fo : Tfo) (tx : Ttx) (co : Tco) (ke : Tke) (rf : (Nat → Int32)) (cp : Int32) (lk : Tlk) (fl : Tfl) (em : Int32) (tm : Ttm) (rd : Trd) (y0 : Int32) (o : Int32 × (Nat → Int32) × Int32 × Tlk × Tfl) (h : jX6_follows_94 co rf cp lk fl y0 = some o) (hT : Rt X (some .int) (some (.int o.1)) (mkH cn bk st r0 r1 r2 r3 r4 li fo tx co ke o.2.1 o.2.2.1 o.2.2.2.1 o.2.2.2.2 em tm rd)) : Wg X 94 [none, none, none, none, none, none] [.int y0] (mkH cn bk st r0 r1 r2 r3 r4 li fo tx co ke rf cp lk fl em tm rd) := by
  unfold jX6_follows_94 at h
  obtain rfl := Option.some.inj h
  exact wg_iret C hT dX6_follows_94
set_option maxRecDepth 100000 in
set_option maxHeartbeats 4000000 in
theorem sjX6_follows_80 (X : CX) (C : Ok X RX6 cX6_follows wsX6_follows rX6_follows) (cn : Tcn) (bk : Tbk) (st : Tst) (r0 : Tbk) (r1 : Tbk) (r2 : Tbk) (r3 : Tbk) (r4 : Tbk) (li : Tli) (fo : Tfo) (tx : Ttx) (co : Tco) (ke : Tke) (rf : (Nat → Int32)) (cp : Int32) (lk : Tlk) (fl : Tfl) (em : Int32) (tm : Ttm) (rd : Trd) (x4 : Int32) (x5 : Int32) (o : Int32 × (Nat → Int32) × Int32 × Tlk × Tfl) (h : jX6_follows_80 co rf cp lk fl x4 x5 = some o) (hT : Rt X (some .int) (some (.int o.1)) (mkH cn bk st r0 r1 r2 r3 r4 li fo tx co ke o.2.1 o.2.2.1 o.2.2.2.1 o.2.2.2.2 em tm rd)) : Wg X 80 [some (.ref 36), none, none, none, some (.int x4), some (.int x5)] [] (mkH cn bk st r0 r1 r2 r3 r4 li fo tx co ke rf cp lk fl em tm rd) := by
  unfold jX6_follows_80 at h
  refine wg_iload C dX6_follows_80 rfl ?_
  refine wg_if_ne (tgt := 92) C dX6_follows_82 (by decide) (fun c13 => ?_) (fun c13 => ?_)
  · replace h := ifP c13 h
    refine wg_iload C dX6_follows_92 rfl ?_
    refine wg_drop (lv' := [none, none, none, none, none, none]) [0, 4, 5] rfl ?_
    exact sjX6_follows_94 X C cn bk st r0 r1 r2 r3 r4 li fo tx co ke rf cp lk fl em tm rd x5 _ h hT
  · replace h := ifN c13 h
    refine wg_aload_n C dX6_follows_85 rfl ?_
    refine wg_get (v := .int fl.1) C fgX6_follows_138 rfl rfl dX6_follows_86 ?_
    refine wg_goto (tgt := 94) C dX6_follows_89 (by decide) ?_
    refine wg_drop (lv' := [none, none, none, none, none, none]) [0, 4, 5] rfl ?_
    exact sjX6_follows_94 X C cn bk st r0 r1 r2 r3 r4 li fo tx co ke rf cp lk fl em tm rd fl.1 _ h hT
set_option maxRecDepth 100000 in
set_option maxHeartbeats 4000000 in
theorem sjX6_follows_134 (X : CX) (C : Ok X RX6 cX6_follows wsX6_follows rX6_follows) (cn : Tcn) (bk : Tbk) (st : Tst) (r0 : Tbk) (r1 : Tbk) (r2 : Tbk) (r3 : Tbk) (r4 : Tbk) (li : Tli) (fo : Tfo) (tx : Ttx) (co : Tco) (ke : Tke) (rf : (Nat → Int32)) (cp : Int32) (lk : Tlk) (fl : Tfl) (em : Int32) (tm : Ttm) (rd : Trd) (y0 : Int32) (o : Int32 × (Nat → Int32) × Int32 × Tlk × Tfl) (h : jX6_follows_134 co rf cp lk fl y0 = some o) (hT : Rt X (some .int) (some (.int o.1)) (mkH cn bk st r0 r1 r2 r3 r4 li fo tx co ke o.2.1 o.2.2.1 o.2.2.2.1 o.2.2.2.2 em tm rd)) : Wg X 134 [none, none, none, none, none, none] [.int y0] (mkH cn bk st r0 r1 r2 r3 r4 li fo tx co ke rf cp lk fl em tm rd) := by
  unfold jX6_follows_134 at h
  obtain rfl := Option.some.inj h
  exact wg_iret C hT dX6_follows_134
set_option maxRecDepth 100000 in
set_option maxHeartbeats 4000000 in
theorem sjX6_follows_67 (X : CX) (C : Ok X RX6 cX6_follows wsX6_follows rX6_follows) (cn : Tcn) (bk : Tbk) (st : Tst) (r0 : Tbk) (r1 : Tbk) (r2 : Tbk) (r3 : Tbk) (r4 : Tbk) (li : Tli) (fo : Tfo) (tx : Ttx) (co : Tco) (ke : Tke) (rf : (Nat → Int32)) (cp : Int32) (lk : Tlk) (fl : Tfl) (em : Int32) (tm : Ttm) (rd : Trd) (x3 : Int32) (x4 : Int32) (y0 : Int32) (o : Int32 × (Nat → Int32) × Int32 × Tlk × Tfl) (h : jX6_follows_67 co rf cp lk fl x3 x4 y0 = some o) (hT : Rt X (some .int) (some (.int o.1)) (mkH cn bk st r0 r1 r2 r3 r4 li fo tx co ke o.2.1 o.2.2.1 o.2.2.2.1 o.2.2.2.2 em tm rd)) : Wg X 67 [some (.ref 36), none, none, some (.int x3), some (.int x4), none] [.int y0] (mkH cn bk st r0 r1 r2 r3 r4 li fo tx co ke rf cp lk fl em tm rd) := by
  unfold jX6_follows_67 at h
  refine wg_istore (lv' := [some (.ref 36), none, none, some (.int x3), some (.int x4), some (.int y0)]) C dX6_follows_67 (Nat.le_of_ble_eq_true rfl) rfl ?_
  refine wg_iload C dX6_follows_69 rfl ?_
  refine wg_if_eq (tgt := 80) C dX6_follows_71 (by decide) (fun c12 => ?_) (fun c12 => ?_)
  · replace h := ifP c12 h
    refine wg_drop (lv' := [some (.ref 36), none, none, none, some (.int x4), some (.int y0)]) [3] rfl ?_
    exact sjX6_follows_80 X C cn bk st r0 r1 r2 r3 r4 li fo tx co ke rf cp lk fl em tm rd x4 y0 _ h hT
  · replace h := ifN c12 h
    refine wg_iload C dX6_follows_74 rfl ?_
    refine wg_iconst (v := 3) C dX6_follows_76 (by decide) ?_
    refine wg_icmp_ne (tgt := 95) C dX6_follows_77 (by decide) (fun c14 => ?_) (fun c14 => ?_)
    · replace h := ifP c14 h
      refine wg_iload C dX6_follows_95 rfl ?_
      refine wg_if_ne (tgt := 106) C dX6_follows_97 (by decide) (fun c15 => ?_) (fun c15 => ?_)
      · replace h := ifP c15 h
        refine wg_iload C dX6_follows_106 rfl ?_
        refine wg_iconst (v := 1) C dX6_follows_108 (by decide) ?_
        refine wg_icmp_ne (tgt := 121) C dX6_follows_109 (by decide) (fun c16 => ?_) (fun c16 => ?_)
        · replace h := ifP c16 h
          refine wg_aload_n C dX6_follows_121 rfl ?_
          refine wg_get (v := .ref 45) C fgX6_follows_35 rfl rfl dX6_follows_122 ?_
          refine wg_aload_n C dX6_follows_125 rfl ?_
          refine wg_get (v := .int fl.1) C fgX6_follows_138 rfl rfl dX6_follows_126 ?_
          refine wg_iconst (v := 1) C dX6_follows_129 (by decide) ?_
          refine wg_isub C dX6_follows_130 ?_
          refine wg_iload_n C dX6_follows_131 rfl ?_
          refine wg_isub C dX6_follows_132 ?_
          obtain ⟨g17, h⟩ := gdP h
          refine wg_iald (f := fl.2.2.2) (n := 50) C rfl g17 dX6_follows_133 ?_
          refine wg_drop (lv' := [none, none, none, none, none, none]) [0, 3, 4, 5] rfl ?_
          exact sjX6_follows_134 X C cn bk st r0 r1 r2 r3 r4 li fo tx co ke rf cp lk fl em tm rd (fl.2.2.2 (((fl.1 - (1 : Int32)) - x3)).toNatClampNeg) _ h hT
        · replace h := ifN c16 h
          refine wg_aload_n C dX6_follows_112 rfl ?_
          refine wg_get (v := .ref 45) C fgX6_follows_35 rfl rfl dX6_follows_113 ?_
          refine wg_iload_n C dX6_follows_116 rfl ?_
          obtain ⟨g18, h⟩ := gdP h
          refine wg_iald (f := fl.2.2.2) (n := 50) C rfl g18 dX6_follows_117 ?_
          refine wg_goto (tgt := 134) C dX6_follows_118 (by decide) ?_
          refine wg_drop (lv' := [none, none, none, none, none, none]) [0, 3, 4, 5] rfl ?_
          exact sjX6_follows_134 X C cn bk st r0 r1 r2 r3 r4 li fo tx co ke rf cp lk fl em tm rd (fl.2.2.2 (x3).toNatClampNeg) _ h hT
      · replace h := ifN c15 h
        refine wg_sipush (v := -10000) C dX6_follows_100 (by decide) ?_
        refine wg_goto (tgt := 134) C dX6_follows_103 (by decide) ?_
        refine wg_drop (lv' := [none, none, none, none, none, none]) [0, 3, 4, 5] rfl ?_
        exact sjX6_follows_134 X C cn bk st r0 r1 r2 r3 r4 li fo tx co ke rf cp lk fl em tm rd (-10000 : Int32) _ h hT
    · replace h := ifN c14 h
      refine wg_drop (lv' := [some (.ref 36), none, none, none, some (.int x4), some (.int y0)]) [3] rfl ?_
      exact sjX6_follows_80 X C cn bk st r0 r1 r2 r3 r4 li fo tx co ke rf cp lk fl em tm rd x4 y0 _ h hT
set_option maxRecDepth 100000 in
set_option maxHeartbeats 4000000 in
theorem sX6_follows (cn : Tcn) (bk : Tbk) (st : Tst) (r0 : Tbk) (r1 : Tbk) (r2 : Tbk) (r3 : Tbk) (r4 : Tbk) (li : Tli) (fo : Tfo) (tx : Ttx) (co : Tco) (ke : Tke) (rf : (Nat → Int32)) (cp : Int32) (lk : Tlk) (fl : Tfl) (em : Int32) (tm : Ttm) (rd : Trd) (x1 : Int32) (x2 : Int32) (x3 : Int32) (x4 : Int32) (o : Int32 × (Nat → Int32) × Int32 × Tlk × Tfl) (h : fX6_follows co rf cp lk fl x1 x2 x3 x4 = some o) : Sp yX6_follows wsX6_follows rX6_follows [.ref 36, .int x1, .int x2, .int x3, .int x4] (mkH cn bk st r0 r1 r2 r3 r4 li fo tx co ke rf cp lk fl em tm rd) (some (.int o.1)) (mkH cn bk st r0 r1 r2 r3 r4 li fo tx co ke o.2.1 o.2.2.1 o.2.2.2.1 o.2.2.2.2 em tm rd) := by
  refine Sp.of (lv := [some (.ref 36), some (.int x1), some (.int x2), some (.int x3), some (.int x4), none]) RX6 (by decide +kernel) rfl (Nat.le_of_ble_eq_true rfl) rfl ?_
  intro X C hT
  unfold fX6_follows at h
  refine wg_aload_n C dX6_follows_0 rfl ?_
  refine wg_iload_n C dX6_follows_1 rfl ?_
  obtain ⟨q1, e1q, h⟩ := bnd h
  refine wg_callV (n := 1) (As := [.int x1]) (st := []) (st' := [.int q1]) C (sX6_isDay cn bk st r0 r1 r2 r3 r4 li fo tx co ke rf cp lk fl em tm rd x1 q1 e1q) gX6_follows_X6_isDay rfl (by decide +kernel) ⟨⟨rfl, rfl⟩, Nat.le_of_ble_eq_true rfl, Nat.le_of_ble_eq_true rfl⟩ rfl rfl rfl rfl (Nat.le_of_ble_eq_true rfl) dX6_follows_2 rfl ?_
  refine wg_if_eq (tgt := 34) C dX6_follows_5 (by decide) (fun c2 => ?_) (fun c2 => ?_)
  · replace h := ifP c2 h
    refine wg_drop (lv' := [some (.ref 36), none, none, none, none, none]) [1, 2, 3, 4] rfl ?_
    exact sjX6_follows_34 X C cn bk st r0 r1 r2 r3 r4 li fo tx co ke rf cp lk fl em tm rd  _ h hT
  · replace h := ifN c2 h
    refine wg_iload_n C dX6_follows_8 rfl ?_
    obtain ⟨q4, e4q, h⟩ := bnd h
    refine wg_callT (n := 1) (As := [.int x2]) (st := []) (st' := [.int q4]) C (sX6_isMember cn bk st r0 r1 r2 r3 r4 li fo tx co ke rf cp lk fl em tm rd x2 q4 e4q) gX6_follows_X6_isMember rfl (by decide +kernel) ⟨⟨rfl, rfl⟩, Nat.le_of_ble_eq_true rfl, Nat.le_of_ble_eq_true rfl⟩ rfl rfl (Nat.le_of_ble_eq_true rfl) dX6_follows_9 rfl ?_
    refine wg_if_eq (tgt := 34) C dX6_follows_12 (by decide) (fun c5 => ?_) (fun c5 => ?_)
    · replace h := ifP c5 h
      refine wg_drop (lv' := [some (.ref 36), none, none, none, none, none]) [1, 2, 3, 4] rfl ?_
      exact sjX6_follows_34 X C cn bk st r0 r1 r2 r3 r4 li fo tx co ke rf cp lk fl em tm rd  _ h hT
    · replace h := ifN c5 h
      refine wg_iload_n C dX6_follows_15 rfl ?_
      refine wg_iconst (v := 0) C dX6_follows_16 (by decide) ?_
      refine wg_iconst (v := 5) C dX6_follows_17 (by decide) ?_
      obtain ⟨q6, e6q, h⟩ := bnd h
      refine wg_callT (n := 3) (As := [.int x3, .int (0 : Int32), .int (5 : Int32)]) (st := []) (st' := [.int q6]) C (sX6_in cn bk st r0 r1 r2 r3 r4 li fo tx co ke rf cp lk fl em tm rd x3 (0 : Int32) (5 : Int32) q6 e6q) gX6_follows_X6_in rfl (by decide +kernel) ⟨⟨rfl, rfl⟩, Nat.le_of_ble_eq_true rfl, Nat.le_of_ble_eq_true rfl⟩ rfl rfl (Nat.le_of_ble_eq_true rfl) dX6_follows_18 rfl ?_
      refine wg_if_eq (tgt := 34) C dX6_follows_21 (by decide) (fun c7 => ?_) (fun c7 => ?_)
      · replace h := ifP c7 h
        refine wg_drop (lv' := [some (.ref 36), none, none, none, none, none]) [1, 2, 3, 4] rfl ?_
        exact sjX6_follows_34 X C cn bk st r0 r1 r2 r3 r4 li fo tx co ke rf cp lk fl em tm rd  _ h hT
      · replace h := ifN c7 h
        refine wg_iload C dX6_follows_24 rfl ?_
        refine wg_iconst (v := 0) C dX6_follows_26 (by decide) ?_
        refine wg_iconst (v := 3) C dX6_follows_27 (by decide) ?_
        obtain ⟨q8, e8q, h⟩ := bnd h
        refine wg_callT (n := 3) (As := [.int x4, .int (0 : Int32), .int (3 : Int32)]) (st := []) (st' := [.int q8]) C (sX6_in cn bk st r0 r1 r2 r3 r4 li fo tx co ke rf cp lk fl em tm rd x4 (0 : Int32) (3 : Int32) q8 e8q) gX6_follows_X6_in rfl (by decide +kernel) ⟨⟨rfl, rfl⟩, Nat.le_of_ble_eq_true rfl, Nat.le_of_ble_eq_true rfl⟩ rfl rfl (Nat.le_of_ble_eq_true rfl) dX6_follows_28 rfl ?_
        refine wg_if_ne (tgt := 39) C dX6_follows_31 (by decide) (fun c9 => ?_) (fun c9 => ?_)
        · replace h := ifP c9 h
          refine wg_aload_n C dX6_follows_39 rfl ?_
          refine wg_iload_n C dX6_follows_40 rfl ?_
          refine wg_iload_n C dX6_follows_41 rfl ?_
          obtain ⟨q10, e10q, h⟩ := bnd h
          refine wg_callV (n := 2) (As := [.int x1, .int x2]) (st := []) (st' := []) C (sX6_setFollowers cn bk st r0 r1 r2 r3 r4 li fo tx co ke rf cp lk fl em tm rd x1 x2 q10 e10q) gX6_follows_X6_setFollowers rfl (by decide +kernel) ⟨⟨rfl, rfl⟩, Nat.le_of_ble_eq_true rfl, Nat.le_of_ble_eq_true rfl⟩ rfl rfl rfl rfl (Nat.le_of_ble_eq_true rfl) dX6_follows_42 rfl ?_
          refine wg_aload_n C dX6_follows_45 rfl ?_
          refine wg_get (v := .int q10.2.2.1) C fgX6_follows_138 rfl rfl dX6_follows_46 ?_
          refine wg_iconst (v := 2) C dX6_follows_49 (by decide) ?_
          refine wg_iload_n C dX6_follows_50 rfl ?_
          refine wg_imul C dX6_follows_51 ?_
          refine wg_icmp_le (tgt := 66) C dX6_follows_52 (by decide) (fun c11 => ?_) (fun c11 => ?_)
          · replace h := ifP c11 h
            refine wg_iconst (v := 0) C dX6_follows_66 (by decide) ?_
            refine wg_drop (lv' := [some (.ref 36), none, none, some (.int x3), some (.int x4), none]) [1, 2] rfl ?_
            exact sjX6_follows_67 X C cn bk st r0 r1 r2 r3 r4 li fo tx co ke rf q10.1 q10.2.1 q10.2.2 em tm rd x3 x4 (0 : Int32) _ h hT
          · replace h := ifN c11 h
            refine wg_aload_n C dX6_follows_55 rfl ?_
            refine wg_get (v := .int q10.2.2.1) C fgX6_follows_138 rfl rfl dX6_follows_56 ?_
            refine wg_iconst (v := 2) C dX6_follows_59 (by decide) ?_
            refine wg_iload_n C dX6_follows_60 rfl ?_
            refine wg_imul C dX6_follows_61 ?_
            refine wg_isub C dX6_follows_62 ?_
            refine wg_goto (tgt := 67) C dX6_follows_63 (by decide) ?_
            refine wg_drop (lv' := [some (.ref 36), none, none, some (.int x3), some (.int x4), none]) [1, 2] rfl ?_
            exact sjX6_follows_67 X C cn bk st r0 r1 r2 r3 r4 li fo tx co ke rf q10.1 q10.2.1 q10.2.2 em tm rd x3 x4 (q10.2.2.1 - ((2 : Int32) * x3)) _ h hT
        · replace h := ifN c9 h
          refine wg_drop (lv' := [some (.ref 36), none, none, none, none, none]) [1, 2, 3, 4] rfl ?_
          exact sjX6_follows_34 X C cn bk st r0 r1 r2 r3 r4 li fo tx co ke rf cp lk fl em tm rd  _ h hT
abbrev rX6_meanNow : Room := { frames := 1, cells := 0, slots := 0, locals := 20 }
theorem iwX6_meanNow_6 : ∀ w ∈ wsX60, w ∈ wsX6_meanNow := by decide +kernel
theorem fgX6_meanNow_29 : FG wsX6_meanNow RX6 29 6 11 := ⟨RX6, TX6, 21, rfl, by decide, by decide +kernel, iwX6_meanNow_6⟩
theorem fgX6_meanNow_32 : FG wsX6_meanNow RX6 32 6 12 := ⟨RX6, TX6, 21, rfl, by decide, by decide +kernel, iwX6_meanNow_6⟩
theorem fgX6_meanNow_138 : FG wsX6_meanNow RX6 138 6 10 := ⟨RX6, TX6, 21, rfl, by decide, by decide +kernel, iwX6_meanNow_6⟩
set_option maxRecDepth 100000 in
set_option maxHeartbeats 4000000 in
theorem sbX6_meanNow_6 (X : CX) (C : Ok X RX6 cX6_meanNow wsX6_meanNow rX6_meanNow) (cn : Tcn) (bk : Tbk) (st : Tst) (r0 : Tbk) (r1 : Tbk) (r2 : Tbk) (r3 : Tbk) (r4 : Tbk) (li : Tli) (fo : Tfo) (tx : Ttx) (co : Tco) (ke : Tke) (rf : (Nat → Int32)) (cp : Int32) (lk : Tlk) (fl : Tfl) (em : Int32) (tm : Ttm) (rd : Trd)  (z : UInt32 × UInt32 × Int32) (o : (UInt32 × UInt32 × Int32) ⊕ (UInt32 × UInt32)) (h : bX6_meanNow_6 fl  z = some o) (k0 : ∀ a : UInt32 × UInt32 × Int32, o = .inl a → Wg X 6 [some (.ref 36), some (.float a.1), some (.float a.2.1), some (.int a.2.2)] [] (mkH cn bk st r0 r1 r2 r3 r4 li fo tx co ke rf cp lk fl em tm rd)) (e0 : ∀ a : UInt32 × UInt32, o = .inr a → Wg X 54 [none, some (.float a.1), some (.float a.2), none] [] (mkH cn bk st r0 r1 r2 r3 r4 li fo tx co ke rf cp lk fl em tm rd)) : Wg X 6 [some (.ref 36), some (.float z.1), some (.float z.2.1), some (.int z.2.2)] [] (mkH cn bk st r0 r1 r2 r3 r4 li fo tx co ke rf cp lk fl em tm rd) := by
  unfold bX6_meanNow_6 at h
  refine wg_iload_n C dX6_meanNow_6 rfl ?_
  refine wg_aload_n C dX6_meanNow_7 rfl ?_
  refine wg_get (v := .int fl.1) C fgX6_meanNow_138 rfl rfl dX6_meanNow_8 ?_
  refine wg_icmp_ge (tgt := 54) C dX6_meanNow_11 (by decide) (fun c1 => ?_) (fun c1 => ?_)
  · replace h := ifP c1 h
    refine wg_drop (lv' := [none, some (.float z.1), some (.float z.2.1), none]) [0, 3] rfl ?_
    have hk := e0 _ (Option.some.inj h).symm
    exact hk
  · replace h := ifN c1 h
    refine wg_fload_n C dX6_meanNow_14 rfl ?_
    refine wg_aload_n C dX6_meanNow_15 rfl ?_
    refine wg_get (v := .ref 43) C fgX6_meanNow_29 rfl rfl dX6_meanNow_16 ?_
    refine wg_iload_n C dX6_meanNow_19 rfl ?_
    obtain ⟨g2, h⟩ := gdP h
    refine wg_iald (f := fl.2.1) (n := 50) C rfl g2 dX6_meanNow_20 ?_
    obtain ⟨q3, e3q, h⟩ := bnd h
    refine wg_callT (n := 1) (As := [.int (fl.2.1 (z.2.2).toNatClampNeg)]) (st := [.float z.1]) (st' := [.float q3, .float z.1]) C (sX6_value cn bk st r0 r1 r2 r3 r4 li fo tx co ke rf cp lk fl em tm rd (fl.2.1 (z.2.2).toNatClampNeg) q3 e3q) gX6_meanNow_X6_value rfl (by decide +kernel) ⟨⟨rfl, rfl⟩, Nat.le_of_ble_eq_true rfl, Nat.le_of_ble_eq_true rfl⟩ rfl rfl (Nat.le_of_ble_eq_true rfl) dX6_meanNow_21 rfl ?_
    refine wg_fconst1 C dX6_meanNow_24 ?_
    refine wg_aload_n C dX6_meanNow_25 rfl ?_
    refine wg_get (v := .ref 44) C fgX6_meanNow_32 rfl rfl dX6_meanNow_26 ?_
    refine wg_iload_n C dX6_meanNow_29 rfl ?_
    obtain ⟨g4, h⟩ := gdP h
    refine wg_fald (f := fl.2.2.1) (n := 50) C rfl g4 dX6_meanNow_30 ?_
    obtain ⟨g5, h⟩ := gdP h
    refine wg_fadd C dX6_meanNow_31 g5 ?_
    obtain ⟨g6, h⟩ := gdP h
    refine wg_fdiv C dX6_meanNow_32 g6 ?_
    obtain ⟨g7, h⟩ := gdP h
    refine wg_fadd C dX6_meanNow_33 g7 ?_
    refine wg_fstore_n (lv' := [some (.ref 36), some (.float (FP.fadd z.1 (FP.fdiv q3 (FP.fadd FP.fconst1 (fl.2.2.1 (z.2.2).toNatClampNeg))))), some (.float z.2.1), some (.int z.2.2)]) C dX6_meanNow_34 (Nat.le_of_ble_eq_true rfl) rfl ?_
    refine wg_fload_n C dX6_meanNow_35 rfl ?_
    refine wg_fconst1 C dX6_meanNow_36 ?_
    refine wg_fconst1 C dX6_meanNow_37 ?_
    refine wg_aload_n C dX6_meanNow_38 rfl ?_
    refine wg_get (v := .ref 44) C fgX6_meanNow_32 rfl rfl dX6_meanNow_39 ?_
    refine wg_iload_n C dX6_meanNow_42 rfl ?_
    obtain ⟨g8, h⟩ := gdP h
    refine wg_fald (f := fl.2.2.1) (n := 50) C rfl g8 dX6_meanNow_43 ?_
    obtain ⟨g9, h⟩ := gdP h
    refine wg_fadd C dX6_meanNow_44 g9 ?_
    obtain ⟨g10, h⟩ := gdP h
    refine wg_fdiv C dX6_meanNow_45 g10 ?_
    obtain ⟨g11, h⟩ := gdP h
    refine wg_fadd C dX6_meanNow_46 g11 ?_
    refine wg_fstore_n (lv' := [some (.ref 36), some (.float (FP.fadd z.1 (FP.fdiv q3 (FP.fadd FP.fconst1 (fl.2.2.1 (z.2.2).toNatClampNeg))))), some (.float (FP.fadd z.2.1 (FP.fdiv FP.fconst1 (FP.fadd FP.fconst1 (fl.2.2.1 (z.2.2).toNatClampNeg))))), some (.int z.2.2)]) C dX6_meanNow_47 (Nat.le_of_ble_eq_true rfl) rfl ?_
    refine wg_iinc (v := (z.2.2 + (1 : Int32))) (lv' := [some (.ref 36), some (.float (FP.fadd z.1 (FP.fdiv q3 (FP.fadd FP.fconst1 (fl.2.2.1 (z.2.2).toNatClampNeg))))), some (.float (FP.fadd z.2.1 (FP.fdiv FP.fconst1 (FP.fadd FP.fconst1 (fl.2.2.1 (z.2.2).toNatClampNeg))))), some (.int (z.2.2 + (1 : Int32)))]) C dX6_meanNow_48 rfl rfl rfl ?_
    refine wg_goto (tgt := 6) C dX6_meanNow_51 (by decide) ?_
    have hk := k0 _ (Option.some.inj h).symm
    exact hk
set_option maxRecDepth 100000 in
set_option maxHeartbeats 4000000 in
theorem slX6_meanNow_6 (X : CX) (C : Ok X RX6 cX6_meanNow wsX6_meanNow rX6_meanNow) (cn : Tcn) (bk : Tbk) (st : Tst) (r0 : Tbk) (r1 : Tbk) (r2 : Tbk) (r3 : Tbk) (r4 : Tbk) (li : Tli) (fo : Tfo) (tx : Ttx) (co : Tco) (ke : Tke) (rf : (Nat → Int32)) (cp : Int32) (lk : Tlk) (fl : Tfl) (em : Int32) (tm : Ttm) (rd : Trd)  (o : (UInt32 × UInt32)) (e0 : ∀ a : UInt32 × UInt32, o = a → Wg X 54 [none, some (.float a.1), some (.float a.2), none] [] (mkH cn bk st r0 r1 r2 r3 r4 li fo tx co ke rf cp lk fl em tm rd)) : ∀ (n : Nat) (z : UInt32 × UInt32 × Int32), lpF (bX6_meanNow_6 fl ) n z = some o → Wg X 6 [some (.ref 36), some (.float z.1), some (.float z.2.1), some (.int z.2.2)] [] (mkH cn bk st r0 r1 r2 r3 r4 li fo tx co ke rf cp lk fl em tm rd) := by
  intro n
  induction n with
  | zero => intro z h; cases h
  | succ n ih =>
    intro z h
    obtain ⟨r, hB, h⟩ := bnd h
    refine sbX6_meanNow_6 X C cn bk st r0 r1 r2 r3 r4 li fo tx co ke rf cp lk fl em tm rd  z r hB (fun a e => ih a (by subst e; exact h)) (fun a e => e0 a (by subst e; exact (Option.some.inj h).symm))
set_option maxRecDepth 100000 in
set_option maxHeartbeats 4000000 in
theorem sX6_meanNow (cn : Tcn) (bk : Tbk) (st : Tst) (r0 : Tbk) (r1 : Tbk) (r2 : Tbk) (r3 : Tbk) (r4 : Tbk) (li : Tli) (fo : Tfo) (tx : Ttx) (co : Tco) (ke : Tke) (rf : (Nat → Int32)) (cp : Int32) (lk : Tlk) (fl : Tfl) (em : Int32) (tm : Ttm) (rd : Trd)  (o : UInt32) (h : fX6_meanNow fl  = some o) : Sp yX6_meanNow wsX6_meanNow rX6_meanNow [.ref 36] (mkH cn bk st r0 r1 r2 r3 r4 li fo tx co ke rf cp lk fl em tm rd) (some (.float o)) (mkH cn bk st r0 r1 r2 r3 r4 li fo tx co ke rf cp lk fl em tm rd) := by
  refine Sp.of (lv := [some (.ref 36), none, none, none]) RX6 (by decide +kernel) rfl (Nat.le_of_ble_eq_true rfl) rfl ?_
  intro X C hT
  unfold fX6_meanNow at h
  refine wg_fconst0 C dX6_meanNow_0 ?_
  refine wg_fstore_n (lv' := [some (.ref 36), some (.float FP.fconst0), none, none]) C dX6_meanNow_1 (Nat.le_of_ble_eq_true rfl) rfl ?_
  refine wg_fconst0 C dX6_meanNow_2 ?_
  refine wg_fstore_n (lv' := [some (.ref 36), some (.float FP.fconst0), some (.float FP.fconst0), none]) C dX6_meanNow_3 (Nat.le_of_ble_eq_true rfl) rfl ?_
  refine wg_iconst (v := 0) C dX6_meanNow_4 (by decide) ?_
  refine wg_istore_n (lv' := [some (.ref 36), some (.float FP.fconst0), some (.float FP.fconst0), some (.int (0 : Int32))]) C dX6_meanNow_5 (Nat.le_of_ble_eq_true rfl) rfl ?_
  obtain ⟨t12, hL12, h⟩ := bnd h
  refine slX6_meanNow_6 X C cn bk st r0 r1 r2 r3 r4 li fo tx co ke rf cp lk fl em tm rd  t12 (fun a e => ?_) FU (FP.fconst0, FP.fconst0, (0 : Int32)) hL12
  subst e
  refine wg_fload_n C dX6_meanNow_54 rfl ?_
  refine wg_fload_n C dX6_meanNow_55 rfl ?_
  obtain ⟨g13, h⟩ := gdP h
  refine wg_fdiv C dX6_meanNow_56 g13 ?_
  obtain rfl := Option.some.inj h
  exact wg_fret C hT dX6_meanNow_57
abbrev rX6_mean : Room := { frames := 5, cells := 0, slots := 0, locals := 120 }
theorem iwX6_mean_6 : ∀ w ∈ wsX60, w ∈ wsX6_mean := by decide +kernel
theorem fgX6_mean_138 : FG wsX6_mean RX6 138 6 10 := ⟨RX6, TX6, 21, rfl, by decide, by decide +kernel, iwX6_mean_6⟩
set_option maxRecDepth 100000 in
set_option maxHeartbeats 4000000 in
theorem sjX6_mean_15 (X : CX) (C : Ok X RX6 cX6_mean wsX6_mean rX6_mean) (cn : Tcn) (bk : Tbk) (st : Tst) (r0 : Tbk) (r1 : Tbk) (r2 : Tbk) (r3 : Tbk) (r4 : Tbk) (li : Tli) (fo : Tfo) (tx : Ttx) (co : Tco) (ke : Tke) (rf : (Nat → Int32)) (cp : Int32) (lk : Tlk) (fl : Tfl) (em : Int32) (tm : Ttm) (rd : Trd)  (o : Int32 × (Nat → Int32) × Int32 × Tlk × Tfl) (h : jX6_mean_15 co rf cp lk fl  = some o) (hT : Rt X (some .int) (some (.int o.1)) (mkH cn bk st r0 r1 r2 r3 r4 li fo tx co ke o.2.1 o.2.2.1 o.2.2.2.1 o.2.2.2.2 em tm rd)) : Wg X 15 [some (.ref 36), none, none] [] (mkH cn bk st r0 r1 r2 r3 r4 li fo tx co ke rf cp lk fl em tm rd) := by
  unfold jX6_mean_15 at h
  refine wg_aload_n C dX6_mean_15 rfl ?_
  obtain ⟨q3, e3q, h⟩ := bnd h
  refine wg_callV (n := 0) (As := []) (st := []) (st' := [.int q3.1]) C (sX6_bad cn bk st r0 r1 r2 r3 r4 li fo tx co ke rf cp lk fl em tm rd  q3 e3q) gX6_mean_X6_bad rfl (by decide +kernel) ⟨⟨rfl, rfl⟩, Nat.le_of_ble_eq_true rfl, Nat.le_of_ble_eq_true rfl⟩ rfl rfl rfl rfl (Nat.le_of_ble_eq_true rfl) dX6_mean_16 rfl ?_
  obtain rfl := Option.some.inj h
  exact wg_iret C hT dX6_mean_19
set_option maxRecDepth 100000 in
set_option maxHeartbeats 4000000 in
theorem sjX6_mean_44 (X : CX) (C : Ok X RX6 cX6_mean wsX6_mean rX6_mean) (cn : Tcn) (bk : Tbk) (st : Tst) (r0 : Tbk) (r1 : Tbk) (r2 : Tbk) (r3 : Tbk) (r4 : Tbk) (li : Tli) (fo : Tfo) (tx : Ttx) (co : Tco) (ke : Tke) (rf : (Nat → Int32)) (cp : Int32) (lk : Tlk) (fl : Tfl) (em : Int32) (tm : Ttm) (rd : Trd) (y0 : Int32) (o : Int32 × (Nat → Int32) × Int32 × Tlk × Tfl) (h : jX6_mean_44 co rf cp lk fl y0 = some o) (hT : Rt X (some .int) (some (.int o.1)) (mkH cn bk st r0 r1 r2 r3 r4 li fo tx co ke o.2.1 o.2.2.1 o.2.2.2.1 o.2.2.2.2 em tm rd)) : Wg X 44 [none, none, none] [.int y0] (mkH cn bk st r0 r1 r2 r3 r4 li fo tx co ke rf cp lk fl em tm rd) := by
  unfold jX6_mean_44 at h
  obtain rfl := Option.some.inj h
  exact wg_iret C hT dX6_mean_44
set_option maxRecDepth 100000 in
set_option maxHeartbeats 4000000 in
theorem sX6_mean (cn : Tcn) (bk : Tbk) (st : Tst) (r0 : Tbk) (r1 : Tbk) (r2 : Tbk) (r3 : Tbk) (r4 : Tbk) (li : Tli) (fo : Tfo) (tx : Ttx) (co : Tco) (ke : Tke) (rf : (Nat → Int32)) (cp : Int32) (lk : Tlk) (fl : Tfl) (em : Int32) (tm : Ttm) (rd : Trd) (x1 : Int32) (x2 : Int32) (o : Int32 × (Nat → Int32) × Int32 × Tlk × Tfl) (h : fX6_mean co rf cp lk fl x1 x2 = some o) : Sp yX6_mean wsX6_mean rX6_mean [.ref 36, .int x1, .int x2] (mkH cn bk st r0 r1 r2 r3 r4 li fo tx co ke rf cp lk fl em tm rd) (some (.int o.1)) (mkH cn bk st r0 r1 r2 r3 r4 li fo tx co ke o.2.1 o.2.2.1 o.2.2.2.1 o.2.2.2.2 em tm rd) := by
  refine Sp.of (lv := [some (.ref 36), some (.int x1), some (.int x2)]) RX6 (by decide +kernel) rfl (Nat.le_of_ble_eq_true rfl) rfl ?_
  intro X C hT
  unfold fX6_mean at h
  refine wg_aload_n C dX6_mean_0 rfl ?_
  refine wg_iload_n C dX6_mean_1 rfl ?_
  obtain ⟨q1, e1q, h⟩ := bnd h
  refine wg_callV (n := 1) (As := [.int x1]) (st := []) (st' := [.int q1]) C (sX6_isDay cn bk st r0 r1 r2 r3 r4 li fo tx co ke rf cp lk fl em tm rd x1 q1 e1q) gX6_mean_X6_isDay rfl (by decide +kernel) ⟨⟨rfl, rfl⟩, Nat.le_of_ble_eq_true rfl, Nat.le_of_ble_eq_true rfl⟩ rfl rfl rfl rfl (Nat.le_of_ble_eq_true rfl) dX6_mean_2 rfl ?_
  refine wg_if_eq (tgt := 15) C dX6_mean_5 (by decide) (fun c2 => ?_) (fun c2 => ?_)
  · replace h := ifP c2 h
    refine wg_drop (lv' := [some (.ref 36), none, none]) [1, 2] rfl ?_
    exact sjX6_mean_15 X C cn bk st r0 r1 r2 r3 r4 li fo tx co ke rf cp lk fl em tm rd  _ h hT
  · replace h := ifN c2 h
    refine wg_iload_n C dX6_mean_8 rfl ?_
    obtain ⟨q4, e4q, h⟩ := bnd h
    refine wg_callT (n := 1) (As := [.int x2]) (st := []) (st' := [.int q4]) C (sX6_isMember cn bk st r0 r1 r2 r3 r4 li fo tx co ke rf cp lk fl em tm rd x2 q4 e4q) gX6_mean_X6_isMember rfl (by decide +kernel) ⟨⟨rfl, rfl⟩, Nat.le_of_ble_eq_true rfl, Nat.le_of_ble_eq_true rfl⟩ rfl rfl (Nat.le_of_ble_eq_true rfl) dX6_mean_9 rfl ?_
    refine wg_if_ne (tgt := 20) C dX6_mean_12 (by decide) (fun c5 => ?_) (fun c5 => ?_)
    · replace h := ifP c5 h
      refine wg_aload_n C dX6_mean_20 rfl ?_
      refine wg_iload_n C dX6_mean_21 rfl ?_
      refine wg_iload_n C dX6_mean_22 rfl ?_
      obtain ⟨q6, e6q, h⟩ := bnd h
      refine wg_callV (n := 2) (As := [.int x1, .int x2]) (st := []) (st' := []) C (sX6_setFollowers cn bk st r0 r1 r2 r3 r4 li fo tx co ke rf cp lk fl em tm rd x1 x2 q6 e6q) gX6_mean_X6_setFollowers rfl (by decide +kernel) ⟨⟨rfl, rfl⟩, Nat.le_of_ble_eq_true rfl, Nat.le_of_ble_eq_true rfl⟩ rfl rfl rfl rfl (Nat.le_of_ble_eq_true rfl) dX6_mean_23 rfl ?_
      refine wg_aload_n C dX6_mean_26 rfl ?_
      refine wg_get (v := .int q6.2.2.1) C fgX6_mean_138 rfl rfl dX6_mean_27 ?_
      refine wg_if_ne (tgt := 37) C dX6_mean_30 (by decide) (fun c7 => ?_) (fun c7 => ?_)
      · replace h := ifP c7 h
        refine wg_aload_n C dX6_mean_37 rfl ?_
        obtain ⟨q8, e8q, h⟩ := bnd h
        refine wg_callV (n := 0) (As := []) (st := []) (st' := [.float q8]) C (sX6_meanNow cn bk st r0 r1 r2 r3 r4 li fo tx co ke rf q6.1 q6.2.1 q6.2.2 em tm rd  q8 e8q) gX6_mean_X6_meanNow rfl (by decide +kernel) ⟨⟨rfl, rfl⟩, Nat.le_of_ble_eq_true rfl, Nat.le_of_ble_eq_true rfl⟩ rfl rfl rfl rfl (Nat.le_of_ble_eq_true rfl) dX6_mean_38 rfl ?_
        obtain ⟨q9, e9q, h⟩ := bnd h
        refine wg_callT (n := 1) (As := [.float q8]) (st := []) (st' := [.int q9]) C (sJxf58ca_floatToIntBits_5c35a cn bk st r0 r1 r2 r3 r4 li fo tx co ke rf q6.1 q6.2.1 q6.2.2 em tm rd q8 q9 e9q) gX6_mean_Jxf58ca_floatToIntBits_5c35a rfl (by decide +kernel) ⟨⟨rfl, rfl⟩, Nat.le_of_ble_eq_true rfl, Nat.le_of_ble_eq_true rfl⟩ rfl rfl (Nat.le_of_ble_eq_true rfl) dX6_mean_41 rfl ?_
        refine wg_drop (lv' := [none, none, none]) [0, 1, 2] rfl ?_
        exact sjX6_mean_44 X C cn bk st r0 r1 r2 r3 r4 li fo tx co ke rf q6.1 q6.2.1 q6.2.2 em tm rd q9 _ h hT
      · replace h := ifN c7 h
        refine wg_iconst (v := -1) C dX6_mean_33 (by decide) ?_
        refine wg_goto (tgt := 44) C dX6_mean_34 (by decide) ?_
        refine wg_drop (lv' := [none, none, none]) [0, 1, 2] rfl ?_
        exact sjX6_mean_44 X C cn bk st r0 r1 r2 r3 r4 li fo tx co ke rf q6.1 q6.2.1 q6.2.2 em tm rd (-1 : Int32) _ h hT
    · replace h := ifN c5 h
      refine wg_drop (lv' := [some (.ref 36), none, none]) [1, 2] rfl ?_
      exact sjX6_mean_15 X C cn bk st r0 r1 r2 r3 r4 li fo tx co ke rf cp lk fl em tm rd  _ h hT
abbrev rJxe99ae_isNaN_b9ae7 : Room := { frames := 0, cells := 0, slots := 0, locals := 0 }
set_option maxRecDepth 100000 in
set_option maxHeartbeats 4000000 in
theorem sjJxe99ae_isNaN_b9ae7_11 (X : CX) (C : Ok X RJxe99ae cJxe99ae_isNaN_b9ae7 wsJxe99ae_isNaN_b9ae7 rJxe99ae_isNaN_b9ae7) (cn : Tcn) (bk : Tbk) (st : Tst) (r0 : Tbk) (r1 : Tbk) (r2 : Tbk) (r3 : Tbk) (r4 : Tbk) (li : Tli) (fo : Tfo) (tx : Ttx) (co : Tco) (ke : Tke) (rf : (Nat → Int32)) (cp : Int32) (lk : Tlk) (fl : Tfl) (em : Int32) (tm : Ttm) (rd : Trd) (y0 : Int32) (o : Int32) (h : jJxe99ae_isNaN_b9ae7_11  y0 = some o) (hT : Rt X (some .boolean) (some (.int o)) (mkH cn bk st r0 r1 r2 r3 r4 li fo tx co ke rf cp lk fl em tm rd)) : Wg X 11 [none, none] [.int y0] (mkH cn bk st r0 r1 r2 r3 r4 li fo tx co ke rf cp lk fl em tm rd) := by
  unfold jJxe99ae_isNaN_b9ae7_11 at h
  obtain ⟨g2, h⟩ := gdP h
  obtain rfl := Option.some.inj h
  exact wg_zret C hT (of_decide_eq_true g2) dJxe99ae_isNaN_b9ae7_11
set_option maxRecDepth 100000 in
set_option maxHeartbeats 4000000 in
theorem sJxe99ae_isNaN_b9ae7 (cn : Tcn) (bk : Tbk) (st : Tst) (r0 : Tbk) (r1 : Tbk) (r2 : Tbk) (r3 : Tbk) (r4 : Tbk) (li : Tli) (fo : Tfo) (tx : Ttx) (co : Tco) (ke : Tke) (rf : (Nat → Int32)) (cp : Int32) (lk : Tlk) (fl : Tfl) (em : Int32) (tm : Ttm) (rd : Trd) (x0 : UInt64) (o : Int32) (h : fJxe99ae_isNaN_b9ae7  x0 = some o) : Sp yJxe99ae_isNaN_b9ae7 wsJxe99ae_isNaN_b9ae7 rJxe99ae_isNaN_b9ae7 [.double x0] (mkH cn bk st r0 r1 r2 r3 r4 li fo tx co ke rf cp lk fl em tm rd) (some (.int o)) (mkH cn bk st r0 r1 r2 r3 r4 li fo tx co ke rf cp lk fl em tm rd) := by
  refine Sp.of (lv := [some (.double x0), none]) RJxe99ae (by decide +kernel) rfl (Nat.le_of_ble_eq_true rfl) rfl ?_
  intro X C hT
  unfold fJxe99ae_isNaN_b9ae7 at h
  refine wg_dload_n C dJxe99ae_isNaN_b9ae7_0 rfl ?_
  refine wg_dload_n C dJxe99ae_isNaN_b9ae7_1 rfl ?_
  refine wg_dcmp C dJxe99ae_isNaN_b9ae7_2 ?_
  refine wg_if_eq (tgt := 10) C dJxe99ae_isNaN_b9ae7_3 (by decide) (fun c1 => ?_) (fun c1 => ?_)
  · replace h := ifP c1 h
    refine wg_iconst (v := 0) C dJxe99ae_isNaN_b9ae7_10 (by decide) ?_
    refine wg_drop (lv' := [none, none]) [0] rfl ?_
    exact sjJxe99ae_isNaN_b9ae7_11 X C cn bk st r0 r1 r2 r3 r4 li fo tx co ke rf cp lk fl em tm rd (0 : Int32) _ h hT
  · replace h := ifN c1 h
    refine wg_iconst (v := 1) C dJxe99ae_isNaN_b9ae7_6 (by decide) ?_
    refine wg_goto (tgt := 11) C dJxe99ae_isNaN_b9ae7_7 (by decide) ?_
    refine wg_drop (lv' := [none, none]) [0] rfl ?_
    exact sjJxe99ae_isNaN_b9ae7_11 X C cn bk st r0 r1 r2 r3 r4 li fo tx co ke rf cp lk fl em tm rd (1 : Int32) _ h hT
abbrev rJxe99ae_doubleToLongBits_ccdee : Room := { frames := 1, cells := 0, slots := 0, locals := 21 }
set_option maxRecDepth 100000 in
set_option maxHeartbeats 4000000 in
theorem sJxe99ae_doubleToLongBits_ccdee (cn : Tcn) (bk : Tbk) (st : Tst) (r0 : Tbk) (r1 : Tbk) (r2 : Tbk) (r3 : Tbk) (r4 : Tbk) (li : Tli) (fo : Tfo) (tx : Ttx) (co : Tco) (ke : Tke) (rf : (Nat → Int32)) (cp : Int32) (lk : Tlk) (fl : Tfl) (em : Int32) (tm : Ttm) (rd : Trd) (x0 : UInt64) (o : Int64) (h : fJxe99ae_doubleToLongBits_ccdee  x0 = some o) : Sp yJxe99ae_doubleToLongBits_ccdee wsJxe99ae_doubleToLongBits_ccdee rJxe99ae_doubleToLongBits_ccdee [.double x0] (mkH cn bk st r0 r1 r2 r3 r4 li fo tx co ke rf cp lk fl em tm rd) (some (.long o)) (mkH cn bk st r0 r1 r2 r3 r4 li fo tx co ke rf cp lk fl em tm rd) := by
  refine Sp.of (lv := [some (.double x0), none]) RJxe99ae (by decide +kernel) rfl (Nat.le_of_ble_eq_true rfl) rfl ?_
  intro X C hT
  unfold fJxe99ae_doubleToLongBits_ccdee at h
  refine wg_dload_n C dJxe99ae_doubleToLongBits_ccdee_0 rfl ?_
  obtain ⟨q1, e1q, h⟩ := bnd h
  refine wg_callT (n := 1) (As := [.double x0]) (st := []) (st' := [.int q1]) C (sJxe99ae_isNaN_b9ae7 cn bk st r0 r1 r2 r3 r4 li fo tx co ke rf cp lk fl em tm rd x0 q1 e1q) gJxe99ae_doubleToLongBits_ccdee_Jxe99ae_isNaN_b9ae7 rfl (by decide +kernel) ⟨⟨rfl, rfl⟩, Nat.le_of_ble_eq_true rfl, Nat.le_of_ble_eq_true rfl⟩ rfl rfl (Nat.le_of_ble_eq_true rfl) dJxe99ae_doubleToLongBits_ccdee_1 rfl ?_
  refine wg_if_ne (tgt := 12) C dJxe99ae_doubleToLongBits_ccdee_4 (by decide) (fun c2 => ?_) (fun c2 => ?_)
  · replace h := ifP c2 h
    refine wg_ldcl (v := 9221120237041090560) C (by decide +kernel) dJxe99ae_doubleToLongBits_ccdee_12 ?_
    obtain rfl := Option.some.inj h
    exact wg_lret C hT dJxe99ae_doubleToLongBits_ccdee_15
  · replace h := ifN c2 h
    refine wg_dload_n C dJxe99ae_doubleToLongBits_ccdee_7 rfl ?_
    refine wg_d2b C ⟨by decide +kernel, by decide +kernel, by decide +kernel, by decide +kernel⟩ ⟨Nat.le_of_ble_eq_true rfl, Nat.le_of_ble_eq_true rfl⟩ dJxe99ae_doubleToLongBits_ccdee_8 ?_
    obtain rfl := Option.some.inj h
    exact wg_lret C hT dJxe99ae_doubleToLongBits_ccdee_11
abbrev rX6_spread : Room := { frames := 5, cells := 0, slots := 0, locals := 120 }
theorem iwX6_spread_6 : ∀ w ∈ wsX60, w ∈ wsX6_spread := by decide +kernel
theorem fgX6_spread_29 : FG wsX6_spread RX6 29 6 11 := ⟨RX6, TX6, 21, rfl, by decide, by decide +kernel, iwX6_spread_6⟩
theorem fgX6_spread_138 : FG wsX6_spread RX6 138 6 10 := ⟨RX6, TX6, 21, rfl, by decide, by decide +kernel, iwX6_spread_6⟩
set_option maxRecDepth 100000 in
set_option maxHeartbeats 4000000 in
theorem sjX6_spread_15 (X : CX) (C : Ok X RX6 cX6_spread wsX6_spread rX6_spread) (cn : Tcn) (bk : Tbk) (st : Tst) (r0 : Tbk) (r1 : Tbk) (r2 : Tbk) (r3 : Tbk) (r4 : Tbk) (li : Tli) (fo : Tfo) (tx : Ttx) (co : Tco) (ke : Tke) (rf : (Nat → Int32)) (cp : Int32) (lk : Tlk) (fl : Tfl) (em : Int32) (tm : Ttm) (rd : Trd)  (o : Int64 × (Nat → Int32) × Int32 × Tlk × Tfl) (h : jX6_spread_15 co rf cp lk fl  = some o) (hT : Rt X (some .long) (some (.long o.1)) (mkH cn bk st r0 r1 r2 r3 r4 li fo tx co ke o.2.1 o.2.2.1 o.2.2.2.1 o.2.2.2.2 em tm rd)) : Wg X 15 [some (.ref 36), none, none, none, none, none, none, none, none, none, none, none] [] (mkH cn bk st r0 r1 r2 r3 r4 li fo tx co ke rf cp lk fl em tm rd) := by
  unfold jX6_spread_15 at h
  refine wg_aload_n C dX6_spread_15 rfl ?_
  obtain ⟨q3, e3q, h⟩ := bnd h
  refine wg_callV (n := 0) (As := []) (st := []) (st' := [.int q3.1]) C (sX6_bad cn bk st r0 r1 r2 r3 r4 li fo tx co ke rf cp lk fl em tm rd  q3 e3q) gX6_spread_X6_bad rfl (by decide +kernel) ⟨⟨rfl, rfl⟩, Nat.le_of_ble_eq_true rfl, Nat.le_of_ble_eq_true rfl⟩ rfl rfl rfl rfl (Nat.le_of_ble_eq_true rfl) dX6_spread_16 rfl ?_
  refine wg_i2l C dX6_spread_19 ?_
  obtain rfl := Option.some.inj h
  exact wg_lret C hT dX6_spread_20
set_option maxRecDepth 100000 in
set_option maxHeartbeats 4000000 in
theorem sbX6_spread_53 (X : CX) (C : Ok X RX6 cX6_spread wsX6_spread rX6_spread) (cn : Tcn) (bk : Tbk) (st : Tst) (r0 : Tbk) (r1 : Tbk) (r2 : Tbk) (r3 : Tbk) (r4 : Tbk) (li : Tli) (fo : Tfo) (tx : Ttx) (co : Tco) (ke : Tke) (rf : (Nat → Int32)) (cp : Int32) (lk : Tlk) (fl : Tfl) (em : Int32) (tm : Ttm) (rd : Trd) (x7 : UInt64) (z : UInt64 × UInt64 × Int32) (o : (UInt64 × UInt64 × Int32) ⊕ (UInt64 × UInt64)) (h : bX6_spread_53 co rf cp lk fl x7 z = some o) (k0 : ∀ a : UInt64 × UInt64 × Int32, o = .inl a → Wg X 53 [some (.ref 36), none, none, some (.double a.1), none, some (.double a.2.1), none, some (.double x7), none, some (.int a.2.2), none, none] [] (mkH cn bk st r0 r1 r2 r3 r4 li fo tx co ke rf cp lk fl em tm rd)) (e0 : ∀ a : UInt64 × UInt64, o = .inr a → Wg X 96 [none, none, none, some (.double a.1), none, some (.double a.2), none, some (.double x7), none, none, none, none] [] (mkH cn bk st r0 r1 r2 r3 r4 li fo tx co ke rf cp lk fl em tm rd)) : Wg X 53 [some (.ref 36), none, none, some (.double z.1), none, some (.double z.2.1), none, some (.double x7), none, some (.int z.2.2), none, none] [] (mkH cn bk st r0 r1 r2 r3 r4 li fo tx co ke rf cp lk fl em tm rd) := by
  unfold bX6_spread_53 at h
  refine wg_iload C dX6_spread_53 rfl ?_
  refine wg_aload_n C dX6_spread_55 rfl ?_
  refine wg_get (v := .int fl.1) C fgX6_spread_138 rfl rfl dX6_spread_56 ?_
  refine wg_icmp_ge (tgt := 96) C dX6_spread_59 (by decide) (fun c8 => ?_) (fun c8 => ?_)
  · replace h := ifP c8 h
    refine wg_drop (lv' := [none, none, none, some (.double z.1), none, some (.double z.2.1), none, some (.double x7), none, none, none, none]) [0, 9] rfl ?_
    have hk := e0 _ (Option.some.inj h).symm
    exact hk
  · replace h := ifN c8 h
    refine wg_aload_n C dX6_spread_62 rfl ?_
    refine wg_get (v := .ref 43) C fgX6_spread_29 rfl rfl dX6_spread_63 ?_
    refine wg_iload C dX6_spread_66 rfl ?_
    obtain ⟨g9, h⟩ := gdP h
    refine wg_iald (f := fl.2.1) (n := 50) C rfl g9 dX6_spread_68 ?_
    obtain ⟨q10, e10q, h⟩ := bnd h
    refine wg_callT (n := 1) (As := [.int (fl.2.1 (z.2.2).toNatClampNeg)]) (st := []) (st' := [.float q10]) C (sX6_value cn bk st r0 r1 r2 r3 r4 li fo tx co ke rf cp lk fl em tm rd (fl.2.1 (z.2.2).toNatClampNeg) q10 e10q) gX6_spread_X6_value rfl (by decide +kernel) ⟨⟨rfl, rfl⟩, Nat.le_of_ble_eq_true rfl, Nat.le_of_ble_eq_true rfl⟩ rfl rfl (Nat.le_of_ble_eq_true rfl) dX6_spread_69 rfl ?_
    obtain ⟨g11, h⟩ := gdP h
    refine wg_f2d C dX6_spread_72 g11 ?_
    refine wg_dstore (lv' := [some (.ref 36), none, none, some (.double z.1), none, some (.double z.2.1), none, some (.double x7), none, some (.int z.2.2), some (.double (FP.f2d q10)), none]) C dX6_spread_73 (Nat.le_of_ble_eq_true rfl) rfl ?_
    refine wg_dload_n C dX6_spread_75 rfl ?_
    refine wg_dload C dX6_spread_76 rfl ?_
    obtain ⟨g12, h⟩ := gdP h
    refine wg_dadd C dX6_spread_78 g12 ?_
    refine wg_dstore_n (lv' := [some (.ref 36), none, none, some (.double (FP.dadd z.1 (FP.f2d q10))), none, some (.double z.2.1), none, some (.double x7), none, some (.int z.2.2), some (.double (FP.f2d q10)), none]) C dX6_spread_79 (Nat.le_of_ble_eq_true rfl) rfl ?_
    refine wg_dload C dX6_spread_80 rfl ?_
    refine wg_dload C dX6_spread_82 rfl ?_
    refine wg_dload C dX6_spread_84 rfl ?_
    obtain ⟨g13, h⟩ := gdP h
    refine wg_dmul C dX6_spread_86 g13 ?_
    obtain ⟨g14, h⟩ := gdP h
    refine wg_dadd C dX6_spread_87 g14 ?_
    refine wg_dstore (lv' := [some (.ref 36), none, none, some (.double (FP.dadd z.1 (FP.f2d q10))), none, some (.double (FP.dadd z.2.1 (FP.dmul (FP.f2d q10) (FP.f2d q10)))), none, some (.double x7), none, some (.int z.2.2), some (.double (FP.f2d q10)), none]) C dX6_spread_88 (Nat.le_of_ble_eq_true rfl) rfl ?_
    refine wg_iinc (v := (z.2.2 + (1 : Int32))) (lv' := [some (.ref 36), none, none, some (.double (FP.dadd z.1 (FP.f2d q10))), none, some (.double (FP.dadd z.2.1 (FP.dmul (FP.f2d q10) (FP.f2d q10)))), none, some (.double x7), none, some (.int (z.2.2 + (1 : Int32))), some (.double (FP.f2d q10)), none]) C dX6_spread_90 rfl rfl rfl ?_
    refine wg_goto (tgt := 53) C dX6_spread_93 (by decide) ?_
    refine wg_drop (lv' := [some (.ref 36), none, none, some (.double (FP.dadd z.1 (FP.f2d q10))), none, some (.double (FP.dadd z.2.1 (FP.dmul (FP.f2d q10) (FP.f2d q10)))), none, some (.double x7), none, some (.int (z.2.2 + (1 : Int32))), none, none]) [10] rfl ?_
    have hk := k0 _ (Option.some.inj h).symm
    exact hk
set_option maxRecDepth 100000 in
set_option maxHeartbeats 4000000 in
theorem slX6_spread_53 (X : CX) (C : Ok X RX6 cX6_spread wsX6_spread rX6_spread) (cn : Tcn) (bk : Tbk) (st : Tst) (r0 : Tbk) (r1 : Tbk) (r2 : Tbk) (r3 : Tbk) (r4 : Tbk) (li : Tli) (fo : Tfo) (tx : Ttx) (co : Tco) (ke : Tke) (rf : (Nat → Int32)) (cp : Int32) (lk : Tlk) (fl : Tfl) (em : Int32) (tm : Ttm) (rd : Trd) (x7 : UInt64) (o : (UInt64 × UInt64)) (e0 : ∀ a : UInt64 × UInt64, o = a → Wg X 96 [none, none, none, some (.double a.1), none, some (.double a.2), none, some (.double x7), none, none, none, none] [] (mkH cn bk st r0 r1 r2 r3 r4 li fo tx co ke rf cp lk fl em tm rd)) : ∀ (n : Nat) (z : UInt64 × UInt64 × Int32), lpF (bX6_spread_53 co rf cp lk fl x7) n z = some o → Wg X 53 [some (.ref 36), none, none, some (.double z.1), none, some (.double z.2.1), none, some (.double x7), none, some (.int z.2.2), none, none] [] (mkH cn bk st r0 r1 r2 r3 r4 li fo tx co ke rf cp lk fl em tm rd) := by
  intro n
  induction n with
  | zero => intro z h; cases h
  | succ n ih =>
    intro z h
    obtain ⟨r, hB, h⟩ := bnd h
    refine sbX6_spread_53 X C cn bk st r0 r1 r2 r3 r4 li fo tx co ke rf cp lk fl em tm rd x7 z r hB (fun a e => ih a (by subst e; exact h)) (fun a e => e0 a (by subst e; exact (Option.some.inj h).symm))
set_option maxRecDepth 100000 in
set_option maxHeartbeats 4000000 in
theorem sX6_spread (cn : Tcn) (bk : Tbk) (st : Tst) (r0 : Tbk) (r1 : Tbk) (r2 : Tbk) (r3 : Tbk) (r4 : Tbk) (li : Tli) (fo : Tfo) (tx : Ttx) (co : Tco) (ke : Tke) (rf : (Nat → Int32)) (cp : Int32) (lk : Tlk) (fl : Tfl) (em : Int32) (tm : Ttm) (rd : Trd) (x1 : Int32) (x2 : Int32) (o : Int64 × (Nat → Int32) × Int32 × Tlk × Tfl) (h : fX6_spread co rf cp lk fl x1 x2 = some o) : Sp yX6_spread wsX6_spread rX6_spread [.ref 36, .int x1, .int x2] (mkH cn bk st r0 r1 r2 r3 r4 li fo tx co ke rf cp lk fl em tm rd) (some (.long o.1)) (mkH cn bk st r0 r1 r2 r3 r4 li fo tx co ke o.2.1 o.2.2.1 o.2.2.2.1 o.2.2.2.2 em tm rd) := by
  refine Sp.of (lv := [some (.ref 36), some (.int x1), some (.int x2), none, none, none, none, none, none, none, none, none]) RX6 (by decide +kernel) rfl (Nat.le_of_ble_eq_true rfl) rfl ?_
  intro X C hT
  unfold fX6_spread at h
  refine wg_aload_n C dX6_spread_0 rfl ?_
  refine wg_iload_n C dX6_spread_1 rfl ?_
  obtain ⟨q1, e1q, h⟩ := bnd h
  refine wg_callV (n := 1) (As := [.int x1]) (st := []) (st' := [.int q1]) C (sX6_isDay cn bk st r0 r1 r2 r3 r4 li fo tx co ke rf cp lk fl em tm rd x1 q1 e1q) gX6_spread_X6_isDay rfl (by decide +kernel) ⟨⟨rfl, rfl⟩, Nat.le_of_ble_eq_true rfl, Nat.le_of_ble_eq_true rfl⟩ rfl rfl rfl rfl (Nat.le_of_ble_eq_true rfl) dX6_spread_2 rfl ?_
  refine wg_if_eq (tgt := 15) C dX6_spread_5 (by decide) (fun c2 => ?_) (fun c2 => ?_)
  · replace h := ifP c2 h
    refine wg_drop (lv' := [some (.ref 36), none, none, none, none, none, none, none, none, none, none, none]) [1, 2] rfl ?_
    exact sjX6_spread_15 X C cn bk st r0 r1 r2 r3 r4 li fo tx co ke rf cp lk fl em tm rd  _ h hT
  · replace h := ifN c2 h
    refine wg_iload_n C dX6_spread_8 rfl ?_
    obtain ⟨q4, e4q, h⟩ := bnd h
    refine wg_callT (n := 1) (As := [.int x2]) (st := []) (st' := [.int q4]) C (sX6_isMember cn bk st r0 r1 r2 r3 r4 li fo tx co ke rf cp lk fl em tm rd x2 q4 e4q) gX6_spread_X6_isMember rfl (by decide +kernel) ⟨⟨rfl, rfl⟩, Nat.le_of_ble_eq_true rfl, Nat.le_of_ble_eq_true rfl⟩ rfl rfl (Nat.le_of_ble_eq_true rfl) dX6_spread_9 rfl ?_
    refine wg_if_ne (tgt := 21) C dX6_spread_12 (by decide) (fun c5 => ?_) (fun c5 => ?_)
    · replace h := ifP c5 h
      refine wg_aload_n C dX6_spread_21 rfl ?_
      refine wg_iload_n C dX6_spread_22 rfl ?_
      refine wg_iload_n C dX6_spread_23 rfl ?_
      obtain ⟨q6, e6q, h⟩ := bnd h
      refine wg_callV (n := 2) (As := [.int x1, .int x2]) (st := []) (st' := []) C (sX6_setFollowers cn bk st r0 r1 r2 r3 r4 li fo tx co ke rf cp lk fl em tm rd x1 x2 q6 e6q) gX6_spread_X6_setFollowers rfl (by decide +kernel) ⟨⟨rfl, rfl⟩, Nat.le_of_ble_eq_true rfl, Nat.le_of_ble_eq_true rfl⟩ rfl rfl rfl rfl (Nat.le_of_ble_eq_true rfl) dX6_spread_24 rfl ?_
      refine wg_aload_n C dX6_spread_27 rfl ?_
      refine wg_get (v := .int q6.2.2.1) C fgX6_spread_138 rfl rfl dX6_spread_28 ?_
      refine wg_if_ne (tgt := 38) C dX6_spread_31 (by decide) (fun c7 => ?_) (fun c7 => ?_)
      · replace h := ifP c7 h
        refine wg_dconst0 C dX6_spread_38 ?_
        refine wg_dstore_n (lv' := [some (.ref 36), some (.int x1), some (.int x2), some (.double FP.dconst0), none, none, none, none, none, none, none, none]) C dX6_spread_39 (Nat.le_of_ble_eq_true rfl) rfl ?_
        refine wg_dconst0 C dX6_spread_40 ?_
        refine wg_dstore (lv' := [some (.ref 36), some (.int x1), some (.int x2), some (.double FP.dconst0), none, some (.double FP.dconst0), none, none, none, none, none, none]) C dX6_spread_41 (Nat.le_of_ble_eq_true rfl) rfl ?_
        refine wg_aload_n C dX6_spread_43 rfl ?_
        refine wg_get (v := .int q6.2.2.1) C fgX6_spread_138 rfl rfl dX6_spread_44 ?_
        refine wg_i2d C dX6_spread_47 ?_
        refine wg_dstore (lv' := [some (.ref 36), some (.int x1), some (.int x2), some (.double FP.dconst0), none, some (.double FP.dconst0), none, some (.double (FP.i2d q6.2.2.1)), none, none, none, none]) C dX6_spread_48 (Nat.le_of_ble_eq_true rfl) rfl ?_
        refine wg_iconst (v := 0) C dX6_spread_50 (by decide) ?_
        refine wg_istore (lv' := [some (.ref 36), some (.int x1), some (.int x2), some (.double FP.dconst0), none, some (.double FP.dconst0), none, some (.double (FP.i2d q6.2.2.1)), none, some (.int (0 : Int32)), none, none]) C dX6_spread_51 (Nat.le_of_ble_eq_true rfl) rfl ?_
        refine wg_drop (lv' := [some (.ref 36), none, none, some (.double FP.dconst0), none, some (.double FP.dconst0), none, some (.double (FP.i2d q6.2.2.1)), none, some (.int (0 : Int32)), none, none]) [1, 2] rfl ?_
        obtain ⟨t15, hL15, h⟩ := bnd h
        refine slX6_spread_53 X C cn bk st r0 r1 r2 r3 r4 li fo tx co ke rf q6.1 q6.2.1 q6.2.2 em tm rd (FP.i2d q6.2.2.1) t15 (fun a e => ?_) FU (FP.dconst0, FP.dconst0, (0 : Int32)) hL15
        subst e
        refine wg_dload C dX6_spread_96 rfl ?_
        refine wg_dload C dX6_spread_98 rfl ?_
        obtain ⟨g16, h⟩ := gdP h
        refine wg_ddiv C dX6_spread_100 g16 ?_
        refine wg_dload_n C dX6_spread_101 rfl ?_
        refine wg_dload C dX6_spread_102 rfl ?_
        obtain ⟨g17, h⟩ := gdP h
        refine wg_ddiv C dX6_spread_104 g17 ?_
        refine wg_dload_n C dX6_spread_105 rfl ?_
        refine wg_dload C dX6_spread_106 rfl ?_
        obtain ⟨g18, h⟩ := gdP h
        refine wg_ddiv C dX6_spread_108 g18 ?_
        obtain ⟨g19, h⟩ := gdP h
        refine wg_dmul C dX6_spread_109 g19 ?_
        obtain ⟨g20, h⟩ := gdP h
        refine wg_dsub C dX6_spread_110 g20 ?_
        obtain ⟨q21, e21q, h⟩ := bnd h
        refine wg_callT (n := 1) (As := [.double (FP.dsub (FP.ddiv t15.2 (FP.i2d q6.2.2.1)) (FP.dmul (FP.ddiv t15.1 (FP.i2d q6.2.2.1)) (FP.ddiv t15.1 (FP.i2d q6.2.2.1))))]) (st := []) (st' := [.long q21]) C (sJxe99ae_doubleToLongBits_ccdee cn bk st r0 r1 r2 r3 r4 li fo tx co ke rf q6.1 q6.2.1 q6.2.2 em tm rd (FP.dsub (FP.ddiv t15.2 (FP.i2d q6.2.2.1)) (FP.dmul (FP.ddiv t15.1 (FP.i2d q6.2.2.1)) (FP.ddiv t15.1 (FP.i2d q6.2.2.1)))) q21 e21q) gX6_spread_Jxe99ae_doubleToLongBits_ccdee rfl (by decide +kernel) ⟨⟨rfl, rfl⟩, Nat.le_of_ble_eq_true rfl, Nat.le_of_ble_eq_true rfl⟩ rfl rfl (Nat.le_of_ble_eq_true rfl) dX6_spread_111 rfl ?_
        obtain rfl := Option.some.inj h
        exact wg_lret C hT dX6_spread_114
      · replace h := ifN c7 h
        refine wg_ldcl (v := -1) C (by decide +kernel) dX6_spread_34 ?_
        obtain rfl := Option.some.inj h
        exact wg_lret C hT dX6_spread_37
    · replace h := ifN c5 h
      refine wg_drop (lv' := [some (.ref 36), none, none, none, none, none, none, none, none, none, none, none]) [1, 2] rfl ?_
      exact sjX6_spread_15 X C cn bk st r0 r1 r2 r3 r4 li fo tx co ke rf cp lk fl em tm rd  _ h hT
abbrev rX6_holds : Room := { frames := 5, cells := 0, slots := 0, locals := 120 }
theorem iwX6_holds_6 : ∀ w ∈ wsX60, w ∈ wsX6_holds := by decide +kernel
theorem fgX6_holds_16 : FG wsX6_holds RX6 16 6 3 := ⟨RX6, TX6, 21, rfl, by decide, by decide +kernel, iwX6_holds_6⟩
theorem fgX6_holds_35 : FG wsX6_holds RX6 35 6 13 := ⟨RX6, TX6, 21, rfl, by decide, by decide +kernel, iwX6_holds_6⟩
theorem fgX6_holds_48 : FG wsX6_holds RX6 48 6 1 := ⟨RX6, TX6, 21, rfl, by decide, by decide +kernel, iwX6_holds_6⟩
theorem fgX6_holds_138 : FG wsX6_holds RX6 138 6 10 := ⟨RX6, TX6, 21, rfl, by decide, by decide +kernel, iwX6_holds_6⟩
set_option maxRecDepth 100000 in
set_option maxHeartbeats 4000000 in
theorem sjX6_holds_25 (X : CX) (C : Ok X RX6 cX6_holds wsX6_holds rX6_holds) (cn : Tcn) (bk : Tbk) (st : Tst) (r0 : Tbk) (r1 : Tbk) (r2 : Tbk) (r3 : Tbk) (r4 : Tbk) (li : Tli) (fo : Tfo) (tx : Ttx) (co : Tco) (ke : Tke) (rf : (Nat → Int32)) (cp : Int32) (lk : Tlk) (fl : Tfl) (em : Int32) (tm : Ttm) (rd : Trd)  (o : Int32 × (Nat → Int32) × Int32 × Tlk × Tfl) (h : jX6_holds_25 co rf cp lk fl  = some o) (hT : Rt X (some .int) (some (.int o.1)) (mkH cn bk st r0 r1 r2 r3 r4 li fo tx co ke o.2.1 o.2.2.1 o.2.2.2.1 o.2.2.2.2 em tm rd)) : Wg X 25 [some (.ref 36), none, none, none, none, none, none, none] [] (mkH cn bk st r0 r1 r2 r3 r4 li fo tx co ke rf cp lk fl em tm rd) := by
  unfold jX6_holds_25 at h
  refine wg_aload_n C dX6_holds_25 rfl ?_
  obtain ⟨q3, e3q, h⟩ := bnd h
  refine wg_callV (n := 0) (As := []) (st := []) (st' := [.int q3.1]) C (sX6_bad cn bk st r0 r1 r2 r3 r4 li fo tx co ke rf cp lk fl em tm rd  q3 e3q) gX6_holds_X6_bad rfl (by decide +kernel) ⟨⟨rfl, rfl⟩, Nat.le_of_ble_eq_true rfl, Nat.le_of_ble_eq_true rfl⟩ rfl rfl rfl rfl (Nat.le_of_ble_eq_true rfl) dX6_holds_26 rfl ?_
  obtain rfl := Option.some.inj h
  exact wg_iret C hT dX6_holds_29
set_option maxRecDepth 100000 in
set_option maxHeartbeats 4000000 in
theorem sjX6_holds_39_130 (X : CX) (C : Ok X RX6 cX6_holds wsX6_holds rX6_holds) (cn : Tcn) (bk : Tbk) (st : Tst) (r0 : Tbk) (r1 : Tbk) (r2 : Tbk) (r3 : Tbk) (r4 : Tbk) (li : Tli) (fo : Tfo) (tx : Ttx) (co : Tco) (ke : Tke) (rf : (Nat → Int32)) (cp : Int32) (lk : Tlk) (fl : Tfl) (em : Int32) (tm : Ttm) (rd : Trd) (x1 : Int32) (x2 : Int32) (x3 : Int32) (x4 : Int32) (x5 : Int32) (x6 : Int32) (o : (Int32 × Int32 × Int32 × Int32 × Tlk × Tfl) ⊕ (Int32 × Int32 × Int32 × Tlk × Tfl)) (h : jX6_holds_39_130 co rf cp lk fl x1 x2 x3 x4 x5 x6 = some o) (k0 : ∀ a : Int32 × Int32 × Int32 × Int32 × Tlk × Tfl, o = .inl a → Wg X 39 [some (.ref 36), some (.int x1), some (.int x2), some (.int x3), some (.int a.1), some (.int a.2.1), some (.int a.2.2.1), none] [] (mkH cn bk st r0 r1 r2 r3 r4 li fo tx co ke rf a.2.2.2.1 a.2.2.2.2.1 a.2.2.2.2.2 em tm rd)) (e0 : ∀ a : Int32 × Int32 × Int32 × Tlk × Tfl, o = .inr a → Wg X 136 [none, none, none, some (.int x3), some (.int a.1), some (.int a.2.1), none, none] [] (mkH cn bk st r0 r1 r2 r3 r4 li fo tx co ke rf a.2.2.1 a.2.2.2.1 a.2.2.2.2 em tm rd)) : Wg X 130 [some (.ref 36), some (.int x1), some (.int x2), some (.int x3), some (.int x4), some (.int x5), some (.int x6), none] [] (mkH cn bk st r0 r1 r2 r3 r4 li fo tx co ke rf cp lk fl em tm rd) := by
  unfold jX6_holds_39_130 at h
  refine wg_iinc (v := (x6 + (1 : Int32))) (lv' := [some (.ref 36), some (.int x1), some (.int x2), some (.int x3), some (.int x4), some (.int x5), some (.int (x6 + (1 : Int32))), none]) C dX6_holds_130 rfl rfl rfl ?_
  refine wg_goto (tgt := 39) C dX6_holds_133 (by decide) ?_
  have hk := k0 _ (Option.some.inj h).symm
  exact hk
set_option maxRecDepth 100000 in
set_option maxHeartbeats 4000000 in
theorem sjX6_holds_39_127 (X : CX) (C : Ok X RX6 cX6_holds wsX6_holds rX6_holds) (cn : Tcn) (bk : Tbk) (st : Tst) (r0 : Tbk) (r1 : Tbk) (r2 : Tbk) (r3 : Tbk) (r4 : Tbk) (li : Tli) (fo : Tfo) (tx : Ttx) (co : Tco) (ke : Tke) (rf : (Nat → Int32)) (cp : Int32) (lk : Tlk) (fl : Tfl) (em : Int32) (tm : Ttm) (rd : Trd) (x1 : Int32) (x2 : Int32) (x3 : Int32) (x4 : Int32) (x6 : Int32) (y0 : Int32) (y1 : Int32) (o : (Int32 × Int32 × Int32 × Int32 × Tlk × Tfl) ⊕ (Int32 × Int32 × Int32 × Tlk × Tfl)) (h : jX6_holds_39_127 co rf cp lk fl x1 x2 x3 x4 x6 y0 y1 = some o) (k0 : ∀ a : Int32 × Int32 × Int32 × Int32 × Tlk × Tfl, o = .inl a → Wg X 39 [some (.ref 36), some (.int x1), some (.int x2), some (.int x3), some (.int a.1), some (.int a.2.1), some (.int a.2.2.1), none] [] (mkH cn bk st r0 r1 r2 r3 r4 li fo tx co ke rf a.2.2.2.1 a.2.2.2.2.1 a.2.2.2.2.2 em tm rd)) (e0 : ∀ a : Int32 × Int32 × Int32 × Tlk × Tfl, o = .inr a → Wg X 136 [none, none, none, some (.int x3), some (.int a.1), some (.int a.2.1), none, none] [] (mkH cn bk st r0 r1 r2 r3 r4 li fo tx co ke rf a.2.2.1 a.2.2.2.1 a.2.2.2.2 em tm rd)) : Wg X 127 [some (.ref 36), some (.int x1), some (.int x2), some (.int x3), some (.int x4), none, some (.int x6), none] [.int y1, .int y0] (mkH cn bk st r0 r1 r2 r3 r4 li fo tx co ke rf cp lk fl em tm rd) := by
  unfold jX6_holds_39_127 at h
  refine wg_iadd C dX6_holds_127 ?_
  refine wg_istore (lv' := [some (.ref 36), some (.int x1), some (.int x2), some (.int x3), some (.int x4), some (.int (y0 + y1)), some (.int x6), none]) C dX6_holds_128 (Nat.le_of_ble_eq_true rfl) rfl ?_
  exact sjX6_holds_39_130 X C cn bk st r0 r1 r2 r3 r4 li fo tx co ke rf cp lk fl em tm rd x1 x2 x3 x4 (y0 + y1) x6 _ h k0 e0
set_option maxRecDepth 100000 in
set_option maxHeartbeats 4000000 in
theorem sbX6_holds_39 (X : CX) (C : Ok X RX6 cX6_holds wsX6_holds rX6_holds) (cn : Tcn) (bk : Tbk) (st : Tst) (r0 : Tbk) (r1 : Tbk) (r2 : Tbk) (r3 : Tbk) (r4 : Tbk) (li : Tli) (fo : Tfo) (tx : Ttx) (co : Tco) (ke : Tke) (rf : (Nat → Int32)) (cp : Int32) (lk : Tlk) (fl : Tfl) (em : Int32) (tm : Ttm) (rd : Trd) (x1 : Int32) (x2 : Int32) (x3 : Int32) (z : Int32 × Int32 × Int32 × Int32 × Tlk × Tfl) (o : (Int32 × Int32 × Int32 × Int32 × Tlk × Tfl) ⊕ (Int32 × Int32 × Int32 × Tlk × Tfl)) (h : bX6_holds_39 co rf x1 x2 x3 z = some o) (k0 : ∀ a : Int32 × Int32 × Int32 × Int32 × Tlk × Tfl, o = .inl a → Wg X 39 [some (.ref 36), some (.int x1), some (.int x2), some (.int x3), some (.int a.1), some (.int a.2.1), some (.int a.2.2.1), none] [] (mkH cn bk st r0 r1 r2 r3 r4 li fo tx co ke rf a.2.2.2.1 a.2.2.2.2.1 a.2.2.2.2.2 em tm rd)) (e0 : ∀ a : Int32 × Int32 × Int32 × Tlk × Tfl, o = .inr a → Wg X 136 [none, none, none, some (.int x3), some (.int a.1), some (.int a.2.1), none, none] [] (mkH cn bk st r0 r1 r2 r3 r4 li fo tx co ke rf a.2.2.1 a.2.2.2.1 a.2.2.2.2 em tm rd)) : Wg X 39 [some (.ref 36), some (.int x1), some (.int x2), some (.int x3), some (.int z.1), some (.int z.2.1), some (.int z.2.2.1), none] [] (mkH cn bk st r0 r1 r2 r3 r4 li fo tx co ke rf z.2.2.2.1 z.2.2.2.2.1 z.2.2.2.2.2 em tm rd) := by
  unfold bX6_holds_39 at h
  refine wg_iload C dX6_holds_39 rfl ?_
  refine wg_iconst (v := 1) C dX6_holds_41 (by decide) ?_
  refine wg_iadd C dX6_holds_42 ?_
  refine wg_aload_n C dX6_holds_43 rfl ?_
  refine wg_get (v := .int co.1) C fgX6_holds_48 rfl rfl dX6_holds_44 ?_
  refine wg_icmp_ge (tgt := 136) C dX6_holds_47 (by decide) (fun c8 => ?_) (fun c8 => ?_)
  · replace h := ifP c8 h
    refine wg_drop (lv' := [none, none, none, some (.int x3), some (.int z.1), some (.int z.2.1), none, none]) [0, 1, 2, 6] rfl ?_
    have hk := e0 _ (Option.some.inj h).symm
    exact hk
  · replace h := ifN c8 h
    refine wg_aload_n C dX6_holds_50 rfl ?_
    refine wg_get (v := .ref 39) C fgX6_holds_16 rfl rfl dX6_holds_51 ?_
    refine wg_iconst (v := 4) C dX6_holds_54 (by decide) ?_
    refine wg_iload C dX6_holds_55 rfl ?_
    refine wg_iconst (v := 1) C dX6_holds_57 (by decide) ?_
    refine wg_iadd C dX6_holds_58 ?_
    refine wg_imul C dX6_holds_59 ?_
    refine wg_iload_n C dX6_holds_60 rfl ?_
    refine wg_iadd C dX6_holds_61 ?_
    obtain ⟨g9, h⟩ := gdP h
    refine wg_iald (f := co.2.2) (n := 200) C rfl g9 dX6_holds_62 ?_
    refine wg_istore (lv' := [some (.ref 36), some (.int x1), some (.int x2), some (.int x3), some (.int z.1), some (.int z.2.1), some (.int z.2.2.1), some (.int (co.2.2 ((((4 : Int32) * (z.2.2.1 + (1 : Int32))) + x1)).toNatClampNeg))]) C dX6_holds_63 (Nat.le_of_ble_eq_true rfl) rfl ?_
    refine wg_aload_n C dX6_holds_65 rfl ?_
    refine wg_iload C dX6_holds_66 rfl ?_
    refine wg_iload_n C dX6_holds_68 rfl ?_
    obtain ⟨q10, e10q, h⟩ := bnd h
    refine wg_callV (n := 2) (As := [.int z.2.2.1, .int x1]) (st := []) (st' := []) C (sX6_setFollowers cn bk st r0 r1 r2 r3 r4 li fo tx co ke rf z.2.2.2.1 z.2.2.2.2.1 z.2.2.2.2.2 em tm rd z.2.2.1 x1 q10 e10q) gX6_holds_X6_setFollowers rfl (by decide +kernel) ⟨⟨rfl, rfl⟩, Nat.le_of_ble_eq_true rfl, Nat.le_of_ble_eq_true rfl⟩ rfl rfl rfl rfl (Nat.le_of_ble_eq_true rfl) dX6_holds_69 rfl ?_
    refine wg_iload C dX6_holds_72 rfl ?_
    obtain ⟨q11, e11q, h⟩ := bnd h
    refine wg_callT (n := 1) (As := [.int (co.2.2 ((((4 : Int32) * (z.2.2.1 + (1 : Int32))) + x1)).toNatClampNeg)]) (st := []) (st' := [.int q11]) C (sX6_isNoted cn bk st r0 r1 r2 r3 r4 li fo tx co ke rf q10.1 q10.2.1 q10.2.2 em tm rd (co.2.2 ((((4 : Int32) * (z.2.2.1 + (1 : Int32))) + x1)).toNatClampNeg) q11 e11q) gX6_holds_X6_isNoted rfl (by decide +kernel) ⟨⟨rfl, rfl⟩, Nat.le_of_ble_eq_true rfl, Nat.le_of_ble_eq_true rfl⟩ rfl rfl (Nat.le_of_ble_eq_true rfl) dX6_holds_74 rfl ?_
    refine wg_if_eq (tgt := 130) C dX6_holds_77 (by decide) (fun c12 => ?_) (fun c12 => ?_)
    · replace h := ifP c12 h
      refine wg_drop (lv' := [some (.ref 36), some (.int x1), some (.int x2), some (.int x3), some (.int z.1), some (.int z.2.1), some (.int z.2.2.1), none]) [7] rfl ?_
      exact sjX6_holds_39_130 X C cn bk st r0 r1 r2 r3 r4 li fo tx co ke rf q10.1 q10.2.1 q10.2.2 em tm rd x1 x2 x3 z.1 z.2.1 z.2.2.1 _ h k0 e0
    · replace h := ifN c12 h
      refine wg_aload_n C dX6_holds_80 rfl ?_
      refine wg_get (v := .int q10.2.2.1) C fgX6_holds_138 rfl rfl dX6_holds_81 ?_
      refine wg_iconst (v := 2) C dX6_holds_84 (by decide) ?_
      refine wg_iload_n C dX6_holds_85 rfl ?_
      refine wg_imul C dX6_holds_86 ?_
      refine wg_icmp_le (tgt := 130) C dX6_holds_87 (by decide) (fun c13 => ?_) (fun c13 => ?_)
      · replace h := ifP c13 h
        refine wg_drop (lv' := [some (.ref 36), some (.int x1), some (.int x2), some (.int x3), some (.int z.1), some (.int z.2.1), some (.int z.2.2.1), none]) [7] rfl ?_
        exact sjX6_holds_39_130 X C cn bk st r0 r1 r2 r3 r4 li fo tx co ke rf q10.1 q10.2.1 q10.2.2 em tm rd x1 x2 x3 z.1 z.2.1 z.2.2.1 _ h k0 e0
      · replace h := ifN c13 h
        refine wg_iinc (v := (z.1 + (1 : Int32))) (lv' := [some (.ref 36), some (.int x1), some (.int x2), some (.int x3), some (.int (z.1 + (1 : Int32))), some (.int z.2.1), some (.int z.2.2.1), some (.int (co.2.2 ((((4 : Int32) * (z.2.2.1 + (1 : Int32))) + x1)).toNatClampNeg))]) C dX6_holds_90 rfl rfl rfl ?_
        refine wg_iload C dX6_holds_93 rfl ?_
        refine wg_iload C dX6_holds_95 rfl ?_
        refine wg_aload_n C dX6_holds_97 rfl ?_
        refine wg_get (v := .ref 45) C fgX6_holds_35 rfl rfl dX6_holds_98 ?_
        refine wg_iload_n C dX6_holds_101 rfl ?_
        obtain ⟨g14, h⟩ := gdP h
        refine wg_iald (f := q10.2.2.2.2.2) (n := 50) C rfl g14 dX6_holds_102 ?_
        refine wg_aload_n C dX6_holds_103 rfl ?_
        refine wg_get (v := .ref 45) C fgX6_holds_35 rfl rfl dX6_holds_104 ?_
        refine wg_aload_n C dX6_holds_107 rfl ?_
        refine wg_get (v := .int q10.2.2.1) C fgX6_holds_138 rfl rfl dX6_holds_108 ?_
        refine wg_iconst (v := 1) C dX6_holds_111 (by decide) ?_
        refine wg_isub C dX6_holds_112 ?_
        refine wg_iload_n C dX6_holds_113 rfl ?_
        refine wg_isub C dX6_holds_114 ?_
        obtain ⟨g15, h⟩ := gdP h
        refine wg_iald (f := q10.2.2.2.2.2) (n := 50) C rfl g15 dX6_holds_115 ?_
        obtain ⟨q16, e16q, h⟩ := bnd h
        refine wg_callT (n := 3) (As := [.int (co.2.2 ((((4 : Int32) * (z.2.2.1 + (1 : Int32))) + x1)).toNatClampNeg), .int (q10.2.2.2.2.2 (x2).toNatClampNeg), .int (q10.2.2.2.2.2 (((q10.2.2.1 - (1 : Int32)) - x2)).toNatClampNeg)]) (st := [.int z.2.1]) (st' := [.int q16, .int z.2.1]) C (sX6_in cn bk st r0 r1 r2 r3 r4 li fo tx co ke rf q10.1 q10.2.1 q10.2.2 em tm rd (co.2.2 ((((4 : Int32) * (z.2.2.1 + (1 : Int32))) + x1)).toNatClampNeg) (q10.2.2.2.2.2 (x2).toNatClampNeg) (q10.2.2.2.2.2 (((q10.2.2.1 - (1 : Int32)) - x2)).toNatClampNeg) q16 e16q) gX6_holds_X6_in rfl (by decide +kernel) ⟨⟨rfl, rfl⟩, Nat.le_of_ble_eq_true rfl, Nat.le_of_ble_eq_true rfl⟩ rfl rfl (Nat.le_of_ble_eq_true rfl) dX6_holds_116 rfl ?_
        refine wg_if_eq (tgt := 126) C dX6_holds_119 (by decide) (fun c17 => ?_) (fun c17 => ?_)
        · replace h := ifP c17 h
          refine wg_iconst (v := 0) C dX6_holds_126 (by decide) ?_
          refine wg_drop (lv' := [some (.ref 36), some (.int x1), some (.int x2), some (.int x3), some (.int (z.1 + (1 : Int32))), none, some (.int z.2.2.1), none]) [5, 7] rfl ?_
          exact sjX6_holds_39_127 X C cn bk st r0 r1 r2 r3 r4 li fo tx co ke rf q10.1 q10.2.1 q10.2.2 em tm rd x1 x2 x3 (z.1 + (1 : Int32)) z.2.2.1 z.2.1 (0 : Int32) _ h k0 e0
        · replace h := ifN c17 h
          refine wg_iconst (v := 1) C dX6_holds_122 (by decide) ?_
          refine wg_goto (tgt := 127) C dX6_holds_123 (by decide) ?_
          refine wg_drop (lv' := [some (.ref 36), some (.int x1), some (.int x2), some (.int x3), some (.int (z.1 + (1 : Int32))), none, some (.int z.2.2.1), none]) [5, 7] rfl ?_
          exact sjX6_holds_39_127 X C cn bk st r0 r1 r2 r3 r4 li fo tx co ke rf q10.1 q10.2.1 q10.2.2 em tm rd x1 x2 x3 (z.1 + (1 : Int32)) z.2.2.1 z.2.1 (1 : Int32) _ h k0 e0
set_option maxRecDepth 100000 in
set_option maxHeartbeats 4000000 in
theorem slX6_holds_39 (X : CX) (C : Ok X RX6 cX6_holds wsX6_holds rX6_holds) (cn : Tcn) (bk : Tbk) (st : Tst) (r0 : Tbk) (r1 : Tbk) (r2 : Tbk) (r3 : Tbk) (r4 : Tbk) (li : Tli) (fo : Tfo) (tx : Ttx) (co : Tco) (ke : Tke) (rf : (Nat → Int32)) (cp : Int32) (lk : Tlk) (fl : Tfl) (em : Int32) (tm : Ttm) (rd : Trd) (x1 : Int32) (x2 : Int32) (x3 : Int32) (o : (Int32 × Int32 × Int32 × Tlk × Tfl)) (e0 : ∀ a : Int32 × Int32 × Int32 × Tlk × Tfl, o = a → Wg X 136 [none, none, none, some (.int x3), some (.int a.1), some (.int a.2.1), none, none] [] (mkH cn bk st r0 r1 r2 r3 r4 li fo tx co ke rf a.2.2.1 a.2.2.2.1 a.2.2.2.2 em tm rd)) : ∀ (n : Nat) (z : Int32 × Int32 × Int32 × Int32 × Tlk × Tfl), lpF (bX6_holds_39 co rf x1 x2 x3) n z = some o → Wg X 39 [some (.ref 36), some (.int x1), some (.int x2), some (.int x3), some (.int z.1), some (.int z.2.1), some (.int z.2.2.1), none] [] (mkH cn bk st r0 r1 r2 r3 r4 li fo tx co ke rf z.2.2.2.1 z.2.2.2.2.1 z.2.2.2.2.2 em tm rd) := by
  intro n
  induction n with
  | zero => intro z h; cases h
  | succ n ih =>
    intro z h
    obtain ⟨r, hB, h⟩ := bnd h
    refine sbX6_holds_39 X C cn bk st r0 r1 r2 r3 r4 li fo tx co ke rf cp lk fl em tm rd x1 x2 x3 z r hB (fun a e => ih a (by subst e; exact h)) (fun a e => e0 a (by subst e; exact (Option.some.inj h).symm))
set_option maxRecDepth 100000 in
set_option maxHeartbeats 4000000 in
theorem sjX6_holds_173 (X : CX) (C : Ok X RX6 cX6_holds wsX6_holds rX6_holds) (cn : Tcn) (bk : Tbk) (st : Tst) (r0 : Tbk) (r1 : Tbk) (r2 : Tbk) (r3 : Tbk) (r4 : Tbk) (li : Tli) (fo : Tfo) (tx : Ttx) (co : Tco) (ke : Tke) (rf : (Nat → Int32)) (cp : Int32) (lk : Tlk) (fl : Tfl) (em : Int32) (tm : Ttm) (rd : Trd) (y0 : Int32) (o : Int32 × (Nat → Int32) × Int32 × Tlk × Tfl) (h : jX6_holds_173 co rf cp lk fl y0 = some o) (hT : Rt X (some .int) (some (.int o.1)) (mkH cn bk st r0 r1 r2 r3 r4 li fo tx co ke o.2.1 o.2.2.1 o.2.2.2.1 o.2.2.2.2 em tm rd)) : Wg X 173 [none, none, none, none, none, none, none, none] [.int y0] (mkH cn bk st r0 r1 r2 r3 r4 li fo tx co ke rf cp lk fl em tm rd) := by
  unfold jX6_holds_173 at h
  obtain rfl := Option.some.inj h
  exact wg_iret C hT dX6_holds_173
set_option maxRecDepth 100000 in
set_option maxHeartbeats 4000000 in
theorem sX6_holds (cn : Tcn) (bk : Tbk) (st : Tst) (r0 : Tbk) (r1 : Tbk) (r2 : Tbk) (r3 : Tbk) (r4 : Tbk) (li : Tli) (fo : Tfo) (tx : Ttx) (co : Tco) (ke : Tke) (rf : (Nat → Int32)) (cp : Int32) (lk : Tlk) (fl : Tfl) (em : Int32) (tm : Ttm) (rd : Trd) (x1 : Int32) (x2 : Int32) (x3 : Int32) (o : Int32 × (Nat → Int32) × Int32 × Tlk × Tfl) (h : fX6_holds co rf cp lk fl x1 x2 x3 = some o) : Sp yX6_holds wsX6_holds rX6_holds [.ref 36, .int x1, .int x2, .int x3] (mkH cn bk st r0 r1 r2 r3 r4 li fo tx co ke rf cp lk fl em tm rd) (some (.int o.1)) (mkH cn bk st r0 r1 r2 r3 r4 li fo tx co ke o.2.1 o.2.2.1 o.2.2.2.1 o.2.2.2.2 em tm rd) := by
  refine Sp.of (lv := [some (.ref 36), some (.int x1), some (.int x2), some (.int x3), none, none, none, none]) RX6 (by decide +kernel) rfl (Nat.le_of_ble_eq_true rfl) rfl ?_
  intro X C hT
  unfold fX6_holds at h
  refine wg_iload_n C dX6_holds_0 rfl ?_
  obtain ⟨q1, e1q, h⟩ := bnd h
  refine wg_callT (n := 1) (As := [.int x1]) (st := []) (st' := [.int q1]) C (sX6_isMember cn bk st r0 r1 r2 r3 r4 li fo tx co ke rf cp lk fl em tm rd x1 q1 e1q) gX6_holds_X6_isMember rfl (by decide +kernel) ⟨⟨rfl, rfl⟩, Nat.le_of_ble_eq_true rfl, Nat.le_of_ble_eq_true rfl⟩ rfl rfl (Nat.le_of_ble_eq_true rfl) dX6_holds_1 rfl ?_
  refine wg_if_eq (tgt := 25) C dX6_holds_4 (by decide) (fun c2 => ?_) (fun c2 => ?_)
  · replace h := ifP c2 h
    refine wg_drop (lv' := [some (.ref 36), none, none, none, none, none, none, none]) [1, 2, 3] rfl ?_
    exact sjX6_holds_25 X C cn bk st r0 r1 r2 r3 r4 li fo tx co ke rf cp lk fl em tm rd  _ h hT
  · replace h := ifN c2 h
    refine wg_iload_n C dX6_holds_7 rfl ?_
    refine wg_iconst (v := 0) C dX6_holds_8 (by decide) ?_
    refine wg_iconst (v := 5) C dX6_holds_9 (by decide) ?_
    obtain ⟨q4, e4q, h⟩ := bnd h
    refine wg_callT (n := 3) (As := [.int x2, .int (0 : Int32), .int (5 : Int32)]) (st := []) (st' := [.int q4]) C (sX6_in cn bk st r0 r1 r2 r3 r4 li fo tx co ke rf cp lk fl em tm rd x2 (0 : Int32) (5 : Int32) q4 e4q) gX6_holds_X6_in rfl (by decide +kernel) ⟨⟨rfl, rfl⟩, Nat.le_of_ble_eq_true rfl, Nat.le_of_ble_eq_true rfl⟩ rfl rfl (Nat.le_of_ble_eq_true rfl) dX6_holds_10 rfl ?_
    refine wg_if_eq (tgt := 25) C dX6_holds_13 (by decide) (fun c5 => ?_) (fun c5 => ?_)
    · replace h := ifP c5 h
      refine wg_drop (lv' := [some (.ref 36), none, none, none, none, none, none, none]) [1, 2, 3] rfl ?_
      exact sjX6_holds_25 X C cn bk st r0 r1 r2 r3 r4 li fo tx co ke rf cp lk fl em tm rd  _ h hT
    · replace h := ifN c5 h
      refine wg_iload_n C dX6_holds_16 rfl ?_
      refine wg_iconst (v := 0) C dX6_holds_17 (by decide) ?_
      refine wg_iconst (v := 2) C dX6_holds_18 (by decide) ?_
      obtain ⟨q6, e6q, h⟩ := bnd h
      refine wg_callT (n := 3) (As := [.int x3, .int (0 : Int32), .int (2 : Int32)]) (st := []) (st' := [.int q6]) C (sX6_in cn bk st r0 r1 r2 r3 r4 li fo tx co ke rf cp lk fl em tm rd x3 (0 : Int32) (2 : Int32) q6 e6q) gX6_holds_X6_in rfl (by decide +kernel) ⟨⟨rfl, rfl⟩, Nat.le_of_ble_eq_true rfl, Nat.le_of_ble_eq_true rfl⟩ rfl rfl (Nat.le_of_ble_eq_true rfl) dX6_holds_19 rfl ?_
      refine wg_if_ne (tgt := 30) C dX6_holds_22 (by decide) (fun c7 => ?_) (fun c7 => ?_)
      · replace h := ifP c7 h
        refine wg_iconst (v := 0) C dX6_holds_30 (by decide) ?_
        refine wg_istore (lv' := [some (.ref 36), some (.int x1), some (.int x2), some (.int x3), some (.int (0 : Int32)), none, none, none]) C dX6_holds_31 (Nat.le_of_ble_eq_true rfl) rfl ?_
        refine wg_iconst (v := 0) C dX6_holds_33 (by decide) ?_
        refine wg_istore (lv' := [some (.ref 36), some (.int x1), some (.int x2), some (.int x3), some (.int (0 : Int32)), some (.int (0 : Int32)), none, none]) C dX6_holds_34 (Nat.le_of_ble_eq_true rfl) rfl ?_
        refine wg_iconst (v := 0) C dX6_holds_36 (by decide) ?_
        refine wg_istore (lv' := [some (.ref 36), some (.int x1), some (.int x2), some (.int x3), some (.int (0 : Int32)), some (.int (0 : Int32)), some (.int (0 : Int32)), none]) C dX6_holds_37 (Nat.le_of_ble_eq_true rfl) rfl ?_
        obtain ⟨t18, hL18, h⟩ := bnd h
        refine slX6_holds_39 X C cn bk st r0 r1 r2 r3 r4 li fo tx co ke rf cp lk fl em tm rd x1 x2 x3 t18 (fun a e => ?_) FU ((0 : Int32), (0 : Int32), (0 : Int32), cp, lk, fl) hL18
        subst e
        refine wg_iload_n C dX6_holds_136 rfl ?_
        refine wg_if_ne (tgt := 145) C dX6_holds_137 (by decide) (fun c19 => ?_) (fun c19 => ?_)
        · replace h := ifP c19 h
          refine wg_iload_n C dX6_holds_145 rfl ?_
          refine wg_iconst (v := 1) C dX6_holds_146 (by decide) ?_
          refine wg_icmp_ne (tgt := 155) C dX6_holds_147 (by decide) (fun c20 => ?_) (fun c20 => ?_)
          · replace h := ifP c20 h
            refine wg_iload C dX6_holds_155 rfl ?_
            refine wg_if_ne (tgt := 164) C dX6_holds_157 (by decide) (fun c21 => ?_) (fun c21 => ?_)
            · replace h := ifP c21 h
              refine wg_sipush (v := 1000) C dX6_holds_164 (by decide) ?_
              refine wg_iload C dX6_holds_167 rfl ?_
              refine wg_imul C dX6_holds_169 ?_
              refine wg_iload C dX6_holds_170 rfl ?_
              obtain ⟨g22, h⟩ := gdP h
              refine wg_idiv C dX6_holds_172 (of_decide_eq_true g22) ?_
              refine wg_drop (lv' := [none, none, none, none, none, none, none, none]) [3, 4, 5] rfl ?_
              exact sjX6_holds_173 X C cn bk st r0 r1 r2 r3 r4 li fo tx co ke rf t18.2.2.1 t18.2.2.2.1 t18.2.2.2.2 em tm rd (((1000 : Int32) * t18.2.1) / t18.1) _ h hT
            · replace h := ifN c21 h
              refine wg_iconst (v := 0) C dX6_holds_160 (by decide) ?_
              refine wg_goto (tgt := 173) C dX6_holds_161 (by decide) ?_
              refine wg_drop (lv' := [none, none, none, none, none, none, none, none]) [3, 4, 5] rfl ?_
              exact sjX6_holds_173 X C cn bk st r0 r1 r2 r3 r4 li fo tx co ke rf t18.2.2.1 t18.2.2.2.1 t18.2.2.2.2 em tm rd (0 : Int32) _ h hT
          · replace h := ifN c20 h
            refine wg_iload C dX6_holds_150 rfl ?_
            refine wg_goto (tgt := 173) C dX6_holds_152 (by decide) ?_
            refine wg_drop (lv' := [none, none, none, none, none, none, none, none]) [3, 4, 5] rfl ?_
            exact sjX6_holds_173 X C cn bk st r0 r1 r2 r3 r4 li fo tx co ke rf t18.2.2.1 t18.2.2.2.1 t18.2.2.2.2 em tm rd t18.2.1 _ h hT
        · replace h := ifN c19 h
          refine wg_iload C dX6_holds_140 rfl ?_
          refine wg_goto (tgt := 173) C dX6_holds_142 (by decide) ?_
          refine wg_drop (lv' := [none, none, none, none, none, none, none, none]) [3, 4, 5] rfl ?_
          exact sjX6_holds_173 X C cn bk st r0 r1 r2 r3 r4 li fo tx co ke rf t18.2.2.1 t18.2.2.2.1 t18.2.2.2.2 em tm rd t18.1 _ h hT
      · replace h := ifN c7 h
        refine wg_drop (lv' := [some (.ref 36), none, none, none, none, none, none, none]) [1, 2, 3] rfl ?_
        exact sjX6_holds_25 X C cn bk st r0 r1 r2 r3 r4 li fo tx co ke rf cp lk fl em tm rd  _ h hT
abbrev rX6_errsOf : Room := { frames := 5, cells := 0, slots := 0, locals := 120 }
theorem iwX6_errsOf_6 : ∀ w ∈ wsX60, w ∈ wsX6_errsOf := by decide +kernel
theorem fgX6_errsOf_16 : FG wsX6_errsOf RX6 16 6 3 := ⟨RX6, TX6, 21, rfl, by decide, by decide +kernel, iwX6_errsOf_6⟩
theorem fgX6_errsOf_48 : FG wsX6_errsOf RX6 48 6 1 := ⟨RX6, TX6, 21, rfl, by decide, by decide +kernel, iwX6_errsOf_6⟩
theorem fgX6_errsOf_138 : FG wsX6_errsOf RX6 138 6 10 := ⟨RX6, TX6, 21, rfl, by decide, by decide +kernel, iwX6_errsOf_6⟩
theorem fgX6_errsOf_157 : FG wsX6_errsOf RX6 157 6 14 := ⟨RX6, TX6, 21, rfl, by decide, by decide +kernel, iwX6_errsOf_6⟩
theorem fwX6_errsOf_157 : FW wsX6_errsOf RX6 157 6 14 .int := ⟨RX6, TX6, 21, tyX6, rfl, by decide, by decide +kernel, iwX6_errsOf_6, tyX6_ok, nmX6, rfl, by decide +kernel⟩
set_option maxRecDepth 100000 in
set_option maxHeartbeats 4000000 in
theorem sjX6_errsOf_9_94 (X : CX) (C : Ok X RX6 cX6_errsOf wsX6_errsOf rX6_errsOf) (cn : Tcn) (bk : Tbk) (st : Tst) (r0 : Tbk) (r1 : Tbk) (r2 : Tbk) (r3 : Tbk) (r4 : Tbk) (li : Tli) (fo : Tfo) (tx : Ttx) (co : Tco) (ke : Tke) (rf : (Nat → Int32)) (cp : Int32) (lk : Tlk) (fl : Tfl) (em : Int32) (tm : Ttm) (rd : Trd) (x1 : Int32) (x2 : UInt32) (x3 : Int32) (o : (UInt32 × Int32 × Int32 × Tlk × Tfl × Int32) ⊕ (UInt32 × Int32 × Tlk × Tfl × Int32)) (h : jX6_errsOf_9_94 co cp lk fl em x1 x2 x3 = some o) (k0 : ∀ a : UInt32 × Int32 × Int32 × Tlk × Tfl × Int32, o = .inl a → Wg X 9 [some (.ref 36), some (.int x1), some (.float a.1), some (.int a.2.1), none, none] [] (mkH cn bk st r0 r1 r2 r3 r4 li fo tx co ke rf a.2.2.1 a.2.2.2.1 a.2.2.2.2.1 a.2.2.2.2.2 tm rd)) (e0 : ∀ a : UInt32 × Int32 × Tlk × Tfl × Int32, o = .inr a → Wg X 100 [some (.ref 36), none, some (.float a.1), none, none, none] [] (mkH cn bk st r0 r1 r2 r3 r4 li fo tx co ke rf a.2.1 a.2.2.1 a.2.2.2.1 a.2.2.2.2 tm rd)) : Wg X 94 [some (.ref 36), some (.int x1), some (.float x2), some (.int x3), none, none] [] (mkH cn bk st r0 r1 r2 r3 r4 li fo tx co ke rf cp lk fl em tm rd) := by
  unfold jX6_errsOf_9_94 at h
  refine wg_iinc (v := (x3 + (1 : Int32))) (lv' := [some (.ref 36), some (.int x1), some (.float x2), some (.int (x3 + (1 : Int32))), none, none]) C dX6_errsOf_94 rfl rfl rfl ?_
  refine wg_goto (tgt := 9) C dX6_errsOf_97 (by decide) ?_
  have hk := k0 _ (Option.some.inj h).symm
  exact hk
set_option maxRecDepth 100000 in
set_option maxHeartbeats 4000000 in
theorem sjX6_errsOf_9_82 (X : CX) (C : Ok X RX6 cX6_errsOf wsX6_errsOf rX6_errsOf) (cn : Tcn) (bk : Tbk) (st : Tst) (r0 : Tbk) (r1 : Tbk) (r2 : Tbk) (r3 : Tbk) (r4 : Tbk) (li : Tli) (fo : Tfo) (tx : Ttx) (co : Tco) (ke : Tke) (rf : (Nat → Int32)) (cp : Int32) (lk : Tlk) (fl : Tfl) (em : Int32) (tm : Ttm) (rd : Trd) (x1 : Int32) (x3 : Int32) (y0 : UInt32) (y1 : UInt32) (o : (UInt32 × Int32 × Int32 × Tlk × Tfl × Int32) ⊕ (UInt32 × Int32 × Tlk × Tfl × Int32)) (h : jX6_errsOf_9_82 co cp lk fl em x1 x3 y0 y1 = some o) (k0 : ∀ a : UInt32 × Int32 × Int32 × Tlk × Tfl × Int32, o = .inl a → Wg X 9 [some (.ref 36), some (.int x1), some (.float a.1), some (.int a.2.1), none, none] [] (mkH cn bk st r0 r1 r2 r3 r4 li fo tx co ke rf a.2.2.1 a.2.2.2.1 a.2.2.2.2.1 a.2.2.2.2.2 tm rd)) (e0 : ∀ a : UInt32 × Int32 × Tlk × Tfl × Int32, o = .inr a → Wg X 100 [some (.ref 36), none, some (.float a.1), none, none, none] [] (mkH cn bk st r0 r1 r2 r3 r4 li fo tx co ke rf a.2.1 a.2.2.1 a.2.2.2.1 a.2.2.2.2 tm rd)) : Wg X 82 [some (.ref 36), some (.int x1), none, some (.int x3), none, none] [.float y1, .float y0] (mkH cn bk st r0 r1 r2 r3 r4 li fo tx co ke rf cp lk fl em tm rd) := by
  unfold jX6_errsOf_9_82 at h
  obtain ⟨g11, h⟩ := gdP h
  refine wg_fadd C dX6_errsOf_82 g11 ?_
  refine wg_fstore_n (lv' := [some (.ref 36), some (.int x1), some (.float (FP.fadd y0 y1)), some (.int x3), none, none]) C dX6_errsOf_83 (Nat.le_of_ble_eq_true rfl) rfl ?_
  refine wg_aload_n C dX6_errsOf_84 rfl ?_
  refine wg_dup C dX6_errsOf_85 rfl ?_
  refine wg_get (v := .int em) C fgX6_errsOf_157 rfl rfl dX6_errsOf_86 ?_
  refine wg_iconst (v := 1) C dX6_errsOf_89 (by decide) ?_
  refine wg_iadd C dX6_errsOf_90 ?_
  refine wg_put (hp' := (mkH cn bk st r0 r1 r2 r3 r4 li fo tx co ke rf cp lk fl (em + (1 : Int32)) tm rd)) C fwX6_errsOf_157 rfl (Nat.le_of_ble_eq_true rfl) rfl rfl rfl dX6_errsOf_91 ?_
  exact sjX6_errsOf_9_94 X C cn bk st r0 r1 r2 r3 r4 li fo tx co ke rf cp lk fl (em + (1 : Int32)) tm rd x1 (FP.fadd y0 y1) x3 _ h k0 e0
set_option maxRecDepth 100000 in
set_option maxHeartbeats 4000000 in
theorem sbX6_errsOf_9 (X : CX) (C : Ok X RX6 cX6_errsOf wsX6_errsOf rX6_errsOf) (cn : Tcn) (bk : Tbk) (st : Tst) (r0 : Tbk) (r1 : Tbk) (r2 : Tbk) (r3 : Tbk) (r4 : Tbk) (li : Tli) (fo : Tfo) (tx : Ttx) (co : Tco) (ke : Tke) (rf : (Nat → Int32)) (cp : Int32) (lk : Tlk) (fl : Tfl) (em : Int32) (tm : Ttm) (rd : Trd) (x1 : Int32) (z : UInt32 × Int32 × Int32 × Tlk × Tfl × Int32) (o : (UInt32 × Int32 × Int32 × Tlk × Tfl × Int32) ⊕ (UInt32 × Int32 × Tlk × Tfl × Int32)) (h : bX6_errsOf_9 co x1 z = some o) (k0 : ∀ a : UInt32 × Int32 × Int32 × Tlk × Tfl × Int32, o = .inl a → Wg X 9 [some (.ref 36), some (.int x1), some (.float a.1), some (.int a.2.1), none, none] [] (mkH cn bk st r0 r1 r2 r3 r4 li fo tx co ke rf a.2.2.1 a.2.2.2.1 a.2.2.2.2.1 a.2.2.2.2.2 tm rd)) (e0 : ∀ a : UInt32 × Int32 × Tlk × Tfl × Int32, o = .inr a → Wg X 100 [some (.ref 36), none, some (.float a.1), none, none, none] [] (mkH cn bk st r0 r1 r2 r3 r4 li fo tx co ke rf a.2.1 a.2.2.1 a.2.2.2.1 a.2.2.2.2 tm rd)) : Wg X 9 [some (.ref 36), some (.int x1), some (.float z.1), some (.int z.2.1), none, none] [] (mkH cn bk st r0 r1 r2 r3 r4 li fo tx co ke rf z.2.2.1 z.2.2.2.1 z.2.2.2.2.1 z.2.2.2.2.2 tm rd) := by
  unfold bX6_errsOf_9 at h
  refine wg_iload_n C dX6_errsOf_9 rfl ?_
  refine wg_iconst (v := 1) C dX6_errsOf_10 (by decide) ?_
  refine wg_iadd C dX6_errsOf_11 ?_
  refine wg_aload_n C dX6_errsOf_12 rfl ?_
  refine wg_get (v := .int co.1) C fgX6_errsOf_48 rfl rfl dX6_errsOf_13 ?_
  refine wg_icmp_ge (tgt := 100) C dX6_errsOf_16 (by decide) (fun c1 => ?_) (fun c1 => ?_)
  · replace h := ifP c1 h
    refine wg_drop (lv' := [some (.ref 36), none, some (.float z.1), none, none, none]) [1, 3] rfl ?_
    have hk := e0 _ (Option.some.inj h).symm
    exact hk
  · replace h := ifN c1 h
    refine wg_aload_n C dX6_errsOf_19 rfl ?_
    refine wg_get (v := .ref 39) C fgX6_errsOf_16 rfl rfl dX6_errsOf_20 ?_
    refine wg_iconst (v := 4) C dX6_errsOf_23 (by decide) ?_
    refine wg_iload_n C dX6_errsOf_24 rfl ?_
    refine wg_iconst (v := 1) C dX6_errsOf_25 (by decide) ?_
    refine wg_iadd C dX6_errsOf_26 ?_
    refine wg_imul C dX6_errsOf_27 ?_
    refine wg_iload_n C dX6_errsOf_28 rfl ?_
    refine wg_iadd C dX6_errsOf_29 ?_
    obtain ⟨g2, h⟩ := gdP h
    refine wg_iald (f := co.2.2) (n := 200) C rfl g2 dX6_errsOf_30 ?_
    refine wg_istore (lv' := [some (.ref 36), some (.int x1), some (.float z.1), some (.int z.2.1), some (.int (co.2.2 ((((4 : Int32) * (z.2.1 + (1 : Int32))) + x1)).toNatClampNeg)), none]) C dX6_errsOf_31 (Nat.le_of_ble_eq_true rfl) rfl ?_
    refine wg_aload_n C dX6_errsOf_33 rfl ?_
    refine wg_iload_n C dX6_errsOf_34 rfl ?_
    refine wg_iload_n C dX6_errsOf_35 rfl ?_
    obtain ⟨q3, e3q, h⟩ := bnd h
    refine wg_callV (n := 2) (As := [.int z.2.1, .int x1]) (st := []) (st' := []) C (sX6_setFollowers cn bk st r0 r1 r2 r3 r4 li fo tx co ke rf z.2.2.1 z.2.2.2.1 z.2.2.2.2.1 z.2.2.2.2.2 tm rd z.2.1 x1 q3 e3q) gX6_errsOf_X6_setFollowers rfl (by decide +kernel) ⟨⟨rfl, rfl⟩, Nat.le_of_ble_eq_true rfl, Nat.le_of_ble_eq_true rfl⟩ rfl rfl rfl rfl (Nat.le_of_ble_eq_true rfl) dX6_errsOf_36 rfl ?_
    refine wg_iload C dX6_errsOf_39 rfl ?_
    obtain ⟨q4, e4q, h⟩ := bnd h
    refine wg_callT (n := 1) (As := [.int (co.2.2 ((((4 : Int32) * (z.2.1 + (1 : Int32))) + x1)).toNatClampNeg)]) (st := []) (st' := [.int q4]) C (sX6_isNoted cn bk st r0 r1 r2 r3 r4 li fo tx co ke rf q3.1 q3.2.1 q3.2.2 z.2.2.2.2.2 tm rd (co.2.2 ((((4 : Int32) * (z.2.1 + (1 : Int32))) + x1)).toNatClampNeg) q4 e4q) gX6_errsOf_X6_isNoted rfl (by decide +kernel) ⟨⟨rfl, rfl⟩, Nat.le_of_ble_eq_true rfl, Nat.le_of_ble_eq_true rfl⟩ rfl rfl (Nat.le_of_ble_eq_true rfl) dX6_errsOf_41 rfl ?_
    refine wg_if_eq (tgt := 94) C dX6_errsOf_44 (by decide) (fun c5 => ?_) (fun c5 => ?_)
    · replace h := ifP c5 h
      refine wg_drop (lv' := [some (.ref 36), some (.int x1), some (.float z.1), some (.int z.2.1), none, none]) [4] rfl ?_
      exact sjX6_errsOf_9_94 X C cn bk st r0 r1 r2 r3 r4 li fo tx co ke rf q3.1 q3.2.1 q3.2.2 z.2.2.2.2.2 tm rd x1 z.1 z.2.1 _ h k0 e0
    · replace h := ifN c5 h
      refine wg_aload_n C dX6_errsOf_47 rfl ?_
      refine wg_get (v := .int q3.2.2.1) C fgX6_errsOf_138 rfl rfl dX6_errsOf_48 ?_
      refine wg_if_le (tgt := 94) C dX6_errsOf_51 (by decide) (fun c6 => ?_) (fun c6 => ?_)
      · replace h := ifP c6 h
        refine wg_drop (lv' := [some (.ref 36), some (.int x1), some (.float z.1), some (.int z.2.1), none, none]) [4] rfl ?_
        exact sjX6_errsOf_9_94 X C cn bk st r0 r1 r2 r3 r4 li fo tx co ke rf q3.1 q3.2.1 q3.2.2 z.2.2.2.2.2 tm rd x1 z.1 z.2.1 _ h k0 e0
      · replace h := ifN c6 h
        refine wg_aload_n C dX6_errsOf_54 rfl ?_
        obtain ⟨q7, e7q, h⟩ := bnd h
        refine wg_callV (n := 0) (As := []) (st := []) (st' := [.float q7]) C (sX6_meanNow cn bk st r0 r1 r2 r3 r4 li fo tx co ke rf q3.1 q3.2.1 q3.2.2 z.2.2.2.2.2 tm rd  q7 e7q) gX6_errsOf_X6_meanNow rfl (by decide +kernel) ⟨⟨rfl, rfl⟩, Nat.le_of_ble_eq_true rfl, Nat.le_of_ble_eq_true rfl⟩ rfl rfl rfl rfl (Nat.le_of_ble_eq_true rfl) dX6_errsOf_55 rfl ?_
        refine wg_iload C dX6_errsOf_58 rfl ?_
        obtain ⟨q8, e8q, h⟩ := bnd h
        refine wg_callT (n := 1) (As := [.int (co.2.2 ((((4 : Int32) * (z.2.1 + (1 : Int32))) + x1)).toNatClampNeg)]) (st := [.float q7]) (st' := [.float q8, .float q7]) C (sX6_value cn bk st r0 r1 r2 r3 r4 li fo tx co ke rf q3.1 q3.2.1 q3.2.2 z.2.2.2.2.2 tm rd (co.2.2 ((((4 : Int32) * (z.2.1 + (1 : Int32))) + x1)).toNatClampNeg) q8 e8q) gX6_errsOf_X6_value rfl (by decide +kernel) ⟨⟨rfl, rfl⟩, Nat.le_of_ble_eq_true rfl, Nat.le_of_ble_eq_true rfl⟩ rfl rfl (Nat.le_of_ble_eq_true rfl) dX6_errsOf_60 rfl ?_
        obtain ⟨g9, h⟩ := gdP h
        refine wg_fsub C dX6_errsOf_63 g9 ?_
        refine wg_fstore (lv' := [some (.ref 36), some (.int x1), some (.float z.1), some (.int z.2.1), some (.int (co.2.2 ((((4 : Int32) * (z.2.1 + (1 : Int32))) + x1)).toNatClampNeg)), some (.float (FP.fsub q7 q8))]) C dX6_errsOf_64 (Nat.le_of_ble_eq_true rfl) rfl ?_
        refine wg_fload_n C dX6_errsOf_66 rfl ?_
        refine wg_fload C dX6_errsOf_67 rfl ?_
        refine wg_fconst0 C dX6_errsOf_69 ?_
        refine wg_fcmp C dX6_errsOf_70 ?_
        refine wg_if_ge (tgt := 80) C dX6_errsOf_71 (by decide) (fun c10 => ?_) (fun c10 => ?_)
        · replace h := ifP c10 h
          refine wg_fload C dX6_errsOf_80 rfl ?_
          refine wg_drop (lv' := [some (.ref 36), some (.int x1), none, some (.int z.2.1), none, none]) [2, 4, 5] rfl ?_
          exact sjX6_errsOf_9_82 X C cn bk st r0 r1 r2 r3 r4 li fo tx co ke rf q3.1 q3.2.1 q3.2.2 z.2.2.2.2.2 tm rd x1 z.2.1 z.1 (FP.fsub q7 q8) _ h k0 e0
        · replace h := ifN c10 h
          refine wg_fload C dX6_errsOf_74 rfl ?_
          refine wg_fneg C dX6_errsOf_76 ?_
          refine wg_goto (tgt := 82) C dX6_errsOf_77 (by decide) ?_
          refine wg_drop (lv' := [some (.ref 36), some (.int x1), none, some (.int z.2.1), none, none]) [2, 4, 5] rfl ?_
          exact sjX6_errsOf_9_82 X C cn bk st r0 r1 r2 r3 r4 li fo tx co ke rf q3.1 q3.2.1 q3.2.2 z.2.2.2.2.2 tm rd x1 z.2.1 z.1 (FP.fneg (FP.fsub q7 q8)) _ h k0 e0
set_option maxRecDepth 100000 in
set_option maxHeartbeats 4000000 in
theorem slX6_errsOf_9 (X : CX) (C : Ok X RX6 cX6_errsOf wsX6_errsOf rX6_errsOf) (cn : Tcn) (bk : Tbk) (st : Tst) (r0 : Tbk) (r1 : Tbk) (r2 : Tbk) (r3 : Tbk) (r4 : Tbk) (li : Tli) (fo : Tfo) (tx : Ttx) (co : Tco) (ke : Tke) (rf : (Nat → Int32)) (cp : Int32) (lk : Tlk) (fl : Tfl) (em : Int32) (tm : Ttm) (rd : Trd) (x1 : Int32) (o : (UInt32 × Int32 × Tlk × Tfl × Int32)) (e0 : ∀ a : UInt32 × Int32 × Tlk × Tfl × Int32, o = a → Wg X 100 [some (.ref 36), none, some (.float a.1), none, none, none] [] (mkH cn bk st r0 r1 r2 r3 r4 li fo tx co ke rf a.2.1 a.2.2.1 a.2.2.2.1 a.2.2.2.2 tm rd)) : ∀ (n : Nat) (z : UInt32 × Int32 × Int32 × Tlk × Tfl × Int32), lpF (bX6_errsOf_9 co x1) n z = some o → Wg X 9 [some (.ref 36), some (.int x1), some (.float z.1), some (.int z.2.1), none, none] [] (mkH cn bk st r0 r1 r2 r3 r4 li fo tx co ke rf z.2.2.1 z.2.2.2.1 z.2.2.2.2.1 z.2.2.2.2.2 tm rd) := by
  intro n
  induction n with
  | zero => intro z h; cases h
  | succ n ih =>
    intro z h
    obtain ⟨r, hB, h⟩ := bnd h
    refine sbX6_errsOf_9 X C cn bk st r0 r1 r2 r3 r4 li fo tx co ke rf cp lk fl em tm rd x1 z r hB (fun a e => ih a (by subst e; exact h)) (fun a e => e0 a (by subst e; exact (Option.some.inj h).symm))
set_option maxRecDepth 100000 in
set_option maxHeartbeats 4000000 in
theorem sjX6_errsOf_118 (X : CX) (C : Ok X RX6 cX6_errsOf wsX6_errsOf rX6_errsOf) (cn : Tcn) (bk : Tbk) (st : Tst) (r0 : Tbk) (r1 : Tbk) (r2 : Tbk) (r3 : Tbk) (r4 : Tbk) (li : Tli) (fo : Tfo) (tx : Ttx) (co : Tco) (ke : Tke) (rf : (Nat → Int32)) (cp : Int32) (lk : Tlk) (fl : Tfl) (em : Int32) (tm : Ttm) (rd : Trd) (y0 : UInt32) (o : UInt32 × Int32 × Tlk × Tfl × Int32) (h : jX6_errsOf_118 co cp lk fl em y0 = some o) (hT : Rt X (some .float) (some (.float o.1)) (mkH cn bk st r0 r1 r2 r3 r4 li fo tx co ke rf o.2.1 o.2.2.1 o.2.2.2.1 o.2.2.2.2 tm rd)) : Wg X 118 [none, none, none, none, none, none] [.float y0] (mkH cn bk st r0 r1 r2 r3 r4 li fo tx co ke rf cp lk fl em tm rd) := by
  unfold jX6_errsOf_118 at h
  obtain rfl := Option.some.inj h
  exact wg_fret C hT dX6_errsOf_118
set_option maxRecDepth 100000 in
set_option maxHeartbeats 4000000 in
theorem sX6_errsOf (cn : Tcn) (bk : Tbk) (st : Tst) (r0 : Tbk) (r1 : Tbk) (r2 : Tbk) (r3 : Tbk) (r4 : Tbk) (li : Tli) (fo : Tfo) (tx : Ttx) (co : Tco) (ke : Tke) (rf : (Nat → Int32)) (cp : Int32) (lk : Tlk) (fl : Tfl) (em : Int32) (tm : Ttm) (rd : Trd) (x1 : Int32) (o : UInt32 × Int32 × Tlk × Tfl × Int32) (h : fX6_errsOf co cp lk fl em x1 = some o) : Sp yX6_errsOf wsX6_errsOf rX6_errsOf [.ref 36, .int x1] (mkH cn bk st r0 r1 r2 r3 r4 li fo tx co ke rf cp lk fl em tm rd) (some (.float o.1)) (mkH cn bk st r0 r1 r2 r3 r4 li fo tx co ke rf o.2.1 o.2.2.1 o.2.2.2.1 o.2.2.2.2 tm rd) := by
  refine Sp.of (lv := [some (.ref 36), some (.int x1), none, none, none, none]) RX6 (by decide +kernel) rfl (Nat.le_of_ble_eq_true rfl) rfl ?_
  intro X C hT
  unfold fX6_errsOf at h
  refine wg_fconst0 C dX6_errsOf_0 ?_
  refine wg_fstore_n (lv' := [some (.ref 36), some (.int x1), some (.float FP.fconst0), none, none, none]) C dX6_errsOf_1 (Nat.le_of_ble_eq_true rfl) rfl ?_
  refine wg_aload_n C dX6_errsOf_2 rfl ?_
  refine wg_iconst (v := 0) C dX6_errsOf_3 (by decide) ?_
  refine wg_put (hp' := (mkH cn bk st r0 r1 r2 r3 r4 li fo tx co ke rf cp lk fl (0 : Int32) tm rd)) C fwX6_errsOf_157 rfl (Nat.le_of_ble_eq_true rfl) rfl rfl rfl dX6_errsOf_4 ?_
  refine wg_iconst (v := 0) C dX6_errsOf_7 (by decide) ?_
  refine wg_istore_n (lv' := [some (.ref 36), some (.int x1), some (.float FP.fconst0), some (.int (0 : Int32)), none, none]) C dX6_errsOf_8 (Nat.le_of_ble_eq_true rfl) rfl ?_
  obtain ⟨t12, hL12, h⟩ := bnd h
  refine slX6_errsOf_9 X C cn bk st r0 r1 r2 r3 r4 li fo tx co ke rf cp lk fl (0 : Int32) tm rd x1 t12 (fun a e => ?_) FU (FP.fconst0, (0 : Int32), cp, lk, fl, (0 : Int32)) hL12
  subst e
  refine wg_aload_n C dX6_errsOf_100 rfl ?_
  refine wg_get (v := .int t12.2.2.2.2) C fgX6_errsOf_157 rfl rfl dX6_errsOf_101 ?_
  refine wg_if_ne (tgt := 111) C dX6_errsOf_104 (by decide) (fun c13 => ?_) (fun c13 => ?_)
  · replace h := ifP c13 h
    refine wg_fload_n C dX6_errsOf_111 rfl ?_
    refine wg_aload_n C dX6_errsOf_112 rfl ?_
    refine wg_get (v := .int t12.2.2.2.2) C fgX6_errsOf_157 rfl rfl dX6_errsOf_113 ?_
    refine wg_i2f C dX6_errsOf_116 ?_
    obtain ⟨g14, h⟩ := gdP h
    refine wg_fdiv C dX6_errsOf_117 g14 ?_
    refine wg_drop (lv' := [none, none, none, none, none, none]) [0, 2] rfl ?_
    exact sjX6_errsOf_118 X C cn bk st r0 r1 r2 r3 r4 li fo tx co ke rf t12.2.1 t12.2.2.1 t12.2.2.2.1 t12.2.2.2.2 tm rd (FP.fdiv t12.1 (FP.i2f t12.2.2.2.2)) _ h hT
  · replace h := ifN c13 h
    refine wg_fconst0 C dX6_errsOf_107 ?_
    refine wg_goto (tgt := 118) C dX6_errsOf_108 (by decide) ?_
    refine wg_drop (lv' := [none, none, none, none, none, none]) [0, 2] rfl ?_
    exact sjX6_errsOf_118 X C cn bk st r0 r1 r2 r3 r4 li fo tx co ke rf t12.2.1 t12.2.2.1 t12.2.2.2.1 t12.2.2.2.2 tm rd FP.fconst0 _ h hT
abbrev rX6_errsTold : Room := { frames := 6, cells := 0, slots := 0, locals := 145 }
theorem iwX6_errsTold_6 : ∀ w ∈ wsX60, w ∈ wsX6_errsTold := by decide +kernel
theorem fgX6_errsTold_157 : FG wsX6_errsTold RX6 157 6 14 := ⟨RX6, TX6, 21, rfl, by decide, by decide +kernel, iwX6_errsTold_6⟩
set_option maxRecDepth 100000 in
set_option maxHeartbeats 4000000 in
theorem sjX6_errsTold_21 (X : CX) (C : Ok X RX6 cX6_errsTold wsX6_errsTold rX6_errsTold) (cn : Tcn) (bk : Tbk) (st : Tst) (r0 : Tbk) (r1 : Tbk) (r2 : Tbk) (r3 : Tbk) (r4 : Tbk) (li : Tli) (fo : Tfo) (tx : Ttx) (co : Tco) (ke : Tke) (rf : (Nat → Int32)) (cp : Int32) (lk : Tlk) (fl : Tfl) (em : Int32) (tm : Ttm) (rd : Trd) (y0 : Int32) (o : Int32 × Int32 × Tlk × Tfl × Int32) (h : jX6_errsTold_21 co cp lk fl em y0 = some o) (hT : Rt X (some .int) (some (.int o.1)) (mkH cn bk st r0 r1 r2 r3 r4 li fo tx co ke rf o.2.1 o.2.2.1 o.2.2.2.1 o.2.2.2.2 tm rd)) : Wg X 21 [none, none, none] [.int y0] (mkH cn bk st r0 r1 r2 r3 r4 li fo tx co ke rf cp lk fl em tm rd) := by
  unfold jX6_errsTold_21 at h
  obtain rfl := Option.some.inj h
  exact wg_iret C hT dX6_errsTold_21
set_option maxRecDepth 100000 in
set_option maxHeartbeats 4000000 in
theorem sX6_errsTold (cn : Tcn) (bk : Tbk) (st : Tst) (r0 : Tbk) (r1 : Tbk) (r2 : Tbk) (r3 : Tbk) (r4 : Tbk) (li : Tli) (fo : Tfo) (tx : Ttx) (co : Tco) (ke : Tke) (rf : (Nat → Int32)) (cp : Int32) (lk : Tlk) (fl : Tfl) (em : Int32) (tm : Ttm) (rd : Trd) (x1 : Int32) (o : Int32 × Int32 × Tlk × Tfl × Int32) (h : fX6_errsTold co cp lk fl em x1 = some o) : Sp yX6_errsTold wsX6_errsTold rX6_errsTold [.ref 36, .int x1] (mkH cn bk st r0 r1 r2 r3 r4 li fo tx co ke rf cp lk fl em tm rd) (some (.int o.1)) (mkH cn bk st r0 r1 r2 r3 r4 li fo tx co ke rf o.2.1 o.2.2.1 o.2.2.2.1 o.2.2.2.2 tm rd) := by
  refine Sp.of (lv := [some (.ref 36), some (.int x1), none]) RX6 (by decide +kernel) rfl (Nat.le_of_ble_eq_true rfl) rfl ?_
  intro X C hT
  unfold fX6_errsTold at h
  refine wg_aload_n C dX6_errsTold_0 rfl ?_
  refine wg_iload_n C dX6_errsTold_1 rfl ?_
  obtain ⟨q1, e1q, h⟩ := bnd h
  refine wg_callV (n := 1) (As := [.int x1]) (st := []) (st' := [.float q1.1]) C (sX6_errsOf cn bk st r0 r1 r2 r3 r4 li fo tx co ke rf cp lk fl em tm rd x1 q1 e1q) gX6_errsTold_X6_errsOf rfl (by decide +kernel) ⟨⟨rfl, rfl⟩, Nat.le_of_ble_eq_true rfl, Nat.le_of_ble_eq_true rfl⟩ rfl rfl rfl rfl (Nat.le_of_ble_eq_true rfl) dX6_errsTold_2 rfl ?_
  refine wg_fstore_n (lv' := [some (.ref 36), some (.int x1), some (.float q1.1)]) C dX6_errsTold_5 (Nat.le_of_ble_eq_true rfl) rfl ?_
  refine wg_aload_n C dX6_errsTold_6 rfl ?_
  refine wg_get (v := .int q1.2.2.2.2) C fgX6_errsTold_157 rfl rfl dX6_errsTold_7 ?_
  refine wg_if_ne (tgt := 17) C dX6_errsTold_10 (by decide) (fun c2 => ?_) (fun c2 => ?_)
  · replace h := ifP c2 h
    refine wg_fload_n C dX6_errsTold_17 rfl ?_
    obtain ⟨q3, e3q, h⟩ := bnd h
    refine wg_callT (n := 1) (As := [.float q1.1]) (st := []) (st' := [.int q3]) C (sJxf58ca_floatToIntBits_5c35a cn bk st r0 r1 r2 r3 r4 li fo tx co ke rf q1.2.1 q1.2.2.1 q1.2.2.2.1 q1.2.2.2.2 tm rd q1.1 q3 e3q) gX6_errsTold_Jxf58ca_floatToIntBits_5c35a rfl (by decide +kernel) ⟨⟨rfl, rfl⟩, Nat.le_of_ble_eq_true rfl, Nat.le_of_ble_eq_true rfl⟩ rfl rfl (Nat.le_of_ble_eq_true rfl) dX6_errsTold_18 rfl ?_
    refine wg_drop (lv' := [none, none, none]) [0, 1, 2] rfl ?_
    exact sjX6_errsTold_21 X C cn bk st r0 r1 r2 r3 r4 li fo tx co ke rf q1.2.1 q1.2.2.1 q1.2.2.2.1 q1.2.2.2.2 tm rd q3 _ h hT
  · replace h := ifN c2 h
    refine wg_iconst (v := -1) C dX6_errsTold_13 (by decide) ?_
    refine wg_goto (tgt := 21) C dX6_errsTold_14 (by decide) ?_
    refine wg_drop (lv' := [none, none, none]) [0, 1, 2] rfl ?_
    exact sjX6_errsTold_21 X C cn bk st r0 r1 r2 r3 r4 li fo tx co ke rf q1.2.1 q1.2.2.1 q1.2.2.2.1 q1.2.2.2.2 tm rd (-1 : Int32) _ h hT
abbrev rX6_errs : Room := { frames := 7, cells := 0, slots := 0, locals := 167 }
set_option maxRecDepth 100000 in
set_option maxHeartbeats 4000000 in
theorem sjX6_errs_19 (X : CX) (C : Ok X RX6 cX6_errs wsX6_errs rX6_errs) (cn : Tcn) (bk : Tbk) (st : Tst) (r0 : Tbk) (r1 : Tbk) (r2 : Tbk) (r3 : Tbk) (r4 : Tbk) (li : Tli) (fo : Tfo) (tx : Ttx) (co : Tco) (ke : Tke) (rf : (Nat → Int32)) (cp : Int32) (lk : Tlk) (fl : Tfl) (em : Int32) (tm : Ttm) (rd : Trd) (y0 : Int32) (o : Int32 × (Nat → Int32) × Int32 × Tlk × Tfl × Int32) (h : jX6_errs_19 co rf cp lk fl em y0 = some o) (hT : Rt X (some .int) (some (.int o.1)) (mkH cn bk st r0 r1 r2 r3 r4 li fo tx co ke o.2.1 o.2.2.1 o.2.2.2.1 o.2.2.2.2.1 o.2.2.2.2.2 tm rd)) : Wg X 19 [none, none] [.int y0] (mkH cn bk st r0 r1 r2 r3 r4 li fo tx co ke rf cp lk fl em tm rd) := by
  unfold jX6_errs_19 at h
  obtain rfl := Option.some.inj h
  exact wg_iret C hT dX6_errs_19
set_option maxRecDepth 100000 in
set_option maxHeartbeats 4000000 in
theorem sX6_errs (cn : Tcn) (bk : Tbk) (st : Tst) (r0 : Tbk) (r1 : Tbk) (r2 : Tbk) (r3 : Tbk) (r4 : Tbk) (li : Tli) (fo : Tfo) (tx : Ttx) (co : Tco) (ke : Tke) (rf : (Nat → Int32)) (cp : Int32) (lk : Tlk) (fl : Tfl) (em : Int32) (tm : Ttm) (rd : Trd) (x1 : Int32) (o : Int32 × (Nat → Int32) × Int32 × Tlk × Tfl × Int32) (h : fX6_errs co rf cp lk fl em x1 = some o) : Sp yX6_errs wsX6_errs rX6_errs [.ref 36, .int x1] (mkH cn bk st r0 r1 r2 r3 r4 li fo tx co ke rf cp lk fl em tm rd) (some (.int o.1)) (mkH cn bk st r0 r1 r2 r3 r4 li fo tx co ke o.2.1 o.2.2.1 o.2.2.2.1 o.2.2.2.2.1 o.2.2.2.2.2 tm rd) := by
  refine Sp.of (lv := [some (.ref 36), some (.int x1)]) RX6 (by decide +kernel) rfl (Nat.le_of_ble_eq_true rfl) rfl ?_
  intro X C hT
  unfold fX6_errs at h
  refine wg_iload_n C dX6_errs_0 rfl ?_
  obtain ⟨q1, e1q, h⟩ := bnd h
  refine wg_callT (n := 1) (As := [.int x1]) (st := []) (st' := [.int q1]) C (sX6_isMember cn bk st r0 r1 r2 r3 r4 li fo tx co ke rf cp lk fl em tm rd x1 q1 e1q) gX6_errs_X6_isMember rfl (by decide +kernel) ⟨⟨rfl, rfl⟩, Nat.le_of_ble_eq_true rfl, Nat.le_of_ble_eq_true rfl⟩ rfl rfl (Nat.le_of_ble_eq_true rfl) dX6_errs_1 rfl ?_
  refine wg_if_eq (tgt := 15) C dX6_errs_4 (by decide) (fun c2 => ?_) (fun c2 => ?_)
  · replace h := ifP c2 h
    refine wg_aload_n C dX6_errs_15 rfl ?_
    obtain ⟨q3, e3q, h⟩ := bnd h
    refine wg_callV (n := 0) (As := []) (st := []) (st' := [.int q3.1]) C (sX6_bad cn bk st r0 r1 r2 r3 r4 li fo tx co ke rf cp lk fl em tm rd  q3 e3q) gX6_errs_X6_bad rfl (by decide +kernel) ⟨⟨rfl, rfl⟩, Nat.le_of_ble_eq_true rfl, Nat.le_of_ble_eq_true rfl⟩ rfl rfl rfl rfl (Nat.le_of_ble_eq_true rfl) dX6_errs_16 rfl ?_
    refine wg_drop (lv' := [none, none]) [0, 1] rfl ?_
    exact sjX6_errs_19 X C cn bk st r0 r1 r2 r3 r4 li fo tx co ke q3.2 cp lk fl em tm rd q3.1 _ h hT
  · replace h := ifN c2 h
    refine wg_aload_n C dX6_errs_7 rfl ?_
    refine wg_iload_n C dX6_errs_8 rfl ?_
    obtain ⟨q4, e4q, h⟩ := bnd h
    refine wg_callV (n := 1) (As := [.int x1]) (st := []) (st' := [.int q4.1]) C (sX6_errsTold cn bk st r0 r1 r2 r3 r4 li fo tx co ke rf cp lk fl em tm rd x1 q4 e4q) gX6_errs_X6_errsTold rfl (by decide +kernel) ⟨⟨rfl, rfl⟩, Nat.le_of_ble_eq_true rfl, Nat.le_of_ble_eq_true rfl⟩ rfl rfl rfl rfl (Nat.le_of_ble_eq_true rfl) dX6_errs_9 rfl ?_
    refine wg_goto (tgt := 19) C dX6_errs_12 (by decide) ?_
    refine wg_drop (lv' := [none, none]) [0, 1] rfl ?_
    exact sjX6_errs_19 X C cn bk st r0 r1 r2 r3 r4 li fo tx co ke rf q4.2.1 q4.2.2.1 q4.2.2.2.1 q4.2.2.2.2 tm rd q4.1 _ h hT
abbrev rX6_best : Room := { frames := 6, cells := 0, slots := 0, locals := 145 }
theorem iwX6_best_6 : ∀ w ∈ wsX60, w ∈ wsX6_best := by decide +kernel
theorem fgX6_best_13 : FG wsX6_best RX6 13 6 2 := ⟨RX6, TX6, 21, rfl, by decide, by decide +kernel, iwX6_best_6⟩
theorem fgX6_best_157 : FG wsX6_best RX6 157 6 14 := ⟨RX6, TX6, 21, rfl, by decide, by decide +kernel, iwX6_best_6⟩
set_option maxRecDepth 100000 in
set_option maxHeartbeats 4000000 in
theorem sjX6_best_16 (X : CX) (C : Ok X RX6 cX6_best wsX6_best rX6_best) (cn : Tcn) (bk : Tbk) (st : Tst) (r0 : Tbk) (r1 : Tbk) (r2 : Tbk) (r3 : Tbk) (r4 : Tbk) (li : Tli) (fo : Tfo) (tx : Ttx) (co : Tco) (ke : Tke) (rf : (Nat → Int32)) (cp : Int32) (lk : Tlk) (fl : Tfl) (em : Int32) (tm : Ttm) (rd : Trd)  (o : Int32 × Tco × (Nat → Int32) × Int32 × Tlk × Tfl × Int32) (h : jX6_best_16 co rf cp lk fl em  = some o) (hT : Rt X (some .int) (some (.int o.1)) (mkH cn bk st r0 r1 r2 r3 r4 li fo tx o.2.1 ke o.2.2.1 o.2.2.2.1 o.2.2.2.2.1 o.2.2.2.2.2.1 o.2.2.2.2.2.2 tm rd)) : Wg X 16 [some (.ref 36), none, none, none, none, none, none, none] [] (mkH cn bk st r0 r1 r2 r3 r4 li fo tx co ke rf cp lk fl em tm rd) := by
  unfold jX6_best_16 at h
  refine wg_aload_n C dX6_best_16 rfl ?_
  obtain ⟨q3, e3q, h⟩ := bnd h
  refine wg_callV (n := 0) (As := []) (st := []) (st' := [.int q3.1]) C (sX6_bad cn bk st r0 r1 r2 r3 r4 li fo tx co ke rf cp lk fl em tm rd  q3 e3q) gX6_best_X6_bad rfl (by decide +kernel) ⟨⟨rfl, rfl⟩, Nat.le_of_ble_eq_true rfl, Nat.le_of_ble_eq_true rfl⟩ rfl rfl rfl rfl (Nat.le_of_ble_eq_true rfl) dX6_best_17 rfl ?_
  obtain rfl := Option.some.inj h
  exact wg_iret C hT dX6_best_20
set_option maxRecDepth 100000 in
set_option maxHeartbeats 4000000 in
theorem sjX6_best_37_88 (X : CX) (C : Ok X RX6 cX6_best wsX6_best rX6_best) (cn : Tcn) (bk : Tbk) (st : Tst) (r0 : Tbk) (r1 : Tbk) (r2 : Tbk) (r3 : Tbk) (r4 : Tbk) (li : Tli) (fo : Tfo) (tx : Ttx) (co : Tco) (ke : Tke) (rf : (Nat → Int32)) (cp : Int32) (lk : Tlk) (fl : Tfl) (em : Int32) (tm : Ttm) (rd : Trd) (x1 : Int32) (x2 : Int32) (x3 : Int32) (x4 : Int32) (x5 : UInt32) (x6 : Int32) (o : (Int32 × UInt32 × Int32 × Tco × Int32 × Tlk × Tfl × Int32) ⊕ (Int32 × UInt32 × Tco × Int32 × Tlk × Tfl × Int32)) (h : jX6_best_37_88 co rf cp lk fl em x1 x2 x3 x4 x5 x6 = some o) (k0 : ∀ a : Int32 × UInt32 × Int32 × Tco × Int32 × Tlk × Tfl × Int32, o = .inl a → Wg X 37 [some (.ref 36), some (.int x1), some (.int x2), some (.int x3), some (.int a.1), some (.float a.2.1), some (.int a.2.2.1), none] [] (mkH cn bk st r0 r1 r2 r3 r4 li fo tx a.2.2.2.1 ke rf a.2.2.2.2.1 a.2.2.2.2.2.1 a.2.2.2.2.2.2.1 a.2.2.2.2.2.2.2 tm rd)) (e0 : ∀ a : Int32 × UInt32 × Tco × Int32 × Tlk × Tfl × Int32, o = .inr a → Wg X 94 [some (.ref 36), none, some (.int x2), some (.int x3), some (.int a.1), some (.float a.2.1), none, none] [] (mkH cn bk st r0 r1 r2 r3 r4 li fo tx a.2.2.1 ke rf a.2.2.2.1 a.2.2.2.2.1 a.2.2.2.2.2.1 a.2.2.2.2.2.2 tm rd)) : Wg X 88 [some (.ref 36), some (.int x1), some (.int x2), some (.int x3), some (.int x4), some (.float x5), some (.int x6), none] [] (mkH cn bk st r0 r1 r2 r3 r4 li fo tx co ke rf cp lk fl em tm rd) := by
  unfold jX6_best_37_88 at h
  refine wg_iinc (v := (x6 + (1 : Int32))) (lv' := [some (.ref 36), some (.int x1), some (.int x2), some (.int x3), some (.int x4), some (.float x5), some (.int (x6 + (1 : Int32))), none]) C dX6_best_88 rfl rfl rfl ?_
  refine wg_goto (tgt := 37) C dX6_best_91 (by decide) ?_
  have hk := k0 _ (Option.some.inj h).symm
  exact hk
set_option maxRecDepth 100000 in
set_option maxHeartbeats 4000000 in
theorem sjX6_best_37_80 (X : CX) (C : Ok X RX6 cX6_best wsX6_best rX6_best) (cn : Tcn) (bk : Tbk) (st : Tst) (r0 : Tbk) (r1 : Tbk) (r2 : Tbk) (r3 : Tbk) (r4 : Tbk) (li : Tli) (fo : Tfo) (tx : Ttx) (co : Tco) (ke : Tke) (rf : (Nat → Int32)) (cp : Int32) (lk : Tlk) (fl : Tfl) (em : Int32) (tm : Ttm) (rd : Trd) (x1 : Int32) (x2 : Int32) (x3 : Int32) (x6 : Int32) (x7 : UInt32) (o : (Int32 × UInt32 × Int32 × Tco × Int32 × Tlk × Tfl × Int32) ⊕ (Int32 × UInt32 × Tco × Int32 × Tlk × Tfl × Int32)) (h : jX6_best_37_80 co rf cp lk fl em x1 x2 x3 x6 x7 = some o) (k0 : ∀ a : Int32 × UInt32 × Int32 × Tco × Int32 × Tlk × Tfl × Int32, o = .inl a → Wg X 37 [some (.ref 36), some (.int x1), some (.int x2), some (.int x3), some (.int a.1), some (.float a.2.1), some (.int a.2.2.1), none] [] (mkH cn bk st r0 r1 r2 r3 r4 li fo tx a.2.2.2.1 ke rf a.2.2.2.2.1 a.2.2.2.2.2.1 a.2.2.2.2.2.2.1 a.2.2.2.2.2.2.2 tm rd)) (e0 : ∀ a : Int32 × UInt32 × Tco × Int32 × Tlk × Tfl × Int32, o = .inr a → Wg X 94 [some (.ref 36), none, some (.int x2), some (.int x3), some (.int a.1), some (.float a.2.1), none, none] [] (mkH cn bk st r0 r1 r2 r3 r4 li fo tx a.2.2.1 ke rf a.2.2.2.1 a.2.2.2.2.1 a.2.2.2.2.2.1 a.2.2.2.2.2.2 tm rd)) : Wg X 80 [some (.ref 36), some (.int x1), some (.int x2), some (.int x3), none, none, some (.int x6), some (.float x7)] [] (mkH cn bk st r0 r1 r2 r3 r4 li fo tx co ke rf cp lk fl em tm rd) := by
  unfold jX6_best_37_80 at h
  refine wg_iload C dX6_best_80 rfl ?_
  refine wg_istore (lv' := [some (.ref 36), some (.int x1), some (.int x2), some (.int x3), some (.int x6), none, some (.int x6), some (.float x7)]) C dX6_best_82 (Nat.le_of_ble_eq_true rfl) rfl ?_
  refine wg_fload C dX6_best_84 rfl ?_
  refine wg_fstore (lv' := [some (.ref 36), some (.int x1), some (.int x2), some (.int x3), some (.int x6), some (.float x7), some (.int x6), some (.float x7)]) C dX6_best_86 (Nat.le_of_ble_eq_true rfl) rfl ?_
  refine wg_drop (lv' := [some (.ref 36), some (.int x1), some (.int x2), some (.int x3), some (.int x6), some (.float x7), some (.int x6), none]) [7] rfl ?_
  exact sjX6_best_37_88 X C cn bk st r0 r1 r2 r3 r4 li fo tx co ke rf cp lk fl em tm rd x1 x2 x3 x6 x7 x6 _ h k0 e0
set_option maxRecDepth 100000 in
set_option maxHeartbeats 4000000 in
theorem sbX6_best_37 (X : CX) (C : Ok X RX6 cX6_best wsX6_best rX6_best) (cn : Tcn) (bk : Tbk) (st : Tst) (r0 : Tbk) (r1 : Tbk) (r2 : Tbk) (r3 : Tbk) (r4 : Tbk) (li : Tli) (fo : Tfo) (tx : Ttx) (co : Tco) (ke : Tke) (rf : (Nat → Int32)) (cp : Int32) (lk : Tlk) (fl : Tfl) (em : Int32) (tm : Ttm) (rd : Trd) (x1 : Int32) (x2 : Int32) (x3 : Int32) (z : Int32 × UInt32 × Int32 × Tco × Int32 × Tlk × Tfl × Int32) (o : (Int32 × UInt32 × Int32 × Tco × Int32 × Tlk × Tfl × Int32) ⊕ (Int32 × UInt32 × Tco × Int32 × Tlk × Tfl × Int32)) (h : bX6_best_37 rf x1 x2 x3 z = some o) (k0 : ∀ a : Int32 × UInt32 × Int32 × Tco × Int32 × Tlk × Tfl × Int32, o = .inl a → Wg X 37 [some (.ref 36), some (.int x1), some (.int x2), some (.int x3), some (.int a.1), some (.float a.2.1), some (.int a.2.2.1), none] [] (mkH cn bk st r0 r1 r2 r3 r4 li fo tx a.2.2.2.1 ke rf a.2.2.2.2.1 a.2.2.2.2.2.1 a.2.2.2.2.2.2.1 a.2.2.2.2.2.2.2 tm rd)) (e0 : ∀ a : Int32 × UInt32 × Tco × Int32 × Tlk × Tfl × Int32, o = .inr a → Wg X 94 [some (.ref 36), none, some (.int x2), some (.int x3), some (.int a.1), some (.float a.2.1), none, none] [] (mkH cn bk st r0 r1 r2 r3 r4 li fo tx a.2.2.1 ke rf a.2.2.2.1 a.2.2.2.2.1 a.2.2.2.2.2.1 a.2.2.2.2.2.2 tm rd)) : Wg X 37 [some (.ref 36), some (.int x1), some (.int x2), some (.int x3), some (.int z.1), some (.float z.2.1), some (.int z.2.2.1), none] [] (mkH cn bk st r0 r1 r2 r3 r4 li fo tx z.2.2.2.1 ke rf z.2.2.2.2.1 z.2.2.2.2.2.1 z.2.2.2.2.2.2.1 z.2.2.2.2.2.2.2 tm rd) := by
  unfold bX6_best_37 at h
  refine wg_iload C dX6_best_37 rfl ?_
  refine wg_bipush (v := 12) C dX6_best_39 (by decide) ?_
  refine wg_icmp_gt (tgt := 94) C dX6_best_41 (by decide) (fun c7 => ?_) (fun c7 => ?_)
  · replace h := ifP c7 h
    refine wg_drop (lv' := [some (.ref 36), none, some (.int x2), some (.int x3), some (.int z.1), some (.float z.2.1), none, none]) [1, 6] rfl ?_
    have hk := e0 _ (Option.some.inj h).symm
    exact hk
  · replace h := ifN c7 h
    refine wg_aload_n C dX6_best_44 rfl ?_
    refine wg_get (v := .ref 38) C fgX6_best_13 rfl rfl dX6_best_45 ?_
    refine wg_iconst (v := 5) C dX6_best_48 (by decide) ?_
    refine wg_iload C dX6_best_49 rfl ?_
    obtain ⟨g8, h⟩ := gdP h
    refine wg_iast (f := z.2.2.2.1.2.1) (n := 6) (hp' := (mkH cn bk st r0 r1 r2 r3 r4 li fo tx (z.2.2.2.1.1, (upd z.2.2.2.1.2.1 ((5 : Int32)).toNatClampNeg z.2.2.1), z.2.2.2.1.2.2) ke rf z.2.2.2.2.1 z.2.2.2.2.2.1 z.2.2.2.2.2.2.1 z.2.2.2.2.2.2.2 tm rd)) C rfl g8 rfl dX6_best_51 ?_
    refine wg_aload_n C dX6_best_52 rfl ?_
    refine wg_iload_n C dX6_best_53 rfl ?_
    obtain ⟨q9, e9q, h⟩ := bnd h
    refine wg_callV (n := 1) (As := [.int x1]) (st := []) (st' := [.float q9.1]) C (sX6_errsOf cn bk st r0 r1 r2 r3 r4 li fo tx (z.2.2.2.1.1, (upd z.2.2.2.1.2.1 ((5 : Int32)).toNatClampNeg z.2.2.1), z.2.2.2.1.2.2) ke rf z.2.2.2.2.1 z.2.2.2.2.2.1 z.2.2.2.2.2.2.1 z.2.2.2.2.2.2.2 tm rd x1 q9 e9q) gX6_best_X6_errsOf rfl (by decide +kernel) ⟨⟨rfl, rfl⟩, Nat.le_of_ble_eq_true rfl, Nat.le_of_ble_eq_true rfl⟩ rfl rfl rfl rfl (Nat.le_of_ble_eq_true rfl) dX6_best_54 rfl ?_
    refine wg_fstore (lv' := [some (.ref 36), some (.int x1), some (.int x2), some (.int x3), some (.int z.1), some (.float z.2.1), some (.int z.2.2.1), some (.float q9.1)]) C dX6_best_57 (Nat.le_of_ble_eq_true rfl) rfl ?_
    refine wg_aload_n C dX6_best_59 rfl ?_
    refine wg_get (v := .int q9.2.2.2.2) C fgX6_best_157 rfl rfl dX6_best_60 ?_
    refine wg_if_le (tgt := 88) C dX6_best_63 (by decide) (fun c10 => ?_) (fun c10 => ?_)
    · replace h := ifP c10 h
      refine wg_drop (lv' := [some (.ref 36), some (.int x1), some (.int x2), some (.int x3), some (.int z.1), some (.float z.2.1), some (.int z.2.2.1), none]) [7] rfl ?_
      exact sjX6_best_37_88 X C cn bk st r0 r1 r2 r3 r4 li fo tx (z.2.2.2.1.1, (upd z.2.2.2.1.2.1 ((5 : Int32)).toNatClampNeg z.2.2.1), z.2.2.2.1.2.2) ke rf q9.2.1 q9.2.2.1 q9.2.2.2.1 q9.2.2.2.2 tm rd x1 x2 x3 z.1 z.2.1 z.2.2.1 _ h k0 e0
    · replace h := ifN c10 h
      refine wg_iload C dX6_best_66 rfl ?_
      refine wg_iconst (v := -1) C dX6_best_68 (by decide) ?_
      refine wg_icmp_eq (tgt := 80) C dX6_best_69 (by decide) (fun c11 => ?_) (fun c11 => ?_)
      · replace h := ifP c11 h
        refine wg_drop (lv' := [some (.ref 36), some (.int x1), some (.int x2), some (.int x3), none, none, some (.int z.2.2.1), some (.float q9.1)]) [4, 5] rfl ?_
        exact sjX6_best_37_80 X C cn bk st r0 r1 r2 r3 r4 li fo tx (z.2.2.2.1.1, (upd z.2.2.2.1.2.1 ((5 : Int32)).toNatClampNeg z.2.2.1), z.2.2.2.1.2.2) ke rf q9.2.1 q9.2.2.1 q9.2.2.2.1 q9.2.2.2.2 tm rd x1 x2 x3 z.2.2.1 q9.1 _ h k0 e0
      · replace h := ifN c11 h
        refine wg_fload C dX6_best_72 rfl ?_
        refine wg_fload C dX6_best_74 rfl ?_
        refine wg_fcmp C dX6_best_76 ?_
        refine wg_if_ge (tgt := 88) C dX6_best_77 (by decide) (fun c12 => ?_) (fun c12 => ?_)
        · replace h := ifP c12 h
          refine wg_drop (lv' := [some (.ref 36), some (.int x1), some (.int x2), some (.int x3), some (.int z.1), some (.float z.2.1), some (.int z.2.2.1), none]) [7] rfl ?_
          exact sjX6_best_37_88 X C cn bk st r0 r1 r2 r3 r4 li fo tx (z.2.2.2.1.1, (upd z.2.2.2.1.2.1 ((5 : Int32)).toNatClampNeg z.2.2.1), z.2.2.2.1.2.2) ke rf q9.2.1 q9.2.2.1 q9.2.2.2.1 q9.2.2.2.2 tm rd x1 x2 x3 z.1 z.2.1 z.2.2.1 _ h k0 e0
        · replace h := ifN c12 h
          refine wg_drop (lv' := [some (.ref 36), some (.int x1), some (.int x2), some (.int x3), none, none, some (.int z.2.2.1), some (.float q9.1)]) [4, 5] rfl ?_
          exact sjX6_best_37_80 X C cn bk st r0 r1 r2 r3 r4 li fo tx (z.2.2.2.1.1, (upd z.2.2.2.1.2.1 ((5 : Int32)).toNatClampNeg z.2.2.1), z.2.2.2.1.2.2) ke rf q9.2.1 q9.2.2.1 q9.2.2.2.1 q9.2.2.2.2 tm rd x1 x2 x3 z.2.2.1 q9.1 _ h k0 e0
set_option maxRecDepth 100000 in
set_option maxHeartbeats 4000000 in
theorem slX6_best_37 (X : CX) (C : Ok X RX6 cX6_best wsX6_best rX6_best) (cn : Tcn) (bk : Tbk) (st : Tst) (r0 : Tbk) (r1 : Tbk) (r2 : Tbk) (r3 : Tbk) (r4 : Tbk) (li : Tli) (fo : Tfo) (tx : Ttx) (co : Tco) (ke : Tke) (rf : (Nat → Int32)) (cp : Int32) (lk : Tlk) (fl : Tfl) (em : Int32) (tm : Ttm) (rd : Trd) (x1 : Int32) (x2 : Int32) (x3 : Int32) (o : (Int32 × UInt32 × Tco × Int32 × Tlk × Tfl × Int32)) (e0 : ∀ a : Int32 × UInt32 × Tco × Int32 × Tlk × Tfl × Int32, o = a → Wg X 94 [some (.ref 36), none, some (.int x2), some (.int x3), some (.int a.1), some (.float a.2.1), none, none] [] (mkH cn bk st r0 r1 r2 r3 r4 li fo tx a.2.2.1 ke rf a.2.2.2.1 a.2.2.2.2.1 a.2.2.2.2.2.1 a.2.2.2.2.2.2 tm rd)) : ∀ (n : Nat) (z : Int32 × UInt32 × Int32 × Tco × Int32 × Tlk × Tfl × Int32), lpF (bX6_best_37 rf x1 x2 x3) n z = some o → Wg X 37 [some (.ref 36), some (.int x1), some (.int x2), some (.int x3), some (.int z.1), some (.float z.2.1), some (.int z.2.2.1), none] [] (mkH cn bk st r0 r1 r2 r3 r4 li fo tx z.2.2.2.1 ke rf z.2.2.2.2.1 z.2.2.2.2.2.1 z.2.2.2.2.2.2.1 z.2.2.2.2.2.2.2 tm rd) := by
  intro n
  induction n with
  | zero => intro z h; cases h
  | succ n ih =>
    intro z h
    obtain ⟨r, hB, h⟩ := bnd h
    refine sbX6_best_37 X C cn bk st r0 r1 r2 r3 r4 li fo tx co ke rf cp lk fl em tm rd x1 x2 x3 z r hB (fun a e => ih a (by subst e; exact h)) (fun a e => e0 a (by subst e; exact (Option.some.inj h).symm))
set_option maxRecDepth 100000 in
set_option maxHeartbeats 4000000 in
theorem sjX6_best_121 (X : CX) (C : Ok X RX6 cX6_best wsX6_best rX6_best) (cn : Tcn) (bk : Tbk) (st : Tst) (r0 : Tbk) (r1 : Tbk) (r2 : Tbk) (r3 : Tbk) (r4 : Tbk) (li : Tli) (fo : Tfo) (tx : Ttx) (co : Tco) (ke : Tke) (rf : (Nat → Int32)) (cp : Int32) (lk : Tlk) (fl : Tfl) (em : Int32) (tm : Ttm) (rd : Trd) (y0 : Int32) (o : Int32 × Tco × (Nat → Int32) × Int32 × Tlk × Tfl × Int32) (h : jX6_best_121 co rf cp lk fl em y0 = some o) (hT : Rt X (some .int) (some (.int o.1)) (mkH cn bk st r0 r1 r2 r3 r4 li fo tx o.2.1 ke o.2.2.1 o.2.2.2.1 o.2.2.2.2.1 o.2.2.2.2.2.1 o.2.2.2.2.2.2 tm rd)) : Wg X 121 [none, none, none, none, none, none, none, none] [.int y0] (mkH cn bk st r0 r1 r2 r3 r4 li fo tx co ke rf cp lk fl em tm rd) := by
  unfold jX6_best_121 at h
  obtain rfl := Option.some.inj h
  exact wg_iret C hT dX6_best_121
set_option maxRecDepth 100000 in
set_option maxHeartbeats 4000000 in
theorem sjX6_best_111 (X : CX) (C : Ok X RX6 cX6_best wsX6_best rX6_best) (cn : Tcn) (bk : Tbk) (st : Tst) (r0 : Tbk) (r1 : Tbk) (r2 : Tbk) (r3 : Tbk) (r4 : Tbk) (li : Tli) (fo : Tfo) (tx : Ttx) (co : Tco) (ke : Tke) (rf : (Nat → Int32)) (cp : Int32) (lk : Tlk) (fl : Tfl) (em : Int32) (tm : Ttm) (rd : Trd) (x4 : Int32) (o : Int32 × Tco × (Nat → Int32) × Int32 × Tlk × Tfl × Int32) (h : jX6_best_111 co rf cp lk fl em x4 = some o) (hT : Rt X (some .int) (some (.int o.1)) (mkH cn bk st r0 r1 r2 r3 r4 li fo tx o.2.1 ke o.2.2.1 o.2.2.2.1 o.2.2.2.2.1 o.2.2.2.2.2.1 o.2.2.2.2.2.2 tm rd)) : Wg X 111 [none, none, none, none, some (.int x4), none, none, none] [] (mkH cn bk st r0 r1 r2 r3 r4 li fo tx co ke rf cp lk fl em tm rd) := by
  unfold jX6_best_111 at h
  refine wg_iload C dX6_best_111 rfl ?_
  refine wg_goto (tgt := 121) C dX6_best_113 (by decide) ?_
  refine wg_drop (lv' := [none, none, none, none, none, none, none, none]) [4] rfl ?_
  exact sjX6_best_121 X C cn bk st r0 r1 r2 r3 r4 li fo tx co ke rf cp lk fl em tm rd x4 _ h hT
set_option maxRecDepth 100000 in
set_option maxHeartbeats 4000000 in
theorem sX6_best (cn : Tcn) (bk : Tbk) (st : Tst) (r0 : Tbk) (r1 : Tbk) (r2 : Tbk) (r3 : Tbk) (r4 : Tbk) (li : Tli) (fo : Tfo) (tx : Ttx) (co : Tco) (ke : Tke) (rf : (Nat → Int32)) (cp : Int32) (lk : Tlk) (fl : Tfl) (em : Int32) (tm : Ttm) (rd : Trd) (x1 : Int32) (x2 : Int32) (o : Int32 × Tco × (Nat → Int32) × Int32 × Tlk × Tfl × Int32) (h : fX6_best co rf cp lk fl em x1 x2 = some o) : Sp yX6_best wsX6_best rX6_best [.ref 36, .int x1, .int x2] (mkH cn bk st r0 r1 r2 r3 r4 li fo tx co ke rf cp lk fl em tm rd) (some (.int o.1)) (mkH cn bk st r0 r1 r2 r3 r4 li fo tx o.2.1 ke o.2.2.1 o.2.2.2.1 o.2.2.2.2.1 o.2.2.2.2.2.1 o.2.2.2.2.2.2 tm rd) := by
  refine Sp.of (lv := [some (.ref 36), some (.int x1), some (.int x2), none, none, none, none, none]) RX6 (by decide +kernel) rfl (Nat.le_of_ble_eq_true rfl) rfl ?_
  intro X C hT
  unfold fX6_best at h
  refine wg_iload_n C dX6_best_0 rfl ?_
  obtain ⟨q1, e1q, h⟩ := bnd h
  refine wg_callT (n := 1) (As := [.int x1]) (st := []) (st' := [.int q1]) C (sX6_isMember cn bk st r0 r1 r2 r3 r4 li fo tx co ke rf cp lk fl em tm rd x1 q1 e1q) gX6_best_X6_isMember rfl (by decide +kernel) ⟨⟨rfl, rfl⟩, Nat.le_of_ble_eq_true rfl, Nat.le_of_ble_eq_true rfl⟩ rfl rfl (Nat.le_of_ble_eq_true rfl) dX6_best_1 rfl ?_
  refine wg_if_eq (tgt := 16) C dX6_best_4 (by decide) (fun c2 => ?_) (fun c2 => ?_)
  · replace h := ifP c2 h
    refine wg_drop (lv' := [some (.ref 36), none, none, none, none, none, none, none]) [1, 2] rfl ?_
    exact sjX6_best_16 X C cn bk st r0 r1 r2 r3 r4 li fo tx co ke rf cp lk fl em tm rd  _ h hT
  · replace h := ifN c2 h
    refine wg_iload_n C dX6_best_7 rfl ?_
    refine wg_iconst (v := 0) C dX6_best_8 (by decide) ?_
    refine wg_iconst (v := 1) C dX6_best_9 (by decide) ?_
    obtain ⟨q4, e4q, h⟩ := bnd h
    refine wg_callT (n := 3) (As := [.int x2, .int (0 : Int32), .int (1 : Int32)]) (st := []) (st' := [.int q4]) C (sX6_in cn bk st r0 r1 r2 r3 r4 li fo tx co ke rf cp lk fl em tm rd x2 (0 : Int32) (1 : Int32) q4 e4q) gX6_best_X6_in rfl (by decide +kernel) ⟨⟨rfl, rfl⟩, Nat.le_of_ble_eq_true rfl, Nat.le_of_ble_eq_true rfl⟩ rfl rfl (Nat.le_of_ble_eq_true rfl) dX6_best_10 rfl ?_
    refine wg_if_ne (tgt := 21) C dX6_best_13 (by decide) (fun c5 => ?_) (fun c5 => ?_)
    · replace h := ifP c5 h
      refine wg_aload_n C dX6_best_21 rfl ?_
      refine wg_get (v := .ref 38) C fgX6_best_13 rfl rfl dX6_best_22 ?_
      refine wg_iconst (v := 5) C dX6_best_25 (by decide) ?_
      obtain ⟨g6, h⟩ := gdP h
      refine wg_iald (f := co.2.1) (n := 6) C rfl g6 dX6_best_26 ?_
      refine wg_istore_n (lv' := [some (.ref 36), some (.int x1), some (.int x2), some (.int (co.2.1 ((5 : Int32)).toNatClampNeg)), none, none, none, none]) C dX6_best_27 (Nat.le_of_ble_eq_true rfl) rfl ?_
      refine wg_iconst (v := -1) C dX6_best_28 (by decide) ?_
      refine wg_istore (lv' := [some (.ref 36), some (.int x1), some (.int x2), some (.int (co.2.1 ((5 : Int32)).toNatClampNeg)), some (.int (-1 : Int32)), none, none, none]) C dX6_best_29 (Nat.le_of_ble_eq_true rfl) rfl ?_
      refine wg_fconst0 C dX6_best_31 ?_
      refine wg_fstore (lv' := [some (.ref 36), some (.int x1), some (.int x2), some (.int (co.2.1 ((5 : Int32)).toNatClampNeg)), some (.int (-1 : Int32)), some (.float FP.fconst0), none, none]) C dX6_best_32 (Nat.le_of_ble_eq_true rfl) rfl ?_
      refine wg_iconst (v := 1) C dX6_best_34 (by decide) ?_
      refine wg_istore (lv' := [some (.ref 36), some (.int x1), some (.int x2), some (.int (co.2.1 ((5 : Int32)).toNatClampNeg)), some (.int (-1 : Int32)), some (.float FP.fconst0), some (.int (1 : Int32)), none]) C dX6_best_35 (Nat.le_of_ble_eq_true rfl) rfl ?_
      obtain ⟨t13, hL13, h⟩ := bnd h
      refine slX6_best_37 X C cn bk st r0 r1 r2 r3 r4 li fo tx co ke rf cp lk fl em tm rd x1 x2 (co.2.1 ((5 : Int32)).toNatClampNeg) t13 (fun a e => ?_) FU ((-1 : Int32), FP.fconst0, (1 : Int32), co, cp, lk, fl, em) hL13
      subst e
      refine wg_aload_n C dX6_best_94 rfl ?_
      refine wg_get (v := .ref 38) C fgX6_best_13 rfl rfl dX6_best_95 ?_
      refine wg_iconst (v := 5) C dX6_best_98 (by decide) ?_
      refine wg_iload_n C dX6_best_99 rfl ?_
      obtain ⟨g14, h⟩ := gdP h
      refine wg_iast (f := t13.2.2.1.2.1) (n := 6) (hp' := (mkH cn bk st r0 r1 r2 r3 r4 li fo tx (t13.2.2.1.1, (upd t13.2.2.1.2.1 ((5 : Int32)).toNatClampNeg (co.2.1 ((5 : Int32)).toNatClampNeg)), t13.2.2.1.2.2) ke rf t13.2.2.2.1 t13.2.2.2.2.1 t13.2.2.2.2.2.1 t13.2.2.2.2.2.2 tm rd)) C rfl g14 rfl dX6_best_100 ?_
      refine wg_iload_n C dX6_best_101 rfl ?_
      refine wg_if_eq (tgt := 111) C dX6_best_102 (by decide) (fun c15 => ?_) (fun c15 => ?_)
      · replace h := ifP c15 h
        refine wg_drop (lv' := [none, none, none, none, some (.int t13.1), none, none, none]) [0, 2, 3, 5] rfl ?_
        exact sjX6_best_111 X C cn bk st r0 r1 r2 r3 r4 li fo tx (t13.2.2.1.1, (upd t13.2.2.1.2.1 ((5 : Int32)).toNatClampNeg (co.2.1 ((5 : Int32)).toNatClampNeg)), t13.2.2.1.2.2) ke rf t13.2.2.2.1 t13.2.2.2.2.1 t13.2.2.2.2.2.1 t13.2.2.2.2.2.2 tm rd t13.1 _ h hT
      · replace h := ifN c15 h
        refine wg_iload C dX6_best_105 rfl ?_
        refine wg_iconst (v := -1) C dX6_best_107 (by decide) ?_
        refine wg_icmp_ne (tgt := 116) C dX6_best_108 (by decide) (fun c16 => ?_) (fun c16 => ?_)
        · replace h := ifP c16 h
          refine wg_fload C dX6_best_116 rfl ?_
          obtain ⟨q17, e17q, h⟩ := bnd h
          refine wg_callT (n := 1) (As := [.float t13.2.1]) (st := []) (st' := [.int q17]) C (sJxf58ca_floatToIntBits_5c35a cn bk st r0 r1 r2 r3 r4 li fo tx (t13.2.2.1.1, (upd t13.2.2.1.2.1 ((5 : Int32)).toNatClampNeg (co.2.1 ((5 : Int32)).toNatClampNeg)), t13.2.2.1.2.2) ke rf t13.2.2.2.1 t13.2.2.2.2.1 t13.2.2.2.2.2.1 t13.2.2.2.2.2.2 tm rd t13.2.1 q17 e17q) gX6_best_Jxf58ca_floatToIntBits_5c35a rfl (by decide +kernel) ⟨⟨rfl, rfl⟩, Nat.le_of_ble_eq_true rfl, Nat.le_of_ble_eq_true rfl⟩ rfl rfl (Nat.le_of_ble_eq_true rfl) dX6_best_118 rfl ?_
          refine wg_drop (lv' := [none, none, none, none, none, none, none, none]) [0, 2, 3, 4, 5] rfl ?_
          exact sjX6_best_121 X C cn bk st r0 r1 r2 r3 r4 li fo tx (t13.2.2.1.1, (upd t13.2.2.1.2.1 ((5 : Int32)).toNatClampNeg (co.2.1 ((5 : Int32)).toNatClampNeg)), t13.2.2.1.2.2) ke rf t13.2.2.2.1 t13.2.2.2.2.1 t13.2.2.2.2.2.1 t13.2.2.2.2.2.2 tm rd q17 _ h hT
        · replace h := ifN c16 h
          refine wg_drop (lv' := [none, none, none, none, some (.int t13.1), none, none, none]) [0, 2, 3, 5] rfl ?_
          exact sjX6_best_111 X C cn bk st r0 r1 r2 r3 r4 li fo tx (t13.2.2.1.1, (upd t13.2.2.1.2.1 ((5 : Int32)).toNatClampNeg (co.2.1 ((5 : Int32)).toNatClampNeg)), t13.2.2.1.2.2) ke rf t13.2.2.2.1 t13.2.2.2.2.1 t13.2.2.2.2.2.1 t13.2.2.2.2.2.2 tm rd t13.1 _ h hT
    · replace h := ifN c5 h
      refine wg_drop (lv' := [some (.ref 36), none, none, none, none, none, none, none]) [1, 2] rfl ?_
      exact sjX6_best_16 X C cn bk st r0 r1 r2 r3 r4 li fo tx co ke rf cp lk fl em tm rd  _ h hT
abbrev rX6_spare : Room := { frames := 6, cells := 0, slots := 0, locals := 145 }
theorem iwX6_spare_6 : ∀ w ∈ wsX60, w ∈ wsX6_spare := by decide +kernel
theorem fgX6_spare_13 : FG wsX6_spare RX6 13 6 2 := ⟨RX6, TX6, 21, rfl, by decide, by decide +kernel, iwX6_spare_6⟩
theorem fgX6_spare_157 : FG wsX6_spare RX6 157 6 14 := ⟨RX6, TX6, 21, rfl, by decide, by decide +kernel, iwX6_spare_6⟩
set_option maxRecDepth 100000 in
set_option maxHeartbeats 4000000 in
theorem sjX6_spare_19_83 (X : CX) (C : Ok X RX6 cX6_spare wsX6_spare rX6_spare) (cn : Tcn) (bk : Tbk) (st : Tst) (r0 : Tbk) (r1 : Tbk) (r2 : Tbk) (r3 : Tbk) (r4 : Tbk) (li : Tli) (fo : Tfo) (tx : Ttx) (co : Tco) (ke : Tke) (rf : (Nat → Int32)) (cp : Int32) (lk : Tlk) (fl : Tfl) (em : Int32) (tm : Ttm) (rd : Trd) (x1 : Int32) (x2 : Int32) (x3 : UInt32) (x4 : Int32) (o : (Int32 × UInt32 × Int32 × Tco × Int32 × Tlk × Tfl × Int32) ⊕ (Int32 × Tco × Int32 × Tlk × Tfl × Int32)) (h : jX6_spare_19_83 co rf cp lk fl em x1 x2 x3 x4 = some o) (k0 : ∀ a : Int32 × UInt32 × Int32 × Tco × Int32 × Tlk × Tfl × Int32, o = .inl a → Wg X 19 [some (.ref 36), some (.int x1), some (.int a.1), some (.float a.2.1), some (.int a.2.2.1), none, none] [] (mkH cn bk st r0 r1 r2 r3 r4 li fo tx a.2.2.2.1 ke rf a.2.2.2.2.1 a.2.2.2.2.2.1 a.2.2.2.2.2.2.1 a.2.2.2.2.2.2.2 tm rd)) (e0 : ∀ a : Int32 × Tco × Int32 × Tlk × Tfl × Int32, o = .inr a → Wg X 89 [none, none, some (.int a.1), none, none, none, none] [] (mkH cn bk st r0 r1 r2 r3 r4 li fo tx a.2.1 ke rf a.2.2.1 a.2.2.2.1 a.2.2.2.2.1 a.2.2.2.2.2 tm rd)) : Wg X 83 [some (.ref 36), some (.int x1), some (.int x2), some (.float x3), some (.int x4), none, none] [] (mkH cn bk st r0 r1 r2 r3 r4 li fo tx co ke rf cp lk fl em tm rd) := by
  unfold jX6_spare_19_83 at h
  refine wg_iinc (v := (x4 + (1 : Int32))) (lv' := [some (.ref 36), some (.int x1), some (.int x2), some (.float x3), some (.int (x4 + (1 : Int32))), none, none]) C dX6_spare_83 rfl rfl rfl ?_
  refine wg_goto (tgt := 19) C dX6_spare_86 (by decide) ?_
  have hk := k0 _ (Option.some.inj h).symm
  exact hk
set_option maxRecDepth 100000 in
set_option maxHeartbeats 4000000 in
theorem sjX6_spare_19_77 (X : CX) (C : Ok X RX6 cX6_spare wsX6_spare rX6_spare) (cn : Tcn) (bk : Tbk) (st : Tst) (r0 : Tbk) (r1 : Tbk) (r2 : Tbk) (r3 : Tbk) (r4 : Tbk) (li : Tli) (fo : Tfo) (tx : Ttx) (co : Tco) (ke : Tke) (rf : (Nat → Int32)) (cp : Int32) (lk : Tlk) (fl : Tfl) (em : Int32) (tm : Ttm) (rd : Trd) (x1 : Int32) (x4 : Int32) (x6 : UInt32) (o : (Int32 × UInt32 × Int32 × Tco × Int32 × Tlk × Tfl × Int32) ⊕ (Int32 × Tco × Int32 × Tlk × Tfl × Int32)) (h : jX6_spare_19_77 co rf cp lk fl em x1 x4 x6 = some o) (k0 : ∀ a : Int32 × UInt32 × Int32 × Tco × Int32 × Tlk × Tfl × Int32, o = .inl a → Wg X 19 [some (.ref 36), some (.int x1), some (.int a.1), some (.float a.2.1), some (.int a.2.2.1), none, none] [] (mkH cn bk st r0 r1 r2 r3 r4 li fo tx a.2.2.2.1 ke rf a.2.2.2.2.1 a.2.2.2.2.2.1 a.2.2.2.2.2.2.1 a.2.2.2.2.2.2.2 tm rd)) (e0 : ∀ a : Int32 × Tco × Int32 × Tlk × Tfl × Int32, o = .inr a → Wg X 89 [none, none, some (.int a.1), none, none, none, none] [] (mkH cn bk st r0 r1 r2 r3 r4 li fo tx a.2.1 ke rf a.2.2.1 a.2.2.2.1 a.2.2.2.2.1 a.2.2.2.2.2 tm rd)) : Wg X 77 [some (.ref 36), some (.int x1), none, none, some (.int x4), none, some (.float x6)] [] (mkH cn bk st r0 r1 r2 r3 r4 li fo tx co ke rf cp lk fl em tm rd) := by
  unfold jX6_spare_19_77 at h
  refine wg_iload C dX6_spare_77 rfl ?_
  refine wg_istore_n (lv' := [some (.ref 36), some (.int x1), some (.int x4), none, some (.int x4), none, some (.float x6)]) C dX6_spare_79 (Nat.le_of_ble_eq_true rfl) rfl ?_
  refine wg_fload C dX6_spare_80 rfl ?_
  refine wg_fstore_n (lv' := [some (.ref 36), some (.int x1), some (.int x4), some (.float x6), some (.int x4), none, some (.float x6)]) C dX6_spare_82 (Nat.le_of_ble_eq_true rfl) rfl ?_
  refine wg_drop (lv' := [some (.ref 36), some (.int x1), some (.int x4), some (.float x6), some (.int x4), none, none]) [6] rfl ?_
  exact sjX6_spare_19_83 X C cn bk st r0 r1 r2 r3 r4 li fo tx co ke rf cp lk fl em tm rd x1 x4 x6 x4 _ h k0 e0
set_option maxRecDepth 100000 in
set_option maxHeartbeats 4000000 in
theorem sbX6_spare_19 (X : CX) (C : Ok X RX6 cX6_spare wsX6_spare rX6_spare) (cn : Tcn) (bk : Tbk) (st : Tst) (r0 : Tbk) (r1 : Tbk) (r2 : Tbk) (r3 : Tbk) (r4 : Tbk) (li : Tli) (fo : Tfo) (tx : Ttx) (co : Tco) (ke : Tke) (rf : (Nat → Int32)) (cp : Int32) (lk : Tlk) (fl : Tfl) (em : Int32) (tm : Ttm) (rd : Trd) (x1 : Int32) (z : Int32 × UInt32 × Int32 × Tco × Int32 × Tlk × Tfl × Int32) (o : (Int32 × UInt32 × Int32 × Tco × Int32 × Tlk × Tfl × Int32) ⊕ (Int32 × Tco × Int32 × Tlk × Tfl × Int32)) (h : bX6_spare_19 rf x1 z = some o) (k0 : ∀ a : Int32 × UInt32 × Int32 × Tco × Int32 × Tlk × Tfl × Int32, o = .inl a → Wg X 19 [some (.ref 36), some (.int x1), some (.int a.1), some (.float a.2.1), some (.int a.2.2.1), none, none] [] (mkH cn bk st r0 r1 r2 r3 r4 li fo tx a.2.2.2.1 ke rf a.2.2.2.2.1 a.2.2.2.2.2.1 a.2.2.2.2.2.2.1 a.2.2.2.2.2.2.2 tm rd)) (e0 : ∀ a : Int32 × Tco × Int32 × Tlk × Tfl × Int32, o = .inr a → Wg X 89 [none, none, some (.int a.1), none, none, none, none] [] (mkH cn bk st r0 r1 r2 r3 r4 li fo tx a.2.1 ke rf a.2.2.1 a.2.2.2.1 a.2.2.2.2.1 a.2.2.2.2.2 tm rd)) : Wg X 19 [some (.ref 36), some (.int x1), some (.int z.1), some (.float z.2.1), some (.int z.2.2.1), none, none] [] (mkH cn bk st r0 r1 r2 r3 r4 li fo tx z.2.2.2.1 ke rf z.2.2.2.2.1 z.2.2.2.2.2.1 z.2.2.2.2.2.2.1 z.2.2.2.2.2.2.2 tm rd) := by
  unfold bX6_spare_19 at h
  refine wg_iload C dX6_spare_19 rfl ?_
  refine wg_iconst (v := 4) C dX6_spare_21 (by decide) ?_
  refine wg_icmp_ge (tgt := 89) C dX6_spare_22 (by decide) (fun c3 => ?_) (fun c3 => ?_)
  · replace h := ifP c3 h
    refine wg_drop (lv' := [none, none, some (.int z.1), none, none, none, none]) [0, 1, 3, 4] rfl ?_
    have hk := e0 _ (Option.some.inj h).symm
    exact hk
  · replace h := ifN c3 h
    refine wg_aload_n C dX6_spare_25 rfl ?_
    refine wg_get (v := .ref 38) C fgX6_spare_13 rfl rfl dX6_spare_26 ?_
    refine wg_iload C dX6_spare_29 rfl ?_
    obtain ⟨g4, h⟩ := gdP h
    refine wg_iald (f := z.2.2.2.1.2.1) (n := 6) C rfl g4 dX6_spare_31 ?_
    refine wg_istore (lv' := [some (.ref 36), some (.int x1), some (.int z.1), some (.float z.2.1), some (.int z.2.2.1), some (.int (z.2.2.2.1.2.1 (z.2.2.1).toNatClampNeg)), none]) C dX6_spare_32 (Nat.le_of_ble_eq_true rfl) rfl ?_
    refine wg_aload_n C dX6_spare_34 rfl ?_
    refine wg_get (v := .ref 38) C fgX6_spare_13 rfl rfl dX6_spare_35 ?_
    refine wg_iload C dX6_spare_38 rfl ?_
    refine wg_iconst (v := 0) C dX6_spare_40 (by decide) ?_
    obtain ⟨g5, h⟩ := gdP h
    refine wg_iast (f := z.2.2.2.1.2.1) (n := 6) (hp' := (mkH cn bk st r0 r1 r2 r3 r4 li fo tx (z.2.2.2.1.1, (upd z.2.2.2.1.2.1 (z.2.2.1).toNatClampNeg (0 : Int32)), z.2.2.2.1.2.2) ke rf z.2.2.2.2.1 z.2.2.2.2.2.1 z.2.2.2.2.2.2.1 z.2.2.2.2.2.2.2 tm rd)) C rfl g5 rfl dX6_spare_41 ?_
    refine wg_aload_n C dX6_spare_42 rfl ?_
    refine wg_iload_n C dX6_spare_43 rfl ?_
    obtain ⟨q6, e6q, h⟩ := bnd h
    refine wg_callV (n := 1) (As := [.int x1]) (st := []) (st' := [.float q6.1]) C (sX6_errsOf cn bk st r0 r1 r2 r3 r4 li fo tx (z.2.2.2.1.1, (upd z.2.2.2.1.2.1 (z.2.2.1).toNatClampNeg (0 : Int32)), z.2.2.2.1.2.2) ke rf z.2.2.2.2.1 z.2.2.2.2.2.1 z.2.2.2.2.2.2.1 z.2.2.2.2.2.2.2 tm rd x1 q6 e6q) gX6_spare_X6_errsOf rfl (by decide +kernel) ⟨⟨rfl, rfl⟩, Nat.le_of_ble_eq_true rfl, Nat.le_of_ble_eq_true rfl⟩ rfl rfl rfl rfl (Nat.le_of_ble_eq_true rfl) dX6_spare_44 rfl ?_
    refine wg_fstore (lv' := [some (.ref 36), some (.int x1), some (.int z.1), some (.float z.2.1), some (.int z.2.2.1), some (.int (z.2.2.2.1.2.1 (z.2.2.1).toNatClampNeg)), some (.float q6.1)]) C dX6_spare_47 (Nat.le_of_ble_eq_true rfl) rfl ?_
    refine wg_aload_n C dX6_spare_49 rfl ?_
    refine wg_get (v := .ref 38) C fgX6_spare_13 rfl rfl dX6_spare_50 ?_
    refine wg_iload C dX6_spare_53 rfl ?_
    refine wg_iload C dX6_spare_55 rfl ?_
    obtain ⟨g7, h⟩ := gdP h
    refine wg_iast (f := (upd z.2.2.2.1.2.1 (z.2.2.1).toNatClampNeg (0 : Int32))) (n := 6) (hp' := (mkH cn bk st r0 r1 r2 r3 r4 li fo tx (z.2.2.2.1.1, (upd (upd z.2.2.2.1.2.1 (z.2.2.1).toNatClampNeg (0 : Int32)) (z.2.2.1).toNatClampNeg (z.2.2.2.1.2.1 (z.2.2.1).toNatClampNeg)), z.2.2.2.1.2.2) ke rf q6.2.1 q6.2.2.1 q6.2.2.2.1 q6.2.2.2.2 tm rd)) C rfl g7 rfl dX6_spare_57 ?_
    refine wg_aload_n C dX6_spare_58 rfl ?_
    refine wg_get (v := .int q6.2.2.2.2) C fgX6_spare_157 rfl rfl dX6_spare_59 ?_
    refine wg_if_le (tgt := 83) C dX6_spare_62 (by decide) (fun c8 => ?_) (fun c8 => ?_)
    · replace h := ifP c8 h
      refine wg_drop (lv' := [some (.ref 36), some (.int x1), some (.int z.1), some (.float z.2.1), some (.int z.2.2.1), none, none]) [5, 6] rfl ?_
      exact sjX6_spare_19_83 X C cn bk st r0 r1 r2 r3 r4 li fo tx (z.2.2.2.1.1, (upd (upd z.2.2.2.1.2.1 (z.2.2.1).toNatClampNeg (0 : Int32)) (z.2.2.1).toNatClampNeg (z.2.2.2.1.2.1 (z.2.2.1).toNatClampNeg)), z.2.2.2.1.2.2) ke rf q6.2.1 q6.2.2.1 q6.2.2.2.1 q6.2.2.2.2 tm rd x1 z.1 z.2.1 z.2.2.1 _ h k0 e0
    · replace h := ifN c8 h
      refine wg_iload_n C dX6_spare_65 rfl ?_
      refine wg_iconst (v := -1) C dX6_spare_66 (by decide) ?_
      refine wg_icmp_eq (tgt := 77) C dX6_spare_67 (by decide) (fun c9 => ?_) (fun c9 => ?_)
      · replace h := ifP c9 h
        refine wg_drop (lv' := [some (.ref 36), some (.int x1), none, none, some (.int z.2.2.1), none, some (.float q6.1)]) [2, 3, 5] rfl ?_
        exact sjX6_spare_19_77 X C cn bk st r0 r1 r2 r3 r4 li fo tx (z.2.2.2.1.1, (upd (upd z.2.2.2.1.2.1 (z.2.2.1).toNatClampNeg (0 : Int32)) (z.2.2.1).toNatClampNeg (z.2.2.2.1.2.1 (z.2.2.1).toNatClampNeg)), z.2.2.2.1.2.2) ke rf q6.2.1 q6.2.2.1 q6.2.2.2.1 q6.2.2.2.2 tm rd x1 z.2.2.1 q6.1 _ h k0 e0
      · replace h := ifN c9 h
        refine wg_fload C dX6_spare_70 rfl ?_
        refine wg_fload_n C dX6_spare_72 rfl ?_
        refine wg_fcmp C dX6_spare_73 ?_
        refine wg_if_ge (tgt := 83) C dX6_spare_74 (by decide) (fun c10 => ?_) (fun c10 => ?_)
        · replace h := ifP c10 h
          refine wg_drop (lv' := [some (.ref 36), some (.int x1), some (.int z.1), some (.float z.2.1), some (.int z.2.2.1), none, none]) [5, 6] rfl ?_
          exact sjX6_spare_19_83 X C cn bk st r0 r1 r2 r3 r4 li fo tx (z.2.2.2.1.1, (upd (upd z.2.2.2.1.2.1 (z.2.2.1).toNatClampNeg (0 : Int32)) (z.2.2.1).toNatClampNeg (z.2.2.2.1.2.1 (z.2.2.1).toNatClampNeg)), z.2.2.2.1.2.2) ke rf q6.2.1 q6.2.2.1 q6.2.2.2.1 q6.2.2.2.2 tm rd x1 z.1 z.2.1 z.2.2.1 _ h k0 e0
        · replace h := ifN c10 h
          refine wg_drop (lv' := [some (.ref 36), some (.int x1), none, none, some (.int z.2.2.1), none, some (.float q6.1)]) [2, 3, 5] rfl ?_
          exact sjX6_spare_19_77 X C cn bk st r0 r1 r2 r3 r4 li fo tx (z.2.2.2.1.1, (upd (upd z.2.2.2.1.2.1 (z.2.2.1).toNatClampNeg (0 : Int32)) (z.2.2.1).toNatClampNeg (z.2.2.2.1.2.1 (z.2.2.1).toNatClampNeg)), z.2.2.2.1.2.2) ke rf q6.2.1 q6.2.2.1 q6.2.2.2.1 q6.2.2.2.2 tm rd x1 z.2.2.1 q6.1 _ h k0 e0
set_option maxRecDepth 100000 in
set_option maxHeartbeats 4000000 in
theorem slX6_spare_19 (X : CX) (C : Ok X RX6 cX6_spare wsX6_spare rX6_spare) (cn : Tcn) (bk : Tbk) (st : Tst) (r0 : Tbk) (r1 : Tbk) (r2 : Tbk) (r3 : Tbk) (r4 : Tbk) (li : Tli) (fo : Tfo) (tx : Ttx) (co : Tco) (ke : Tke) (rf : (Nat → Int32)) (cp : Int32) (lk : Tlk) (fl : Tfl) (em : Int32) (tm : Ttm) (rd : Trd) (x1 : Int32) (o : (Int32 × Tco × Int32 × Tlk × Tfl × Int32)) (e0 : ∀ a : Int32 × Tco × Int32 × Tlk × Tfl × Int32, o = a → Wg X 89 [none, none, some (.int a.1), none, none, none, none] [] (mkH cn bk st r0 r1 r2 r3 r4 li fo tx a.2.1 ke rf a.2.2.1 a.2.2.2.1 a.2.2.2.2.1 a.2.2.2.2.2 tm rd)) : ∀ (n : Nat) (z : Int32 × UInt32 × Int32 × Tco × Int32 × Tlk × Tfl × Int32), lpF (bX6_spare_19 rf x1) n z = some o → Wg X 19 [some (.ref 36), some (.int x1), some (.int z.1), some (.float z.2.1), some (.int z.2.2.1), none, none] [] (mkH cn bk st r0 r1 r2 r3 r4 li fo tx z.2.2.2.1 ke rf z.2.2.2.2.1 z.2.2.2.2.2.1 z.2.2.2.2.2.2.1 z.2.2.2.2.2.2.2 tm rd) := by
  intro n
  induction n with
  | zero => intro z h; cases h
  | succ n ih =>
    intro z h
    obtain ⟨r, hB, h⟩ := bnd h
    refine sbX6_spare_19 X C cn bk st r0 r1 r2 r3 r4 li fo tx co ke rf cp lk fl em tm rd x1 z r hB (fun a e => ih a (by subst e; exact h)) (fun a e => e0 a (by subst e; exact (Option.some.inj h).symm))
set_option maxRecDepth 100000 in
set_option maxHeartbeats 4000000 in
theorem sX6_spare (cn : Tcn) (bk : Tbk) (st : Tst) (r0 : Tbk) (r1 : Tbk) (r2 : Tbk) (r3 : Tbk) (r4 : Tbk) (li : Tli) (fo : Tfo) (tx : Ttx) (co : Tco) (ke : Tke) (rf : (Nat → Int32)) (cp : Int32) (lk : Tlk) (fl : Tfl) (em : Int32) (tm : Ttm) (rd : Trd) (x1 : Int32) (o : Int32 × Tco × (Nat → Int32) × Int32 × Tlk × Tfl × Int32) (h : fX6_spare co rf cp lk fl em x1 = some o) : Sp yX6_spare wsX6_spare rX6_spare [.ref 36, .int x1] (mkH cn bk st r0 r1 r2 r3 r4 li fo tx co ke rf cp lk fl em tm rd) (some (.int o.1)) (mkH cn bk st r0 r1 r2 r3 r4 li fo tx o.2.1 ke o.2.2.1 o.2.2.2.1 o.2.2.2.2.1 o.2.2.2.2.2.1 o.2.2.2.2.2.2 tm rd) := by
  refine Sp.of (lv := [some (.ref 36), some (.int x1), none, none, none, none, none]) RX6 (by decide +kernel) rfl (Nat.le_of_ble_eq_true rfl) rfl ?_
  intro X C hT
  unfold fX6_spare at h
  refine wg_iload_n C dX6_spare_0 rfl ?_
  obtain ⟨q1, e1q, h⟩ := bnd h
  refine wg_callT (n := 1) (As := [.int x1]) (st := []) (st' := [.int q1]) C (sX6_isMember cn bk st r0 r1 r2 r3 r4 li fo tx co ke rf cp lk fl em tm rd x1 q1 e1q) gX6_spare_X6_isMember rfl (by decide +kernel) ⟨⟨rfl, rfl⟩, Nat.le_of_ble_eq_true rfl, Nat.le_of_ble_eq_true rfl⟩ rfl rfl (Nat.le_of_ble_eq_true rfl) dX6_spare_1 rfl ?_
  refine wg_if_ne (tgt := 12) C dX6_spare_4 (by decide) (fun c2 => ?_) (fun c2 => ?_)
  · replace h := ifP c2 h
    refine wg_iconst (v := -1) C dX6_spare_12 (by decide) ?_
    refine wg_istore_n (lv' := [some (.ref 36), some (.int x1), some (.int (-1 : Int32)), none, none, none, none]) C dX6_spare_13 (Nat.le_of_ble_eq_true rfl) rfl ?_
    refine wg_fconst0 C dX6_spare_14 ?_
    refine wg_fstore_n (lv' := [some (.ref 36), some (.int x1), some (.int (-1 : Int32)), some (.float FP.fconst0), none, none, none]) C dX6_spare_15 (Nat.le_of_ble_eq_true rfl) rfl ?_
    refine wg_iconst (v := 0) C dX6_spare_16 (by decide) ?_
    refine wg_istore (lv' := [some (.ref 36), some (.int x1), some (.int (-1 : Int32)), some (.float FP.fconst0), some (.int (0 : Int32)), none, none]) C dX6_spare_17 (Nat.le_of_ble_eq_true rfl) rfl ?_
    obtain ⟨t11, hL11, h⟩ := bnd h
    refine slX6_spare_19 X C cn bk st r0 r1 r2 r3 r4 li fo tx co ke rf cp lk fl em tm rd x1 t11 (fun a e => ?_) FU ((-1 : Int32), FP.fconst0, (0 : Int32), co, cp, lk, fl, em) hL11
    subst e
    refine wg_iload_n C dX6_spare_89 rfl ?_
    obtain rfl := Option.some.inj h
    exact wg_iret C hT dX6_spare_90
  · replace h := ifN c2 h
    refine wg_aload_n C dX6_spare_7 rfl ?_
    obtain ⟨q12, e12q, h⟩ := bnd h
    refine wg_callV (n := 0) (As := []) (st := []) (st' := [.int q12.1]) C (sX6_bad cn bk st r0 r1 r2 r3 r4 li fo tx co ke rf cp lk fl em tm rd  q12 e12q) gX6_spare_X6_bad rfl (by decide +kernel) ⟨⟨rfl, rfl⟩, Nat.le_of_ble_eq_true rfl, Nat.le_of_ble_eq_true rfl⟩ rfl rfl rfl rfl (Nat.le_of_ble_eq_true rfl) dX6_spare_8 rfl ?_
    obtain rfl := Option.some.inj h
    exact wg_iret C hT dX6_spare_11
abbrev rX6_type : Room := { frames := 1, cells := 0, slots := 0, locals := 22 }
theorem iwX6_type_6 : ∀ w ∈ wsX60, w ∈ wsX6_type := by decide +kernel
theorem fgX6_type_38 : FG wsX6_type RX6 38 6 15 := ⟨RX6, TX6, 21, rfl, by decide, by decide +kernel, iwX6_type_6⟩
theorem fgX6_type_166 : FG wsX6_type RX6 166 6 16 := ⟨RX6, TX6, 21, rfl, by decide, by decide +kernel, iwX6_type_6⟩
theorem fwX6_type_166 : FW wsX6_type RX6 166 6 16 .int := ⟨RX6, TX6, 21, tyX6, rfl, by decide, by decide +kernel, iwX6_type_6, tyX6_ok, nmX6, rfl, by decide +kernel⟩
set_option maxRecDepth 100000 in
set_option maxHeartbeats 4000000 in
theorem sX6_type (cn : Tcn) (bk : Tbk) (st : Tst) (r0 : Tbk) (r1 : Tbk) (r2 : Tbk) (r3 : Tbk) (r4 : Tbk) (li : Tli) (fo : Tfo) (tx : Ttx) (co : Tco) (ke : Tke) (rf : (Nat → Int32)) (cp : Int32) (lk : Tlk) (fl : Tfl) (em : Int32) (tm : Ttm) (rd : Trd) (x1 : Int32) (o : Int32 × (Nat → Int32) × Ttm) (h : fX6_type rf tm x1 = some o) : Sp yX6_type wsX6_type rX6_type [.ref 36, .int x1] (mkH cn bk st r0 r1 r2 r3 r4 li fo tx co ke rf cp lk fl em tm rd) (some (.int o.1)) (mkH cn bk st r0 r1 r2 r3 r4 li fo tx co ke o.2.1 cp lk fl em o.2.2 rd) := by
  refine Sp.of (lv := [some (.ref 36), some (.int x1)]) RX6 (by decide +kernel) rfl (Nat.le_of_ble_eq_true rfl) rfl ?_
  intro X C hT
  unfold fX6_type at h
  refine wg_iload_n C dX6_type_0 rfl ?_
  refine wg_iconst (v := 0) C dX6_type_1 (by decide) ?_
  refine wg_bipush (v := 127) C dX6_type_2 (by decide) ?_
  obtain ⟨q1, e1q, h⟩ := bnd h
  refine wg_callT (n := 3) (As := [.int x1, .int (0 : Int32), .int (127 : Int32)]) (st := []) (st' := [.int q1]) C (sX6_in cn bk st r0 r1 r2 r3 r4 li fo tx co ke rf cp lk fl em tm rd x1 (0 : Int32) (127 : Int32) q1 e1q) gX6_type_X6_in rfl (by decide +kernel) ⟨⟨rfl, rfl⟩, Nat.le_of_ble_eq_true rfl, Nat.le_of_ble_eq_true rfl⟩ rfl rfl (Nat.le_of_ble_eq_true rfl) dX6_type_4 rfl ?_
  refine wg_if_ne (tgt := 15) C dX6_type_7 (by decide) (fun c2 => ?_) (fun c2 => ?_)
  · replace h := ifP c2 h
    refine wg_aload_n C dX6_type_15 rfl ?_
    refine wg_get (v := .int tm.2) C fgX6_type_166 rfl rfl dX6_type_16 ?_
    refine wg_bipush (v := 120) C dX6_type_19 (by decide) ?_
    refine wg_icmp_ne (tgt := 29) C dX6_type_21 (by decide) (fun c3 => ?_) (fun c3 => ?_)
    · replace h := ifP c3 h
      refine wg_aload_n C dX6_type_29 rfl ?_
      refine wg_get (v := .ref 46) C fgX6_type_38 rfl rfl dX6_type_30 ?_
      refine wg_aload_n C dX6_type_33 rfl ?_
      refine wg_get (v := .int tm.2) C fgX6_type_166 rfl rfl dX6_type_34 ?_
      refine wg_iload_n C dX6_type_37 rfl ?_
      obtain ⟨g4, h⟩ := gdP h
      refine wg_iast (f := tm.1) (n := 120) (hp' := (mkH cn bk st r0 r1 r2 r3 r4 li fo tx co ke rf cp lk fl em ((upd tm.1 (tm.2).toNatClampNeg x1), tm.2) rd)) C rfl g4 rfl dX6_type_38 ?_
      refine wg_aload_n C dX6_type_39 rfl ?_
      refine wg_dup C dX6_type_40 rfl ?_
      refine wg_get (v := .int tm.2) C fgX6_type_166 rfl rfl dX6_type_41 ?_
      refine wg_iconst (v := 1) C dX6_type_44 (by decide) ?_
      refine wg_iadd C dX6_type_45 ?_
      refine wg_put (hp' := (mkH cn bk st r0 r1 r2 r3 r4 li fo tx co ke rf cp lk fl em ((upd tm.1 (tm.2).toNatClampNeg x1), (tm.2 + (1 : Int32))) rd)) C fwX6_type_166 rfl (Nat.le_of_ble_eq_true rfl) rfl rfl rfl dX6_type_46 ?_
      refine wg_aload_n C dX6_type_49 rfl ?_
      refine wg_get (v := .int (tm.2 + (1 : Int32))) C fgX6_type_166 rfl rfl dX6_type_50 ?_
      obtain rfl := Option.some.inj h
      exact wg_iret C hT dX6_type_53
    · replace h := ifN c3 h
      refine wg_aload_n C dX6_type_24 rfl ?_
      obtain ⟨q5, e5q, h⟩ := bnd h
      refine wg_callV (n := 0) (As := []) (st := []) (st' := [.int q5.1]) C (sX6_full cn bk st r0 r1 r2 r3 r4 li fo tx co ke rf cp lk fl em tm rd  q5 e5q) gX6_type_X6_full rfl (by decide +kernel) ⟨⟨rfl, rfl⟩, Nat.le_of_ble_eq_true rfl, Nat.le_of_ble_eq_true rfl⟩ rfl rfl rfl rfl (Nat.le_of_ble_eq_true rfl) dX6_type_25 rfl ?_
      obtain rfl := Option.some.inj h
      exact wg_iret C hT dX6_type_28
  · replace h := ifN c2 h
    refine wg_aload_n C dX6_type_10 rfl ?_
    obtain ⟨q6, e6q, h⟩ := bnd h
    refine wg_callV (n := 0) (As := []) (st := []) (st' := [.int q6.1]) C (sX6_bad cn bk st r0 r1 r2 r3 r4 li fo tx co ke rf cp lk fl em tm rd  q6 e6q) gX6_type_X6_bad rfl (by decide +kernel) ⟨⟨rfl, rfl⟩, Nat.le_of_ble_eq_true rfl, Nat.le_of_ble_eq_true rfl⟩ rfl rfl rfl rfl (Nat.le_of_ble_eq_true rfl) dX6_type_11 rfl ?_
    obtain rfl := Option.some.inj h
    exact wg_iret C hT dX6_type_14
abbrev rX6_clear : Room := { frames := 0, cells := 0, slots := 0, locals := 0 }
theorem iwX6_clear_6 : ∀ w ∈ wsX60, w ∈ wsX6_clear := by decide +kernel
theorem fgX6_clear_166 : FG wsX6_clear RX6 166 6 16 := ⟨RX6, TX6, 21, rfl, by decide, by decide +kernel, iwX6_clear_6⟩
theorem fwX6_clear_166 : FW wsX6_clear RX6 166 6 16 .int := ⟨RX6, TX6, 21, tyX6, rfl, by decide, by decide +kernel, iwX6_clear_6, tyX6_ok, nmX6, rfl, by decide +kernel⟩
set_option maxRecDepth 100000 in
set_option maxHeartbeats 4000000 in
theorem sX6_clear (cn : Tcn) (bk : Tbk) (st : Tst) (r0 : Tbk) (r1 : Tbk) (r2 : Tbk) (r3 : Tbk) (r4 : Tbk) (li : Tli) (fo : Tfo) (tx : Ttx) (co : Tco) (ke : Tke) (rf : (Nat → Int32)) (cp : Int32) (lk : Tlk) (fl : Tfl) (em : Int32) (tm : Ttm) (rd : Trd)  (o : Int32 × Ttm) (h : fX6_clear tm  = some o) : Sp yX6_clear wsX6_clear rX6_clear [.ref 36] (mkH cn bk st r0 r1 r2 r3 r4 li fo tx co ke rf cp lk fl em tm rd) (some (.int o.1)) (mkH cn bk st r0 r1 r2 r3 r4 li fo tx co ke rf cp lk fl em o.2 rd) := by
  refine Sp.of (lv := [some (.ref 36), none]) RX6 (by decide +kernel) rfl (Nat.le_of_ble_eq_true rfl) rfl ?_
  intro X C hT
  unfold fX6_clear at h
  refine wg_aload_n C dX6_clear_0 rfl ?_
  refine wg_get (v := .int tm.2) C fgX6_clear_166 rfl rfl dX6_clear_1 ?_
  refine wg_istore_n (lv' := [some (.ref 36), some (.int tm.2)]) C dX6_clear_4 (Nat.le_of_ble_eq_true rfl) rfl ?_
  refine wg_aload_n C dX6_clear_5 rfl ?_
  refine wg_iconst (v := 0) C dX6_clear_6 (by decide) ?_
  refine wg_put (hp' := (mkH cn bk st r0 r1 r2 r3 r4 li fo tx co ke rf cp lk fl em (tm.1, (0 : Int32)) rd)) C fwX6_clear_166 rfl (Nat.le_of_ble_eq_true rfl) rfl rfl rfl dX6_clear_7 ?_
  refine wg_iload_n C dX6_clear_10 rfl ?_
  obtain rfl := Option.some.inj h
  exact wg_iret C hT dX6_clear_11
abbrev rX6_here : Room := { frames := 0, cells := 0, slots := 0, locals := 0 }
theorem iwX6_here_6 : ∀ w ∈ wsX60, w ∈ wsX6_here := by decide +kernel
theorem fgX6_here_38 : FG wsX6_here RX6 38 6 15 := ⟨RX6, TX6, 21, rfl, by decide, by decide +kernel, iwX6_here_6⟩
theorem fgX6_here_166 : FG wsX6_here RX6 166 6 16 := ⟨RX6, TX6, 21, rfl, by decide, by decide +kernel, iwX6_here_6⟩
theorem fgX6_here_169 : FG wsX6_here RX6 169 6 17 := ⟨RX6, TX6, 21, rfl, by decide, by decide +kernel, iwX6_here_6⟩
set_option maxRecDepth 100000 in
set_option maxHeartbeats 4000000 in
theorem sjX6_here_24 (X : CX) (C : Ok X RX6 cX6_here wsX6_here rX6_here) (cn : Tcn) (bk : Tbk) (st : Tst) (r0 : Tbk) (r1 : Tbk) (r2 : Tbk) (r3 : Tbk) (r4 : Tbk) (li : Tli) (fo : Tfo) (tx : Ttx) (co : Tco) (ke : Tke) (rf : (Nat → Int32)) (cp : Int32) (lk : Tlk) (fl : Tfl) (em : Int32) (tm : Ttm) (rd : Trd) (y0 : Int32) (o : Int32) (h : jX6_here_24 tm rd y0 = some o) (hT : Rt X (some .int) (some (.int o)) (mkH cn bk st r0 r1 r2 r3 r4 li fo tx co ke rf cp lk fl em tm rd)) : Wg X 24 [none] [.int y0] (mkH cn bk st r0 r1 r2 r3 r4 li fo tx co ke rf cp lk fl em tm rd) := by
  unfold jX6_here_24 at h
  obtain rfl := Option.some.inj h
  exact wg_iret C hT dX6_here_24
set_option maxRecDepth 100000 in
set_option maxHeartbeats 4000000 in
theorem sX6_here (cn : Tcn) (bk : Tbk) (st : Tst) (r0 : Tbk) (r1 : Tbk) (r2 : Tbk) (r3 : Tbk) (r4 : Tbk) (li : Tli) (fo : Tfo) (tx : Ttx) (co : Tco) (ke : Tke) (rf : (Nat → Int32)) (cp : Int32) (lk : Tlk) (fl : Tfl) (em : Int32) (tm : Ttm) (rd : Trd)  (o : Int32) (h : fX6_here tm rd  = some o) : Sp yX6_here wsX6_here rX6_here [.ref 36] (mkH cn bk st r0 r1 r2 r3 r4 li fo tx co ke rf cp lk fl em tm rd) (some (.int o)) (mkH cn bk st r0 r1 r2 r3 r4 li fo tx co ke rf cp lk fl em tm rd) := by
  refine Sp.of (lv := [some (.ref 36)]) RX6 (by decide +kernel) rfl (Nat.le_of_ble_eq_true rfl) rfl ?_
  intro X C hT
  unfold fX6_here at h
  refine wg_aload_n C dX6_here_0 rfl ?_
  refine wg_get (v := .int rd.1) C fgX6_here_169 rfl rfl dX6_here_1 ?_
  refine wg_aload_n C dX6_here_4 rfl ?_
  refine wg_get (v := .int tm.2) C fgX6_here_166 rfl rfl dX6_here_5 ?_
  refine wg_icmp_ge (tgt := 23) C dX6_here_8 (by decide) (fun c1 => ?_) (fun c1 => ?_)
  · replace h := ifP c1 h
    refine wg_iconst (v := -1) C dX6_here_23 (by decide) ?_
    refine wg_drop (lv' := [none]) [0] rfl ?_
    exact sjX6_here_24 X C cn bk st r0 r1 r2 r3 r4 li fo tx co ke rf cp lk fl em tm rd (-1 : Int32) _ h hT
  · replace h := ifN c1 h
    refine wg_aload_n C dX6_here_11 rfl ?_
    refine wg_get (v := .ref 46) C fgX6_here_38 rfl rfl dX6_here_12 ?_
    refine wg_aload_n C dX6_here_15 rfl ?_
    refine wg_get (v := .int rd.1) C fgX6_here_169 rfl rfl dX6_here_16 ?_
    obtain ⟨g2, h⟩ := gdP h
    refine wg_iald (f := tm.1) (n := 120) C rfl g2 dX6_here_19 ?_
    refine wg_goto (tgt := 24) C dX6_here_20 (by decide) ?_
    refine wg_drop (lv' := [none]) [0] rfl ?_
    exact sjX6_here_24 X C cn bk st r0 r1 r2 r3 r4 li fo tx co ke rf cp lk fl em tm rd (tm.1 (rd.1).toNatClampNeg) _ h hT
abbrev rX6_skips : Room := { frames := 1, cells := 0, slots := 0, locals := 20 }
theorem iwX6_skips_6 : ∀ w ∈ wsX60, w ∈ wsX6_skips := by decide +kernel
theorem fgX6_skips_169 : FG wsX6_skips RX6 169 6 17 := ⟨RX6, TX6, 21, rfl, by decide, by decide +kernel, iwX6_skips_6⟩
theorem fwX6_skips_169 : FW wsX6_skips RX6 169 6 17 .int := ⟨RX6, TX6, 21, tyX6, rfl, by decide, by decide +kernel, iwX6_skips_6, tyX6_ok, nmX6, rfl, by decide +kernel⟩
theorem fwX6_skips_175 : FW wsX6_skips RX6 175 6 18 .int := ⟨RX6, TX6, 21, tyX6, rfl, by decide, by decide +kernel, iwX6_skips_6, tyX6_ok, nmX6, rfl, by decide +kernel⟩
set_option maxRecDepth 100000 in
set_option maxHeartbeats 4000000 in
theorem sbX6_skips_0 (X : CX) (C : Ok X RX6 cX6_skips wsX6_skips rX6_skips) (cn : Tcn) (bk : Tbk) (st : Tst) (r0 : Tbk) (r1 : Tbk) (r2 : Tbk) (r3 : Tbk) (r4 : Tbk) (li : Tli) (fo : Tfo) (tx : Ttx) (co : Tco) (ke : Tke) (rf : (Nat → Int32)) (cp : Int32) (lk : Tlk) (fl : Tfl) (em : Int32) (tm : Ttm) (rd : Trd)  (z : Trd) (o : (Trd) ⊕ Trd) (h : bX6_skips_0 tm  z = some o) (k0 : ∀ a : Trd, o = .inl a → Wg X 0 [some (.ref 36)] [] (mkH cn bk st r0 r1 r2 r3 r4 li fo tx co ke rf cp lk fl em tm a)) (e0 : ∀ a : Trd, o = .inr a → Wg X 22 [some (.ref 36)] [] (mkH cn bk st r0 r1 r2 r3 r4 li fo tx co ke rf cp lk fl em tm a)) : Wg X 0 [some (.ref 36)] [] (mkH cn bk st r0 r1 r2 r3 r4 li fo tx co ke rf cp lk fl em tm z) := by
  unfold bX6_skips_0 at h
  refine wg_aload_n C dX6_skips_0 rfl ?_
  obtain ⟨q3, e3q, h⟩ := bnd h
  refine wg_callV (n := 0) (As := []) (st := []) (st' := [.int q3]) C (sX6_here cn bk st r0 r1 r2 r3 r4 li fo tx co ke rf cp lk fl em tm z  q3 e3q) gX6_skips_X6_here rfl (by decide +kernel) ⟨⟨rfl, rfl⟩, Nat.le_of_ble_eq_true rfl, Nat.le_of_ble_eq_true rfl⟩ rfl rfl rfl rfl (Nat.le_of_ble_eq_true rfl) dX6_skips_1 rfl ?_
  refine wg_bipush (v := 32) C dX6_skips_4 (by decide) ?_
  refine wg_icmp_ne (tgt := 22) C dX6_skips_6 (by decide) (fun c4 => ?_) (fun c4 => ?_)
  · replace h := ifP c4 h
    have hk := e0 _ (Option.some.inj h).symm
    exact hk
  · replace h := ifN c4 h
    refine wg_aload_n C dX6_skips_9 rfl ?_
    refine wg_dup C dX6_skips_10 rfl ?_
    refine wg_get (v := .int z.1) C fgX6_skips_169 rfl rfl dX6_skips_11 ?_
    refine wg_iconst (v := 1) C dX6_skips_14 (by decide) ?_
    refine wg_iadd C dX6_skips_15 ?_
    refine wg_put (hp' := (mkH cn bk st r0 r1 r2 r3 r4 li fo tx co ke rf cp lk fl em tm ((z.1 + (1 : Int32)), z.2.1, z.2.2.1, z.2.2.2))) C fwX6_skips_169 rfl (Nat.le_of_ble_eq_true rfl) rfl rfl rfl dX6_skips_16 ?_
    refine wg_goto (tgt := 0) C dX6_skips_19 (by decide) ?_
    have hk := k0 _ (Option.some.inj h).symm
    exact hk
set_option maxRecDepth 100000 in
set_option maxHeartbeats 4000000 in
theorem slX6_skips_0 (X : CX) (C : Ok X RX6 cX6_skips wsX6_skips rX6_skips) (cn : Tcn) (bk : Tbk) (st : Tst) (r0 : Tbk) (r1 : Tbk) (r2 : Tbk) (r3 : Tbk) (r4 : Tbk) (li : Tli) (fo : Tfo) (tx : Ttx) (co : Tco) (ke : Tke) (rf : (Nat → Int32)) (cp : Int32) (lk : Tlk) (fl : Tfl) (em : Int32) (tm : Ttm) (rd : Trd)  (o : Trd) (e0 : ∀ a : Trd, o = a → Wg X 22 [some (.ref 36)] [] (mkH cn bk st r0 r1 r2 r3 r4 li fo tx co ke rf cp lk fl em tm a)) : ∀ (n : Nat) (z : Trd), lpF (bX6_skips_0 tm ) n z = some o → Wg X 0 [some (.ref 36)] [] (mkH cn bk st r0 r1 r2 r3 r4 li fo tx co ke rf cp lk fl em tm z) := by
  intro n
  induction n with
  | zero => intro z h; cases h
  | succ n ih =>
    intro z h
    obtain ⟨r, hB, h⟩ := bnd h
    refine sbX6_skips_0 X C cn bk st r0 r1 r2 r3 r4 li fo tx co ke rf cp lk fl em tm rd  z r hB (fun a e => ih a (by subst e; exact h)) (fun a e => e0 a (by subst e; exact (Option.some.inj h).symm))
set_option maxRecDepth 100000 in
set_option maxHeartbeats 4000000 in
theorem sX6_skips (cn : Tcn) (bk : Tbk) (st : Tst) (r0 : Tbk) (r1 : Tbk) (r2 : Tbk) (r3 : Tbk) (r4 : Tbk) (li : Tli) (fo : Tfo) (tx : Ttx) (co : Tco) (ke : Tke) (rf : (Nat → Int32)) (cp : Int32) (lk : Tlk) (fl : Tfl) (em : Int32) (tm : Ttm) (rd : Trd)  (o : Trd) (h : fX6_skips tm rd  = some o) : Sp yX6_skips wsX6_skips rX6_skips [.ref 36] (mkH cn bk st r0 r1 r2 r3 r4 li fo tx co ke rf cp lk fl em tm rd) none (mkH cn bk st r0 r1 r2 r3 r4 li fo tx co ke rf cp lk fl em tm o) := by
  refine Sp.of (lv := [some (.ref 36)]) RX6 (by decide +kernel) rfl (Nat.le_of_ble_eq_true rfl) rfl ?_
  intro X C hT
  unfold fX6_skips at h
  refine wg_aload_n C dX6_skips_0 rfl ?_
  obtain ⟨q1, e1q, h⟩ := bnd h
  refine wg_callV (n := 0) (As := []) (st := []) (st' := [.int q1]) C (sX6_here cn bk st r0 r1 r2 r3 r4 li fo tx co ke rf cp lk fl em tm rd  q1 e1q) gX6_skips_X6_here rfl (by decide +kernel) ⟨⟨rfl, rfl⟩, Nat.le_of_ble_eq_true rfl, Nat.le_of_ble_eq_true rfl⟩ rfl rfl rfl rfl (Nat.le_of_ble_eq_true rfl) dX6_skips_1 rfl ?_
  refine wg_bipush (v := 32) C dX6_skips_4 (by decide) ?_
  refine wg_icmp_ne (tgt := 22) C dX6_skips_6 (by decide) (fun c2 => ?_) (fun c2 => ?_)
  · replace h := ifP c2 h
    refine wg_aload_n C dX6_skips_22 rfl ?_
    refine wg_aload_n C dX6_skips_23 rfl ?_
    refine wg_get (v := .int rd.1) C fgX6_skips_169 rfl rfl dX6_skips_24 ?_
    refine wg_put (hp' := (mkH cn bk st r0 r1 r2 r3 r4 li fo tx co ke rf cp lk fl em tm (rd.1, rd.1, rd.2.2.1, rd.2.2.2))) C fwX6_skips_175 rfl (Nat.le_of_ble_eq_true rfl) rfl rfl rfl dX6_skips_27 ?_
    obtain rfl := Option.some.inj h
    exact wg_vret C hT dX6_skips_30
  · replace h := ifN c2 h
    refine wg_aload_n C dX6_skips_9 rfl ?_
    refine wg_dup C dX6_skips_10 rfl ?_
    refine wg_get (v := .int rd.1) C fgX6_skips_169 rfl rfl dX6_skips_11 ?_
    refine wg_iconst (v := 1) C dX6_skips_14 (by decide) ?_
    refine wg_iadd C dX6_skips_15 ?_
    refine wg_put (hp' := (mkH cn bk st r0 r1 r2 r3 r4 li fo tx co ke rf cp lk fl em tm ((rd.1 + (1 : Int32)), rd.2.1, rd.2.2.1, rd.2.2.2))) C fwX6_skips_169 rfl (Nat.le_of_ble_eq_true rfl) rfl rfl rfl dX6_skips_16 ?_
    refine wg_goto (tgt := 0) C dX6_skips_19 (by decide) ?_
    obtain ⟨t5, hL5, h⟩ := bnd h
    refine slX6_skips_0 X C cn bk st r0 r1 r2 r3 r4 li fo tx co ke rf cp lk fl em tm ((rd.1 + (1 : Int32)), rd.2.1, rd.2.2.1, rd.2.2.2)  t5 (fun a e => ?_) FU ((rd.1 + (1 : Int32)), rd.2.1, rd.2.2.1, rd.2.2.2) hL5
    subst e
    refine wg_aload_n C dX6_skips_22 rfl ?_
    refine wg_aload_n C dX6_skips_23 rfl ?_
    refine wg_get (v := .int t5.1) C fgX6_skips_169 rfl rfl dX6_skips_24 ?_
    refine wg_put (hp' := (mkH cn bk st r0 r1 r2 r3 r4 li fo tx co ke rf cp lk fl em tm (t5.1, t5.1, t5.2.2.1, t5.2.2.2))) C fwX6_skips_175 rfl (Nat.le_of_ble_eq_true rfl) rfl rfl rfl dX6_skips_27 ?_
    obtain rfl := Option.some.inj h
    exact wg_vret C hT dX6_skips_30
abbrev rX6_readsMember : Room := { frames := 2, cells := 0, slots := 0, locals := 40 }
theorem iwX6_readsMember_6 : ∀ w ∈ wsX60, w ∈ wsX6_readsMember := by decide +kernel
theorem fgX6_readsMember_41 : FG wsX6_readsMember RX6 41 6 20 := ⟨RX6, TX6, 21, rfl, by decide, by decide +kernel, iwX6_readsMember_6⟩
theorem fgX6_readsMember_169 : FG wsX6_readsMember RX6 169 6 17 := ⟨RX6, TX6, 21, rfl, by decide, by decide +kernel, iwX6_readsMember_6⟩
theorem fwX6_readsMember_169 : FW wsX6_readsMember RX6 169 6 17 .int := ⟨RX6, TX6, 21, tyX6, rfl, by decide, by decide +kernel, iwX6_readsMember_6, tyX6_ok, nmX6, rfl, by decide +kernel⟩
set_option maxRecDepth 100000 in
set_option maxHeartbeats 4000000 in
theorem sjX6_readsMember_72_109 (X : CX) (C : Ok X RX6 cX6_readsMember wsX6_readsMember rX6_readsMember) (cn : Tcn) (bk : Tbk) (st : Tst) (r0 : Tbk) (r1 : Tbk) (r2 : Tbk) (r3 : Tbk) (r4 : Tbk) (li : Tli) (fo : Tfo) (tx : Ttx) (co : Tco) (ke : Tke) (rf : (Nat → Int32)) (cp : Int32) (lk : Tlk) (fl : Tfl) (em : Int32) (tm : Ttm) (rd : Trd) (x1 : Int32) (x2 : Int32) (x3 : Int32) (y0 : Int32) (o : (Int32 × Int32 × Trd) ⊕ (Int32 × Int32 × Trd)) (h : jX6_readsMember_72_109 tm rd x1 x2 x3 y0 = some o) (k0 : ∀ a : Int32 × Int32 × Trd, o = .inl a → Wg X 72 [some (.ref 36), some (.int x1), some (.int x2), some (.int a.1), some (.int a.2.1)] [] (mkH cn bk st r0 r1 r2 r3 r4 li fo tx co ke rf cp lk fl em tm a.2.2)) (e0 : ∀ a : Int32 × Int32 × Trd, o = .inr a → Wg X 127 [some (.ref 36), some (.int x1), some (.int x2), some (.int a.1), some (.int a.2.1)] [] (mkH cn bk st r0 r1 r2 r3 r4 li fo tx co ke rf cp lk fl em tm a.2.2)) : Wg X 109 [some (.ref 36), some (.int x1), some (.int x2), some (.int x3), none] [.int y0] (mkH cn bk st r0 r1 r2 r3 r4 li fo tx co ke rf cp lk fl em tm rd) := by
  unfold jX6_readsMember_72_109 at h
  refine wg_istore (lv' := [some (.ref 36), some (.int x1), some (.int x2), some (.int x3), some (.int y0)]) C dX6_readsMember_109 (Nat.le_of_ble_eq_true rfl) rfl ?_
  refine wg_iinc (v := (x3 + (1 : Int32))) (lv' := [some (.ref 36), some (.int x1), some (.int x2), some (.int (x3 + (1 : Int32))), some (.int y0)]) C dX6_readsMember_111 rfl rfl rfl ?_
  refine wg_aload_n C dX6_readsMember_114 rfl ?_
  refine wg_dup C dX6_readsMember_115 rfl ?_
  refine wg_get (v := .int rd.1) C fgX6_readsMember_169 rfl rfl dX6_readsMember_116 ?_
  refine wg_iconst (v := 1) C dX6_readsMember_119 (by decide) ?_
  refine wg_iadd C dX6_readsMember_120 ?_
  refine wg_put (hp' := (mkH cn bk st r0 r1 r2 r3 r4 li fo tx co ke rf cp lk fl em tm ((rd.1 + (1 : Int32)), rd.2.1, rd.2.2.1, rd.2.2.2))) C fwX6_readsMember_169 rfl (Nat.le_of_ble_eq_true rfl) rfl rfl rfl dX6_readsMember_121 ?_
  refine wg_goto (tgt := 72) C dX6_readsMember_124 (by decide) ?_
  have hk := k0 _ (Option.some.inj h).symm
  exact hk
set_option maxRecDepth 100000 in
set_option maxHeartbeats 4000000 in
theorem sbX6_readsMember_72 (X : CX) (C : Ok X RX6 cX6_readsMember wsX6_readsMember rX6_readsMember) (cn : Tcn) (bk : Tbk) (st : Tst) (r0 : Tbk) (r1 : Tbk) (r2 : Tbk) (r3 : Tbk) (r4 : Tbk) (li : Tli) (fo : Tfo) (tx : Ttx) (co : Tco) (ke : Tke) (rf : (Nat → Int32)) (cp : Int32) (lk : Tlk) (fl : Tfl) (em : Int32) (tm : Ttm) (rd : Trd) (x1 : Int32) (x2 : Int32) (z : Int32 × Int32 × Trd) (o : (Int32 × Int32 × Trd) ⊕ (Int32 × Int32 × Trd)) (h : bX6_readsMember_72 tm x1 x2 z = some o) (k0 : ∀ a : Int32 × Int32 × Trd, o = .inl a → Wg X 72 [some (.ref 36), some (.int x1), some (.int x2), some (.int a.1), some (.int a.2.1)] [] (mkH cn bk st r0 r1 r2 r3 r4 li fo tx co ke rf cp lk fl em tm a.2.2)) (e0 : ∀ a : Int32 × Int32 × Trd, o = .inr a → Wg X 127 [some (.ref 36), some (.int x1), some (.int x2), some (.int a.1), some (.int a.2.1)] [] (mkH cn bk st r0 r1 r2 r3 r4 li fo tx co ke rf cp lk fl em tm a.2.2)) : Wg X 72 [some (.ref 36), some (.int x1), some (.int x2), some (.int z.1), some (.int z.2.1)] [] (mkH cn bk st r0 r1 r2 r3 r4 li fo tx co ke rf cp lk fl em tm z.2.2) := by
  unfold bX6_readsMember_72 at h
  refine wg_aload_n C dX6_readsMember_72 rfl ?_
  obtain ⟨q7, e7q, h⟩ := bnd h
  refine wg_callV (n := 0) (As := []) (st := []) (st' := [.int q7]) C (sX6_here cn bk st r0 r1 r2 r3 r4 li fo tx co ke rf cp lk fl em tm z.2.2  q7 e7q) gX6_readsMember_X6_here rfl (by decide +kernel) ⟨⟨rfl, rfl⟩, Nat.le_of_ble_eq_true rfl, Nat.le_of_ble_eq_true rfl⟩ rfl rfl rfl rfl (Nat.le_of_ble_eq_true rfl) dX6_readsMember_73 rfl ?_
  refine wg_bipush (v := 48) C dX6_readsMember_76 (by decide) ?_
  refine wg_bipush (v := 57) C dX6_readsMember_78 (by decide) ?_
  obtain ⟨q8, e8q, h⟩ := bnd h
  refine wg_callT (n := 3) (As := [.int q7, .int (48 : Int32), .int (57 : Int32)]) (st := []) (st' := [.int q8]) C (sX6_in cn bk st r0 r1 r2 r3 r4 li fo tx co ke rf cp lk fl em tm z.2.2 q7 (48 : Int32) (57 : Int32) q8 e8q) gX6_readsMember_X6_in rfl (by decide +kernel) ⟨⟨rfl, rfl⟩, Nat.le_of_ble_eq_true rfl, Nat.le_of_ble_eq_true rfl⟩ rfl rfl (Nat.le_of_ble_eq_true rfl) dX6_readsMember_80 rfl ?_
  refine wg_if_eq (tgt := 127) C dX6_readsMember_83 (by decide) (fun c9 => ?_) (fun c9 => ?_)
  · replace h := ifP c9 h
    have hk := e0 _ (Option.some.inj h).symm
    exact hk
  · replace h := ifN c9 h
    refine wg_iload_n C dX6_readsMember_86 rfl ?_
    refine wg_iconst (v := 3) C dX6_readsMember_87 (by decide) ?_
    refine wg_icmp_ge (tgt := 107) C dX6_readsMember_88 (by decide) (fun c10 => ?_) (fun c10 => ?_)
    · replace h := ifP c10 h
      refine wg_iload C dX6_readsMember_107 rfl ?_
      refine wg_drop (lv' := [some (.ref 36), some (.int x1), some (.int x2), some (.int z.1), none]) [4] rfl ?_
      exact sjX6_readsMember_72_109 X C cn bk st r0 r1 r2 r3 r4 li fo tx co ke rf cp lk fl em tm z.2.2 x1 x2 z.1 z.2.1 _ h k0 e0
    · replace h := ifN c10 h
      refine wg_bipush (v := 10) C dX6_readsMember_91 (by decide) ?_
      refine wg_iload C dX6_readsMember_93 rfl ?_
      refine wg_imul C dX6_readsMember_95 ?_
      refine wg_aload_n C dX6_readsMember_96 rfl ?_
      obtain ⟨q11, e11q, h⟩ := bnd h
      refine wg_callV (n := 0) (As := []) (st := [.int ((10 : Int32) * z.2.1)]) (st' := [.int q11, .int ((10 : Int32) * z.2.1)]) C (sX6_here cn bk st r0 r1 r2 r3 r4 li fo tx co ke rf cp lk fl em tm z.2.2  q11 e11q) gX6_readsMember_X6_here rfl (by decide +kernel) ⟨⟨rfl, rfl⟩, Nat.le_of_ble_eq_true rfl, Nat.le_of_ble_eq_true rfl⟩ rfl rfl rfl rfl (Nat.le_of_ble_eq_true rfl) dX6_readsMember_97 rfl ?_
      refine wg_iadd C dX6_readsMember_100 ?_
      refine wg_bipush (v := 48) C dX6_readsMember_101 (by decide) ?_
      refine wg_isub C dX6_readsMember_103 ?_
      refine wg_goto (tgt := 109) C dX6_readsMember_104 (by decide) ?_
      refine wg_drop (lv' := [some (.ref 36), some (.int x1), some (.int x2), some (.int z.1), none]) [4] rfl ?_
      exact sjX6_readsMember_72_109 X C cn bk st r0 r1 r2 r3 r4 li fo tx co ke rf cp lk fl em tm z.2.2 x1 x2 z.1 ((((10 : Int32) * z.2.1) + q11) - (48 : Int32)) _ h k0 e0
set_option maxRecDepth 100000 in
set_option maxHeartbeats 4000000 in
theorem slX6_readsMember_72 (X : CX) (C : Ok X RX6 cX6_readsMember wsX6_readsMember rX6_readsMember) (cn : Tcn) (bk : Tbk) (st : Tst) (r0 : Tbk) (r1 : Tbk) (r2 : Tbk) (r3 : Tbk) (r4 : Tbk) (li : Tli) (fo : Tfo) (tx : Ttx) (co : Tco) (ke : Tke) (rf : (Nat → Int32)) (cp : Int32) (lk : Tlk) (fl : Tfl) (em : Int32) (tm : Ttm) (rd : Trd) (x1 : Int32) (x2 : Int32) (o : (Int32 × Int32 × Trd)) (e0 : ∀ a : Int32 × Int32 × Trd, o = a → Wg X 127 [some (.ref 36), some (.int x1), some (.int x2), some (.int a.1), some (.int a.2.1)] [] (mkH cn bk st r0 r1 r2 r3 r4 li fo tx co ke rf cp lk fl em tm a.2.2)) : ∀ (n : Nat) (z : Int32 × Int32 × Trd), lpF (bX6_readsMember_72 tm x1 x2) n z = some o → Wg X 72 [some (.ref 36), some (.int x1), some (.int x2), some (.int z.1), some (.int z.2.1)] [] (mkH cn bk st r0 r1 r2 r3 r4 li fo tx co ke rf cp lk fl em tm z.2.2) := by
  intro n
  induction n with
  | zero => intro z h; cases h
  | succ n ih =>
    intro z h
    obtain ⟨r, hB, h⟩ := bnd h
    refine sbX6_readsMember_72 X C cn bk st r0 r1 r2 r3 r4 li fo tx co ke rf cp lk fl em tm rd x1 x2 z r hB (fun a e => ih a (by subst e; exact h)) (fun a e => e0 a (by subst e; exact (Option.some.inj h).symm))
set_option maxRecDepth 100000 in
set_option maxHeartbeats 4000000 in
theorem sjX6_readsMember_144 (X : CX) (C : Ok X RX6 cX6_readsMember wsX6_readsMember rX6_readsMember) (cn : Tcn) (bk : Tbk) (st : Tst) (r0 : Tbk) (r1 : Tbk) (r2 : Tbk) (r3 : Tbk) (r4 : Tbk) (li : Tli) (fo : Tfo) (tx : Ttx) (co : Tco) (ke : Tke) (rf : (Nat → Int32)) (cp : Int32) (lk : Tlk) (fl : Tfl) (em : Int32) (tm : Ttm) (rd : Trd) (x3 : Int32) (y1 : Int32) (y2 : Int32) (o : Int32 × Trd) (h : jX6_readsMember_144 tm rd x3 y1 y2 = some o) (hT : Rt X (some .boolean) (some (.int o.1)) (mkH cn bk st r0 r1 r2 r3 r4 li fo tx co ke rf cp lk fl em tm o.2)) : Wg X 144 [none, none, none, some (.int x3), none] [.int y2, .int y1, .ref 47] (mkH cn bk st r0 r1 r2 r3 r4 li fo tx co ke rf cp lk fl em tm rd) := by
  unfold jX6_readsMember_144 at h
  obtain ⟨g14, h⟩ := gdP h
  refine wg_iast (f := rd.2.2.2) (n := 4) (hp' := (mkH cn bk st r0 r1 r2 r3 r4 li fo tx co ke rf cp lk fl em tm (rd.1, rd.2.1, rd.2.2.1, (upd rd.2.2.2 (y1).toNatClampNeg y2)))) C rfl g14 rfl dX6_readsMember_144 ?_
  refine wg_iload_n C dX6_readsMember_145 rfl ?_
  refine wg_iconst (v := 1) C dX6_readsMember_146 (by decide) ?_
  refine wg_iconst (v := 3) C dX6_readsMember_147 (by decide) ?_
  obtain ⟨q15, e15q, h⟩ := bnd h
  refine wg_callT (n := 3) (As := [.int x3, .int (1 : Int32), .int (3 : Int32)]) (st := []) (st' := [.int q15]) C (sX6_in cn bk st r0 r1 r2 r3 r4 li fo tx co ke rf cp lk fl em tm (rd.1, rd.2.1, rd.2.2.1, (upd rd.2.2.2 (y1).toNatClampNeg y2)) x3 (1 : Int32) (3 : Int32) q15 e15q) gX6_readsMember_X6_in rfl (by decide +kernel) ⟨⟨rfl, rfl⟩, Nat.le_of_ble_eq_true rfl, Nat.le_of_ble_eq_true rfl⟩ rfl rfl (Nat.le_of_ble_eq_true rfl) dX6_readsMember_148 rfl ?_
  obtain ⟨g16, h⟩ := gdP h
  obtain rfl := Option.some.inj h
  exact wg_zret C hT (of_decide_eq_true g16) dX6_readsMember_151
set_option maxRecDepth 100000 in
set_option maxHeartbeats 4000000 in
theorem sjX6_readsMember_63 (X : CX) (C : Ok X RX6 cX6_readsMember wsX6_readsMember rX6_readsMember) (cn : Tcn) (bk : Tbk) (st : Tst) (r0 : Tbk) (r1 : Tbk) (r2 : Tbk) (r3 : Tbk) (r4 : Tbk) (li : Tli) (fo : Tfo) (tx : Ttx) (co : Tco) (ke : Tke) (rf : (Nat → Int32)) (cp : Int32) (lk : Tlk) (fl : Tfl) (em : Int32) (tm : Ttm) (rd : Trd) (x1 : Int32) (x2 : Int32) (y1 : Int32) (y2 : Int32) (o : Int32 × Trd) (h : jX6_readsMember_63 tm rd x1 x2 y1 y2 = some o) (hT : Rt X (some .boolean) (some (.int o.1)) (mkH cn bk st r0 r1 r2 r3 r4 li fo tx co ke rf cp lk fl em tm o.2)) : Wg X 63 [some (.ref 36), some (.int x1), some (.int x2), none, none] [.int y2, .int y1, .ref 36] (mkH cn bk st r0 r1 r2 r3 r4 li fo tx co ke rf cp lk fl em tm rd) := by
  unfold jX6_readsMember_63 at h
  refine wg_iadd C dX6_readsMember_63 ?_
  refine wg_put (hp' := (mkH cn bk st r0 r1 r2 r3 r4 li fo tx co ke rf cp lk fl em tm ((y1 + y2), rd.2.1, rd.2.2.1, rd.2.2.2))) C fwX6_readsMember_169 rfl (Nat.le_of_ble_eq_true rfl) rfl rfl rfl dX6_readsMember_64 ?_
  refine wg_iconst (v := 0) C dX6_readsMember_67 (by decide) ?_
  refine wg_istore_n (lv' := [some (.ref 36), some (.int x1), some (.int x2), some (.int (0 : Int32)), none]) C dX6_readsMember_68 (Nat.le_of_ble_eq_true rfl) rfl ?_
  refine wg_iconst (v := 0) C dX6_readsMember_69 (by decide) ?_
  refine wg_istore (lv' := [some (.ref 36), some (.int x1), some (.int x2), some (.int (0 : Int32)), some (.int (0 : Int32))]) C dX6_readsMember_70 (Nat.le_of_ble_eq_true rfl) rfl ?_
  obtain ⟨t12, hL12, h⟩ := bnd h
  refine slX6_readsMember_72 X C cn bk st r0 r1 r2 r3 r4 li fo tx co ke rf cp lk fl em tm ((y1 + y2), rd.2.1, rd.2.2.1, rd.2.2.2) x1 x2 t12 (fun a e => ?_) FU ((0 : Int32), (0 : Int32), ((y1 + y2), rd.2.1, rd.2.2.1, rd.2.2.2)) hL12
  subst e
  refine wg_aload_n C dX6_readsMember_127 rfl ?_
  refine wg_get (v := .ref 47) C fgX6_readsMember_41 rfl rfl dX6_readsMember_128 ?_
  refine wg_iload_n C dX6_readsMember_131 rfl ?_
  refine wg_iload_n C dX6_readsMember_132 rfl ?_
  refine wg_if_eq (tgt := 142) C dX6_readsMember_133 (by decide) (fun c13 => ?_) (fun c13 => ?_)
  · replace h := ifP c13 h
    refine wg_iload C dX6_readsMember_142 rfl ?_
    refine wg_drop (lv' := [none, none, none, some (.int t12.1), none]) [0, 1, 2, 4] rfl ?_
    exact sjX6_readsMember_144 X C cn bk st r0 r1 r2 r3 r4 li fo tx co ke rf cp lk fl em tm t12.2.2 t12.1 x1 t12.2.1 _ h hT
  · replace h := ifN c13 h
    refine wg_iload C dX6_readsMember_136 rfl ?_
    refine wg_ineg C dX6_readsMember_138 ?_
    refine wg_goto (tgt := 144) C dX6_readsMember_139 (by decide) ?_
    refine wg_drop (lv' := [none, none, none, some (.int t12.1), none]) [0, 1, 2, 4] rfl ?_
    exact sjX6_readsMember_144 X C cn bk st r0 r1 r2 r3 r4 li fo tx co ke rf cp lk fl em tm t12.2.2 t12.1 x1 (-t12.2.1) _ h hT
set_option maxRecDepth 100000 in
set_option maxHeartbeats 4000000 in
theorem sjX6_readsMember_48 (X : CX) (C : Ok X RX6 cX6_readsMember wsX6_readsMember rX6_readsMember) (cn : Tcn) (bk : Tbk) (st : Tst) (r0 : Tbk) (r1 : Tbk) (r2 : Tbk) (r3 : Tbk) (r4 : Tbk) (li : Tli) (fo : Tfo) (tx : Ttx) (co : Tco) (ke : Tke) (rf : (Nat → Int32)) (cp : Int32) (lk : Tlk) (fl : Tfl) (em : Int32) (tm : Ttm) (rd : Trd) (x1 : Int32) (y0 : Int32) (o : Int32 × Trd) (h : jX6_readsMember_48 tm rd x1 y0 = some o) (hT : Rt X (some .boolean) (some (.int o.1)) (mkH cn bk st r0 r1 r2 r3 r4 li fo tx co ke rf cp lk fl em tm o.2)) : Wg X 48 [some (.ref 36), some (.int x1), none, none, none] [.int y0] (mkH cn bk st r0 r1 r2 r3 r4 li fo tx co ke rf cp lk fl em tm rd) := by
  unfold jX6_readsMember_48 at h
  refine wg_istore_n (lv' := [some (.ref 36), some (.int x1), some (.int y0), none, none]) C dX6_readsMember_48 (Nat.le_of_ble_eq_true rfl) rfl ?_
  refine wg_aload_n C dX6_readsMember_49 rfl ?_
  refine wg_dup C dX6_readsMember_50 rfl ?_
  refine wg_get (v := .int rd.1) C fgX6_readsMember_169 rfl rfl dX6_readsMember_51 ?_
  refine wg_iload_n C dX6_readsMember_54 rfl ?_
  refine wg_if_eq (tgt := 62) C dX6_readsMember_55 (by decide) (fun c6 => ?_) (fun c6 => ?_)
  · replace h := ifP c6 h
    refine wg_iconst (v := 0) C dX6_readsMember_62 (by decide) ?_
    exact sjX6_readsMember_63 X C cn bk st r0 r1 r2 r3 r4 li fo tx co ke rf cp lk fl em tm rd x1 y0 rd.1 (0 : Int32) _ h hT
  · replace h := ifN c6 h
    refine wg_iconst (v := 1) C dX6_readsMember_58 (by decide) ?_
    refine wg_goto (tgt := 63) C dX6_readsMember_59 (by decide) ?_
    exact sjX6_readsMember_63 X C cn bk st r0 r1 r2 r3 r4 li fo tx co ke rf cp lk fl em tm rd x1 y0 rd.1 (1 : Int32) _ h hT
set_option maxRecDepth 100000 in
set_option maxHeartbeats 4000000 in
theorem sX6_readsMember (cn : Tcn) (bk : Tbk) (st : Tst) (r0 : Tbk) (r1 : Tbk) (r2 : Tbk) (r3 : Tbk) (r4 : Tbk) (li : Tli) (fo : Tfo) (tx : Ttx) (co : Tco) (ke : Tke) (rf : (Nat → Int32)) (cp : Int32) (lk : Tlk) (fl : Tfl) (em : Int32) (tm : Ttm) (rd : Trd) (x1 : Int32) (o : Int32 × Trd) (h : fX6_readsMember tm rd x1 = some o) : Sp yX6_readsMember wsX6_readsMember rX6_readsMember [.ref 36, .int x1] (mkH cn bk st r0 r1 r2 r3 r4 li fo tx co ke rf cp lk fl em tm rd) (some (.int o.1)) (mkH cn bk st r0 r1 r2 r3 r4 li fo tx co ke rf cp lk fl em tm o.2) := by
  refine Sp.of (lv := [some (.ref 36), some (.int x1), none, none, none]) RX6 (by decide +kernel) rfl (Nat.le_of_ble_eq_true rfl) rfl ?_
  intro X C hT
  unfold fX6_readsMember at h
  refine wg_aload_n C dX6_readsMember_0 rfl ?_
  obtain ⟨q1, e1q, h⟩ := bnd h
  refine wg_callV (n := 0) (As := []) (st := []) (st' := []) C (sX6_skips cn bk st r0 r1 r2 r3 r4 li fo tx co ke rf cp lk fl em tm rd  q1 e1q) gX6_readsMember_X6_skips rfl (by decide +kernel) ⟨⟨rfl, rfl⟩, Nat.le_of_ble_eq_true rfl, Nat.le_of_ble_eq_true rfl⟩ rfl rfl rfl rfl (Nat.le_of_ble_eq_true rfl) dX6_readsMember_1 rfl ?_
  refine wg_aload_n C dX6_readsMember_4 rfl ?_
  obtain ⟨q2, e2q, h⟩ := bnd h
  refine wg_callV (n := 0) (As := []) (st := []) (st' := [.int q2]) C (sX6_here cn bk st r0 r1 r2 r3 r4 li fo tx co ke rf cp lk fl em tm q1  q2 e2q) gX6_readsMember_X6_here rfl (by decide +kernel) ⟨⟨rfl, rfl⟩, Nat.le_of_ble_eq_true rfl, Nat.le_of_ble_eq_true rfl⟩ rfl rfl rfl rfl (Nat.le_of_ble_eq_true rfl) dX6_readsMember_5 rfl ?_
  refine wg_bipush (v := 46) C dX6_readsMember_8 (by decide) ?_
  refine wg_icmp_ne (tgt := 34) C dX6_readsMember_10 (by decide) (fun c3 => ?_) (fun c3 => ?_)
  · replace h := ifP c3 h
    refine wg_aload_n C dX6_readsMember_34 rfl ?_
    obtain ⟨q4, e4q, h⟩ := bnd h
    refine wg_callV (n := 0) (As := []) (st := []) (st' := [.int q4]) C (sX6_here cn bk st r0 r1 r2 r3 r4 li fo tx co ke rf cp lk fl em tm q1  q4 e4q) gX6_readsMember_X6_here rfl (by decide +kernel) ⟨⟨rfl, rfl⟩, Nat.le_of_ble_eq_true rfl, Nat.le_of_ble_eq_true rfl⟩ rfl rfl rfl rfl (Nat.le_of_ble_eq_true rfl) dX6_readsMember_35 rfl ?_
    refine wg_bipush (v := 45) C dX6_readsMember_38 (by decide) ?_
    refine wg_icmp_ne (tgt := 47) C dX6_readsMember_40 (by decide) (fun c5 => ?_) (fun c5 => ?_)
    · replace h := ifP c5 h
      refine wg_iconst (v := 0) C dX6_readsMember_47 (by decide) ?_
      exact sjX6_readsMember_48 X C cn bk st r0 r1 r2 r3 r4 li fo tx co ke rf cp lk fl em tm q1 x1 (0 : Int32) _ h hT
    · replace h := ifN c5 h
      refine wg_iconst (v := 1) C dX6_readsMember_43 (by decide) ?_
      refine wg_goto (tgt := 48) C dX6_readsMember_44 (by decide) ?_
      exact sjX6_readsMember_48 X C cn bk st r0 r1 r2 r3 r4 li fo tx co ke rf cp lk fl em tm q1 x1 (1 : Int32) _ h hT
  · replace h := ifN c3 h
    refine wg_aload_n C dX6_readsMember_13 rfl ?_
    refine wg_dup C dX6_readsMember_14 rfl ?_
    refine wg_get (v := .int q1.1) C fgX6_readsMember_169 rfl rfl dX6_readsMember_15 ?_
    refine wg_iconst (v := 1) C dX6_readsMember_18 (by decide) ?_
    refine wg_iadd C dX6_readsMember_19 ?_
    refine wg_put (hp' := (mkH cn bk st r0 r1 r2 r3 r4 li fo tx co ke rf cp lk fl em tm ((q1.1 + (1 : Int32)), q1.2.1, q1.2.2.1, q1.2.2.2))) C fwX6_readsMember_169 rfl (Nat.le_of_ble_eq_true rfl) rfl rfl rfl dX6_readsMember_20 ?_
    refine wg_aload_n C dX6_readsMember_23 rfl ?_
    refine wg_get (v := .ref 47) C fgX6_readsMember_41 rfl rfl dX6_readsMember_24 ?_
    refine wg_iload_n C dX6_readsMember_27 rfl ?_
    refine wg_sipush (v := -10000) C dX6_readsMember_28 (by decide) ?_
    obtain ⟨g17, h⟩ := gdP h
    refine wg_iast (f := q1.2.2.2) (n := 4) (hp' := (mkH cn bk st r0 r1 r2 r3 r4 li fo tx co ke rf cp lk fl em tm ((q1.1 + (1 : Int32)), q1.2.1, q1.2.2.1, (upd q1.2.2.2 (x1).toNatClampNeg (-10000 : Int32))))) C rfl g17 rfl dX6_readsMember_31 ?_
    refine wg_iconst (v := 1) C dX6_readsMember_32 (by decide) ?_
    obtain rfl := Option.some.inj h
    exact wg_zret C hT (by decide) dX6_readsMember_33
