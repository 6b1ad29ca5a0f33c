abbrev rX6_readsDay : Room := { frames := 3, cells := 0, slots := 0, locals := 64 }
theorem iwX6_readsDay_6 : ∀ w ∈ wsX60, w ∈ wsX6_readsDay := by decide +kernel
theorem fgX6_readsDay_41 : FG wsX6_readsDay RX6 41 6 20 := ⟨RX6, TX6, 21, rfl, by decide, by decide +kernel, iwX6_readsDay_6⟩
theorem fgX6_readsDay_169 : FG wsX6_readsDay RX6 169 6 17 := ⟨RX6, TX6, 21, rfl, by decide, by decide +kernel, iwX6_readsDay_6⟩
theorem fwX6_readsDay_169 : FW wsX6_readsDay RX6 169 6 17 .int := ⟨RX6, TX6, 21, tyX6, rfl, by decide, by decide +kernel, iwX6_readsDay_6, tyX6_ok, nmX6, rfl, by decide +kernel⟩
theorem fgX6_readsDay_181 : FG wsX6_readsDay RX6 181 6 19 := ⟨RX6, TX6, 21, rfl, by decide, by decide +kernel, iwX6_readsDay_6⟩
theorem fwX6_readsDay_181 : FW wsX6_readsDay RX6 181 6 19 .int := ⟨RX6, TX6, 21, tyX6, rfl, by decide, by decide +kernel, iwX6_readsDay_6, tyX6_ok, nmX6, rfl, by decide +kernel⟩
set_option maxRecDepth 100000 in
set_option maxHeartbeats 4000000 in
theorem sjX6_readsDay_17_52 (X : CX) (C : Ok X RX6 cX6_readsDay wsX6_readsDay rX6_readsDay) (cn : Tcn) (bk : Tbk) (st : Tst) (r0 : Tbk) (r1 : Tbk) (r2 : Tbk) (r3 : Tbk) (r4 : Tbk) (li : Tli) (fo : Tfo) (tx : Ttx) (co : Tco) (ke : Tke) (rf : (Nat → Int32)) (cp : Int32) (lk : Tlk) (fl : Tfl) (em : Int32) (tm : Ttm) (rd : Trd) (x1 : Int32) (x2 : Int32) (y0 : Int32) (y1 : Int32) (o : (Int32 × Trd) ⊕ (Trd ⊕ (Trd ⊕ Trd))) (h : jX6_readsDay_17_52 co tm rd x1 x2 y0 y1 = some o) (k0 : ∀ a : Int32 × Trd, o = .inl a → Wg X 17 [some (.ref 36), some (.int x1), some (.int a.1)] [] (mkH cn bk st r0 r1 r2 r3 r4 li fo tx co ke rf cp lk fl em tm a.2)) (e0 : ∀ a : Trd, o = .inr (.inl a) → Wg X 30 [none, none, none] [] (mkH cn bk st r0 r1 r2 r3 r4 li fo tx co ke rf cp lk fl em tm a)) (e1 : ∀ a : Trd, o = .inr (.inr (.inl a)) → Wg X 55 [none, none, none] [] (mkH cn bk st r0 r1 r2 r3 r4 li fo tx co ke rf cp lk fl em tm a)) (e2 : ∀ a : Trd, o = .inr (.inr (.inr a)) → Wg X 73 [some (.ref 36), some (.int x1), none] [] (mkH cn bk st r0 r1 r2 r3 r4 li fo tx co ke rf cp lk fl em tm a)) : Wg X 52 [some (.ref 36), some (.int x1), some (.int x2)] [.int y1, .int y0] (mkH cn bk st r0 r1 r2 r3 r4 li fo tx co ke rf cp lk fl em tm rd) := by
  unfold jX6_readsDay_17_52 at h
  refine wg_icmp_eq (tgt := 57) C dX6_readsDay_52 (by decide) (fun c9 => ?_) (fun c9 => ?_)
  · replace h := ifP c9 h
    refine wg_aload_n C dX6_readsDay_57 rfl ?_
    refine wg_dup C dX6_readsDay_58 rfl ?_
    refine wg_get (v := .int rd.1) C fgX6_readsDay_169 rfl rfl dX6_readsDay_59 ?_
    refine wg_iconst (v := 1) C dX6_readsDay_62 (by decide) ?_
    refine wg_iadd C dX6_readsDay_63 ?_
    refine wg_put (hp' := (mkH cn bk st r0 r1 r2 r3 r4 li fo tx co ke rf cp lk fl em tm ((rd.1 + (1 : Int32)), rd.2.1, rd.2.2.1, rd.2.2.2))) C fwX6_readsDay_169 rfl (Nat.le_of_ble_eq_true rfl) rfl rfl rfl dX6_readsDay_64 ?_
    refine wg_iinc (v := (x2 + (1 : Int32))) (lv' := [some (.ref 36), some (.int x1), some (.int (x2 + (1 : Int32)))]) C dX6_readsDay_67 rfl rfl rfl ?_
    refine wg_goto (tgt := 17) C dX6_readsDay_70 (by decide) ?_
    have hk := k0 _ (Option.some.inj h).symm
    exact hk
  · replace h := ifN c9 h
    refine wg_drop (lv' := [none, none, none]) [0, 1, 2] rfl ?_
    have hk := e1 _ (Option.some.inj h).symm
    exact hk
set_option maxRecDepth 100000 in
set_option maxHeartbeats 4000000 in
theorem sbX6_readsDay_17 (X : CX) (C : Ok X RX6 cX6_readsDay wsX6_readsDay rX6_readsDay) (cn : Tcn) (bk : Tbk) (st : Tst) (r0 : Tbk) (r1 : Tbk) (r2 : Tbk) (r3 : Tbk) (r4 : Tbk) (li : Tli) (fo : Tfo) (tx : Ttx) (co : Tco) (ke : Tke) (rf : (Nat → Int32)) (cp : Int32) (lk : Tlk) (fl : Tfl) (em : Int32) (tm : Ttm) (rd : Trd) (x1 : Int32) (z : Int32 × Trd) (o : (Int32 × Trd) ⊕ (Trd ⊕ (Trd ⊕ Trd))) (h : bX6_readsDay_17 co tm x1 z = some o) (k0 : ∀ a : Int32 × Trd, o = .inl a → Wg X 17 [some (.ref 36), some (.int x1), some (.int a.1)] [] (mkH cn bk st r0 r1 r2 r3 r4 li fo tx co ke rf cp lk fl em tm a.2)) (e0 : ∀ a : Trd, o = .inr (.inl a) → Wg X 30 [none, none, none] [] (mkH cn bk st r0 r1 r2 r3 r4 li fo tx co ke rf cp lk fl em tm a)) (e1 : ∀ a : Trd, o = .inr (.inr (.inl a)) → Wg X 55 [none, none, none] [] (mkH cn bk st r0 r1 r2 r3 r4 li fo tx co ke rf cp lk fl em tm a)) (e2 : ∀ a : Trd, o = .inr (.inr (.inr a)) → Wg X 73 [some (.ref 36), some (.int x1), none] [] (mkH cn bk st r0 r1 r2 r3 r4 li fo tx co ke rf cp lk fl em tm a)) : Wg X 17 [some (.ref 36), some (.int x1), some (.int z.1)] [] (mkH cn bk st r0 r1 r2 r3 r4 li fo tx co ke rf cp lk fl em tm z.2) := by
  unfold bX6_readsDay_17 at h
  refine wg_iload_n C dX6_readsDay_17 rfl ?_
  refine wg_iconst (v := 4) C dX6_readsDay_18 (by decide) ?_
  refine wg_icmp_ge (tgt := 73) C dX6_readsDay_19 (by decide) (fun c3 => ?_) (fun c3 => ?_)
  · replace h := ifP c3 h
    refine wg_drop (lv' := [some (.ref 36), some (.int x1), none]) [2] rfl ?_
    have hk := e2 _ (Option.some.inj h).symm
    exact hk
  · replace h := ifN c3 h
    refine wg_aload_n C dX6_readsDay_22 rfl ?_
    refine wg_iload_n C dX6_readsDay_23 rfl ?_
    obtain ⟨q4, e4q, h⟩ := bnd h
    refine wg_callV (n := 1) (As := [.int z.1]) (st := []) (st' := [.int q4.1]) C (sX6_readsMember cn bk st r0 r1 r2 r3 r4 li fo tx co ke rf cp lk fl em tm z.2 z.1 q4 e4q) gX6_readsDay_X6_readsMember rfl (by decide +kernel) ⟨⟨rfl, rfl⟩, Nat.le_of_ble_eq_true rfl, Nat.le_of_ble_eq_true rfl⟩ rfl rfl rfl rfl (Nat.le_of_ble_eq_true rfl) dX6_readsDay_24 rfl ?_
    refine wg_if_ne (tgt := 32) C dX6_readsDay_27 (by decide) (fun c5 => ?_) (fun c5 => ?_)
    · replace h := ifP c5 h
      refine wg_aload_n C dX6_readsDay_32 rfl ?_
      obtain ⟨q6, e6q, h⟩ := bnd h
      refine wg_callV (n := 0) (As := []) (st := []) (st' := []) C (sX6_skips cn bk st r0 r1 r2 r3 r4 li fo tx co ke rf cp lk fl em tm q4.2  q6 e6q) gX6_readsDay_X6_skips rfl (by decide +kernel) ⟨⟨rfl, rfl⟩, Nat.le_of_ble_eq_true rfl, Nat.le_of_ble_eq_true rfl⟩ rfl rfl rfl rfl (Nat.le_of_ble_eq_true rfl) dX6_readsDay_33 rfl ?_
      refine wg_aload_n C dX6_readsDay_36 rfl ?_
      obtain ⟨q7, e7q, h⟩ := bnd h
      refine wg_callV (n := 0) (As := []) (st := []) (st' := [.int q7]) C (sX6_here cn bk st r0 r1 r2 r3 r4 li fo tx co ke rf cp lk fl em tm q6  q7 e7q) gX6_readsDay_X6_here rfl (by decide +kernel) ⟨⟨rfl, rfl⟩, Nat.le_of_ble_eq_true rfl, Nat.le_of_ble_eq_true rfl⟩ rfl rfl rfl rfl (Nat.le_of_ble_eq_true rfl) dX6_readsDay_37 rfl ?_
      refine wg_iload_n C dX6_readsDay_40 rfl ?_
      refine wg_iconst (v := 3) C dX6_readsDay_41 (by decide) ?_
      refine wg_icmp_ne (tgt := 50) C dX6_readsDay_42 (by decide) (fun c8 => ?_) (fun c8 => ?_)
      · replace h := ifP c8 h
        refine wg_bipush (v := 44) C dX6_readsDay_50 (by decide) ?_
        exact sjX6_readsDay_17_52 X C cn bk st r0 r1 r2 r3 r4 li fo tx co ke rf cp lk fl em tm q6 x1 z.1 q7 (44 : Int32) _ h k0 e0 e1 e2
      · replace h := ifN c8 h
        refine wg_bipush (v := 59) C dX6_readsDay_45 (by decide) ?_
        refine wg_goto (tgt := 52) C dX6_readsDay_47 (by decide) ?_
        exact sjX6_readsDay_17_52 X C cn bk st r0 r1 r2 r3 r4 li fo tx co ke rf cp lk fl em tm q6 x1 z.1 q7 (59 : Int32) _ h k0 e0 e1 e2
    · replace h := ifN c5 h
      refine wg_drop (lv' := [none, none, none]) [0, 1, 2] rfl ?_
      have hk := e0 _ (Option.some.inj h).symm
      exact hk
set_option maxRecDepth 100000 in
set_option maxHeartbeats 4000000 in
theorem slX6_readsDay_17 (X : CX) (C : Ok X RX6 cX6_readsDay wsX6_readsDay rX6_readsDay) (cn : Tcn) (bk : Tbk) (st : Tst) (r0 : Tbk) (r1 : Tbk) (r2 : Tbk) (r3 : Tbk) (r4 : Tbk) (li : Tli) (fo : Tfo) (tx : Ttx) (co : Tco) (ke : Tke) (rf : (Nat → Int32)) (cp : Int32) (lk : Tlk) (fl : Tfl) (em : Int32) (tm : Ttm) (rd : Trd) (x1 : Int32) (o : (Trd ⊕ (Trd ⊕ Trd))) (e0 : ∀ a : Trd, o = (.inl a) → Wg X 30 [none, none, none] [] (mkH cn bk st r0 r1 r2 r3 r4 li fo tx co ke rf cp lk fl em tm a)) (e1 : ∀ a : Trd, o = (.inr (.inl a)) → Wg X 55 [none, none, none] [] (mkH cn bk st r0 r1 r2 r3 r4 li fo tx co ke rf cp lk fl em tm a)) (e2 : ∀ a : Trd, o = (.inr (.inr a)) → Wg X 73 [some (.ref 36), some (.int x1), none] [] (mkH cn bk st r0 r1 r2 r3 r4 li fo tx co ke rf cp lk fl em tm a)) : ∀ (n : Nat) (z : Int32 × Trd), lpF (bX6_readsDay_17 co tm x1) n z = some o → Wg X 17 [some (.ref 36), some (.int x1), some (.int z.1)] [] (mkH cn bk st r0 r1 r2 r3 r4 li fo tx co ke rf cp lk fl em tm z.2) := by
  intro n
  induction n with
  | zero => intro z h; cases h
  | succ n ih =>
    intro z h
    obtain ⟨r, hB, h⟩ := bnd h
    refine sbX6_readsDay_17 X C cn bk st r0 r1 r2 r3 r4 li fo tx co ke rf cp lk fl em tm rd x1 z r hB (fun a e => ih a (by subst e; exact h)) (fun a e => e0 a (by subst e; exact (Option.some.inj h).symm)) (fun a e => e1 a (by subst e; exact (Option.some.inj h).symm)) (fun a e => e2 a (by subst e; exact (Option.some.inj h).symm))
set_option maxRecDepth 100000 in
set_option maxHeartbeats 4000000 in
theorem sjX6_readsDay_115 (X : CX) (C : Ok X RX6 cX6_readsDay wsX6_readsDay rX6_readsDay) (cn : Tcn) (bk : Tbk) (st : Tst) (r0 : Tbk) (r1 : Tbk) (r2 : Tbk) (r3 : Tbk) (r4 : Tbk) (li : Tli) (fo : Tfo) (tx : Ttx) (co : Tco) (ke : Tke) (rf : (Nat → Int32)) (cp : Int32) (lk : Tlk) (fl : Tfl) (em : Int32) (tm : Ttm) (rd : Trd)  (o : Int32 × Tco × Trd) (h : jX6_readsDay_115 co tm rd  = some o) (hT : Rt X (some .boolean) (some (.int o.1)) (mkH cn bk st r0 r1 r2 r3 r4 li fo tx o.2.1 ke rf cp lk fl em tm o.2.2)) : Wg X 115 [none, none, none] [] (mkH cn bk st r0 r1 r2 r3 r4 li fo tx co ke rf cp lk fl em tm rd) := by
  unfold jX6_readsDay_115 at h
  refine wg_iconst (v := 1) C dX6_readsDay_115 (by decide) ?_
  obtain rfl := Option.some.inj h
  exact wg_zret C hT (by decide) dX6_readsDay_116
set_option maxRecDepth 100000 in
set_option maxHeartbeats 4000000 in
theorem sX6_readsDay (cn : Tcn) (bk : Tbk) (st : Tst) (r0 : Tbk) (r1 : Tbk) (r2 : Tbk) (r3 : Tbk) (r4 : Tbk) (li : Tli) (fo : Tfo) (tx : Ttx) (co : Tco) (ke : Tke) (rf : (Nat → Int32)) (cp : Int32) (lk : Tlk) (fl : Tfl) (em : Int32) (tm : Ttm) (rd : Trd) (x1 : Int32) (o : Int32 × Tco × Trd) (h : fX6_readsDay co tm rd x1 = some o) : Sp yX6_readsDay wsX6_readsDay rX6_readsDay [.ref 36, .int x1] (mkH cn bk st r0 r1 r2 r3 r4 li fo tx co ke rf cp lk fl em tm rd) (some (.int o.1)) (mkH cn bk st r0 r1 r2 r3 r4 li fo tx o.2.1 ke rf cp lk fl em tm o.2.2) := by
  refine Sp.of (lv := [some (.ref 36), some (.int x1), none]) RX6 (by decide +kernel) rfl (Nat.le_of_ble_eq_true rfl) rfl ?_
  intro X C hT
  unfold fX6_readsDay at h
  refine wg_aload_n C dX6_readsDay_0 rfl ?_
  obtain ⟨q1, e1q, h⟩ := bnd h
  refine wg_callV (n := 0) (As := []) (st := []) (st' := []) C (sX6_skips cn bk st r0 r1 r2 r3 r4 li fo tx co ke rf cp lk fl em tm rd  q1 e1q) gX6_readsDay_X6_skips rfl (by decide +kernel) ⟨⟨rfl, rfl⟩, Nat.le_of_ble_eq_true rfl, Nat.le_of_ble_eq_true rfl⟩ rfl rfl rfl rfl (Nat.le_of_ble_eq_true rfl) dX6_readsDay_1 rfl ?_
  refine wg_aload_n C dX6_readsDay_4 rfl ?_
  refine wg_get (v := .int q1.2.2.1) C fgX6_readsDay_181 rfl rfl dX6_readsDay_5 ?_
  refine wg_bipush (v := 50) C dX6_readsDay_8 (by decide) ?_
  refine wg_icmp_ne (tgt := 15) C dX6_readsDay_10 (by decide) (fun c2 => ?_) (fun c2 => ?_)
  · replace h := ifP c2 h
    refine wg_iconst (v := 0) C dX6_readsDay_15 (by decide) ?_
    refine wg_istore_n (lv' := [some (.ref 36), some (.int x1), some (.int (0 : Int32))]) C dX6_readsDay_16 (Nat.le_of_ble_eq_true rfl) rfl ?_
    obtain ⟨t10, hL10, h⟩ := bnd h
    refine slX6_readsDay_17 X C cn bk st r0 r1 r2 r3 r4 li fo tx co ke rf cp lk fl em tm q1 x1 t10 (fun u10 e => ?_) (fun u10 e => ?_) (fun u10 e => ?_) FU ((0 : Int32), q1) hL10
    · subst e
      refine wg_iconst (v := 0) C dX6_readsDay_30 (by decide) ?_
      obtain rfl := Option.some.inj h
      exact wg_zret C hT (by decide) dX6_readsDay_31
    · subst e
      refine wg_iconst (v := 0) C dX6_readsDay_55 (by decide) ?_
      obtain rfl := Option.some.inj h
      exact wg_zret C hT (by decide) dX6_readsDay_56
    · subst e
      refine wg_aload_n C dX6_readsDay_73 rfl ?_
      refine wg_dup C dX6_readsDay_74 rfl ?_
      refine wg_get (v := .int u10.2.2.1) C fgX6_readsDay_181 rfl rfl dX6_readsDay_75 ?_
      refine wg_iconst (v := 1) C dX6_readsDay_78 (by decide) ?_
      refine wg_iadd C dX6_readsDay_79 ?_
      refine wg_put (hp' := (mkH cn bk st r0 r1 r2 r3 r4 li fo tx co ke rf cp lk fl em tm (u10.1, u10.2.1, (u10.2.2.1 + (1 : Int32)), u10.2.2.2))) C fwX6_readsDay_181 rfl (Nat.le_of_ble_eq_true rfl) rfl rfl rfl dX6_readsDay_80 ?_
      refine wg_iload_n C dX6_readsDay_83 rfl ?_
      refine wg_if_eq (tgt := 115) C dX6_readsDay_84 (by decide) (fun c11 => ?_) (fun c11 => ?_)
      · replace h := ifP c11 h
        refine wg_drop (lv' := [none, none, none]) [0, 1] rfl ?_
        exact sjX6_readsDay_115 X C cn bk st r0 r1 r2 r3 r4 li fo tx co ke rf cp lk fl em tm (u10.1, u10.2.1, (u10.2.2.1 + (1 : Int32)), u10.2.2.2)  _ h hT
      · replace h := ifN c11 h
        refine wg_aload_n C dX6_readsDay_87 rfl ?_
        refine wg_aload_n C dX6_readsDay_88 rfl ?_
        refine wg_get (v := .ref 47) C fgX6_readsDay_41 rfl rfl dX6_readsDay_89 ?_
        refine wg_iconst (v := 0) C dX6_readsDay_92 (by decide) ?_
        obtain ⟨g12, h⟩ := gdP h
        refine wg_iald (f := u10.2.2.2) (n := 4) C rfl g12 dX6_readsDay_93 ?_
        refine wg_aload_n C dX6_readsDay_94 rfl ?_
        refine wg_get (v := .ref 47) C fgX6_readsDay_41 rfl rfl dX6_readsDay_95 ?_
        refine wg_iconst (v := 1) C dX6_readsDay_98 (by decide) ?_
        obtain ⟨g13, h⟩ := gdP h
        refine wg_iald (f := u10.2.2.2) (n := 4) C rfl g13 dX6_readsDay_99 ?_
        refine wg_aload_n C dX6_readsDay_100 rfl ?_
        refine wg_get (v := .ref 47) C fgX6_readsDay_41 rfl rfl dX6_readsDay_101 ?_
        refine wg_iconst (v := 2) C dX6_readsDay_104 (by decide) ?_
        obtain ⟨g14, h⟩ := gdP h
        refine wg_iald (f := u10.2.2.2) (n := 4) C rfl g14 dX6_readsDay_105 ?_
        refine wg_aload_n C dX6_readsDay_106 rfl ?_
        refine wg_get (v := .ref 47) C fgX6_readsDay_41 rfl rfl dX6_readsDay_107 ?_
        refine wg_iconst (v := 3) C dX6_readsDay_110 (by decide) ?_
        obtain ⟨g15, h⟩ := gdP h
        refine wg_iald (f := u10.2.2.2) (n := 4) C rfl g15 dX6_readsDay_111 ?_
        obtain ⟨q16, e16q, h⟩ := bnd h
        refine wg_callV (n := 4) (As := [.int (u10.2.2.2 ((0 : Int32)).toNatClampNeg), .int (u10.2.2.2 ((1 : Int32)).toNatClampNeg), .int (u10.2.2.2 ((2 : Int32)).toNatClampNeg), .int (u10.2.2.2 ((3 : Int32)).toNatClampNeg)]) (st := []) (st' := []) C (sX6_comes cn bk st r0 r1 r2 r3 r4 li fo tx co ke rf cp lk fl em tm (u10.1, u10.2.1, (u10.2.2.1 + (1 : Int32)), u10.2.2.2) (u10.2.2.2 ((0 : Int32)).toNatClampNeg) (u10.2.2.2 ((1 : Int32)).toNatClampNeg) (u10.2.2.2 ((2 : Int32)).toNatClampNeg) (u10.2.2.2 ((3 : Int32)).toNatClampNeg) q16 e16q) gX6_readsDay_X6_comes rfl (by decide +kernel) ⟨⟨rfl, rfl⟩, Nat.le_of_ble_eq_true rfl, Nat.le_of_ble_eq_true rfl⟩ rfl rfl rfl rfl (Nat.le_of_ble_eq_true rfl) dX6_readsDay_112 rfl ?_
        refine wg_drop (lv' := [none, none, none]) [0, 1] rfl ?_
        exact sjX6_readsDay_115 X C cn bk st r0 r1 r2 r3 r4 li fo tx q16 ke rf cp lk fl em tm (u10.1, u10.2.1, (u10.2.2.1 + (1 : Int32)), u10.2.2.2)  _ h hT
  · replace h := ifN c2 h
    refine wg_iconst (v := 0) C dX6_readsDay_13 (by decide) ?_
    obtain rfl := Option.some.inj h
    exact wg_zret C hT (by decide) dX6_readsDay_14
abbrev rX6_goesThrough : Room := { frames := 4, cells := 0, slots := 0, locals := 86 }
theorem iwX6_goesThrough_6 : ∀ w ∈ wsX60, w ∈ wsX6_goesThrough := by decide +kernel
theorem fgX6_goesThrough_48 : FG wsX6_goesThrough RX6 48 6 1 := ⟨RX6, TX6, 21, rfl, by decide, by decide +kernel, iwX6_goesThrough_6⟩
theorem fgX6_goesThrough_166 : FG wsX6_goesThrough RX6 166 6 16 := ⟨RX6, TX6, 21, rfl, by decide, by decide +kernel, iwX6_goesThrough_6⟩
theorem fgX6_goesThrough_169 : FG wsX6_goesThrough RX6 169 6 17 := ⟨RX6, TX6, 21, rfl, by decide, by decide +kernel, iwX6_goesThrough_6⟩
theorem fwX6_goesThrough_169 : FW wsX6_goesThrough RX6 169 6 17 .int := ⟨RX6, TX6, 21, tyX6, rfl, by decide, by decide +kernel, iwX6_goesThrough_6, tyX6_ok, nmX6, rfl, by decide +kernel⟩
theorem fgX6_goesThrough_175 : FG wsX6_goesThrough RX6 175 6 18 := ⟨RX6, TX6, 21, rfl, by decide, by decide +kernel, iwX6_goesThrough_6⟩
theorem fgX6_goesThrough_181 : FG wsX6_goesThrough RX6 181 6 19 := ⟨RX6, TX6, 21, rfl, by decide, by decide +kernel, iwX6_goesThrough_6⟩
theorem fwX6_goesThrough_181 : FW wsX6_goesThrough RX6 181 6 19 .int := ⟨RX6, TX6, 21, tyX6, rfl, by decide, by decide +kernel, iwX6_goesThrough_6, tyX6_ok, nmX6, rfl, by decide +kernel⟩
set_option maxRecDepth 100000 in
set_option maxHeartbeats 4000000 in
theorem sbX6_goesThrough_41 (X : CX) (C : Ok X RX6 cX6_goesThrough wsX6_goesThrough rX6_goesThrough) (cn : Tcn) (bk : Tbk) (st : Tst) (r0 : Tbk) (r1 : Tbk) (r2 : Tbk) (r3 : Tbk) (r4 : Tbk) (li : Tli) (fo : Tfo) (tx : Ttx) (co : Tco) (ke : Tke) (rf : (Nat → Int32)) (cp : Int32) (lk : Tlk) (fl : Tfl) (em : Int32) (tm : Ttm) (rd : Trd) (x1 : Int32) (x2 : Int32) (z : Tco × Trd) (o : (Tco × Trd) ⊕ ((Tco × Trd) ⊕ (Tco × Trd))) (h : bX6_goesThrough_41 tm x1 x2 z = some o) (k0 : ∀ a : Tco × Trd, o = .inl a → Wg X 41 [some (.ref 36), some (.int x1), some (.int x2)] [] (mkH cn bk st r0 r1 r2 r3 r4 li fo tx a.1 ke rf cp lk fl em tm a.2)) (e0 : ∀ a : Tco × Trd, o = .inr (.inl a) → Wg X 60 [some (.ref 36), none, none] [] (mkH cn bk st r0 r1 r2 r3 r4 li fo tx a.1 ke rf cp lk fl em tm a.2)) (e1 : ∀ a : Tco × Trd, o = .inr (.inr a) → Wg X 75 [some (.ref 36), none, some (.int x2)] [] (mkH cn bk st r0 r1 r2 r3 r4 li fo tx a.1 ke rf cp lk fl em tm a.2)) : Wg X 41 [some (.ref 36), some (.int x1), some (.int x2)] [] (mkH cn bk st r0 r1 r2 r3 r4 li fo tx z.1 ke rf cp lk fl em tm z.2) := by
  unfold bX6_goesThrough_41 at h
  refine wg_aload_n C dX6_goesThrough_41 rfl ?_
  refine wg_get (v := .int z.2.1) C fgX6_goesThrough_169 rfl rfl dX6_goesThrough_42 ?_
  refine wg_aload_n C dX6_goesThrough_45 rfl ?_
  refine wg_get (v := .int tm.2) C fgX6_goesThrough_166 rfl rfl dX6_goesThrough_46 ?_
  refine wg_icmp_ge (tgt := 75) C dX6_goesThrough_49 (by decide) (fun c3 => ?_) (fun c3 => ?_)
  · replace h := ifP c3 h
    refine wg_drop (lv' := [some (.ref 36), none, some (.int x2)]) [1] rfl ?_
    have hk := e1 _ (Option.some.inj h).symm
    exact hk
  · replace h := ifN c3 h
    refine wg_aload_n C dX6_goesThrough_52 rfl ?_
    refine wg_iload_n C dX6_goesThrough_53 rfl ?_
    obtain ⟨q4, e4q, h⟩ := bnd h
    refine wg_callV (n := 1) (As := [.int x1]) (st := []) (st' := [.int q4.1]) C (sX6_readsDay cn bk st r0 r1 r2 r3 r4 li fo tx z.1 ke rf cp lk fl em tm z.2 x1 q4 e4q) gX6_goesThrough_X6_readsDay rfl (by decide +kernel) ⟨⟨rfl, rfl⟩, Nat.le_of_ble_eq_true rfl, Nat.le_of_ble_eq_true rfl⟩ rfl rfl rfl rfl (Nat.le_of_ble_eq_true rfl) dX6_goesThrough_54 rfl ?_
    refine wg_if_ne (tgt := 68) C dX6_goesThrough_57 (by decide) (fun c5 => ?_) (fun c5 => ?_)
    · replace h := ifP c5 h
      refine wg_aload_n C dX6_goesThrough_68 rfl ?_
      obtain ⟨q6, e6q, h⟩ := bnd h
      refine wg_callV (n := 0) (As := []) (st := []) (st' := []) C (sX6_skips cn bk st r0 r1 r2 r3 r4 li fo tx q4.2.1 ke rf cp lk fl em tm q4.2.2  q6 e6q) gX6_goesThrough_X6_skips rfl (by decide +kernel) ⟨⟨rfl, rfl⟩, Nat.le_of_ble_eq_true rfl, Nat.le_of_ble_eq_true rfl⟩ rfl rfl rfl rfl (Nat.le_of_ble_eq_true rfl) dX6_goesThrough_69 rfl ?_
      refine wg_goto (tgt := 41) C dX6_goesThrough_72 (by decide) ?_
      have hk := k0 _ (Option.some.inj h).symm
      exact hk
    · replace h := ifN c5 h
      refine wg_drop (lv' := [some (.ref 36), none, none]) [1, 2] rfl ?_
      have hk := e0 _ (Option.some.inj h).symm
      exact hk
set_option maxRecDepth 100000 in
set_option maxHeartbeats 4000000 in
theorem slX6_goesThrough_41 (X : CX) (C : Ok X RX6 cX6_goesThrough wsX6_goesThrough rX6_goesThrough) (cn : Tcn) (bk : Tbk) (st : Tst) (r0 : Tbk) (r1 : Tbk) (r2 : Tbk) (r3 : Tbk) (r4 : Tbk) (li : Tli) (fo : Tfo) (tx : Ttx) (co : Tco) (ke : Tke) (rf : (Nat → Int32)) (cp : Int32) (lk : Tlk) (fl : Tfl) (em : Int32) (tm : Ttm) (rd : Trd) (x1 : Int32) (x2 : Int32) (o : ((Tco × Trd) ⊕ (Tco × Trd))) (e0 : ∀ a : Tco × Trd, o = (.inl a) → Wg X 60 [some (.ref 36), none, none] [] (mkH cn bk st r0 r1 r2 r3 r4 li fo tx a.1 ke rf cp lk fl em tm a.2)) (e1 : ∀ a : Tco × Trd, o = (.inr a) → Wg X 75 [some (.ref 36), none, some (.int x2)] [] (mkH cn bk st r0 r1 r2 r3 r4 li fo tx a.1 ke rf cp lk fl em tm a.2)) : ∀ (n : Nat) (z : Tco × Trd), lpF (bX6_goesThrough_41 tm x1 x2) n z = some o → Wg X 41 [some (.ref 36), some (.int x1), some (.int x2)] [] (mkH cn bk st r0 r1 r2 r3 r4 li fo tx z.1 ke rf cp lk fl em tm z.2) := by
  intro n
  induction n with
  | zero => intro z h; cases h
  | succ n ih =>
    intro z h
    obtain ⟨r, hB, h⟩ := bnd h
    refine sbX6_goesThrough_41 X C cn bk st r0 r1 r2 r3 r4 li fo tx co ke rf cp lk fl em tm rd x1 x2 z r hB (fun a e => ih a (by subst e; exact h)) (fun a e => e0 a (by subst e; exact (Option.some.inj h).symm)) (fun a e => e1 a (by subst e; exact (Option.some.inj h).symm))
set_option maxRecDepth 100000 in
set_option maxHeartbeats 4000000 in
theorem sX6_goesThrough (cn : Tcn) (bk : Tbk) (st : Tst) (r0 : Tbk) (r1 : Tbk) (r2 : Tbk) (r3 : Tbk) (r4 : Tbk) (li : Tli) (fo : Tfo) (tx : Ttx) (co : Tco) (ke : Tke) (rf : (Nat → Int32)) (cp : Int32) (lk : Tlk) (fl : Tfl) (em : Int32) (tm : Ttm) (rd : Trd) (x1 : Int32) (o : Int32 × Tco × Trd) (h : fX6_goesThrough co tm rd x1 = some o) : Sp yX6_goesThrough wsX6_goesThrough rX6_goesThrough [.ref 36, .int x1] (mkH cn bk st r0 r1 r2 r3 r4 li fo tx co ke rf cp lk fl em tm rd) (some (.int o.1)) (mkH cn bk st r0 r1 r2 r3 r4 li fo tx o.2.1 ke rf cp lk fl em tm o.2.2) := by
  refine Sp.of (lv := [some (.ref 36), some (.int x1), none]) RX6 (by decide +kernel) rfl (Nat.le_of_ble_eq_true rfl) rfl ?_
  intro X C hT
  unfold fX6_goesThrough at h
  refine wg_aload_n C dX6_goesThrough_0 rfl ?_
  refine wg_iconst (v := 0) C dX6_goesThrough_1 (by decide) ?_
  refine wg_put (hp' := (mkH cn bk st r0 r1 r2 r3 r4 li fo tx co ke rf cp lk fl em tm ((0 : Int32), rd.2.1, rd.2.2.1, rd.2.2.2))) C fwX6_goesThrough_169 rfl (Nat.le_of_ble_eq_true rfl) rfl rfl rfl dX6_goesThrough_2 ?_
  refine wg_aload_n C dX6_goesThrough_5 rfl ?_
  refine wg_aload_n C dX6_goesThrough_6 rfl ?_
  refine wg_get (v := .int co.1) C fgX6_goesThrough_48 rfl rfl dX6_goesThrough_7 ?_
  refine wg_put (hp' := (mkH cn bk st r0 r1 r2 r3 r4 li fo tx co ke rf cp lk fl em tm ((0 : Int32), rd.2.1, co.1, rd.2.2.2))) C fwX6_goesThrough_181 rfl (Nat.le_of_ble_eq_true rfl) rfl rfl rfl dX6_goesThrough_10 ?_
  refine wg_aload_n C dX6_goesThrough_13 rfl ?_
  refine wg_get (v := .int co.1) C fgX6_goesThrough_48 rfl rfl dX6_goesThrough_14 ?_
  refine wg_istore_n (lv' := [some (.ref 36), some (.int x1), some (.int co.1)]) C dX6_goesThrough_17 (Nat.le_of_ble_eq_true rfl) rfl ?_
  refine wg_aload_n C dX6_goesThrough_18 rfl ?_
  obtain ⟨q1, e1q, h⟩ := bnd h
  refine wg_callV (n := 0) (As := []) (st := []) (st' := []) C (sX6_skips cn bk st r0 r1 r2 r3 r4 li fo tx co ke rf cp lk fl em tm ((0 : Int32), rd.2.1, co.1, rd.2.2.2)  q1 e1q) gX6_goesThrough_X6_skips rfl (by decide +kernel) ⟨⟨rfl, rfl⟩, Nat.le_of_ble_eq_true rfl, Nat.le_of_ble_eq_true rfl⟩ rfl rfl rfl rfl (Nat.le_of_ble_eq_true rfl) dX6_goesThrough_19 rfl ?_
  refine wg_aload_n C dX6_goesThrough_22 rfl ?_
  refine wg_get (v := .int q1.1) C fgX6_goesThrough_169 rfl rfl dX6_goesThrough_23 ?_
  refine wg_aload_n C dX6_goesThrough_26 rfl ?_
  refine wg_get (v := .int tm.2) C fgX6_goesThrough_166 rfl rfl dX6_goesThrough_27 ?_
  refine wg_icmp_ne (tgt := 41) C dX6_goesThrough_30 (by decide) (fun c2 => ?_) (fun c2 => ?_)
  · replace h := ifP c2 h
    obtain ⟨t7, hL7, h⟩ := bnd h
    refine slX6_goesThrough_41 X C cn bk st r0 r1 r2 r3 r4 li fo tx co ke rf cp lk fl em tm q1 x1 co.1 t7 (fun u7 e => ?_) (fun u7 e => ?_) FU (co, q1) hL7
    · subst e
      refine wg_bipush (v := -10) C dX6_goesThrough_60 (by decide) ?_
      refine wg_aload_n C dX6_goesThrough_62 rfl ?_
      refine wg_get (v := .int u7.2.2.1) C fgX6_goesThrough_175 rfl rfl dX6_goesThrough_63 ?_
      refine wg_isub C dX6_goesThrough_66 ?_
      obtain rfl := Option.some.inj h
      exact wg_iret C hT dX6_goesThrough_67
    · subst e
      refine wg_aload_n C dX6_goesThrough_75 rfl ?_
      refine wg_get (v := .int u7.2.2.2.1) C fgX6_goesThrough_181 rfl rfl dX6_goesThrough_76 ?_
      refine wg_iload_n C dX6_goesThrough_79 rfl ?_
      refine wg_isub C dX6_goesThrough_80 ?_
      obtain rfl := Option.some.inj h
      exact wg_iret C hT dX6_goesThrough_81
  · replace h := ifN c2 h
    refine wg_bipush (v := -10) C dX6_goesThrough_33 (by decide) ?_
    refine wg_aload_n C dX6_goesThrough_35 rfl ?_
    refine wg_get (v := .int tm.2) C fgX6_goesThrough_166 rfl rfl dX6_goesThrough_36 ?_
    refine wg_isub C dX6_goesThrough_39 ?_
    obtain rfl := Option.some.inj h
    exact wg_iret C hT dX6_goesThrough_40
abbrev rX6_reads : Room := { frames := 5, cells := 0, slots := 0, locals := 108 }
set_option maxRecDepth 100000 in
set_option maxHeartbeats 4000000 in
theorem sX6_reads (cn : Tcn) (bk : Tbk) (st : Tst) (r0 : Tbk) (r1 : Tbk) (r2 : Tbk) (r3 : Tbk) (r4 : Tbk) (li : Tli) (fo : Tfo) (tx : Ttx) (co : Tco) (ke : Tke) (rf : (Nat → Int32)) (cp : Int32) (lk : Tlk) (fl : Tfl) (em : Int32) (tm : Ttm) (rd : Trd)  (o : Int32 × Tco × Tke × Trd) (h : fX6_reads co ke tm rd  = some o) : Sp yX6_reads wsX6_reads rX6_reads [.ref 36] (mkH cn bk st r0 r1 r2 r3 r4 li fo tx co ke rf cp lk fl em tm rd) (some (.int o.1)) (mkH cn bk st r0 r1 r2 r3 r4 li fo tx o.2.1 o.2.2.1 rf cp lk fl em tm o.2.2.2) := by
  refine Sp.of (lv := [some (.ref 36), none]) RX6 (by decide +kernel) rfl (Nat.le_of_ble_eq_true rfl) rfl ?_
  intro X C hT
  unfold fX6_reads at h
  refine wg_aload_n C dX6_reads_0 rfl ?_
  refine wg_iconst (v := 0) C dX6_reads_1 (by decide) ?_
  obtain ⟨q1, e1q, h⟩ := bnd h
  refine wg_callV (n := 1) (As := [.int (0 : Int32)]) (st := []) (st' := [.int q1.1]) C (sX6_goesThrough cn bk st r0 r1 r2 r3 r4 li fo tx co ke rf cp lk fl em tm rd (0 : Int32) q1 e1q) gX6_reads_X6_goesThrough rfl (by decide +kernel) ⟨⟨rfl, rfl⟩, Nat.le_of_ble_eq_true rfl, Nat.le_of_ble_eq_true rfl⟩ rfl rfl rfl rfl (Nat.le_of_ble_eq_true rfl) dX6_reads_2 rfl ?_
  refine wg_istore_n (lv' := [some (.ref 36), some (.int q1.1)]) C dX6_reads_5 (Nat.le_of_ble_eq_true rfl) rfl ?_
  refine wg_iload_n C dX6_reads_6 rfl ?_
  refine wg_if_ge (tgt := 12) C dX6_reads_7 (by decide) (fun c2 => ?_) (fun c2 => ?_)
  · replace h := ifP c2 h
    refine wg_aload_n C dX6_reads_12 rfl ?_
    obtain ⟨q3, e3q, h⟩ := bnd h
    refine wg_callV (n := 0) (As := []) (st := []) (st' := []) C (sX6_leavesState cn bk st r0 r1 r2 r3 r4 li fo tx q1.2.1 ke rf cp lk fl em tm q1.2.2  q3 e3q) gX6_reads_X6_leavesState rfl (by decide +kernel) ⟨⟨rfl, rfl⟩, Nat.le_of_ble_eq_true rfl, Nat.le_of_ble_eq_true rfl⟩ rfl rfl rfl rfl (Nat.le_of_ble_eq_true rfl) dX6_reads_13 rfl ?_
    refine wg_aload_n C dX6_reads_16 rfl ?_
    refine wg_iconst (v := 1) C dX6_reads_17 (by decide) ?_
    obtain ⟨q4, e4q, h⟩ := bnd h
    refine wg_callV (n := 1) (As := [.int (1 : Int32)]) (st := []) (st' := [.int q4.1]) C (sX6_goesThrough cn bk st r0 r1 r2 r3 r4 li fo tx q1.2.1 q3 rf cp lk fl em tm q1.2.2 (1 : Int32) q4 e4q) gX6_reads_X6_goesThrough rfl (by decide +kernel) ⟨⟨rfl, rfl⟩, Nat.le_of_ble_eq_true rfl, Nat.le_of_ble_eq_true rfl⟩ rfl rfl rfl rfl (Nat.le_of_ble_eq_true rfl) dX6_reads_18 rfl ?_
    obtain rfl := Option.some.inj h
    exact wg_iret C hT dX6_reads_21
  · replace h := ifN c2 h
    refine wg_iload_n C dX6_reads_10 rfl ?_
    obtain rfl := Option.some.inj h
    exact wg_iret C hT dX6_reads_11
abbrev rX6_back : Room := { frames := 0, cells := 0, slots := 0, locals := 0 }
theorem iwX6_back_6 : ∀ w ∈ wsX60, w ∈ wsX6_back := by decide +kernel
theorem fgX6_back_1 : FG wsX6_back RX6 1 6 0 := ⟨RX6, TX6, 21, rfl, by decide, by decide +kernel, iwX6_back_6⟩
theorem fgX6_back_13 : FG wsX6_back RX6 13 6 2 := ⟨RX6, TX6, 21, rfl, by decide, by decide +kernel, iwX6_back_6⟩
theorem fgX6_back_16 : FG wsX6_back RX6 16 6 3 := ⟨RX6, TX6, 21, rfl, by decide, by decide +kernel, iwX6_back_6⟩
theorem fgX6_back_19 : FG wsX6_back RX6 19 6 5 := ⟨RX6, TX6, 21, rfl, by decide, by decide +kernel, iwX6_back_6⟩
theorem fwX6_back_48 : FW wsX6_back RX6 48 6 1 .int := ⟨RX6, TX6, 21, tyX6, rfl, by decide, by decide +kernel, iwX6_back_6, tyX6_ok, nmX6, rfl, by decide +kernel⟩
theorem fgX6_back_52 : FG wsX6_back RX6 52 6 4 := ⟨RX6, TX6, 21, rfl, by decide, by decide +kernel, iwX6_back_6⟩
theorem fwX6_back_52 : FW wsX6_back RX6 52 6 4 .int := ⟨RX6, TX6, 21, tyX6, rfl, by decide, by decide +kernel, iwX6_back_6, tyX6_ok, nmX6, rfl, by decide +kernel⟩
set_option maxRecDepth 100000 in
set_option maxHeartbeats 4000000 in
theorem sbX6_back_51 (X : CX) (C : Ok X RX6 cX6_back wsX6_back rX6_back) (cn : Tcn) (bk : Tbk) (st : Tst) (r0 : Tbk) (r1 : Tbk) (r2 : Tbk) (r3 : Tbk) (r4 : Tbk) (li : Tli) (fo : Tfo) (tx : Ttx) (co : Tco) (ke : Tke) (rf : (Nat → Int32)) (cp : Int32) (lk : Tlk) (fl : Tfl) (em : Int32) (tm : Ttm) (rd : Trd) (x1 : Int32) (z : Int32 × Tco) (o : (Int32 × Tco) ⊕ Tco) (h : bX6_back_51 ke rf x1 z = some o) (k0 : ∀ a : Int32 × Tco, o = .inl a → Wg X 51 [some (.ref 36), some (.int x1), some (.int a.1)] [] (mkH cn bk st r0 r1 r2 r3 r4 li fo tx a.2 ke rf cp lk fl em tm rd)) (e0 : ∀ a : Tco, o = .inr a → Wg X 79 [some (.ref 36), some (.int x1), none] [] (mkH cn bk st r0 r1 r2 r3 r4 li fo tx a ke rf cp lk fl em tm rd)) : Wg X 51 [some (.ref 36), some (.int x1), some (.int z.1)] [] (mkH cn bk st r0 r1 r2 r3 r4 li fo tx z.2 ke rf cp lk fl em tm rd) := by
  unfold bX6_back_51 at h
  refine wg_iload_n C dX6_back_51 rfl ?_
  refine wg_bipush (v := 6) C dX6_back_52 (by decide) ?_
  refine wg_icmp_ge (tgt := 79) C dX6_back_54 (by decide) (fun c3 => ?_) (fun c3 => ?_)
  · replace h := ifP c3 h
    refine wg_drop (lv' := [some (.ref 36), some (.int x1), none]) [2] rfl ?_
    have hk := e0 _ (Option.some.inj h).symm
    exact hk
  · replace h := ifN c3 h
    refine wg_aload_n C dX6_back_57 rfl ?_
    refine wg_get (v := .ref 38) C fgX6_back_13 rfl rfl dX6_back_58 ?_
    refine wg_iload_n C dX6_back_61 rfl ?_
    refine wg_aload_n C dX6_back_62 rfl ?_
    refine wg_get (v := .ref 40) C fgX6_back_19 rfl rfl dX6_back_63 ?_
    refine wg_iload_n C dX6_back_66 rfl ?_
    refine wg_iconst (v := 1) C dX6_back_67 (by decide) ?_
    refine wg_iadd C dX6_back_68 ?_
    refine wg_iload_n C dX6_back_69 rfl ?_
    refine wg_iadd C dX6_back_70 ?_
    obtain ⟨g4, h⟩ := gdP h
    refine wg_iald (f := ke.2) (n := 1035) C rfl g4 dX6_back_71 ?_
    obtain ⟨g5, h⟩ := gdP h
    refine wg_iast (f := z.2.2.1) (n := 6) (hp' := (mkH cn bk st r0 r1 r2 r3 r4 li fo tx (z.2.1, (upd z.2.2.1 (z.1).toNatClampNeg (ke.2 (((x1 + (1 : Int32)) + z.1)).toNatClampNeg)), z.2.2.2) ke rf cp lk fl em tm rd)) C rfl g5 rfl dX6_back_72 ?_
    refine wg_iinc (v := (z.1 + (1 : Int32))) (lv' := [some (.ref 36), some (.int x1), some (.int (z.1 + (1 : Int32)))]) C dX6_back_73 rfl rfl rfl ?_
    refine wg_goto (tgt := 51) C dX6_back_76 (by decide) ?_
    have hk := k0 _ (Option.some.inj h).symm
    exact hk
set_option maxRecDepth 100000 in
set_option maxHeartbeats 4000000 in
theorem slX6_back_51 (X : CX) (C : Ok X RX6 cX6_back wsX6_back rX6_back) (cn : Tcn) (bk : Tbk) (st : Tst) (r0 : Tbk) (r1 : Tbk) (r2 : Tbk) (r3 : Tbk) (r4 : Tbk) (li : Tli) (fo : Tfo) (tx : Ttx) (co : Tco) (ke : Tke) (rf : (Nat → Int32)) (cp : Int32) (lk : Tlk) (fl : Tfl) (em : Int32) (tm : Ttm) (rd : Trd) (x1 : Int32) (o : Tco) (e0 : ∀ a : Tco, o = a → Wg X 79 [some (.ref 36), some (.int x1), none] [] (mkH cn bk st r0 r1 r2 r3 r4 li fo tx a ke rf cp lk fl em tm rd)) : ∀ (n : Nat) (z : Int32 × Tco), lpF (bX6_back_51 ke rf x1) n z = some o → Wg X 51 [some (.ref 36), some (.int x1), some (.int z.1)] [] (mkH cn bk st r0 r1 r2 r3 r4 li fo tx z.2 ke rf cp lk fl em tm rd) := by
  intro n
  induction n with
  | zero => intro z h; cases h
  | succ n ih =>
    intro z h
    obtain ⟨r, hB, h⟩ := bnd h
    refine sbX6_back_51 X C cn bk st r0 r1 r2 r3 r4 li fo tx co ke rf cp lk fl em tm rd x1 z r hB (fun a e => ih a (by subst e; exact h)) (fun a e => e0 a (by subst e; exact (Option.some.inj h).symm))
set_option maxRecDepth 100000 in
set_option maxHeartbeats 4000000 in
theorem sbX6_back_81 (X : CX) (C : Ok X RX6 cX6_back wsX6_back rX6_back) (cn : Tcn) (bk : Tbk) (st : Tst) (r0 : Tbk) (r1 : Tbk) (r2 : Tbk) (r3 : Tbk) (r4 : Tbk) (li : Tli) (fo : Tfo) (tx : Ttx) (co : Tco) (ke : Tke) (rf : (Nat → Int32)) (cp : Int32) (lk : Tlk) (fl : Tfl) (em : Int32) (tm : Ttm) (rd : Trd) (x1 : Int32) (z : Int32 × Tco) (o : (Int32 × Tco) ⊕ Tco) (h : bX6_back_81 ke rf x1 z = some o) (k0 : ∀ a : Int32 × Tco, o = .inl a → Wg X 81 [some (.ref 36), some (.int x1), some (.int a.1)] [] (mkH cn bk st r0 r1 r2 r3 r4 li fo tx a.2 ke rf cp lk fl em tm rd)) (e0 : ∀ a : Tco, o = .inr a → Wg X 111 [some (.ref 36), none, none] [] (mkH cn bk st r0 r1 r2 r3 r4 li fo tx a ke rf cp lk fl em tm rd)) : Wg X 81 [some (.ref 36), some (.int x1), some (.int z.1)] [] (mkH cn bk st r0 r1 r2 r3 r4 li fo tx z.2 ke rf cp lk fl em tm rd) := by
  unfold bX6_back_81 at h
  refine wg_iload_n C dX6_back_81 rfl ?_
  refine wg_sipush (v := 200) C dX6_back_82 (by decide) ?_
  refine wg_icmp_ge (tgt := 111) C dX6_back_85 (by decide) (fun c7 => ?_) (fun c7 => ?_)
  · replace h := ifP c7 h
    refine wg_drop (lv' := [some (.ref 36), none, none]) [1, 2] rfl ?_
    have hk := e0 _ (Option.some.inj h).symm
    exact hk
  · replace h := ifN c7 h
    refine wg_aload_n C dX6_back_88 rfl ?_
    refine wg_get (v := .ref 39) C fgX6_back_16 rfl rfl dX6_back_89 ?_
    refine wg_iload_n C dX6_back_92 rfl ?_
    refine wg_aload_n C dX6_back_93 rfl ?_
    refine wg_get (v := .ref 40) C fgX6_back_19 rfl rfl dX6_back_94 ?_
    refine wg_iload_n C dX6_back_97 rfl ?_
    refine wg_bipush (v := 7) C dX6_back_98 (by decide) ?_
    refine wg_iadd C dX6_back_100 ?_
    refine wg_iload_n C dX6_back_101 rfl ?_
    refine wg_iadd C dX6_back_102 ?_
    obtain ⟨g8, h⟩ := gdP h
    refine wg_iald (f := ke.2) (n := 1035) C rfl g8 dX6_back_103 ?_
    obtain ⟨g9, h⟩ := gdP h
    refine wg_iast (f := z.2.2.2) (n := 200) (hp' := (mkH cn bk st r0 r1 r2 r3 r4 li fo tx (z.2.1, z.2.2.1, (upd z.2.2.2 (z.1).toNatClampNeg (ke.2 (((x1 + (7 : Int32)) + z.1)).toNatClampNeg))) ke rf cp lk fl em tm rd)) C rfl g9 rfl dX6_back_104 ?_
    refine wg_iinc (v := (z.1 + (1 : Int32))) (lv' := [some (.ref 36), some (.int x1), some (.int (z.1 + (1 : Int32)))]) C dX6_back_105 rfl rfl rfl ?_
    refine wg_goto (tgt := 81) C dX6_back_108 (by decide) ?_
    have hk := k0 _ (Option.some.inj h).symm
    exact hk
set_option maxRecDepth 100000 in
set_option maxHeartbeats 4000000 in
theorem slX6_back_81 (X : CX) (C : Ok X RX6 cX6_back wsX6_back rX6_back) (cn : Tcn) (bk : Tbk) (st : Tst) (r0 : Tbk) (r1 : Tbk) (r2 : Tbk) (r3 : Tbk) (r4 : Tbk) (li : Tli) (fo : Tfo) (tx : Ttx) (co : Tco) (ke : Tke) (rf : (Nat → Int32)) (cp : Int32) (lk : Tlk) (fl : Tfl) (em : Int32) (tm : Ttm) (rd : Trd) (x1 : Int32) (o : Tco) (e0 : ∀ a : Tco, o = a → Wg X 111 [some (.ref 36), none, none] [] (mkH cn bk st r0 r1 r2 r3 r4 li fo tx a ke rf cp lk fl em tm rd)) : ∀ (n : Nat) (z : Int32 × Tco), lpF (bX6_back_81 ke rf x1) n z = some o → Wg X 81 [some (.ref 36), some (.int x1), some (.int z.1)] [] (mkH cn bk st r0 r1 r2 r3 r4 li fo tx z.2 ke rf cp lk fl em tm rd) := by
  intro n
  induction n with
  | zero => intro z h; cases h
  | succ n ih =>
    intro z h
    obtain ⟨r, hB, h⟩ := bnd h
    refine sbX6_back_81 X C cn bk st r0 r1 r2 r3 r4 li fo tx co ke rf cp lk fl em tm rd x1 z r hB (fun a e => ih a (by subst e; exact h)) (fun a e => e0 a (by subst e; exact (Option.some.inj h).symm))
set_option maxRecDepth 100000 in
set_option maxHeartbeats 4000000 in
theorem sX6_back (cn : Tcn) (bk : Tbk) (st : Tst) (r0 : Tbk) (r1 : Tbk) (r2 : Tbk) (r3 : Tbk) (r4 : Tbk) (li : Tli) (fo : Tfo) (tx : Ttx) (co : Tco) (ke : Tke) (rf : (Nat → Int32)) (cp : Int32) (lk : Tlk) (fl : Tfl) (em : Int32) (tm : Ttm) (rd : Trd)  (o : Int32 × Tco × Tke × (Nat → Int32)) (h : fX6_back co ke rf  = some o) : Sp yX6_back wsX6_back rX6_back [.ref 36] (mkH cn bk st r0 r1 r2 r3 r4 li fo tx co ke rf cp lk fl em tm rd) (some (.int o.1)) (mkH cn bk st r0 r1 r2 r3 r4 li fo tx o.2.1 o.2.2.1 o.2.2.2 cp lk fl em tm rd) := by
  refine Sp.of (lv := [some (.ref 36), none, none]) RX6 (by decide +kernel) rfl (Nat.le_of_ble_eq_true rfl) rfl ?_
  intro X C hT
  unfold fX6_back at h
  refine wg_aload_n C dX6_back_0 rfl ?_
  refine wg_get (v := .int ke.1) C fgX6_back_52 rfl rfl dX6_back_1 ?_
  refine wg_if_ne (tgt := 20) C dX6_back_4 (by decide) (fun c1 => ?_) (fun c1 => ?_)
  · replace h := ifP c1 h
    refine wg_aload_n C dX6_back_20 rfl ?_
    refine wg_dup C dX6_back_21 rfl ?_
    refine wg_get (v := .int ke.1) C fgX6_back_52 rfl rfl dX6_back_22 ?_
    refine wg_iconst (v := 1) C dX6_back_25 (by decide) ?_
    refine wg_isub C dX6_back_26 ?_
    refine wg_put (hp' := (mkH cn bk st r0 r1 r2 r3 r4 li fo tx co ((ke.1 - (1 : Int32)), ke.2) rf cp lk fl em tm rd)) C fwX6_back_52 rfl (Nat.le_of_ble_eq_true rfl) rfl rfl rfl dX6_back_27 ?_
    refine wg_sipush (v := 207) C dX6_back_30 (by decide) ?_
    refine wg_aload_n C dX6_back_33 rfl ?_
    refine wg_get (v := .int (ke.1 - (1 : Int32))) C fgX6_back_52 rfl rfl dX6_back_34 ?_
    refine wg_imul C dX6_back_37 ?_
    refine wg_istore_n (lv' := [some (.ref 36), some (.int ((207 : Int32) * (ke.1 - (1 : Int32)))), none]) C dX6_back_38 (Nat.le_of_ble_eq_true rfl) rfl ?_
    refine wg_aload_n C dX6_back_39 rfl ?_
    refine wg_aload_n C dX6_back_40 rfl ?_
    refine wg_get (v := .ref 40) C fgX6_back_19 rfl rfl dX6_back_41 ?_
    refine wg_iload_n C dX6_back_44 rfl ?_
    obtain ⟨g2, h⟩ := gdP h
    refine wg_iald (f := ke.2) (n := 1035) C rfl g2 dX6_back_45 ?_
    refine wg_put (hp' := (mkH cn bk st r0 r1 r2 r3 r4 li fo tx ((ke.2 (((207 : Int32) * (ke.1 - (1 : Int32)))).toNatClampNeg), co.2.1, co.2.2) ((ke.1 - (1 : Int32)), ke.2) rf cp lk fl em tm rd)) C fwX6_back_48 rfl (Nat.le_of_ble_eq_true rfl) rfl rfl rfl dX6_back_46 ?_
    refine wg_iconst (v := 0) C dX6_back_49 (by decide) ?_
    refine wg_istore_n (lv' := [some (.ref 36), some (.int ((207 : Int32) * (ke.1 - (1 : Int32)))), some (.int (0 : Int32))]) C dX6_back_50 (Nat.le_of_ble_eq_true rfl) rfl ?_
    obtain ⟨t6, hL6, h⟩ := bnd h
    refine slX6_back_51 X C cn bk st r0 r1 r2 r3 r4 li fo tx ((ke.2 (((207 : Int32) * (ke.1 - (1 : Int32)))).toNatClampNeg), co.2.1, co.2.2) ((ke.1 - (1 : Int32)), ke.2) rf cp lk fl em tm rd ((207 : Int32) * (ke.1 - (1 : Int32))) t6 (fun a e => ?_) FU ((0 : Int32), ((ke.2 (((207 : Int32) * (ke.1 - (1 : Int32)))).toNatClampNeg), co.2.1, co.2.2)) hL6
    subst e
    refine wg_iconst (v := 0) C dX6_back_79 (by decide) ?_
    refine wg_istore_n (lv' := [some (.ref 36), some (.int ((207 : Int32) * (ke.1 - (1 : Int32)))), some (.int (0 : Int32))]) C dX6_back_80 (Nat.le_of_ble_eq_true rfl) rfl ?_
    obtain ⟨t10, hL10, h⟩ := bnd h
    refine slX6_back_81 X C cn bk st r0 r1 r2 r3 r4 li fo tx t6 ((ke.1 - (1 : Int32)), ke.2) rf cp lk fl em tm rd ((207 : Int32) * (ke.1 - (1 : Int32))) t10 (fun a e => ?_) FU ((0 : Int32), t6) hL10
    subst e
    refine wg_aload_n C dX6_back_111 rfl ?_
    refine wg_get (v := .int (ke.1 - (1 : Int32))) C fgX6_back_52 rfl rfl dX6_back_112 ?_
    obtain rfl := Option.some.inj h
    exact wg_iret C hT dX6_back_115
  · replace h := ifN c1 h
    refine wg_aload_n C dX6_back_7 rfl ?_
    refine wg_get (v := .ref 37) C fgX6_back_1 rfl rfl dX6_back_8 ?_
    refine wg_iconst (v := 1) C dX6_back_11 (by decide) ?_
    refine wg_dup2 C dX6_back_12 rfl rfl ?_
    obtain ⟨g11, h⟩ := gdP h
    refine wg_iald (f := rf) (n := 3) C rfl g11 dX6_back_13 ?_
    refine wg_iconst (v := 1) C dX6_back_14 (by decide) ?_
    refine wg_iadd C dX6_back_15 ?_
    obtain ⟨g12, h⟩ := gdP h
    refine wg_iast (f := rf) (n := 3) (hp' := (mkH cn bk st r0 r1 r2 r3 r4 li fo tx co ke (upd rf ((1 : Int32)).toNatClampNeg ((rf ((1 : Int32)).toNatClampNeg) + (1 : Int32))) cp lk fl em tm rd)) C rfl g12 rfl dX6_back_16 ?_
    refine wg_bipush (v := -3) C dX6_back_17 (by decide) ?_
    obtain rfl := Option.some.inj h
    exact wg_iret C hT dX6_back_19
abbrev rX6_toldBy : Room := { frames := 0, cells := 0, slots := 0, locals := 0 }
theorem iwX6_toldBy_6 : ∀ w ∈ wsX60, w ∈ wsX6_toldBy := by decide +kernel
theorem fgX6_toldBy_1 : FG wsX6_toldBy RX6 1 6 0 := ⟨RX6, TX6, 21, rfl, by decide, by decide +kernel, iwX6_toldBy_6⟩
theorem fgX6_toldBy_13 : FG wsX6_toldBy RX6 13 6 2 := ⟨RX6, TX6, 21, rfl, by decide, by decide +kernel, iwX6_toldBy_6⟩
theorem fgX6_toldBy_48 : FG wsX6_toldBy RX6 48 6 1 := ⟨RX6, TX6, 21, rfl, by decide, by decide +kernel, iwX6_toldBy_6⟩
theorem fgX6_toldBy_52 : FG wsX6_toldBy RX6 52 6 4 := ⟨RX6, TX6, 21, rfl, by decide, by decide +kernel, iwX6_toldBy_6⟩
theorem fgX6_toldBy_166 : FG wsX6_toldBy RX6 166 6 16 := ⟨RX6, TX6, 21, rfl, by decide, by decide +kernel, iwX6_toldBy_6⟩
set_option maxRecDepth 100000 in
set_option maxHeartbeats 4000000 in
theorem sjX6_toldBy_59 (X : CX) (C : Ok X RX6 cX6_toldBy wsX6_toldBy rX6_toldBy) (cn : Tcn) (bk : Tbk) (st : Tst) (r0 : Tbk) (r1 : Tbk) (r2 : Tbk) (r3 : Tbk) (r4 : Tbk) (li : Tli) (fo : Tfo) (tx : Ttx) (co : Tco) (ke : Tke) (rf : (Nat → Int32)) (cp : Int32) (lk : Tlk) (fl : Tfl) (em : Int32) (tm : Ttm) (rd : Trd) (y0 : Int32) (o : Int32) (h : jX6_toldBy_59 co ke rf tm y0 = some o) (hT : Rt X (some .int) (some (.int o)) (mkH cn bk st r0 r1 r2 r3 r4 li fo tx co ke rf cp lk fl em tm rd)) : Wg X 59 [none, none] [.int y0] (mkH cn bk st r0 r1 r2 r3 r4 li fo tx co ke rf cp lk fl em tm rd) := by
  unfold jX6_toldBy_59 at h
  obtain rfl := Option.some.inj h
  exact wg_iret C hT dX6_toldBy_59
set_option maxRecDepth 100000 in
set_option maxHeartbeats 4000000 in
theorem sX6_toldBy (cn : Tcn) (bk : Tbk) (st : Tst) (r0 : Tbk) (r1 : Tbk) (r2 : Tbk) (r3 : Tbk) (r4 : Tbk) (li : Tli) (fo : Tfo) (tx : Ttx) (co : Tco) (ke : Tke) (rf : (Nat → Int32)) (cp : Int32) (lk : Tlk) (fl : Tfl) (em : Int32) (tm : Ttm) (rd : Trd) (x1 : Int32) (o : Int32) (h : fX6_toldBy co ke rf tm x1 = some o) : Sp yX6_toldBy wsX6_toldBy rX6_toldBy [.ref 36, .int x1] (mkH cn bk st r0 r1 r2 r3 r4 li fo tx co ke rf cp lk fl em tm rd) (some (.int o)) (mkH cn bk st r0 r1 r2 r3 r4 li fo tx co ke rf cp lk fl em tm rd) := by
  refine Sp.of (lv := [some (.ref 36), some (.int x1)]) RX6 (by decide +kernel) rfl (Nat.le_of_ble_eq_true rfl) rfl ?_
  intro X C hT
  unfold fX6_toldBy at h
  refine wg_iload_n C dX6_toldBy_0 rfl ?_
  refine wg_iconst (v := 3) C dX6_toldBy_1 (by decide) ?_
  refine wg_icmp_ge (tgt := 14) C dX6_toldBy_2 (by decide) (fun c1 => ?_) (fun c1 => ?_)
  · replace h := ifP c1 h
    refine wg_iload_n C dX6_toldBy_14 rfl ?_
    refine wg_iconst (v := 3) C dX6_toldBy_15 (by decide) ?_
    refine wg_icmp_ne (tgt := 26) C dX6_toldBy_16 (by decide) (fun c2 => ?_) (fun c2 => ?_)
    · replace h := ifP c2 h
      refine wg_iload_n C dX6_toldBy_26 rfl ?_
      refine wg_iconst (v := 4) C dX6_toldBy_27 (by decide) ?_
      refine wg_icmp_ne (tgt := 38) C dX6_toldBy_28 (by decide) (fun c3 => ?_) (fun c3 => ?_)
      · replace h := ifP c3 h
        refine wg_iload_n C dX6_toldBy_38 rfl ?_
        refine wg_bipush (v := 7) C dX6_toldBy_39 (by decide) ?_
        refine wg_icmp_ne (tgt := 51) C dX6_toldBy_41 (by decide) (fun c4 => ?_) (fun c4 => ?_)
        · replace h := ifP c4 h
          refine wg_aload_n C dX6_toldBy_51 rfl ?_
          refine wg_get (v := .ref 38) C fgX6_toldBy_13 rfl rfl dX6_toldBy_52 ?_
          refine wg_iload_n C dX6_toldBy_55 rfl ?_
          refine wg_iconst (v := 1) C dX6_toldBy_56 (by decide) ?_
          refine wg_isub C dX6_toldBy_57 ?_
          obtain ⟨g5, h⟩ := gdP h
          refine wg_iald (f := co.2.1) (n := 6) C rfl g5 dX6_toldBy_58 ?_
          refine wg_drop (lv' := [none, none]) [0, 1] rfl ?_
          exact sjX6_toldBy_59 X C cn bk st r0 r1 r2 r3 r4 li fo tx co ke rf cp lk fl em tm rd (co.2.1 ((x1 - (1 : Int32))).toNatClampNeg) _ h hT
        · replace h := ifN c4 h
          refine wg_aload_n C dX6_toldBy_44 rfl ?_
          refine wg_get (v := .int ke.1) C fgX6_toldBy_52 rfl rfl dX6_toldBy_45 ?_
          refine wg_goto (tgt := 59) C dX6_toldBy_48 (by decide) ?_
          refine wg_drop (lv' := [none, none]) [0, 1] rfl ?_
          exact sjX6_toldBy_59 X C cn bk st r0 r1 r2 r3 r4 li fo tx co ke rf cp lk fl em tm rd ke.1 _ h hT
      · replace h := ifN c3 h
        refine wg_aload_n C dX6_toldBy_31 rfl ?_
        refine wg_get (v := .int co.1) C fgX6_toldBy_48 rfl rfl dX6_toldBy_32 ?_
        refine wg_goto (tgt := 59) C dX6_toldBy_35 (by decide) ?_
        refine wg_drop (lv' := [none, none]) [0, 1] rfl ?_
        exact sjX6_toldBy_59 X C cn bk st r0 r1 r2 r3 r4 li fo tx co ke rf cp lk fl em tm rd co.1 _ h hT
    · replace h := ifN c2 h
      refine wg_aload_n C dX6_toldBy_19 rfl ?_
      refine wg_get (v := .int tm.2) C fgX6_toldBy_166 rfl rfl dX6_toldBy_20 ?_
      refine wg_goto (tgt := 59) C dX6_toldBy_23 (by decide) ?_
      refine wg_drop (lv' := [none, none]) [0, 1] rfl ?_
      exact sjX6_toldBy_59 X C cn bk st r0 r1 r2 r3 r4 li fo tx co ke rf cp lk fl em tm rd tm.2 _ h hT
  · replace h := ifN c1 h
    refine wg_aload_n C dX6_toldBy_5 rfl ?_
    refine wg_get (v := .ref 37) C fgX6_toldBy_1 rfl rfl dX6_toldBy_6 ?_
    refine wg_iload_n C dX6_toldBy_9 rfl ?_
    obtain ⟨g6, h⟩ := gdP h
    refine wg_iald (f := rf) (n := 3) C rfl g6 dX6_toldBy_10 ?_
    refine wg_goto (tgt := 59) C dX6_toldBy_11 (by decide) ?_
    refine wg_drop (lv' := [none, none]) [0, 1] rfl ?_
    exact sjX6_toldBy_59 X C cn bk st r0 r1 r2 r3 r4 li fo tx co ke rf cp lk fl em tm rd (rf (x1).toNatClampNeg) _ h hT
abbrev rX6_told : Room := { frames := 1, cells := 0, slots := 0, locals := 22 }
set_option maxRecDepth 100000 in
set_option maxHeartbeats 4000000 in
theorem sjX6_told_22 (X : CX) (C : Ok X RX6 cX6_told wsX6_told rX6_told) (cn : Tcn) (bk : Tbk) (st : Tst) (r0 : Tbk) (r1 : Tbk) (r2 : Tbk) (r3 : Tbk) (r4 : Tbk) (li : Tli) (fo : Tfo) (tx : Ttx) (co : Tco) (ke : Tke) (rf : (Nat → Int32)) (cp : Int32) (lk : Tlk) (fl : Tfl) (em : Int32) (tm : Ttm) (rd : Trd) (y0 : Int32) (o : Int32 × (Nat → Int32)) (h : jX6_told_22 co ke rf tm y0 = some o) (hT : Rt X (some .int) (some (.int o.1)) (mkH cn bk st r0 r1 r2 r3 r4 li fo tx co ke o.2 cp lk fl em tm rd)) : Wg X 22 [none, none] [.int y0] (mkH cn bk st r0 r1 r2 r3 r4 li fo tx co ke rf cp lk fl em tm rd) := by
  unfold jX6_told_22 at h
  obtain rfl := Option.some.inj h
  exact wg_iret C hT dX6_told_22
set_option maxRecDepth 100000 in
set_option maxHeartbeats 4000000 in
theorem sX6_told (cn : Tcn) (bk : Tbk) (st : Tst) (r0 : Tbk) (r1 : Tbk) (r2 : Tbk) (r3 : Tbk) (r4 : Tbk) (li : Tli) (fo : Tfo) (tx : Ttx) (co : Tco) (ke : Tke) (rf : (Nat → Int32)) (cp : Int32) (lk : Tlk) (fl : Tfl) (em : Int32) (tm : Ttm) (rd : Trd) (x1 : Int32) (o : Int32 × (Nat → Int32)) (h : fX6_told co ke rf tm x1 = some o) : Sp yX6_told wsX6_told rX6_told [.ref 36, .int x1] (mkH cn bk st r0 r1 r2 r3 r4 li fo tx co ke rf cp lk fl em tm rd) (some (.int o.1)) (mkH cn bk st r0 r1 r2 r3 r4 li fo tx co ke o.2 cp lk fl em tm rd) := by
  refine Sp.of (lv := [some (.ref 36), some (.int x1)]) RX6 (by decide +kernel) rfl (Nat.le_of_ble_eq_true rfl) rfl ?_
  intro X C hT
  unfold fX6_told at h
  refine wg_iload_n C dX6_told_0 rfl ?_
  refine wg_iconst (v := 0) C dX6_told_1 (by decide) ?_
  refine wg_bipush (v := 7) C dX6_told_2 (by decide) ?_
  obtain ⟨q1, e1q, h⟩ := bnd h
  refine wg_callT (n := 3) (As := [.int x1, .int (0 : Int32), .int (7 : Int32)]) (st := []) (st' := [.int q1]) C (sX6_in cn bk st r0 r1 r2 r3 r4 li fo tx co ke rf cp lk fl em tm rd x1 (0 : Int32) (7 : Int32) q1 e1q) gX6_told_X6_in rfl (by decide +kernel) ⟨⟨rfl, rfl⟩, Nat.le_of_ble_eq_true rfl, Nat.le_of_ble_eq_true rfl⟩ rfl rfl (Nat.le_of_ble_eq_true rfl) dX6_told_4 rfl ?_
  refine wg_if_eq (tgt := 18) C dX6_told_7 (by decide) (fun c2 => ?_) (fun c2 => ?_)
  · replace h := ifP c2 h
    refine wg_aload_n C dX6_told_18 rfl ?_
    obtain ⟨q3, e3q, h⟩ := bnd h
    refine wg_callV (n := 0) (As := []) (st := []) (st' := [.int q3.1]) C (sX6_bad cn bk st r0 r1 r2 r3 r4 li fo tx co ke rf cp lk fl em tm rd  q3 e3q) gX6_told_X6_bad rfl (by decide +kernel) ⟨⟨rfl, rfl⟩, Nat.le_of_ble_eq_true rfl, Nat.le_of_ble_eq_true rfl⟩ rfl rfl rfl rfl (Nat.le_of_ble_eq_true rfl) dX6_told_19 rfl ?_
    refine wg_drop (lv' := [none, none]) [0, 1] rfl ?_
    exact sjX6_told_22 X C cn bk st r0 r1 r2 r3 r4 li fo tx co ke q3.2 cp lk fl em tm rd q3.1 _ h hT
  · replace h := ifN c2 h
    refine wg_aload_n C dX6_told_10 rfl ?_
    refine wg_iload_n C dX6_told_11 rfl ?_
    obtain ⟨q4, e4q, h⟩ := bnd h
    refine wg_callV (n := 1) (As := [.int x1]) (st := []) (st' := [.int q4]) C (sX6_toldBy cn bk st r0 r1 r2 r3 r4 li fo tx co ke rf cp lk fl em tm rd x1 q4 e4q) gX6_told_X6_toldBy rfl (by decide +kernel) ⟨⟨rfl, rfl⟩, Nat.le_of_ble_eq_true rfl, Nat.le_of_ble_eq_true rfl⟩ rfl rfl rfl rfl (Nat.le_of_ble_eq_true rfl) dX6_told_12 rfl ?_
    refine wg_goto (tgt := 22) C dX6_told_15 (by decide) ?_
    refine wg_drop (lv' := [none, none]) [0, 1] rfl ?_
    exact sjX6_told_22 X C cn bk st r0 r1 r2 r3 r4 li fo tx co ke rf cp lk fl em tm rd q4 _ h hT
abbrev rX6_digest : Room := { frames := 7, cells := 0, slots := 0, locals := 167 }
theorem iwX6_digest_6 : ∀ w ∈ wsX60, w ∈ wsX6_digest := by decide +kernel
theorem fgX6_digest_13 : FG wsX6_digest RX6 13 6 2 := ⟨RX6, TX6, 21, rfl, by decide, by decide +kernel, iwX6_digest_6⟩
theorem fgX6_digest_16 : FG wsX6_digest RX6 16 6 3 := ⟨RX6, TX6, 21, rfl, by decide, by decide +kernel, iwX6_digest_6⟩
theorem fgX6_digest_22 : FG wsX6_digest RX6 22 6 8 := ⟨RX6, TX6, 21, rfl, by decide, by decide +kernel, iwX6_digest_6⟩
theorem fgX6_digest_25 : FG wsX6_digest RX6 25 6 9 := ⟨RX6, TX6, 21, rfl, by decide, by decide +kernel, iwX6_digest_6⟩
theorem fgX6_digest_48 : FG wsX6_digest RX6 48 6 1 := ⟨RX6, TX6, 21, rfl, by decide, by decide +kernel, iwX6_digest_6⟩
theorem fgX6_digest_124 : FG wsX6_digest RX6 124 6 7 := ⟨RX6, TX6, 21, rfl, by decide, by decide +kernel, iwX6_digest_6⟩
set_option maxRecDepth 100000 in
set_option maxHeartbeats 4000000 in
theorem sbX6_digest_6 (X : CX) (C : Ok X RX6 cX6_digest wsX6_digest rX6_digest) (cn : Tcn) (bk : Tbk) (st : Tst) (r0 : Tbk) (r1 : Tbk) (r2 : Tbk) (r3 : Tbk) (r4 : Tbk) (li : Tli) (fo : Tfo) (tx : Ttx) (co : Tco) (ke : Tke) (rf : (Nat → Int32)) (cp : Int32) (lk : Tlk) (fl : Tfl) (em : Int32) (tm : Ttm) (rd : Trd)  (z : Int64 × Int32) (o : (Int64 × Int32) ⊕ Int64) (h : bX6_digest_6 co ke rf cp lk fl em tm  z = some o) (k0 : ∀ a : Int64 × Int32, o = .inl a → Wg X 6 [some (.ref 36), some (.long a.1), none, some (.int a.2)] [] (mkH cn bk st r0 r1 r2 r3 r4 li fo tx co ke rf cp lk fl em tm rd)) (e0 : ∀ a : Int64, o = .inr a → Wg X 31 [some (.ref 36), some (.long a), none, none] [] (mkH cn bk st r0 r1 r2 r3 r4 li fo tx co ke rf cp lk fl em tm rd)) : Wg X 6 [some (.ref 36), some (.long z.1), none, some (.int z.2)] [] (mkH cn bk st r0 r1 r2 r3 r4 li fo tx co ke rf cp lk fl em tm rd) := by
  unfold bX6_digest_6 at h
  refine wg_iload_n C dX6_digest_6 rfl ?_
  refine wg_bipush (v := 8) C dX6_digest_7 (by decide) ?_
  refine wg_icmp_ge (tgt := 31) C dX6_digest_9 (by decide) (fun c1 => ?_) (fun c1 => ?_)
  · replace h := ifP c1 h
    refine wg_drop (lv' := [some (.ref 36), some (.long z.1), none, none]) [3] rfl ?_
    have hk := e0 _ (Option.some.inj h).symm
    exact hk
  · replace h := ifN c1 h
    refine wg_ldcl (v := 31) C (by decide +kernel) dX6_digest_12 ?_
    refine wg_lload_n C dX6_digest_15 rfl ?_
    refine wg_lmul C dX6_digest_16 ?_
    refine wg_aload_n C dX6_digest_17 rfl ?_
    refine wg_iload_n C dX6_digest_18 rfl ?_
    obtain ⟨q2, e2q, h⟩ := bnd h
    refine wg_callV (n := 1) (As := [.int z.2]) (st := [.long ((31 : Int64) * z.1)]) (st' := [.int q2, .long ((31 : Int64) * z.1)]) C (sX6_toldBy cn bk st r0 r1 r2 r3 r4 li fo tx co ke rf cp lk fl em tm rd z.2 q2 e2q) gX6_digest_X6_toldBy rfl (by decide +kernel) ⟨⟨rfl, rfl⟩, Nat.le_of_ble_eq_true rfl, Nat.le_of_ble_eq_true rfl⟩ rfl rfl rfl rfl (Nat.le_of_ble_eq_true rfl) dX6_digest_19 rfl ?_
    refine wg_i2l C dX6_digest_22 ?_
    refine wg_ladd C dX6_digest_23 ?_
    refine wg_lstore_n (lv' := [some (.ref 36), some (.long (((31 : Int64) * z.1) + (q2).toInt64)), none, some (.int z.2)]) C dX6_digest_24 (Nat.le_of_ble_eq_true rfl) rfl ?_
    refine wg_iinc (v := (z.2 + (1 : Int32))) (lv' := [some (.ref 36), some (.long (((31 : Int64) * z.1) + (q2).toInt64)), none, some (.int (z.2 + (1 : Int32)))]) C dX6_digest_25 rfl rfl rfl ?_
    refine wg_goto (tgt := 6) C dX6_digest_28 (by decide) ?_
    have hk := k0 _ (Option.some.inj h).symm
    exact hk
set_option maxRecDepth 100000 in
set_option maxHeartbeats 4000000 in
theorem slX6_digest_6 (X : CX) (C : Ok X RX6 cX6_digest wsX6_digest rX6_digest) (cn : Tcn) (bk : Tbk) (st : Tst) (r0 : Tbk) (r1 : Tbk) (r2 : Tbk) (r3 : Tbk) (r4 : Tbk) (li : Tli) (fo : Tfo) (tx : Ttx) (co : Tco) (ke : Tke) (rf : (Nat → Int32)) (cp : Int32) (lk : Tlk) (fl : Tfl) (em : Int32) (tm : Ttm) (rd : Trd)  (o : Int64) (e0 : ∀ a : Int64, o = a → Wg X 31 [some (.ref 36), some (.long a), none, none] [] (mkH cn bk st r0 r1 r2 r3 r4 li fo tx co ke rf cp lk fl em tm rd)) : ∀ (n : Nat) (z : Int64 × Int32), lpF (bX6_digest_6 co ke rf cp lk fl em tm ) n z = some o → Wg X 6 [some (.ref 36), some (.long z.1), none, some (.int z.2)] [] (mkH cn bk st r0 r1 r2 r3 r4 li fo tx co ke rf cp lk fl em tm rd) := by
  intro n
  induction n with
  | zero => intro z h; cases h
  | succ n ih =>
    intro z h
    obtain ⟨r, hB, h⟩ := bnd h
    refine sbX6_digest_6 X C cn bk st r0 r1 r2 r3 r4 li fo tx co ke rf cp lk fl em tm rd  z r hB (fun a e => ih a (by subst e; exact h)) (fun a e => e0 a (by subst e; exact (Option.some.inj h).symm))
set_option maxRecDepth 100000 in
set_option maxHeartbeats 4000000 in
theorem sbX6_digest_33 (X : CX) (C : Ok X RX6 cX6_digest wsX6_digest rX6_digest) (cn : Tcn) (bk : Tbk) (st : Tst) (r0 : Tbk) (r1 : Tbk) (r2 : Tbk) (r3 : Tbk) (r4 : Tbk) (li : Tli) (fo : Tfo) (tx : Ttx) (co : Tco) (ke : Tke) (rf : (Nat → Int32)) (cp : Int32) (lk : Tlk) (fl : Tfl) (em : Int32) (tm : Ttm) (rd : Trd)  (z : Int64 × Int32) (o : (Int64 × Int32) ⊕ Int64) (h : bX6_digest_33 co ke rf cp lk fl em tm  z = some o) (k0 : ∀ a : Int64 × Int32, o = .inl a → Wg X 33 [some (.ref 36), some (.long a.1), none, some (.int a.2)] [] (mkH cn bk st r0 r1 r2 r3 r4 li fo tx co ke rf cp lk fl em tm rd)) (e0 : ∀ a : Int64, o = .inr a → Wg X 58 [some (.ref 36), some (.long a), none, none] [] (mkH cn bk st r0 r1 r2 r3 r4 li fo tx co ke rf cp lk fl em tm rd)) : Wg X 33 [some (.ref 36), some (.long z.1), none, some (.int z.2)] [] (mkH cn bk st r0 r1 r2 r3 r4 li fo tx co ke rf cp lk fl em tm rd) := by
  unfold bX6_digest_33 at h
  refine wg_iload_n C dX6_digest_33 rfl ?_
  refine wg_iconst (v := 4) C dX6_digest_34 (by decide) ?_
  refine wg_icmp_ge (tgt := 58) C dX6_digest_35 (by decide) (fun c4 => ?_) (fun c4 => ?_)
  · replace h := ifP c4 h
    refine wg_drop (lv' := [some (.ref 36), some (.long z.1), none, none]) [3] rfl ?_
    have hk := e0 _ (Option.some.inj h).symm
    exact hk
  · replace h := ifN c4 h
    refine wg_ldcl (v := 31) C (by decide +kernel) dX6_digest_38 ?_
    refine wg_lload_n C dX6_digest_41 rfl ?_
    refine wg_lmul C dX6_digest_42 ?_
    refine wg_aload_n C dX6_digest_43 rfl ?_
    refine wg_get (v := .ref 38) C fgX6_digest_13 rfl rfl dX6_digest_44 ?_
    refine wg_iload_n C dX6_digest_47 rfl ?_
    obtain ⟨g5, h⟩ := gdP h
    refine wg_iald (f := co.2.1) (n := 6) C rfl g5 dX6_digest_48 ?_
    refine wg_i2l C dX6_digest_49 ?_
    refine wg_ladd C dX6_digest_50 ?_
    refine wg_lstore_n (lv' := [some (.ref 36), some (.long (((31 : Int64) * z.1) + ((co.2.1 (z.2).toNatClampNeg)).toInt64)), none, some (.int z.2)]) C dX6_digest_51 (Nat.le_of_ble_eq_true rfl) rfl ?_
    refine wg_iinc (v := (z.2 + (1 : Int32))) (lv' := [some (.ref 36), some (.long (((31 : Int64) * z.1) + ((co.2.1 (z.2).toNatClampNeg)).toInt64)), none, some (.int (z.2 + (1 : Int32)))]) C dX6_digest_52 rfl rfl rfl ?_
    refine wg_goto (tgt := 33) C dX6_digest_55 (by decide) ?_
    have hk := k0 _ (Option.some.inj h).symm
    exact hk
set_option maxRecDepth 100000 in
set_option maxHeartbeats 4000000 in
theorem slX6_digest_33 (X : CX) (C : Ok X RX6 cX6_digest wsX6_digest rX6_digest) (cn : Tcn) (bk : Tbk) (st : Tst) (r0 : Tbk) (r1 : Tbk) (r2 : Tbk) (r3 : Tbk) (r4 : Tbk) (li : Tli) (fo : Tfo) (tx : Ttx) (co : Tco) (ke : Tke) (rf : (Nat → Int32)) (cp : Int32) (lk : Tlk) (fl : Tfl) (em : Int32) (tm : Ttm) (rd : Trd)  (o : Int64) (e0 : ∀ a : Int64, o = a → Wg X 58 [some (.ref 36), some (.long a), none, none] [] (mkH cn bk st r0 r1 r2 r3 r4 li fo tx co ke rf cp lk fl em tm rd)) : ∀ (n : Nat) (z : Int64 × Int32), lpF (bX6_digest_33 co ke rf cp lk fl em tm ) n z = some o → Wg X 33 [some (.ref 36), some (.long z.1), none, some (.int z.2)] [] (mkH cn bk st r0 r1 r2 r3 r4 li fo tx co ke rf cp lk fl em tm rd) := by
  intro n
  induction n with
  | zero => intro z h; cases h
  | succ n ih =>
    intro z h
    obtain ⟨r, hB, h⟩ := bnd h
    refine sbX6_digest_33 X C cn bk st r0 r1 r2 r3 r4 li fo tx co ke rf cp lk fl em tm rd  z r hB (fun a e => ih a (by subst e; exact h)) (fun a e => e0 a (by subst e; exact (Option.some.inj h).symm))
set_option maxRecDepth 100000 in
set_option maxHeartbeats 4000000 in
theorem sbX6_digest_60 (X : CX) (C : Ok X RX6 cX6_digest wsX6_digest rX6_digest) (cn : Tcn) (bk : Tbk) (st : Tst) (r0 : Tbk) (r1 : Tbk) (r2 : Tbk) (r3 : Tbk) (r4 : Tbk) (li : Tli) (fo : Tfo) (tx : Ttx) (co : Tco) (ke : Tke) (rf : (Nat → Int32)) (cp : Int32) (lk : Tlk) (fl : Tfl) (em : Int32) (tm : Ttm) (rd : Trd)  (z : Int64 × Int32) (o : (Int64 × Int32) ⊕ Int64) (h : bX6_digest_60 co ke rf cp lk fl em tm  z = some o) (k0 : ∀ a : Int64 × Int32, o = .inl a → Wg X 60 [some (.ref 36), some (.long a.1), none, some (.int a.2)] [] (mkH cn bk st r0 r1 r2 r3 r4 li fo tx co ke rf cp lk fl em tm rd)) (e0 : ∀ a : Int64, o = .inr a → Wg X 90 [some (.ref 36), some (.long a), none, none] [] (mkH cn bk st r0 r1 r2 r3 r4 li fo tx co ke rf cp lk fl em tm rd)) : Wg X 60 [some (.ref 36), some (.long z.1), none, some (.int z.2)] [] (mkH cn bk st r0 r1 r2 r3 r4 li fo tx co ke rf cp lk fl em tm rd) := by
  unfold bX6_digest_60 at h
  refine wg_iload_n C dX6_digest_60 rfl ?_
  refine wg_iconst (v := 4) C dX6_digest_61 (by decide) ?_
  refine wg_aload_n C dX6_digest_62 rfl ?_
  refine wg_get (v := .int co.1) C fgX6_digest_48 rfl rfl dX6_digest_63 ?_
  refine wg_imul C dX6_digest_66 ?_
  refine wg_icmp_ge (tgt := 90) C dX6_digest_67 (by decide) (fun c7 => ?_) (fun c7 => ?_)
  · replace h := ifP c7 h
    refine wg_drop (lv' := [some (.ref 36), some (.long z.1), none, none]) [3] rfl ?_
    have hk := e0 _ (Option.some.inj h).symm
    exact hk
  · replace h := ifN c7 h
    refine wg_ldcl (v := 31) C (by decide +kernel) dX6_digest_70 ?_
    refine wg_lload_n C dX6_digest_73 rfl ?_
    refine wg_lmul C dX6_digest_74 ?_
    refine wg_aload_n C dX6_digest_75 rfl ?_
    refine wg_get (v := .ref 39) C fgX6_digest_16 rfl rfl dX6_digest_76 ?_
    refine wg_iload_n C dX6_digest_79 rfl ?_
    obtain ⟨g8, h⟩ := gdP h
    refine wg_iald (f := co.2.2) (n := 200) C rfl g8 dX6_digest_80 ?_
    refine wg_i2l C dX6_digest_81 ?_
    refine wg_ladd C dX6_digest_82 ?_
    refine wg_lstore_n (lv' := [some (.ref 36), some (.long (((31 : Int64) * z.1) + ((co.2.2 (z.2).toNatClampNeg)).toInt64)), none, some (.int z.2)]) C dX6_digest_83 (Nat.le_of_ble_eq_true rfl) rfl ?_
    refine wg_iinc (v := (z.2 + (1 : Int32))) (lv' := [some (.ref 36), some (.long (((31 : Int64) * z.1) + ((co.2.2 (z.2).toNatClampNeg)).toInt64)), none, some (.int (z.2 + (1 : Int32)))]) C dX6_digest_84 rfl rfl rfl ?_
    refine wg_goto (tgt := 60) C dX6_digest_87 (by decide) ?_
    have hk := k0 _ (Option.some.inj h).symm
    exact hk
set_option maxRecDepth 100000 in
set_option maxHeartbeats 4000000 in
theorem slX6_digest_60 (X : CX) (C : Ok X RX6 cX6_digest wsX6_digest rX6_digest) (cn : Tcn) (bk : Tbk) (st : Tst) (r0 : Tbk) (r1 : Tbk) (r2 : Tbk) (r3 : Tbk) (r4 : Tbk) (li : Tli) (fo : Tfo) (tx : Ttx) (co : Tco) (ke : Tke) (rf : (Nat → Int32)) (cp : Int32) (lk : Tlk) (fl : Tfl) (em : Int32) (tm : Ttm) (rd : Trd)  (o : Int64) (e0 : ∀ a : Int64, o = a → Wg X 90 [some (.ref 36), some (.long a), none, none] [] (mkH cn bk st r0 r1 r2 r3 r4 li fo tx co ke rf cp lk fl em tm rd)) : ∀ (n : Nat) (z : Int64 × Int32), lpF (bX6_digest_60 co ke rf cp lk fl em tm ) n z = some o → Wg X 60 [some (.ref 36), some (.long z.1), none, some (.int z.2)] [] (mkH cn bk st r0 r1 r2 r3 r4 li fo tx co ke rf cp lk fl em tm rd) := by
  intro n
  induction n with
  | zero => intro z h; cases h
  | succ n ih =>
    intro z h
    obtain ⟨r, hB, h⟩ := bnd h
    refine sbX6_digest_60 X C cn bk st r0 r1 r2 r3 r4 li fo tx co ke rf cp lk fl em tm rd  z r hB (fun a e => ih a (by subst e; exact h)) (fun a e => e0 a (by subst e; exact (Option.some.inj h).symm))
set_option maxRecDepth 100000 in
set_option maxHeartbeats 4000000 in
theorem sjX6_digest_92_155 (X : CX) (C : Ok X RX6 cX6_digest wsX6_digest rX6_digest) (cn : Tcn) (bk : Tbk) (st : Tst) (r0 : Tbk) (r1 : Tbk) (r2 : Tbk) (r3 : Tbk) (r4 : Tbk) (li : Tli) (fo : Tfo) (tx : Ttx) (co : Tco) (ke : Tke) (rf : (Nat → Int32)) (cp : Int32) (lk : Tlk) (fl : Tfl) (em : Int32) (tm : Ttm) (rd : Trd) (x3 : Int32) (y0 : Int64) (y1 : Int32) (o : (Int64 × Int32 × Int32 × Tlk) ⊕ (Int64 × Int32 × Tlk)) (h : jX6_digest_92_155 co ke rf cp lk fl em tm x3 y0 y1 = some o) (k0 : ∀ a : Int64 × Int32 × Int32 × Tlk, o = .inl a → Wg X 92 [some (.ref 36), some (.long a.1), none, some (.int a.2.1)] [] (mkH cn bk st r0 r1 r2 r3 r4 li fo tx co ke rf a.2.2.1 a.2.2.2 fl em tm rd)) (e0 : ∀ a : Int64 × Int32 × Tlk, o = .inr a → Wg X 164 [some (.ref 36), some (.long a.1), none, none] [] (mkH cn bk st r0 r1 r2 r3 r4 li fo tx co ke rf a.2.1 a.2.2 fl em tm rd)) : Wg X 155 [some (.ref 36), none, none, some (.int x3)] [.int y1, .long y0] (mkH cn bk st r0 r1 r2 r3 r4 li fo tx co ke rf cp lk fl em tm rd) := by
  unfold jX6_digest_92_155 at h
  refine wg_i2l C dX6_digest_155 ?_
  refine wg_ladd C dX6_digest_156 ?_
  refine wg_lstore_n (lv' := [some (.ref 36), some (.long (y0 + (y1).toInt64)), none, some (.int x3)]) C dX6_digest_157 (Nat.le_of_ble_eq_true rfl) rfl ?_
  refine wg_iinc (v := (x3 + (1 : Int32))) (lv' := [some (.ref 36), some (.long (y0 + (y1).toInt64)), none, some (.int (x3 + (1 : Int32)))]) C dX6_digest_158 rfl rfl rfl ?_
  refine wg_goto (tgt := 92) C dX6_digest_161 (by decide) ?_
  have hk := k0 _ (Option.some.inj h).symm
  exact hk
set_option maxRecDepth 100000 in
set_option maxHeartbeats 4000000 in
theorem sjX6_digest_92_127 (X : CX) (C : Ok X RX6 cX6_digest wsX6_digest rX6_digest) (cn : Tcn) (bk : Tbk) (st : Tst) (r0 : Tbk) (r1 : Tbk) (r2 : Tbk) (r3 : Tbk) (r4 : Tbk) (li : Tli) (fo : Tfo) (tx : Ttx) (co : Tco) (ke : Tke) (rf : (Nat → Int32)) (cp : Int32) (lk : Tlk) (fl : Tfl) (em : Int32) (tm : Ttm) (rd : Trd) (x3 : Int32) (y0 : Int64) (y1 : Int32) (o : (Int64 × Int32 × Int32 × Tlk) ⊕ (Int64 × Int32 × Tlk)) (h : jX6_digest_92_127 co ke rf cp lk fl em tm x3 y0 y1 = some o) (k0 : ∀ a : Int64 × Int32 × Int32 × Tlk, o = .inl a → Wg X 92 [some (.ref 36), some (.long a.1), none, some (.int a.2.1)] [] (mkH cn bk st r0 r1 r2 r3 r4 li fo tx co ke rf a.2.2.1 a.2.2.2 fl em tm rd)) (e0 : ∀ a : Int64 × Int32 × Tlk, o = .inr a → Wg X 164 [some (.ref 36), some (.long a.1), none, none] [] (mkH cn bk st r0 r1 r2 r3 r4 li fo tx co ke rf a.2.1 a.2.2 fl em tm rd)) : Wg X 127 [some (.ref 36), none, none, some (.int x3)] [.int y1, .long y0] (mkH cn bk st r0 r1 r2 r3 r4 li fo tx co ke rf cp lk fl em tm rd) := by
  unfold jX6_digest_92_127 at h
  refine wg_i2l C dX6_digest_127 ?_
  refine wg_ladd C dX6_digest_128 ?_
  refine wg_lstore_n (lv' := [some (.ref 36), some (.long (y0 + (y1).toInt64)), none, some (.int x3)]) C dX6_digest_129 (Nat.le_of_ble_eq_true rfl) rfl ?_
  refine wg_ldcl (v := 31) C (by decide +kernel) dX6_digest_130 ?_
  refine wg_lload_n C dX6_digest_133 rfl ?_
  refine wg_lmul C dX6_digest_134 ?_
  refine wg_aload_n C dX6_digest_135 rfl ?_
  refine wg_get (v := .int lk.1) C fgX6_digest_124 rfl rfl dX6_digest_136 ?_
  refine wg_if_ne (tgt := 146) C dX6_digest_139 (by decide) (fun c14 => ?_) (fun c14 => ?_)
  · replace h := ifP c14 h
    refine wg_aload_n C dX6_digest_146 rfl ?_
    refine wg_get (v := .ref 42) C fgX6_digest_25 rfl rfl dX6_digest_147 ?_
    refine wg_iconst (v := 0) C dX6_digest_150 (by decide) ?_
    obtain ⟨g15, h⟩ := gdP h
    refine wg_fald (f := lk.2.2) (n := 50) C rfl g15 dX6_digest_151 ?_
    obtain ⟨q16, e16q, h⟩ := bnd h
    refine wg_callT (n := 1) (As := [.float (lk.2.2 ((0 : Int32)).toNatClampNeg)]) (st := [.long ((31 : Int64) * (y0 + (y1).toInt64))]) (st' := [.int q16, .long ((31 : Int64) * (y0 + (y1).toInt64))]) C (sJxf58ca_floatToIntBits_5c35a cn bk st r0 r1 r2 r3 r4 li fo tx co ke rf cp lk fl em tm rd (lk.2.2 ((0 : Int32)).toNatClampNeg) q16 e16q) gX6_digest_Jxf58ca_floatToIntBits_5c35a rfl (by decide +kernel) ⟨⟨rfl, rfl⟩, Nat.le_of_ble_eq_true rfl, Nat.le_of_ble_eq_true rfl⟩ rfl rfl (Nat.le_of_ble_eq_true rfl) dX6_digest_152 rfl ?_
    refine wg_drop (lv' := [some (.ref 36), none, none, some (.int x3)]) [1] rfl ?_
    exact sjX6_digest_92_155 X C cn bk st r0 r1 r2 r3 r4 li fo tx co ke rf cp lk fl em tm rd x3 ((31 : Int64) * (y0 + (y1).toInt64)) q16 _ h k0 e0
  · replace h := ifN c14 h
    refine wg_iconst (v := -1) C dX6_digest_142 (by decide) ?_
    refine wg_goto (tgt := 155) C dX6_digest_143 (by decide) ?_
    refine wg_drop (lv' := [some (.ref 36), none, none, some (.int x3)]) [1] rfl ?_
    exact sjX6_digest_92_155 X C cn bk st r0 r1 r2 r3 r4 li fo tx co ke rf cp lk fl em tm rd x3 ((31 : Int64) * (y0 + (y1).toInt64)) (-1 : Int32) _ h k0 e0
set_option maxRecDepth 100000 in
set_option maxHeartbeats 4000000 in
theorem sbX6_digest_92 (X : CX) (C : Ok X RX6 cX6_digest wsX6_digest rX6_digest) (cn : Tcn) (bk : Tbk) (st : Tst) (r0 : Tbk) (r1 : Tbk) (r2 : Tbk) (r3 : Tbk) (r4 : Tbk) (li : Tli) (fo : Tfo) (tx : Ttx) (co : Tco) (ke : Tke) (rf : (Nat → Int32)) (cp : Int32) (lk : Tlk) (fl : Tfl) (em : Int32) (tm : Ttm) (rd : Trd)  (z : Int64 × Int32 × Int32 × Tlk) (o : (Int64 × Int32 × Int32 × Tlk) ⊕ (Int64 × Int32 × Tlk)) (h : bX6_digest_92 co ke rf fl em tm  z = some o) (k0 : ∀ a : Int64 × Int32 × Int32 × Tlk, o = .inl a → Wg X 92 [some (.ref 36), some (.long a.1), none, some (.int a.2.1)] [] (mkH cn bk st r0 r1 r2 r3 r4 li fo tx co ke rf a.2.2.1 a.2.2.2 fl em tm rd)) (e0 : ∀ a : Int64 × Int32 × Tlk, o = .inr a → Wg X 164 [some (.ref 36), some (.long a.1), none, none] [] (mkH cn bk st r0 r1 r2 r3 r4 li fo tx co ke rf a.2.1 a.2.2 fl em tm rd)) : Wg X 92 [some (.ref 36), some (.long z.1), none, some (.int z.2.1)] [] (mkH cn bk st r0 r1 r2 r3 r4 li fo tx co ke rf z.2.2.1 z.2.2.2 fl em tm rd) := by
  unfold bX6_digest_92 at h
  refine wg_iload_n C dX6_digest_92 rfl ?_
  refine wg_aload_n C dX6_digest_93 rfl ?_
  refine wg_get (v := .int co.1) C fgX6_digest_48 rfl rfl dX6_digest_94 ?_
  refine wg_icmp_ge (tgt := 164) C dX6_digest_97 (by decide) (fun c10 => ?_) (fun c10 => ?_)
  · replace h := ifP c10 h
    refine wg_drop (lv' := [some (.ref 36), some (.long z.1), none, none]) [3] rfl ?_
    have hk := e0 _ (Option.some.inj h).symm
    exact hk
  · replace h := ifN c10 h
    refine wg_aload_n C dX6_digest_100 rfl ?_
    refine wg_iload_n C dX6_digest_101 rfl ?_
    obtain ⟨q11, e11q, h⟩ := bnd h
    refine wg_callV (n := 1) (As := [.int z.2.1]) (st := []) (st' := []) C (sX6_setNearest cn bk st r0 r1 r2 r3 r4 li fo tx co ke rf z.2.2.1 z.2.2.2 fl em tm rd z.2.1 q11 e11q) gX6_digest_X6_setNearest rfl (by decide +kernel) ⟨⟨rfl, rfl⟩, Nat.le_of_ble_eq_true rfl, Nat.le_of_ble_eq_true rfl⟩ rfl rfl rfl rfl (Nat.le_of_ble_eq_true rfl) dX6_digest_102 rfl ?_
    refine wg_ldcl (v := 31) C (by decide +kernel) dX6_digest_105 ?_
    refine wg_lload_n C dX6_digest_108 rfl ?_
    refine wg_lmul C dX6_digest_109 ?_
    refine wg_aload_n C dX6_digest_110 rfl ?_
    refine wg_get (v := .int q11.2.1) C fgX6_digest_124 rfl rfl dX6_digest_111 ?_
    refine wg_if_ne (tgt := 121) C dX6_digest_114 (by decide) (fun c12 => ?_) (fun c12 => ?_)
    · replace h := ifP c12 h
      refine wg_aload_n C dX6_digest_121 rfl ?_
      refine wg_get (v := .ref 41) C fgX6_digest_22 rfl rfl dX6_digest_122 ?_
      refine wg_iconst (v := 0) C dX6_digest_125 (by decide) ?_
      obtain ⟨g13, h⟩ := gdP h
      refine wg_iald (f := q11.2.2.1) (n := 50) C rfl g13 dX6_digest_126 ?_
      refine wg_drop (lv' := [some (.ref 36), none, none, some (.int z.2.1)]) [1] rfl ?_
      exact sjX6_digest_92_127 X C cn bk st r0 r1 r2 r3 r4 li fo tx co ke rf q11.1 q11.2 fl em tm rd z.2.1 ((31 : Int64) * z.1) (q11.2.2.1 ((0 : Int32)).toNatClampNeg) _ h k0 e0
    · replace h := ifN c12 h
      refine wg_iconst (v := -1) C dX6_digest_117 (by decide) ?_
      refine wg_goto (tgt := 127) C dX6_digest_118 (by decide) ?_
      refine wg_drop (lv' := [some (.ref 36), none, none, some (.int z.2.1)]) [1] rfl ?_
      exact sjX6_digest_92_127 X C cn bk st r0 r1 r2 r3 r4 li fo tx co ke rf q11.1 q11.2 fl em tm rd z.2.1 ((31 : Int64) * z.1) (-1 : Int32) _ h k0 e0
set_option maxRecDepth 100000 in
set_option maxHeartbeats 4000000 in
theorem slX6_digest_92 (X : CX) (C : Ok X RX6 cX6_digest wsX6_digest rX6_digest) (cn : Tcn) (bk : Tbk) (st : Tst) (r0 : Tbk) (r1 : Tbk) (r2 : Tbk) (r3 : Tbk) (r4 : Tbk) (li : Tli) (fo : Tfo) (tx : Ttx) (co : Tco) (ke : Tke) (rf : (Nat → Int32)) (cp : Int32) (lk : Tlk) (fl : Tfl) (em : Int32) (tm : Ttm) (rd : Trd)  (o : (Int64 × Int32 × Tlk)) (e0 : ∀ a : Int64 × Int32 × Tlk, o = a → Wg X 164 [some (.ref 36), some (.long a.1), none, none] [] (mkH cn bk st r0 r1 r2 r3 r4 li fo tx co ke rf a.2.1 a.2.2 fl em tm rd)) : ∀ (n : Nat) (z : Int64 × Int32 × Int32 × Tlk), lpF (bX6_digest_92 co ke rf fl em tm ) n z = some o → Wg X 92 [some (.ref 36), some (.long z.1), none, some (.int z.2.1)] [] (mkH cn bk st r0 r1 r2 r3 r4 li fo tx co ke rf z.2.2.1 z.2.2.2 fl em tm rd) := by
  intro n
  induction n with
  | zero => intro z h; cases h
  | succ n ih =>
    intro z h
    obtain ⟨r, hB, h⟩ := bnd h
    refine sbX6_digest_92 X C cn bk st r0 r1 r2 r3 r4 li fo tx co ke rf cp lk fl em tm rd  z r hB (fun a e => ih a (by subst e; exact h)) (fun a e => e0 a (by subst e; exact (Option.some.inj h).symm))
set_option maxRecDepth 100000 in
set_option maxHeartbeats 4000000 in
theorem sX6_digest (cn : Tcn) (bk : Tbk) (st : Tst) (r0 : Tbk) (r1 : Tbk) (r2 : Tbk) (r3 : Tbk) (r4 : Tbk) (li : Tli) (fo : Tfo) (tx : Ttx) (co : Tco) (ke : Tke) (rf : (Nat → Int32)) (cp : Int32) (lk : Tlk) (fl : Tfl) (em : Int32) (tm : Ttm) (rd : Trd)  (o : Int64 × Int32 × Tlk × Tfl × Int32) (h : fX6_digest co ke rf cp lk fl em tm  = some o) : Sp yX6_digest wsX6_digest rX6_digest [.ref 36] (mkH cn bk st r0 r1 r2 r3 r4 li fo tx co ke rf cp lk fl em tm rd) (some (.long o.1)) (mkH cn bk st r0 r1 r2 r3 r4 li fo tx co ke rf o.2.1 o.2.2.1 o.2.2.2.1 o.2.2.2.2 tm rd) := by
  refine Sp.of (lv := [some (.ref 36), none, none, none]) RX6 (by decide +kernel) rfl (Nat.le_of_ble_eq_true rfl) rfl ?_
  intro X C hT
  unfold fX6_digest at h
  refine wg_ldcl (v := 2161) C (by decide +kernel) dX6_digest_0 ?_
  refine wg_lstore_n (lv' := [some (.ref 36), some (.long (2161 : Int64)), none, none]) C dX6_digest_3 (Nat.le_of_ble_eq_true rfl) rfl ?_
  refine wg_iconst (v := 0) C dX6_digest_4 (by decide) ?_
  refine wg_istore_n (lv' := [some (.ref 36), some (.long (2161 : Int64)), none, some (.int (0 : Int32))]) C dX6_digest_5 (Nat.le_of_ble_eq_true rfl) rfl ?_
  obtain ⟨t3, hL3, h⟩ := bnd h
  refine slX6_digest_6 X C cn bk st r0 r1 r2 r3 r4 li fo tx co ke rf cp lk fl em tm rd  t3 (fun a e => ?_) FU ((2161 : Int64), (0 : Int32)) hL3
  subst e
  refine wg_iconst (v := 0) C dX6_digest_31 (by decide) ?_
  refine wg_istore_n (lv' := [some (.ref 36), some (.long t3), none, some (.int (0 : Int32))]) C dX6_digest_32 (Nat.le_of_ble_eq_true rfl) rfl ?_
  obtain ⟨t6, hL6, h⟩ := bnd h
  refine slX6_digest_33 X C cn bk st r0 r1 r2 r3 r4 li fo tx co ke rf cp lk fl em tm rd  t6 (fun a e => ?_) FU (t3, (0 : Int32)) hL6
  subst e
  refine wg_iconst (v := 0) C dX6_digest_58 (by decide) ?_
  refine wg_istore_n (lv' := [some (.ref 36), some (.long t6), none, some (.int (0 : Int32))]) C dX6_digest_59 (Nat.le_of_ble_eq_true rfl) rfl ?_
  obtain ⟨t9, hL9, h⟩ := bnd h
  refine slX6_digest_60 X C cn bk st r0 r1 r2 r3 r4 li fo tx co ke rf cp lk fl em tm rd  t9 (fun a e => ?_) FU (t6, (0 : Int32)) hL9
  subst e
  refine wg_iconst (v := 0) C dX6_digest_90 (by decide) ?_
  refine wg_istore_n (lv' := [some (.ref 36), some (.long t9), none, some (.int (0 : Int32))]) C dX6_digest_91 (Nat.le_of_ble_eq_true rfl) rfl ?_
  obtain ⟨t17, hL17, h⟩ := bnd h
  refine slX6_digest_92 X C cn bk st r0 r1 r2 r3 r4 li fo tx co ke rf cp lk fl em tm rd  t17 (fun a e => ?_) FU (t9, (0 : Int32), cp, lk) hL17
  subst e
  refine wg_ldcl (v := 31) C (by decide +kernel) dX6_digest_164 ?_
  refine wg_lload_n C dX6_digest_167 rfl ?_
  refine wg_lmul C dX6_digest_168 ?_
  refine wg_aload_n C dX6_digest_169 rfl ?_
  refine wg_iconst (v := 0) C dX6_digest_170 (by decide) ?_
  obtain ⟨q18, e18q, h⟩ := bnd h
  refine wg_callV (n := 1) (As := [.int (0 : Int32)]) (st := [.long ((31 : Int64) * t17.1)]) (st' := [.int q18.1, .long ((31 : Int64) * t17.1)]) C (sX6_errsTold cn bk st r0 r1 r2 r3 r4 li fo tx co ke rf t17.2.1 t17.2.2 fl em tm rd (0 : Int32) q18 e18q) gX6_digest_X6_errsTold rfl (by decide +kernel) ⟨⟨rfl, rfl⟩, Nat.le_of_ble_eq_true rfl, Nat.le_of_ble_eq_true rfl⟩ rfl rfl rfl rfl (Nat.le_of_ble_eq_true rfl) dX6_digest_171 rfl ?_
  refine wg_i2l C dX6_digest_174 ?_
  refine wg_ladd C dX6_digest_175 ?_
  obtain rfl := Option.some.inj h
  exact wg_lret C hT dX6_digest_176
