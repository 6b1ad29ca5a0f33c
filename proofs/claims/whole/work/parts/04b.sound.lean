abbrev rX5_valueOf : Room := { frames := 0, cells := 0, slots := 0, locals := 0 }
set_option maxRecDepth 100000 in
set_option maxHeartbeats 4000000 in
theorem sX5_valueOf (cn : Tcn) (bk : Tbk) (st : Tst) (r0 : Tbk) (r1 : Tbk) (r2 : Tbk) (r3 : Tbk) (r4 : Tbk) (li : Tli) (fo : Tfo) (tx : Ttx) (co : Tco) (ke : Tke) (rf : (Nat → Int32)) (cp : Int32) (lk : Tlk) (fl : Tfl) (em : Int32) (tm : Ttm) (rd : Trd) (x0 : Int32) (o : UInt32) (h : fX5_valueOf  x0 = some o) : Sp yX5_valueOf wsX5_valueOf rX5_valueOf [.int x0] (mkH cn bk st r0 r1 r2 r3 r4 li fo tx co ke rf cp lk fl em tm rd) (some (.float o)) (mkH cn bk st r0 r1 r2 r3 r4 li fo tx co ke rf cp lk fl em tm rd) := by
  refine Sp.of (lv := [some (.int x0)]) RX5 (by decide +kernel) rfl (Nat.le_of_ble_eq_true rfl) rfl ?_
  intro X C hT
  unfold fX5_valueOf at h
  refine wg_iload_n C dX5_valueOf_0 rfl ?_
  refine wg_i2f C dX5_valueOf_1 ?_
  refine wg_ldcf (v := 1092616192) C (by decide +kernel) dX5_valueOf_2 ?_
  obtain ⟨g1, h⟩ := gdP h
  refine wg_fdiv C dX5_valueOf_4 g1 ?_
  obtain rfl := Option.some.inj h
  exact wg_fret C hT dX5_valueOf_5
abbrev rX2_takeNotes : Room := { frames := 3, cells := 0, slots := 0, locals := 64 }
theorem iwX2_takeNotes_2 : ∀ w ∈ wsX20, w ∈ wsX2_takeNotes := by decide +kernel
theorem fgX2_takeNotes_9 : FG wsX2_takeNotes RX2 9 2 0 := ⟨RX2, TX2, 9, rfl, by decide, by decide +kernel, iwX2_takeNotes_2⟩
theorem fgX2_takeNotes_15 : FG wsX2_takeNotes RX2 15 2 1 := ⟨RX2, TX2, 9, rfl, by decide, by decide +kernel, iwX2_takeNotes_2⟩
theorem fgX2_takeNotes_51 : FG wsX2_takeNotes RX2 51 2 7 := ⟨RX2, TX2, 9, rfl, by decide, by decide +kernel, iwX2_takeNotes_2⟩
set_option maxRecDepth 100000 in
set_option maxHeartbeats 4000000 in
theorem sjX2_takeNotes_12_47 (X : CX) (C : Ok X RX2 cX2_takeNotes wsX2_takeNotes rX2_takeNotes) (cn : Tcn) (bk : Tbk) (st : Tst) (r0 : Tbk) (r1 : Tbk) (r2 : Tbk) (r3 : Tbk) (r4 : Tbk) (li : Tli) (fo : Tfo) (tx : Ttx) (co : Tco) (ke : Tke) (rf : (Nat → Int32)) (cp : Int32) (lk : Tlk) (fl : Tfl) (em : Int32) (tm : Ttm) (rd : Trd) (x2 : Int32) (x3 : Int32) (x4 : Int32) (y1 : Int32) (y2 : Int32) (o : (Int32 × Tli) ⊕ Tli) (h : jX2_takeNotes_12_47 bk li x2 x3 x4 y1 y2 = some o) (k0 : ∀ a : Int32 × Tli, o = .inl a → Wg X 12 [some (.ref 21), some (.ref 1), some (.int x2), some (.int a.1), none] [] (mkH cn bk st r0 r1 r2 r3 r4 a.2 fo tx co ke rf cp lk fl em tm rd)) (e0 : ∀ a : Tli, o = .inr a → Wg X 69 [some (.ref 21), some (.ref 1), some (.int x2), none, none] [] (mkH cn bk st r0 r1 r2 r3 r4 a fo tx co ke rf cp lk fl em tm rd)) : Wg X 47 [some (.ref 21), some (.ref 1), some (.int x2), some (.int x3), some (.int x4)] [.int y2, .int y1, .ref 23] (mkH cn bk st r0 r1 r2 r3 r4 li fo tx co ke rf cp lk fl em tm rd) := by
  unfold jX2_takeNotes_12_47 at h
  obtain ⟨g5, h⟩ := gdP h
  refine wg_zast (f := li.2.1) (n := 200) (hp' := (mkH cn bk st r0 r1 r2 r3 r4 (li.1, (upd li.2.1 (y1).toNatClampNeg (vp_nar .boolean y2)), li.2.2.1, li.2.2.2.1, li.2.2.2.2.1, li.2.2.2.2.2.1, li.2.2.2.2.2.2.1, li.2.2.2.2.2.2.2.1, li.2.2.2.2.2.2.2.2) fo tx co ke rf cp lk fl em tm rd)) C rfl g5 rfl dX2_takeNotes_47 ?_
  refine wg_aload_n C dX2_takeNotes_48 rfl ?_
  refine wg_get (v := .ref 22) C fgX2_takeNotes_9 rfl rfl dX2_takeNotes_49 ?_
  refine wg_iload_n C dX2_takeNotes_52 rfl ?_
  refine wg_iconst (v := 4) C dX2_takeNotes_53 (by decide) ?_
  refine wg_imul C dX2_takeNotes_54 ?_
  refine wg_iload_n C dX2_takeNotes_55 rfl ?_
  refine wg_iadd C dX2_takeNotes_56 ?_
  refine wg_iload C dX2_takeNotes_57 rfl ?_
  obtain ⟨q6, e6q, h⟩ := bnd h
  refine wg_callN (n := 1) (As := [.int x4]) (st := [.int ((x2 * (4 : Int32)) + x3), .ref 22]) (st' := [.float q6, .int ((x2 * (4 : Int32)) + x3), .ref 22]) C (sX5_valueOf cn bk st r0 r1 r2 r3 r4 (li.1, (upd li.2.1 (y1).toNatClampNeg (vp_nar .boolean y2)), li.2.2.1, li.2.2.2.1, li.2.2.2.2.1, li.2.2.2.2.2.1, li.2.2.2.2.2.2.1, li.2.2.2.2.2.2.2.1, li.2.2.2.2.2.2.2.2) fo tx co ke rf cp lk fl em tm rd x4 q6 e6q) (fun U h => h.2.1) gX2_takeNotes_X5_valueOf_n87 ⟨by decide +kernel, by decide +kernel⟩ rfl (by decide +kernel) ⟨⟨rfl, rfl⟩, Nat.le_of_ble_eq_true rfl, Nat.le_of_ble_eq_true rfl⟩ rfl rfl (Nat.le_of_ble_eq_true rfl) dX2_takeNotes_59 rfl ?_
  obtain ⟨g7, h⟩ := gdP h
  refine wg_fast (f := li.1) (n := 200) (hp' := (mkH cn bk st r0 r1 r2 r3 r4 ((vf_upd li.1 (((x2 * (4 : Int32)) + x3)).toNatClampNeg q6), (upd li.2.1 (y1).toNatClampNeg (vp_nar .boolean y2)), li.2.2.1, li.2.2.2.1, li.2.2.2.2.1, li.2.2.2.2.2.1, li.2.2.2.2.2.2.1, li.2.2.2.2.2.2.2.1, li.2.2.2.2.2.2.2.2) fo tx co ke rf cp lk fl em tm rd)) C rfl g7 rfl dX2_takeNotes_62 ?_
  refine wg_iinc (v := (x3 + (1 : Int32))) (lv' := [some (.ref 21), some (.ref 1), some (.int x2), some (.int (x3 + (1 : Int32))), some (.int x4)]) C dX2_takeNotes_63 rfl rfl rfl ?_
  refine wg_goto (tgt := 12) C dX2_takeNotes_66 (by decide) ?_
  refine wg_drop (lv' := [some (.ref 21), some (.ref 1), some (.int x2), some (.int (x3 + (1 : Int32))), none]) [4] rfl ?_
  have hk := k0 _ (Option.some.inj h).symm
  exact hk
set_option maxRecDepth 100000 in
set_option maxHeartbeats 4000000 in
theorem sbX2_takeNotes_12 (X : CX) (C : Ok X RX2 cX2_takeNotes wsX2_takeNotes rX2_takeNotes) (cn : Tcn) (bk : Tbk) (st : Tst) (r0 : Tbk) (r1 : Tbk) (r2 : Tbk) (r3 : Tbk) (r4 : Tbk) (li : Tli) (fo : Tfo) (tx : Ttx) (co : Tco) (ke : Tke) (rf : (Nat → Int32)) (cp : Int32) (lk : Tlk) (fl : Tfl) (em : Int32) (tm : Ttm) (rd : Trd) (x2 : Int32) (z : Int32 × Tli) (o : (Int32 × Tli) ⊕ Tli) (h : bX2_takeNotes_12 bk x2 z = some o) (k0 : ∀ a : Int32 × Tli, o = .inl a → Wg X 12 [some (.ref 21), some (.ref 1), some (.int x2), some (.int a.1), none] [] (mkH cn bk st r0 r1 r2 r3 r4 a.2 fo tx co ke rf cp lk fl em tm rd)) (e0 : ∀ a : Tli, o = .inr a → Wg X 69 [some (.ref 21), some (.ref 1), some (.int x2), none, none] [] (mkH cn bk st r0 r1 r2 r3 r4 a fo tx co ke rf cp lk fl em tm rd)) : Wg X 12 [some (.ref 21), some (.ref 1), some (.int x2), some (.int z.1), none] [] (mkH cn bk st r0 r1 r2 r3 r4 z.2 fo tx co ke rf cp lk fl em tm rd) := by
  unfold bX2_takeNotes_12 at h
  refine wg_iload_n C dX2_takeNotes_12 rfl ?_
  refine wg_iconst (v := 4) C dX2_takeNotes_13 (by decide) ?_
  refine wg_icmp_ge (tgt := 69) C dX2_takeNotes_14 (by decide) (fun c2 => ?_) (fun c2 => ?_)
  · replace h := ifP c2 h
    refine wg_drop (lv' := [some (.ref 21), some (.ref 1), some (.int x2), none, none]) [3] rfl ?_
    have hk := e0 _ (Option.some.inj h).symm
    exact hk
  · replace h := ifN c2 h
    refine wg_aload_n C dX2_takeNotes_17 rfl ?_
    refine wg_iload_n C dX2_takeNotes_18 rfl ?_
    refine wg_iload_n C dX2_takeNotes_19 rfl ?_
    obtain ⟨q3, e3q, h⟩ := bnd h
    refine wg_callV (n := 2) (As := [.int x2, .int z.1]) (st := []) (st' := [.int q3]) C (sX0_member cn bk st r0 r1 r2 r3 r4 z.2 fo tx co ke rf cp lk fl em tm rd x2 z.1 q3 e3q) gX2_takeNotes_X0_member rfl (by decide +kernel) ⟨⟨rfl, rfl⟩, Nat.le_of_ble_eq_true rfl, Nat.le_of_ble_eq_true rfl⟩ rfl rfl rfl rfl (Nat.le_of_ble_eq_true rfl) dX2_takeNotes_20 rfl ?_
    refine wg_istore (lv' := [some (.ref 21), some (.ref 1), some (.int x2), some (.int z.1), some (.int q3)]) C dX2_takeNotes_23 (Nat.le_of_ble_eq_true rfl) rfl ?_
    refine wg_aload_n C dX2_takeNotes_25 rfl ?_
    refine wg_get (v := .ref 23) C fgX2_takeNotes_15 rfl rfl dX2_takeNotes_26 ?_
    refine wg_iload_n C dX2_takeNotes_29 rfl ?_
    refine wg_iconst (v := 4) C dX2_takeNotes_30 (by decide) ?_
    refine wg_imul C dX2_takeNotes_31 ?_
    refine wg_iload_n C dX2_takeNotes_32 rfl ?_
    refine wg_iadd C dX2_takeNotes_33 ?_
    refine wg_iload C dX2_takeNotes_34 rfl ?_
    refine wg_sipush (v := -10000) C dX2_takeNotes_36 (by decide) ?_
    refine wg_icmp_eq (tgt := 46) C dX2_takeNotes_39 (by decide) (fun c4 => ?_) (fun c4 => ?_)
    · replace h := ifP c4 h
      refine wg_iconst (v := 0) C dX2_takeNotes_46 (by decide) ?_
      exact sjX2_takeNotes_12_47 X C cn bk st r0 r1 r2 r3 r4 z.2 fo tx co ke rf cp lk fl em tm rd x2 z.1 q3 ((x2 * (4 : Int32)) + z.1) (0 : Int32) _ h k0 e0
    · replace h := ifN c4 h
      refine wg_iconst (v := 1) C dX2_takeNotes_42 (by decide) ?_
      refine wg_goto (tgt := 47) C dX2_takeNotes_43 (by decide) ?_
      exact sjX2_takeNotes_12_47 X C cn bk st r0 r1 r2 r3 r4 z.2 fo tx co ke rf cp lk fl em tm rd x2 z.1 q3 ((x2 * (4 : Int32)) + z.1) (1 : Int32) _ h k0 e0
set_option maxRecDepth 100000 in
set_option maxHeartbeats 4000000 in
theorem slX2_takeNotes_12 (X : CX) (C : Ok X RX2 cX2_takeNotes wsX2_takeNotes rX2_takeNotes) (cn : Tcn) (bk : Tbk) (st : Tst) (r0 : Tbk) (r1 : Tbk) (r2 : Tbk) (r3 : Tbk) (r4 : Tbk) (li : Tli) (fo : Tfo) (tx : Ttx) (co : Tco) (ke : Tke) (rf : (Nat → Int32)) (cp : Int32) (lk : Tlk) (fl : Tfl) (em : Int32) (tm : Ttm) (rd : Trd) (x2 : Int32) (o : Tli) (e0 : ∀ a : Tli, o = a → Wg X 69 [some (.ref 21), some (.ref 1), some (.int x2), none, none] [] (mkH cn bk st r0 r1 r2 r3 r4 a fo tx co ke rf cp lk fl em tm rd)) : ∀ (n : Nat) (z : Int32 × Tli), lpF (bX2_takeNotes_12 bk x2) n z = some o → Wg X 12 [some (.ref 21), some (.ref 1), some (.int x2), some (.int z.1), none] [] (mkH cn bk st r0 r1 r2 r3 r4 z.2 fo tx co ke rf cp lk fl em tm rd) := by
  intro n
  induction n with
  | zero => intro z h; cases h
  | succ n ih =>
    intro z h
    obtain ⟨r, hB, h⟩ := bnd h
    refine sbX2_takeNotes_12 X C cn bk st r0 r1 r2 r3 r4 li fo tx co ke rf cp lk fl em tm rd x2 z r hB (fun a e => ih a (by subst e; exact h)) (fun a e => e0 a (by subst e; exact (Option.some.inj h).symm))
set_option maxRecDepth 100000 in
set_option maxHeartbeats 4000000 in
theorem sbX2_takeNotes_2 (X : CX) (C : Ok X RX2 cX2_takeNotes wsX2_takeNotes rX2_takeNotes) (cn : Tcn) (bk : Tbk) (st : Tst) (r0 : Tbk) (r1 : Tbk) (r2 : Tbk) (r3 : Tbk) (r4 : Tbk) (li : Tli) (fo : Tfo) (tx : Ttx) (co : Tco) (ke : Tke) (rf : (Nat → Int32)) (cp : Int32) (lk : Tlk) (fl : Tfl) (em : Int32) (tm : Ttm) (rd : Trd)  (z : Int32 × Tli) (o : (Int32 × Tli) ⊕ Tli) (h : bX2_takeNotes_2 bk  z = some o) (k0 : ∀ a : Int32 × Tli, o = .inl a → Wg X 2 [some (.ref 21), some (.ref 1), some (.int a.1), none, none] [] (mkH cn bk st r0 r1 r2 r3 r4 a.2 fo tx co ke rf cp lk fl em tm rd)) (e0 : ∀ a : Tli, o = .inr a → Wg X 75 [none, none, none, none, none] [] (mkH cn bk st r0 r1 r2 r3 r4 a fo tx co ke rf cp lk fl em tm rd)) : Wg X 2 [some (.ref 21), some (.ref 1), some (.int z.1), none, none] [] (mkH cn bk st r0 r1 r2 r3 r4 z.2 fo tx co ke rf cp lk fl em tm rd) := by
  unfold bX2_takeNotes_2 at h
  refine wg_iload_n C dX2_takeNotes_2 rfl ?_
  refine wg_aload_n C dX2_takeNotes_3 rfl ?_
  refine wg_get (v := .int z.2.2.2.2.2.2.2.2.1) C fgX2_takeNotes_51 rfl rfl dX2_takeNotes_4 ?_
  refine wg_icmp_ge (tgt := 75) C dX2_takeNotes_7 (by decide) (fun c1 => ?_) (fun c1 => ?_)
  · replace h := ifP c1 h
    refine wg_drop (lv' := [none, none, none, none, none]) [0, 1, 2] rfl ?_
    have hk := e0 _ (Option.some.inj h).symm
    exact hk
  · replace h := ifN c1 h
    refine wg_iconst (v := 0) C dX2_takeNotes_10 (by decide) ?_
    refine wg_istore_n (lv' := [some (.ref 21), some (.ref 1), some (.int z.1), some (.int (0 : Int32)), none]) C dX2_takeNotes_11 (Nat.le_of_ble_eq_true rfl) rfl ?_
    obtain ⟨t8, hL8, h⟩ := bnd h
    refine slX2_takeNotes_12 X C cn bk st r0 r1 r2 r3 r4 z.2 fo tx co ke rf cp lk fl em tm rd z.1 t8 (fun a e => ?_) FU ((0 : Int32), z.2) hL8
    subst e
    refine wg_iinc (v := (z.1 + (1 : Int32))) (lv' := [some (.ref 21), some (.ref 1), some (.int (z.1 + (1 : Int32))), none, none]) C dX2_takeNotes_69 rfl rfl rfl ?_
    refine wg_goto (tgt := 2) C dX2_takeNotes_72 (by decide) ?_
    have hk := k0 _ (Option.some.inj h).symm
    exact hk
set_option maxRecDepth 100000 in
set_option maxHeartbeats 4000000 in
theorem slX2_takeNotes_2 (X : CX) (C : Ok X RX2 cX2_takeNotes wsX2_takeNotes rX2_takeNotes) (cn : Tcn) (bk : Tbk) (st : Tst) (r0 : Tbk) (r1 : Tbk) (r2 : Tbk) (r3 : Tbk) (r4 : Tbk) (li : Tli) (fo : Tfo) (tx : Ttx) (co : Tco) (ke : Tke) (rf : (Nat → Int32)) (cp : Int32) (lk : Tlk) (fl : Tfl) (em : Int32) (tm : Ttm) (rd : Trd)  (o : Tli) (e0 : ∀ a : Tli, o = a → Wg X 75 [none, none, none, none, none] [] (mkH cn bk st r0 r1 r2 r3 r4 a fo tx co ke rf cp lk fl em tm rd)) : ∀ (n : Nat) (z : Int32 × Tli), lpF (bX2_takeNotes_2 bk ) n z = some o → Wg X 2 [some (.ref 21), some (.ref 1), some (.int z.1), none, none] [] (mkH cn bk st r0 r1 r2 r3 r4 z.2 fo tx co ke rf cp lk fl em tm rd) := by
  intro n
  induction n with
  | zero => intro z h; cases h
  | succ n ih =>
    intro z h
    obtain ⟨r, hB, h⟩ := bnd h
    refine sbX2_takeNotes_2 X C cn bk st r0 r1 r2 r3 r4 li fo tx co ke rf cp lk fl em tm rd  z r hB (fun a e => ih a (by subst e; exact h)) (fun a e => e0 a (by subst e; exact (Option.some.inj h).symm))
set_option maxRecDepth 100000 in
set_option maxHeartbeats 4000000 in
theorem sX2_takeNotes (cn : Tcn) (bk : Tbk) (st : Tst) (r0 : Tbk) (r1 : Tbk) (r2 : Tbk) (r3 : Tbk) (r4 : Tbk) (li : Tli) (fo : Tfo) (tx : Ttx) (co : Tco) (ke : Tke) (rf : (Nat → Int32)) (cp : Int32) (lk : Tlk) (fl : Tfl) (em : Int32) (tm : Ttm) (rd : Trd)  (o : Tli) (h : fX2_takeNotes bk li  = some o) : Sp yX2_takeNotes wsX2_takeNotes rX2_takeNotes [.ref 21, .ref 1] (mkH cn bk st r0 r1 r2 r3 r4 li fo tx co ke rf cp lk fl em tm rd) none (mkH cn bk st r0 r1 r2 r3 r4 o fo tx co ke rf cp lk fl em tm rd) := by
  refine Sp.of (lv := [some (.ref 21), some (.ref 1), none, none, none]) RX2 (by decide +kernel) rfl (Nat.le_of_ble_eq_true rfl) rfl ?_
  intro X C hT
  unfold fX2_takeNotes at h
  refine wg_iconst (v := 0) C dX2_takeNotes_0 (by decide) ?_
  refine wg_istore_n (lv' := [some (.ref 21), some (.ref 1), some (.int (0 : Int32)), none, none]) C dX2_takeNotes_1 (Nat.le_of_ble_eq_true rfl) rfl ?_
  obtain ⟨t9, hL9, h⟩ := bnd h
  refine slX2_takeNotes_2 X C cn bk st r0 r1 r2 r3 r4 li fo tx co ke rf cp lk fl em tm rd  t9 (fun a e => ?_) FU ((0 : Int32), li) hL9
  subst e
  obtain rfl := Option.some.inj h
  exact wg_vret C hT dX2_takeNotes_75
abbrev rX2_measure : Room := { frames := 0, cells := 0, slots := 0, locals := 0 }
theorem iwX2_measure_2 : ∀ w ∈ wsX20, w ∈ wsX2_measure := by decide +kernel
theorem fgX2_measure_9 : FG wsX2_measure RX2 9 2 0 := ⟨RX2, TX2, 9, rfl, by decide, by decide +kernel, iwX2_measure_2⟩
theorem fgX2_measure_15 : FG wsX2_measure RX2 15 2 1 := ⟨RX2, TX2, 9, rfl, by decide, by decide +kernel, iwX2_measure_2⟩
theorem fgX2_measure_19 : FG wsX2_measure RX2 19 2 2 := ⟨RX2, TX2, 9, rfl, by decide, by decide +kernel, iwX2_measure_2⟩
set_option maxRecDepth 100000 in
set_option maxHeartbeats 4000000 in
theorem sjX2_measure_8_107 (X : CX) (C : Ok X RX2 cX2_measure wsX2_measure rX2_measure) (cn : Tcn) (bk : Tbk) (st : Tst) (r0 : Tbk) (r1 : Tbk) (r2 : Tbk) (r3 : Tbk) (r4 : Tbk) (li : Tli) (fo : Tfo) (tx : Ttx) (co : Tco) (ke : Tke) (rf : (Nat → Int32)) (cp : Int32) (lk : Tlk) (fl : Tfl) (em : Int32) (tm : Ttm) (rd : Trd) (x1 : Int32) (x2 : Int32) (x3 : UInt32) (x4 : UInt32) (x5 : Int32) (o : (UInt32 × UInt32 × Int32) ⊕ (UInt32 × UInt32)) (h : jX2_measure_8_107 li x1 x2 x3 x4 x5 = some o) (k0 : ∀ a : UInt32 × UInt32 × Int32, o = .inl a → Wg X 8 [some (.ref 21), some (.int x1), some (.int x2), some (.float a.1), some (.float a.2.1), some (.int a.2.2), none, none, none] [] (mkH cn bk st r0 r1 r2 r3 r4 li fo tx co ke rf cp lk fl em tm rd)) (e0 : ∀ a : UInt32 × UInt32, o = .inr a → Wg X 113 [none, none, none, some (.float a.1), some (.float a.2), none, none, none, none] [] (mkH cn bk st r0 r1 r2 r3 r4 li fo tx co ke rf cp lk fl em tm rd)) : Wg X 107 [some (.ref 21), some (.int x1), some (.int x2), some (.float x3), some (.float x4), some (.int x5), none, none, none] [] (mkH cn bk st r0 r1 r2 r3 r4 li fo tx co ke rf cp lk fl em tm rd) := by
  unfold jX2_measure_8_107 at h
  refine wg_iinc (v := (x5 + (1 : Int32))) (lv' := [some (.ref 21), some (.int x1), some (.int x2), some (.float x3), some (.float x4), some (.int (x5 + (1 : Int32))), none, none, none]) C dX2_measure_107 rfl rfl rfl ?_
  refine wg_goto (tgt := 8) C dX2_measure_110 (by decide) ?_
  have hk := k0 _ (Option.some.inj h).symm
  exact hk
set_option maxRecDepth 100000 in
set_option maxHeartbeats 4000000 in
theorem sbX2_measure_8 (X : CX) (C : Ok X RX2 cX2_measure wsX2_measure rX2_measure) (cn : Tcn) (bk : Tbk) (st : Tst) (r0 : Tbk) (r1 : Tbk) (r2 : Tbk) (r3 : Tbk) (r4 : Tbk) (li : Tli) (fo : Tfo) (tx : Ttx) (co : Tco) (ke : Tke) (rf : (Nat → Int32)) (cp : Int32) (lk : Tlk) (fl : Tfl) (em : Int32) (tm : Ttm) (rd : Trd) (x1 : Int32) (x2 : Int32) (z : UInt32 × UInt32 × Int32) (o : (UInt32 × UInt32 × Int32) ⊕ (UInt32 × UInt32)) (h : bX2_measure_8 li x1 x2 z = some o) (k0 : ∀ a : UInt32 × UInt32 × Int32, o = .inl a → Wg X 8 [some (.ref 21), some (.int x1), some (.int x2), some (.float a.1), some (.float a.2.1), some (.int a.2.2), none, none, none] [] (mkH cn bk st r0 r1 r2 r3 r4 li fo tx co ke rf cp lk fl em tm rd)) (e0 : ∀ a : UInt32 × UInt32, o = .inr a → Wg X 113 [none, none, none, some (.float a.1), some (.float a.2), none, none, none, none] [] (mkH cn bk st r0 r1 r2 r3 r4 li fo tx co ke rf cp lk fl em tm rd)) : Wg X 8 [some (.ref 21), some (.int x1), some (.int x2), some (.float z.1), some (.float z.2.1), some (.int z.2.2), none, none, none] [] (mkH cn bk st r0 r1 r2 r3 r4 li fo tx co ke rf cp lk fl em tm rd) := by
  unfold bX2_measure_8 at h
  refine wg_iload C dX2_measure_8 rfl ?_
  refine wg_iconst (v := 4) C dX2_measure_10 (by decide) ?_
  refine wg_icmp_ge (tgt := 113) C dX2_measure_11 (by decide) (fun c1 => ?_) (fun c1 => ?_)
  · replace h := ifP c1 h
    refine wg_drop (lv' := [none, none, none, some (.float z.1), some (.float z.2.1), none, none, none, none]) [0, 1, 2, 5] rfl ?_
    have hk := e0 _ (Option.some.inj h).symm
    exact hk
  · replace h := ifN c1 h
    refine wg_iload_n C dX2_measure_14 rfl ?_
    refine wg_iconst (v := 4) C dX2_measure_15 (by decide) ?_
    refine wg_imul C dX2_measure_16 ?_
    refine wg_iload C dX2_measure_17 rfl ?_
    refine wg_iadd C dX2_measure_19 ?_
    refine wg_istore (lv' := [some (.ref 21), some (.int x1), some (.int x2), some (.float z.1), some (.float z.2.1), some (.int z.2.2), some (.int ((x1 * (4 : Int32)) + z.2.2)), none, none]) C dX2_measure_20 (Nat.le_of_ble_eq_true rfl) rfl ?_
    refine wg_iload_n C dX2_measure_22 rfl ?_
    refine wg_iconst (v := 4) C dX2_measure_23 (by decide) ?_
    refine wg_imul C dX2_measure_24 ?_
    refine wg_iload C dX2_measure_25 rfl ?_
    refine wg_iadd C dX2_measure_27 ?_
    refine wg_istore (lv' := [some (.ref 21), some (.int x1), some (.int x2), some (.float z.1), some (.float z.2.1), some (.int z.2.2), some (.int ((x1 * (4 : Int32)) + z.2.2)), some (.int ((x2 * (4 : Int32)) + z.2.2)), none]) C dX2_measure_28 (Nat.le_of_ble_eq_true rfl) rfl ?_
    refine wg_aload_n C dX2_measure_30 rfl ?_
    refine wg_get (v := .ref 23) C fgX2_measure_15 rfl rfl dX2_measure_31 ?_
    refine wg_iload C dX2_measure_34 rfl ?_
    obtain ⟨g2, h⟩ := gdP h
    refine wg_zald (f := li.2.1) (n := 200) C rfl g2 dX2_measure_36 ?_
    refine wg_if_eq (tgt := 107) C dX2_measure_37 (by decide) (fun c3 => ?_) (fun c3 => ?_)
    · replace h := ifP c3 h
      refine wg_drop (lv' := [some (.ref 21), some (.int x1), some (.int x2), some (.float z.1), some (.float z.2.1), some (.int z.2.2), none, none, none]) [6, 7] rfl ?_
      exact sjX2_measure_8_107 X C cn bk st r0 r1 r2 r3 r4 li fo tx co ke rf cp lk fl em tm rd x1 x2 z.1 z.2.1 z.2.2 _ h k0 e0
    · replace h := ifN c3 h
      refine wg_aload_n C dX2_measure_40 rfl ?_
      refine wg_get (v := .ref 23) C fgX2_measure_15 rfl rfl dX2_measure_41 ?_
      refine wg_iload C dX2_measure_44 rfl ?_
      obtain ⟨g4, h⟩ := gdP h
      refine wg_zald (f := li.2.1) (n := 200) C rfl g4 dX2_measure_46 ?_
      refine wg_if_eq (tgt := 107) C dX2_measure_47 (by decide) (fun c5 => ?_) (fun c5 => ?_)
      · replace h := ifP c5 h
        refine wg_drop (lv' := [some (.ref 21), some (.int x1), some (.int x2), some (.float z.1), some (.float z.2.1), some (.int z.2.2), none, none, none]) [6, 7] rfl ?_
        exact sjX2_measure_8_107 X C cn bk st r0 r1 r2 r3 r4 li fo tx co ke rf cp lk fl em tm rd x1 x2 z.1 z.2.1 z.2.2 _ h k0 e0
      · replace h := ifN c5 h
        refine wg_aload_n C dX2_measure_50 rfl ?_
        refine wg_get (v := .ref 24) C fgX2_measure_19 rfl rfl dX2_measure_51 ?_
        refine wg_iload C dX2_measure_54 rfl ?_
        obtain ⟨g6, h⟩ := gdP h
        refine wg_fald (f := li.2.2.1) (n := 4) C rfl g6 dX2_measure_56 ?_
        refine wg_fconst0 C dX2_measure_57 ?_
        refine wg_fcmp C dX2_measure_58 ?_
        refine wg_if_le (tgt := 107) C dX2_measure_59 (by decide) (fun c7 => ?_) (fun c7 => ?_)
        · replace h := ifP c7 h
          refine wg_drop (lv' := [some (.ref 21), some (.int x1), some (.int x2), some (.float z.1), some (.float z.2.1), some (.int z.2.2), none, none, none]) [6, 7] rfl ?_
          exact sjX2_measure_8_107 X C cn bk st r0 r1 r2 r3 r4 li fo tx co ke rf cp lk fl em tm rd x1 x2 z.1 z.2.1 z.2.2 _ h k0 e0
        · replace h := ifN c7 h
          refine wg_aload_n C dX2_measure_62 rfl ?_
          refine wg_get (v := .ref 22) C fgX2_measure_9 rfl rfl dX2_measure_63 ?_
          refine wg_iload C dX2_measure_66 rfl ?_
          obtain ⟨g8, h⟩ := gdP h
          refine wg_fald (f := li.1) (n := 200) C rfl g8 dX2_measure_68 ?_
          refine wg_aload_n C dX2_measure_69 rfl ?_
          refine wg_get (v := .ref 22) C fgX2_measure_9 rfl rfl dX2_measure_70 ?_
          refine wg_iload C dX2_measure_73 rfl ?_
          obtain ⟨g9, h⟩ := gdP h
          refine wg_fald (f := li.1) (n := 200) C rfl g9 dX2_measure_75 ?_
          obtain ⟨g10, h⟩ := gdP h
          refine wg_fsub C dX2_measure_76 g10 ?_
          refine wg_fstore (lv' := [some (.ref 21), some (.int x1), some (.int x2), some (.float z.1), some (.float z.2.1), some (.int z.2.2), some (.int ((x1 * (4 : Int32)) + z.2.2)), some (.int ((x2 * (4 : Int32)) + z.2.2)), some (.float (FP.fsub (li.1 (((x1 * (4 : Int32)) + z.2.2)).toNatClampNeg) (li.1 (((x2 * (4 : Int32)) + z.2.2)).toNatClampNeg)))]) C dX2_measure_77 (Nat.le_of_ble_eq_true rfl) rfl ?_
          refine wg_fload_n C dX2_measure_79 rfl ?_
          refine wg_aload_n C dX2_measure_80 rfl ?_
          refine wg_get (v := .ref 24) C fgX2_measure_19 rfl rfl dX2_measure_81 ?_
          refine wg_iload C dX2_measure_84 rfl ?_
          obtain ⟨g11, h⟩ := gdP h
          refine wg_fald (f := li.2.2.1) (n := 4) C rfl g11 dX2_measure_86 ?_
          refine wg_fload C dX2_measure_87 rfl ?_
          refine wg_fload C dX2_measure_89 rfl ?_
          obtain ⟨g12, h⟩ := gdP h
          refine wg_fmul C dX2_measure_91 g12 ?_
          obtain ⟨g13, h⟩ := gdP h
          refine wg_fmul C dX2_measure_92 g13 ?_
          obtain ⟨g14, h⟩ := gdP h
          refine wg_fadd C dX2_measure_93 g14 ?_
          refine wg_fstore_n (lv' := [some (.ref 21), some (.int x1), some (.int x2), some (.float (FP.fadd z.1 (FP.fmul (li.2.2.1 (z.2.2).toNatClampNeg) (FP.fmul (FP.fsub (li.1 (((x1 * (4 : Int32)) + z.2.2)).toNatClampNeg) (li.1 (((x2 * (4 : Int32)) + z.2.2)).toNatClampNeg)) (FP.fsub (li.1 (((x1 * (4 : Int32)) + z.2.2)).toNatClampNeg) (li.1 (((x2 * (4 : Int32)) + z.2.2)).toNatClampNeg)))))), some (.float z.2.1), some (.int z.2.2), some (.int ((x1 * (4 : Int32)) + z.2.2)), some (.int ((x2 * (4 : Int32)) + z.2.2)), some (.float (FP.fsub (li.1 (((x1 * (4 : Int32)) + z.2.2)).toNatClampNeg) (li.1 (((x2 * (4 : Int32)) + z.2.2)).toNatClampNeg)))]) C dX2_measure_94 (Nat.le_of_ble_eq_true rfl) rfl ?_
          refine wg_fload C dX2_measure_95 rfl ?_
          refine wg_aload_n C dX2_measure_97 rfl ?_
          refine wg_get (v := .ref 24) C fgX2_measure_19 rfl rfl dX2_measure_98 ?_
          refine wg_iload C dX2_measure_101 rfl ?_
          obtain ⟨g15, h⟩ := gdP h
          refine wg_fald (f := li.2.2.1) (n := 4) C rfl g15 dX2_measure_103 ?_
          obtain ⟨g16, h⟩ := gdP h
          refine wg_fadd C dX2_measure_104 g16 ?_
          refine wg_fstore (lv' := [some (.ref 21), some (.int x1), some (.int x2), some (.float (FP.fadd z.1 (FP.fmul (li.2.2.1 (z.2.2).toNatClampNeg) (FP.fmul (FP.fsub (li.1 (((x1 * (4 : Int32)) + z.2.2)).toNatClampNeg) (li.1 (((x2 * (4 : Int32)) + z.2.2)).toNatClampNeg)) (FP.fsub (li.1 (((x1 * (4 : Int32)) + z.2.2)).toNatClampNeg) (li.1 (((x2 * (4 : Int32)) + z.2.2)).toNatClampNeg)))))), some (.float (FP.fadd z.2.1 (li.2.2.1 (z.2.2).toNatClampNeg))), some (.int z.2.2), some (.int ((x1 * (4 : Int32)) + z.2.2)), some (.int ((x2 * (4 : Int32)) + z.2.2)), some (.float (FP.fsub (li.1 (((x1 * (4 : Int32)) + z.2.2)).toNatClampNeg) (li.1 (((x2 * (4 : Int32)) + z.2.2)).toNatClampNeg)))]) C dX2_measure_105 (Nat.le_of_ble_eq_true rfl) rfl ?_
          refine wg_drop (lv' := [some (.ref 21), some (.int x1), some (.int x2), some (.float (FP.fadd z.1 (FP.fmul (li.2.2.1 (z.2.2).toNatClampNeg) (FP.fmul (FP.fsub (li.1 (((x1 * (4 : Int32)) + z.2.2)).toNatClampNeg) (li.1 (((x2 * (4 : Int32)) + z.2.2)).toNatClampNeg)) (FP.fsub (li.1 (((x1 * (4 : Int32)) + z.2.2)).toNatClampNeg) (li.1 (((x2 * (4 : Int32)) + z.2.2)).toNatClampNeg)))))), some (.float (FP.fadd z.2.1 (li.2.2.1 (z.2.2).toNatClampNeg))), some (.int z.2.2), none, none, none]) [6, 7, 8] rfl ?_
          exact sjX2_measure_8_107 X C cn bk st r0 r1 r2 r3 r4 li fo tx co ke rf cp lk fl em tm rd x1 x2 (FP.fadd z.1 (FP.fmul (li.2.2.1 (z.2.2).toNatClampNeg) (FP.fmul (FP.fsub (li.1 (((x1 * (4 : Int32)) + z.2.2)).toNatClampNeg) (li.1 (((x2 * (4 : Int32)) + z.2.2)).toNatClampNeg)) (FP.fsub (li.1 (((x1 * (4 : Int32)) + z.2.2)).toNatClampNeg) (li.1 (((x2 * (4 : Int32)) + z.2.2)).toNatClampNeg))))) (FP.fadd z.2.1 (li.2.2.1 (z.2.2).toNatClampNeg)) z.2.2 _ h k0 e0
set_option maxRecDepth 100000 in
set_option maxHeartbeats 4000000 in
theorem slX2_measure_8 (X : CX) (C : Ok X RX2 cX2_measure wsX2_measure rX2_measure) (cn : Tcn) (bk : Tbk) (st : Tst) (r0 : Tbk) (r1 : Tbk) (r2 : Tbk) (r3 : Tbk) (r4 : Tbk) (li : Tli) (fo : Tfo) (tx : Ttx) (co : Tco) (ke : Tke) (rf : (Nat → Int32)) (cp : Int32) (lk : Tlk) (fl : Tfl) (em : Int32) (tm : Ttm) (rd : Trd) (x1 : Int32) (x2 : Int32) (o : (UInt32 × UInt32)) (e0 : ∀ a : UInt32 × UInt32, o = a → Wg X 113 [none, none, none, some (.float a.1), some (.float a.2), none, none, none, none] [] (mkH cn bk st r0 r1 r2 r3 r4 li fo tx co ke rf cp lk fl em tm rd)) : ∀ (n : Nat) (z : UInt32 × UInt32 × Int32), lpF (bX2_measure_8 li x1 x2) n z = some o → Wg X 8 [some (.ref 21), some (.int x1), some (.int x2), some (.float z.1), some (.float z.2.1), some (.int z.2.2), none, none, none] [] (mkH cn bk st r0 r1 r2 r3 r4 li fo tx co ke rf cp lk fl em tm rd) := by
  intro n
  induction n with
  | zero => intro z h; cases h
  | succ n ih =>
    intro z h
    obtain ⟨r, hB, h⟩ := bnd h
    refine sbX2_measure_8 X C cn bk st r0 r1 r2 r3 r4 li fo tx co ke rf cp lk fl em tm rd x1 x2 z r hB (fun a e => ih a (by subst e; exact h)) (fun a e => e0 a (by subst e; exact (Option.some.inj h).symm))
set_option maxRecDepth 100000 in
set_option maxHeartbeats 4000000 in
theorem sjX2_measure_129 (X : CX) (C : Ok X RX2 cX2_measure wsX2_measure rX2_measure) (cn : Tcn) (bk : Tbk) (st : Tst) (r0 : Tbk) (r1 : Tbk) (r2 : Tbk) (r3 : Tbk) (r4 : Tbk) (li : Tli) (fo : Tfo) (tx : Ttx) (co : Tco) (ke : Tke) (rf : (Nat → Int32)) (cp : Int32) (lk : Tlk) (fl : Tfl) (em : Int32) (tm : Ttm) (rd : Trd) (y0 : UInt32) (o : UInt32) (h : jX2_measure_129 li y0 = some o) (hT : Rt X (some .float) (some (.float o)) (mkH cn bk st r0 r1 r2 r3 r4 li fo tx co ke rf cp lk fl em tm rd)) : Wg X 129 [none, none, none, none, none, none, none, none, none] [.float y0] (mkH cn bk st r0 r1 r2 r3 r4 li fo tx co ke rf cp lk fl em tm rd) := by
  unfold jX2_measure_129 at h
  obtain rfl := Option.some.inj h
  exact wg_fret C hT dX2_measure_129
set_option maxRecDepth 100000 in
set_option maxHeartbeats 4000000 in
theorem sX2_measure (cn : Tcn) (bk : Tbk) (st : Tst) (r0 : Tbk) (r1 : Tbk) (r2 : Tbk) (r3 : Tbk) (r4 : Tbk) (li : Tli) (fo : Tfo) (tx : Ttx) (co : Tco) (ke : Tke) (rf : (Nat → Int32)) (cp : Int32) (lk : Tlk) (fl : Tfl) (em : Int32) (tm : Ttm) (rd : Trd) (x1 : Int32) (x2 : Int32) (o : UInt32) (h : fX2_measure li x1 x2 = some o) : Sp yX2_measure wsX2_measure rX2_measure [.ref 21, .int x1, .int x2] (mkH cn bk st r0 r1 r2 r3 r4 li fo tx co ke rf cp lk fl em tm rd) (some (.float o)) (mkH cn bk st r0 r1 r2 r3 r4 li fo tx co ke rf cp lk fl em tm rd) := by
  refine Sp.of (lv := [some (.ref 21), some (.int x1), some (.int x2), none, none, none, none, none, none]) RX2 (by decide +kernel) rfl (Nat.le_of_ble_eq_true rfl) rfl ?_
  intro X C hT
  unfold fX2_measure at h
  refine wg_fconst0 C dX2_measure_0 ?_
  refine wg_fstore_n (lv' := [some (.ref 21), some (.int x1), some (.int x2), some (.float FP.fconst0), none, none, none, none, none]) C dX2_measure_1 (Nat.le_of_ble_eq_true rfl) rfl ?_
  refine wg_fconst0 C dX2_measure_2 ?_
  refine wg_fstore (lv' := [some (.ref 21), some (.int x1), some (.int x2), some (.float FP.fconst0), some (.float FP.fconst0), none, none, none, none]) C dX2_measure_3 (Nat.le_of_ble_eq_true rfl) rfl ?_
  refine wg_iconst (v := 0) C dX2_measure_5 (by decide) ?_
  refine wg_istore (lv' := [some (.ref 21), some (.int x1), some (.int x2), some (.float FP.fconst0), some (.float FP.fconst0), some (.int (0 : Int32)), none, none, none]) C dX2_measure_6 (Nat.le_of_ble_eq_true rfl) rfl ?_
  obtain ⟨t17, hL17, h⟩ := bnd h
  refine slX2_measure_8 X C cn bk st r0 r1 r2 r3 r4 li fo tx co ke rf cp lk fl em tm rd x1 x2 t17 (fun a e => ?_) FU (FP.fconst0, FP.fconst0, (0 : Int32)) hL17
  subst e
  refine wg_fload C dX2_measure_113 rfl ?_
  refine wg_fconst0 C dX2_measure_115 ?_
  refine wg_fcmp C dX2_measure_116 ?_
  refine wg_if_le (tgt := 127) C dX2_measure_117 (by decide) (fun c18 => ?_) (fun c18 => ?_)
  · replace h := ifP c18 h
    refine wg_ldcf (v := 3212836864) C (by decide +kernel) dX2_measure_127 ?_
    refine wg_drop (lv' := [none, none, none, none, none, none, none, none, none]) [3, 4] rfl ?_
    exact sjX2_measure_129 X C cn bk st r0 r1 r2 r3 r4 li fo tx co ke rf cp lk fl em tm rd (3212836864 : UInt32) _ h hT
  · replace h := ifN c18 h
    refine wg_fload_n C dX2_measure_120 rfl ?_
    refine wg_fload C dX2_measure_121 rfl ?_
    obtain ⟨g19, h⟩ := gdP h
    refine wg_fdiv C dX2_measure_123 g19 ?_
    refine wg_goto (tgt := 129) C dX2_measure_124 (by decide) ?_
    refine wg_drop (lv' := [none, none, none, none, none, none, none, none, none]) [3, 4] rfl ?_
    exact sjX2_measure_129 X C cn bk st r0 r1 r2 r3 r4 li fo tx co ke rf cp lk fl em tm rd (FP.fdiv t17.1 t17.2) _ h hT
abbrev rX0_gap : Room := { frames := 0, cells := 0, slots := 0, locals := 0 }
theorem iwX0_gap_0 : ∀ w ∈ wsX00, w ∈ wsX0_gap := by decide +kernel
theorem fgX0_gap_31 : FG wsX0_gap RX0 31 0 3 := ⟨RX0, TX0, 5, rfl, by decide, by decide +kernel, iwX0_gap_0⟩
set_option maxRecDepth 100000 in
set_option maxHeartbeats 4000000 in
theorem sX0_gap (cn : Tcn) (bk : Tbk) (st : Tst) (r0 : Tbk) (r1 : Tbk) (r2 : Tbk) (r3 : Tbk) (r4 : Tbk) (li : Tli) (fo : Tfo) (tx : Ttx) (co : Tco) (ke : Tke) (rf : (Nat → Int32)) (cp : Int32) (lk : Tlk) (fl : Tfl) (em : Int32) (tm : Ttm) (rd : Trd)  (o : Int32) (h : fX0_gap bk  = some o) : Sp yX0_gap wsX0_gap rX0_gap [.ref 1] (mkH cn bk st r0 r1 r2 r3 r4 li fo tx co ke rf cp lk fl em tm rd) (some (.int o)) (mkH cn bk st r0 r1 r2 r3 r4 li fo tx co ke rf cp lk fl em tm rd) := by
  refine Sp.of (lv := [some (.ref 1)]) RX0 (by decide +kernel) rfl (Nat.le_of_ble_eq_true rfl) rfl ?_
  intro X C hT
  unfold fX0_gap at h
  refine wg_aload_n C dX0_gap_0 rfl ?_
  refine wg_get (v := .int bk.2.2.2.1) C fgX0_gap_31 rfl rfl dX0_gap_1 ?_
  obtain rfl := Option.some.inj h
  exact wg_iret C hT dX0_gap_4
abbrev rX2_has : Room := { frames := 0, cells := 0, slots := 0, locals := 0 }
theorem iwX2_has_2 : ∀ w ∈ wsX20, w ∈ wsX2_has := by decide +kernel
theorem fgX2_has_51 : FG wsX2_has RX2 51 2 7 := ⟨RX2, TX2, 9, rfl, by decide, by decide +kernel, iwX2_has_2⟩
set_option maxRecDepth 100000 in
set_option maxHeartbeats 4000000 in
theorem sjX2_has_17 (X : CX) (C : Ok X RX2 cX2_has wsX2_has rX2_has) (cn : Tcn) (bk : Tbk) (st : Tst) (r0 : Tbk) (r1 : Tbk) (r2 : Tbk) (r3 : Tbk) (r4 : Tbk) (li : Tli) (fo : Tfo) (tx : Ttx) (co : Tco) (ke : Tke) (rf : (Nat → Int32)) (cp : Int32) (lk : Tlk) (fl : Tfl) (em : Int32) (tm : Ttm) (rd : Trd) (y0 : Int32) (o : Int32) (h : jX2_has_17 li y0 = some o) (hT : Rt X (some .boolean) (some (.int o)) (mkH cn bk st r0 r1 r2 r3 r4 li fo tx co ke rf cp lk fl em tm rd)) : Wg X 17 [none, none] [.int y0] (mkH cn bk st r0 r1 r2 r3 r4 li fo tx co ke rf cp lk fl em tm rd) := by
  unfold jX2_has_17 at h
  obtain ⟨g2, h⟩ := gdP h
  obtain rfl := Option.some.inj h
  exact wg_zret C hT (of_decide_eq_true g2) dX2_has_17
set_option maxRecDepth 100000 in
set_option maxHeartbeats 4000000 in
theorem sjX2_has_16 (X : CX) (C : Ok X RX2 cX2_has wsX2_has rX2_has) (cn : Tcn) (bk : Tbk) (st : Tst) (r0 : Tbk) (r1 : Tbk) (r2 : Tbk) (r3 : Tbk) (r4 : Tbk) (li : Tli) (fo : Tfo) (tx : Ttx) (co : Tco) (ke : Tke) (rf : (Nat → Int32)) (cp : Int32) (lk : Tlk) (fl : Tfl) (em : Int32) (tm : Ttm) (rd : Trd)  (o : Int32) (h : jX2_has_16 li  = some o) (hT : Rt X (some .boolean) (some (.int o)) (mkH cn bk st r0 r1 r2 r3 r4 li fo tx co ke rf cp lk fl em tm rd)) : Wg X 16 [none, none] [] (mkH cn bk st r0 r1 r2 r3 r4 li fo tx co ke rf cp lk fl em tm rd) := by
  unfold jX2_has_16 at h
  refine wg_iconst (v := 0) C dX2_has_16 (by decide) ?_
  exact sjX2_has_17 X C cn bk st r0 r1 r2 r3 r4 li fo tx co ke rf cp lk fl em tm rd (0 : Int32) _ h hT
set_option maxRecDepth 100000 in
set_option maxHeartbeats 4000000 in
theorem sX2_has (cn : Tcn) (bk : Tbk) (st : Tst) (r0 : Tbk) (r1 : Tbk) (r2 : Tbk) (r3 : Tbk) (r4 : Tbk) (li : Tli) (fo : Tfo) (tx : Ttx) (co : Tco) (ke : Tke) (rf : (Nat → Int32)) (cp : Int32) (lk : Tlk) (fl : Tfl) (em : Int32) (tm : Ttm) (rd : Trd) (x1 : Int32) (o : Int32) (h : fX2_has li x1 = some o) : Sp yX2_has wsX2_has rX2_has [.ref 21, .int x1] (mkH cn bk st r0 r1 r2 r3 r4 li fo tx co ke rf cp lk fl em tm rd) (some (.int o)) (mkH cn bk st r0 r1 r2 r3 r4 li fo tx co ke rf cp lk fl em tm rd) := by
  refine Sp.of (lv := [some (.ref 21), some (.int x1)]) RX2 (by decide +kernel) rfl (Nat.le_of_ble_eq_true rfl) rfl ?_
  intro X C hT
  unfold fX2_has at h
  refine wg_iload_n C dX2_has_0 rfl ?_
  refine wg_if_lt (tgt := 16) C dX2_has_1 (by decide) (fun c1 => ?_) (fun c1 => ?_)
  · replace h := ifP c1 h
    refine wg_drop (lv' := [none, none]) [0, 1] rfl ?_
    exact sjX2_has_16 X C cn bk st r0 r1 r2 r3 r4 li fo tx co ke rf cp lk fl em tm rd  _ h hT
  · replace h := ifN c1 h
    refine wg_iload_n C dX2_has_4 rfl ?_
    refine wg_aload_n C dX2_has_5 rfl ?_
    refine wg_get (v := .int li.2.2.2.2.2.2.2.1) C fgX2_has_51 rfl rfl dX2_has_6 ?_
    refine wg_icmp_ge (tgt := 16) C dX2_has_9 (by decide) (fun c3 => ?_) (fun c3 => ?_)
    · replace h := ifP c3 h
      refine wg_drop (lv' := [none, none]) [0, 1] rfl ?_
      exact sjX2_has_16 X C cn bk st r0 r1 r2 r3 r4 li fo tx co ke rf cp lk fl em tm rd  _ h hT
    · replace h := ifN c3 h
      refine wg_iconst (v := 1) C dX2_has_12 (by decide) ?_
      refine wg_goto (tgt := 17) C dX2_has_13 (by decide) ?_
      refine wg_drop (lv' := [none, none]) [0, 1] rfl ?_
      exact sjX2_has_17 X C cn bk st r0 r1 r2 r3 r4 li fo tx co ke rf cp lk fl em tm rd (1 : Int32) _ h hT
abbrev rX2_between : Room := { frames := 1, cells := 0, slots := 0, locals := 21 }
theorem iwX2_between_2 : ∀ w ∈ wsX20, w ∈ wsX2_between := by decide +kernel
theorem fgX2_between_22 : FG wsX2_between RX2 22 2 3 := ⟨RX2, TX2, 9, rfl, by decide, by decide +kernel, iwX2_between_2⟩
set_option maxRecDepth 100000 in
set_option maxHeartbeats 4000000 in
theorem sjX2_between_37 (X : CX) (C : Ok X RX2 cX2_between wsX2_between rX2_between) (cn : Tcn) (bk : Tbk) (st : Tst) (r0 : Tbk) (r1 : Tbk) (r2 : Tbk) (r3 : Tbk) (r4 : Tbk) (li : Tli) (fo : Tfo) (tx : Ttx) (co : Tco) (ke : Tke) (rf : (Nat → Int32)) (cp : Int32) (lk : Tlk) (fl : Tfl) (em : Int32) (tm : Ttm) (rd : Trd) (y0 : UInt32) (o : UInt32) (h : jX2_between_37 li y0 = some o) (hT : Rt X (some .float) (some (.float o)) (mkH cn bk st r0 r1 r2 r3 r4 li fo tx co ke rf cp lk fl em tm rd)) : Wg X 37 [none, none, none] [.float y0] (mkH cn bk st r0 r1 r2 r3 r4 li fo tx co ke rf cp lk fl em tm rd) := by
  unfold jX2_between_37 at h
  obtain rfl := Option.some.inj h
  exact wg_fret C hT dX2_between_37
set_option maxRecDepth 100000 in
set_option maxHeartbeats 4000000 in
theorem sjX2_between_35 (X : CX) (C : Ok X RX2 cX2_between wsX2_between rX2_between) (cn : Tcn) (bk : Tbk) (st : Tst) (r0 : Tbk) (r1 : Tbk) (r2 : Tbk) (r3 : Tbk) (r4 : Tbk) (li : Tli) (fo : Tfo) (tx : Ttx) (co : Tco) (ke : Tke) (rf : (Nat → Int32)) (cp : Int32) (lk : Tlk) (fl : Tfl) (em : Int32) (tm : Ttm) (rd : Trd)  (o : UInt32) (h : jX2_between_35 li  = some o) (hT : Rt X (some .float) (some (.float o)) (mkH cn bk st r0 r1 r2 r3 r4 li fo tx co ke rf cp lk fl em tm rd)) : Wg X 35 [none, none, none] [] (mkH cn bk st r0 r1 r2 r3 r4 li fo tx co ke rf cp lk fl em tm rd) := by
  unfold jX2_between_35 at h
  refine wg_ldcf (v := 3212836864) C (by decide +kernel) dX2_between_35 ?_
  exact sjX2_between_37 X C cn bk st r0 r1 r2 r3 r4 li fo tx co ke rf cp lk fl em tm rd (3212836864 : UInt32) _ h hT
set_option maxRecDepth 100000 in
set_option maxHeartbeats 4000000 in
theorem sX2_between (cn : Tcn) (bk : Tbk) (st : Tst) (r0 : Tbk) (r1 : Tbk) (r2 : Tbk) (r3 : Tbk) (r4 : Tbk) (li : Tli) (fo : Tfo) (tx : Ttx) (co : Tco) (ke : Tke) (rf : (Nat → Int32)) (cp : Int32) (lk : Tlk) (fl : Tfl) (em : Int32) (tm : Ttm) (rd : Trd) (x1 : Int32) (x2 : Int32) (o : UInt32) (h : fX2_between li x1 x2 = some o) : Sp yX2_between wsX2_between rX2_between [.ref 21, .int x1, .int x2] (mkH cn bk st r0 r1 r2 r3 r4 li fo tx co ke rf cp lk fl em tm rd) (some (.float o)) (mkH cn bk st r0 r1 r2 r3 r4 li fo tx co ke rf cp lk fl em tm rd) := by
  refine Sp.of (lv := [some (.ref 21), some (.int x1), some (.int x2)]) RX2 (by decide +kernel) rfl (Nat.le_of_ble_eq_true rfl) rfl ?_
  intro X C hT
  unfold fX2_between at h
  refine wg_aload_n C dX2_between_0 rfl ?_
  refine wg_iload_n C dX2_between_1 rfl ?_
  obtain ⟨q1, e1q, h⟩ := bnd h
  refine wg_callV (n := 1) (As := [.int x1]) (st := []) (st' := [.int q1]) C (sX2_has cn bk st r0 r1 r2 r3 r4 li fo tx co ke rf cp lk fl em tm rd x1 q1 e1q) gX2_between_X2_has rfl (by decide +kernel) ⟨⟨rfl, rfl⟩, Nat.le_of_ble_eq_true rfl, Nat.le_of_ble_eq_true rfl⟩ rfl rfl rfl rfl (Nat.le_of_ble_eq_true rfl) dX2_between_2 rfl ?_
  refine wg_if_eq (tgt := 35) C dX2_between_5 (by decide) (fun c2 => ?_) (fun c2 => ?_)
  · replace h := ifP c2 h
    refine wg_drop (lv' := [none, none, none]) [0, 1, 2] rfl ?_
    exact sjX2_between_35 X C cn bk st r0 r1 r2 r3 r4 li fo tx co ke rf cp lk fl em tm rd  _ h hT
  · replace h := ifN c2 h
    refine wg_aload_n C dX2_between_8 rfl ?_
    refine wg_iload_n C dX2_between_9 rfl ?_
    obtain ⟨q3, e3q, h⟩ := bnd h
    refine wg_callV (n := 1) (As := [.int x2]) (st := []) (st' := [.int q3]) C (sX2_has cn bk st r0 r1 r2 r3 r4 li fo tx co ke rf cp lk fl em tm rd x2 q3 e3q) gX2_between_X2_has rfl (by decide +kernel) ⟨⟨rfl, rfl⟩, Nat.le_of_ble_eq_true rfl, Nat.le_of_ble_eq_true rfl⟩ rfl rfl rfl rfl (Nat.le_of_ble_eq_true rfl) dX2_between_10 rfl ?_
    refine wg_if_eq (tgt := 35) C dX2_between_13 (by decide) (fun c4 => ?_) (fun c4 => ?_)
    · replace h := ifP c4 h
      refine wg_drop (lv' := [none, none, none]) [0, 1, 2] rfl ?_
      exact sjX2_between_35 X C cn bk st r0 r1 r2 r3 r4 li fo tx co ke rf cp lk fl em tm rd  _ h hT
    · replace h := ifN c4 h
      refine wg_iload_n C dX2_between_16 rfl ?_
      refine wg_iload_n C dX2_between_17 rfl ?_
      refine wg_icmp_eq (tgt := 35) C dX2_between_18 (by decide) (fun c5 => ?_) (fun c5 => ?_)
      · replace h := ifP c5 h
        refine wg_drop (lv' := [none, none, none]) [0, 1, 2] rfl ?_
        exact sjX2_between_35 X C cn bk st r0 r1 r2 r3 r4 li fo tx co ke rf cp lk fl em tm rd  _ h hT
      · replace h := ifN c5 h
        refine wg_aload_n C dX2_between_21 rfl ?_
        refine wg_get (v := .ref 25) C fgX2_between_22 rfl rfl dX2_between_22 ?_
        refine wg_iload_n C dX2_between_25 rfl ?_
        refine wg_bipush (v := 50) C dX2_between_26 (by decide) ?_
        refine wg_imul C dX2_between_28 ?_
        refine wg_iload_n C dX2_between_29 rfl ?_
        refine wg_iadd C dX2_between_30 ?_
        obtain ⟨g6, h⟩ := gdP h
        refine wg_fald (f := li.2.2.2.1) (n := 2500) C rfl g6 dX2_between_31 ?_
        refine wg_goto (tgt := 37) C dX2_between_32 (by decide) ?_
        refine wg_drop (lv' := [none, none, none]) [0, 1, 2] rfl ?_
        exact sjX2_between_37 X C cn bk st r0 r1 r2 r3 r4 li fo tx co ke rf cp lk fl em tm rd (li.2.2.2.1 (((x1 * (50 : Int32)) + x2)).toNatClampNeg) _ h hT
abbrev rX2_enter : Room := { frames := 2, cells := 0, slots := 0, locals := 43 }
theorem iwX2_enter_2 : ∀ w ∈ wsX20, w ∈ wsX2_enter := by decide +kernel
theorem fgX2_enter_25 : FG wsX2_enter RX2 25 2 4 := ⟨RX2, TX2, 9, rfl, by decide, by decide +kernel, iwX2_enter_2⟩
set_option maxRecDepth 100000 in
set_option maxHeartbeats 4000000 in
theorem sjX2_enter_10_66 (X : CX) (C : Ok X RX2 cX2_enter wsX2_enter rX2_enter) (cn : Tcn) (bk : Tbk) (st : Tst) (r0 : Tbk) (r1 : Tbk) (r2 : Tbk) (r3 : Tbk) (r4 : Tbk) (li : Tli) (fo : Tfo) (tx : Ttx) (co : Tco) (ke : Tke) (rf : (Nat → Int32)) (cp : Int32) (lk : Tlk) (fl : Tfl) (em : Int32) (tm : Ttm) (rd : Trd) (x1 : Int32) (x2 : Int32) (x3 : UInt32) (x4 : Int32) (x5 : Int32) (x6 : Int32) (o : (Int32 × Tli) ⊕ (Int32 × Tli)) (h : jX2_enter_10_66 li x1 x2 x3 x4 x5 x6 = some o) (k0 : ∀ a : Int32 × Tli, o = .inl a → Wg X 10 [some (.ref 21), some (.int x1), some (.int x2), some (.float x3), some (.int x4), some (.int x5), some (.int a.1)] [] (mkH cn bk st r0 r1 r2 r3 r4 a.2 fo tx co ke rf cp lk fl em tm rd)) (e0 : ∀ a : Int32 × Tli, o = .inr a → Wg X 72 [some (.ref 21), none, some (.int x2), none, some (.int x4), some (.int x5), some (.int a.1)] [] (mkH cn bk st r0 r1 r2 r3 r4 a.2 fo tx co ke rf cp lk fl em tm rd)) : Wg X 66 [some (.ref 21), some (.int x1), some (.int x2), some (.float x3), some (.int x4), some (.int x5), some (.int x6)] [] (mkH cn bk st r0 r1 r2 r3 r4 li fo tx co ke rf cp lk fl em tm rd) := by
  unfold jX2_enter_10_66 at h
  refine wg_iinc (v := (x6 + (-1 : Int32))) (lv' := [some (.ref 21), some (.int x1), some (.int x2), some (.float x3), some (.int x4), some (.int x5), some (.int (x6 + (-1 : Int32)))]) C dX2_enter_66 rfl rfl rfl ?_
  refine wg_goto (tgt := 10) C dX2_enter_69 (by decide) ?_
  have hk := k0 _ (Option.some.inj h).symm
  exact hk
set_option maxRecDepth 100000 in
set_option maxHeartbeats 4000000 in
theorem sbX2_enter_10 (X : CX) (C : Ok X RX2 cX2_enter wsX2_enter rX2_enter) (cn : Tcn) (bk : Tbk) (st : Tst) (r0 : Tbk) (r1 : Tbk) (r2 : Tbk) (r3 : Tbk) (r4 : Tbk) (li : Tli) (fo : Tfo) (tx : Ttx) (co : Tco) (ke : Tke) (rf : (Nat → Int32)) (cp : Int32) (lk : Tlk) (fl : Tfl) (em : Int32) (tm : Ttm) (rd : Trd) (x1 : Int32) (x2 : Int32) (x3 : UInt32) (x4 : Int32) (x5 : Int32) (z : Int32 × Tli) (o : (Int32 × Tli) ⊕ (Int32 × Tli)) (h : bX2_enter_10  x1 x2 x3 x4 x5 z = some o) (k0 : ∀ a : Int32 × Tli, o = .inl a → Wg X 10 [some (.ref 21), some (.int x1), some (.int x2), some (.float x3), some (.int x4), some (.int x5), some (.int a.1)] [] (mkH cn bk st r0 r1 r2 r3 r4 a.2 fo tx co ke rf cp lk fl em tm rd)) (e0 : ∀ a : Int32 × Tli, o = .inr a → Wg X 72 [some (.ref 21), none, some (.int x2), none, some (.int x4), some (.int x5), some (.int a.1)] [] (mkH cn bk st r0 r1 r2 r3 r4 a.2 fo tx co ke rf cp lk fl em tm rd)) : Wg X 10 [some (.ref 21), some (.int x1), some (.int x2), some (.float x3), some (.int x4), some (.int x5), some (.int z.1)] [] (mkH cn bk st r0 r1 r2 r3 r4 z.2 fo tx co ke rf cp lk fl em tm rd) := by
  unfold bX2_enter_10 at h
  refine wg_iload C dX2_enter_10 rfl ?_
  refine wg_if_le (tgt := 72) C dX2_enter_12 (by decide) (fun c1 => ?_) (fun c1 => ?_)
  · replace h := ifP c1 h
    refine wg_drop (lv' := [some (.ref 21), none, some (.int x2), none, some (.int x4), some (.int x5), some (.int z.1)]) [1, 3] rfl ?_
    have hk := e0 _ (Option.some.inj h).symm
    exact hk
  · replace h := ifN c1 h
    refine wg_fload_n C dX2_enter_15 rfl ?_
    refine wg_aload_n C dX2_enter_16 rfl ?_
    refine wg_iload_n C dX2_enter_17 rfl ?_
    refine wg_aload_n C dX2_enter_18 rfl ?_
    refine wg_get (v := .ref 26) C fgX2_enter_25 rfl rfl dX2_enter_19 ?_
    refine wg_iload C dX2_enter_22 rfl ?_
    refine wg_iload C dX2_enter_24 rfl ?_
    refine wg_iadd C dX2_enter_26 ?_
    refine wg_iconst (v := 1) C dX2_enter_27 (by decide) ?_
    refine wg_isub C dX2_enter_28 ?_
    obtain ⟨g2, h⟩ := gdP h
    refine wg_iald (f := z.2.2.2.2.2.1) (n := 600) C rfl g2 dX2_enter_29 ?_
    obtain ⟨q3, e3q, h⟩ := bnd h
    refine wg_callV (n := 2) (As := [.int x1, .int (z.2.2.2.2.2.1 (((x5 + z.1) - (1 : Int32))).toNatClampNeg)]) (st := [.float x3]) (st' := [.float q3, .float x3]) C (sX2_between cn bk st r0 r1 r2 r3 r4 z.2 fo tx co ke rf cp lk fl em tm rd x1 (z.2.2.2.2.2.1 (((x5 + z.1) - (1 : Int32))).toNatClampNeg) q3 e3q) gX2_enter_X2_between rfl (by decide +kernel) ⟨⟨rfl, rfl⟩, Nat.le_of_ble_eq_true rfl, Nat.le_of_ble_eq_true rfl⟩ rfl rfl rfl rfl (Nat.le_of_ble_eq_true rfl) dX2_enter_30 rfl ?_
    refine wg_fcmp C dX2_enter_33 ?_
    refine wg_if_ge (tgt := 72) C dX2_enter_34 (by decide) (fun c4 => ?_) (fun c4 => ?_)
    · replace h := ifP c4 h
      refine wg_drop (lv' := [some (.ref 21), none, some (.int x2), none, some (.int x4), some (.int x5), some (.int z.1)]) [1, 3] rfl ?_
      have hk := e0 _ (Option.some.inj h).symm
      exact hk
    · replace h := ifN c4 h
      refine wg_iload C dX2_enter_37 rfl ?_
      refine wg_bipush (v := 12) C dX2_enter_39 (by decide) ?_
      refine wg_icmp_ge (tgt := 66) C dX2_enter_41 (by decide) (fun c5 => ?_) (fun c5 => ?_)
      · replace h := ifP c5 h
        exact sjX2_enter_10_66 X C cn bk st r0 r1 r2 r3 r4 z.2 fo tx co ke rf cp lk fl em tm rd x1 x2 x3 x4 x5 z.1 _ h k0 e0
      · replace h := ifN c5 h
        refine wg_aload_n C dX2_enter_44 rfl ?_
        refine wg_get (v := .ref 26) C fgX2_enter_25 rfl rfl dX2_enter_45 ?_
        refine wg_iload C dX2_enter_48 rfl ?_
        refine wg_iload C dX2_enter_50 rfl ?_
        refine wg_iadd C dX2_enter_52 ?_
        refine wg_aload_n C dX2_enter_53 rfl ?_
        refine wg_get (v := .ref 26) C fgX2_enter_25 rfl rfl dX2_enter_54 ?_
        refine wg_iload C dX2_enter_57 rfl ?_
        refine wg_iload C dX2_enter_59 rfl ?_
        refine wg_iadd C dX2_enter_61 ?_
        refine wg_iconst (v := 1) C dX2_enter_62 (by decide) ?_
        refine wg_isub C dX2_enter_63 ?_
        obtain ⟨g6, h⟩ := gdP h
        refine wg_iald (f := z.2.2.2.2.2.1) (n := 600) C rfl g6 dX2_enter_64 ?_
        obtain ⟨g7, h⟩ := gdP h
        refine wg_iast (f := z.2.2.2.2.2.1) (n := 600) (hp' := (mkH cn bk st r0 r1 r2 r3 r4 (z.2.1, z.2.2.1, z.2.2.2.1, z.2.2.2.2.1, (upd z.2.2.2.2.2.1 ((x5 + z.1)).toNatClampNeg (z.2.2.2.2.2.1 (((x5 + z.1) - (1 : Int32))).toNatClampNeg)), z.2.2.2.2.2.2.1, z.2.2.2.2.2.2.2.1, z.2.2.2.2.2.2.2.2.1, z.2.2.2.2.2.2.2.2.2) fo tx co ke rf cp lk fl em tm rd)) C rfl g7 rfl dX2_enter_65 ?_
        exact sjX2_enter_10_66 X C cn bk st r0 r1 r2 r3 r4 (z.2.1, z.2.2.1, z.2.2.2.1, z.2.2.2.2.1, (upd z.2.2.2.2.2.1 ((x5 + z.1)).toNatClampNeg (z.2.2.2.2.2.1 (((x5 + z.1) - (1 : Int32))).toNatClampNeg)), z.2.2.2.2.2.2.1, z.2.2.2.2.2.2.2.1, z.2.2.2.2.2.2.2.2.1, z.2.2.2.2.2.2.2.2.2) fo tx co ke rf cp lk fl em tm rd x1 x2 x3 x4 x5 z.1 _ h k0 e0
set_option maxRecDepth 100000 in
set_option maxHeartbeats 4000000 in
theorem slX2_enter_10 (X : CX) (C : Ok X RX2 cX2_enter wsX2_enter rX2_enter) (cn : Tcn) (bk : Tbk) (st : Tst) (r0 : Tbk) (r1 : Tbk) (r2 : Tbk) (r3 : Tbk) (r4 : Tbk) (li : Tli) (fo : Tfo) (tx : Ttx) (co : Tco) (ke : Tke) (rf : (Nat → Int32)) (cp : Int32) (lk : Tlk) (fl : Tfl) (em : Int32) (tm : Ttm) (rd : Trd) (x1 : Int32) (x2 : Int32) (x3 : UInt32) (x4 : Int32) (x5 : Int32) (o : (Int32 × Tli)) (e0 : ∀ a : Int32 × Tli, o = a → Wg X 72 [some (.ref 21), none, some (.int x2), none, some (.int x4), some (.int x5), some (.int a.1)] [] (mkH cn bk st r0 r1 r2 r3 r4 a.2 fo tx co ke rf cp lk fl em tm rd)) : ∀ (n : Nat) (z : Int32 × Tli), lpF (bX2_enter_10  x1 x2 x3 x4 x5) n z = some o → Wg X 10 [some (.ref 21), some (.int x1), some (.int x2), some (.float x3), some (.int x4), some (.int x5), some (.int z.1)] [] (mkH cn bk st r0 r1 r2 r3 r4 z.2 fo tx co ke rf cp lk fl em tm rd) := by
  intro n
  induction n with
  | zero => intro z h; cases h
  | succ n ih =>
    intro z h
    obtain ⟨r, hB, h⟩ := bnd h
    refine sbX2_enter_10 X C cn bk st r0 r1 r2 r3 r4 li fo tx co ke rf cp lk fl em tm rd x1 x2 x3 x4 x5 z r hB (fun a e => ih a (by subst e; exact h)) (fun a e => e0 a (by subst e; exact (Option.some.inj h).symm))
set_option maxRecDepth 100000 in
set_option maxHeartbeats 4000000 in
theorem sjX2_enter_90 (X : CX) (C : Ok X RX2 cX2_enter wsX2_enter rX2_enter) (cn : Tcn) (bk : Tbk) (st : Tst) (r0 : Tbk) (r1 : Tbk) (r2 : Tbk) (r3 : Tbk) (r4 : Tbk) (li : Tli) (fo : Tfo) (tx : Ttx) (co : Tco) (ke : Tke) (rf : (Nat → Int32)) (cp : Int32) (lk : Tlk) (fl : Tfl) (em : Int32) (tm : Ttm) (rd : Trd) (x4 : Int32) (o : Int32 × Tli) (h : jX2_enter_90 li x4 = some o) (hT : Rt X (some .int) (some (.int o.1)) (mkH cn bk st r0 r1 r2 r3 r4 o.2 fo tx co ke rf cp lk fl em tm rd)) : Wg X 90 [none, none, none, none, some (.int x4), none, none] [] (mkH cn bk st r0 r1 r2 r3 r4 li fo tx co ke rf cp lk fl em tm rd) := by
  unfold jX2_enter_90 at h
  refine wg_iload C dX2_enter_90 rfl ?_
  refine wg_iconst (v := 1) C dX2_enter_92 (by decide) ?_
  refine wg_iadd C dX2_enter_93 ?_
  refine wg_bipush (v := 12) C dX2_enter_94 (by decide) ?_
  refine wg_mmin C ⟨by decide +kernel, by decide +kernel, by decide +kernel, by decide +kernel⟩ ⟨Nat.le_of_ble_eq_true rfl, Nat.le_of_ble_eq_true rfl⟩ dX2_enter_96 ?_
  obtain rfl := Option.some.inj h
  exact wg_iret C hT dX2_enter_99
set_option maxRecDepth 100000 in
set_option maxHeartbeats 4000000 in
theorem sX2_enter (cn : Tcn) (bk : Tbk) (st : Tst) (r0 : Tbk) (r1 : Tbk) (r2 : Tbk) (r3 : Tbk) (r4 : Tbk) (li : Tli) (fo : Tfo) (tx : Ttx) (co : Tco) (ke : Tke) (rf : (Nat → Int32)) (cp : Int32) (lk : Tlk) (fl : Tfl) (em : Int32) (tm : Ttm) (rd : Trd) (x1 : Int32) (x2 : Int32) (x3 : UInt32) (x4 : Int32) (o : Int32 × Tli) (h : fX2_enter li x1 x2 x3 x4 = some o) : Sp yX2_enter wsX2_enter rX2_enter [.ref 21, .int x1, .int x2, .float x3, .int x4] (mkH cn bk st r0 r1 r2 r3 r4 li fo tx co ke rf cp lk fl em tm rd) (some (.int o.1)) (mkH cn bk st r0 r1 r2 r3 r4 o.2 fo tx co ke rf cp lk fl em tm rd) := by
  refine Sp.of (lv := [some (.ref 21), some (.int x1), some (.int x2), some (.float x3), some (.int x4), none, none]) RX2 (by decide +kernel) rfl (Nat.le_of_ble_eq_true rfl) rfl ?_
  intro X C hT
  unfold fX2_enter at h
  refine wg_iload_n C dX2_enter_0 rfl ?_
  refine wg_bipush (v := 12) C dX2_enter_1 (by decide) ?_
  refine wg_imul C dX2_enter_3 ?_
  refine wg_istore (lv' := [some (.ref 21), some (.int x1), some (.int x2), some (.float x3), some (.int x4), some (.int (x1 * (12 : Int32))), none]) C dX2_enter_4 (Nat.le_of_ble_eq_true rfl) rfl ?_
  refine wg_iload C dX2_enter_6 rfl ?_
  refine wg_istore (lv' := [some (.ref 21), some (.int x1), some (.int x2), some (.float x3), some (.int x4), some (.int (x1 * (12 : Int32))), some (.int x4)]) C dX2_enter_8 (Nat.le_of_ble_eq_true rfl) rfl ?_
  obtain ⟨t8, hL8, h⟩ := bnd h
  refine slX2_enter_10 X C cn bk st r0 r1 r2 r3 r4 li fo tx co ke rf cp lk fl em tm rd x1 x2 x3 x4 (x1 * (12 : Int32)) t8 (fun a e => ?_) FU (x4, li) hL8
  subst e
  refine wg_iload C dX2_enter_72 rfl ?_
  refine wg_bipush (v := 12) C dX2_enter_74 (by decide) ?_
  refine wg_icmp_ge (tgt := 90) C dX2_enter_76 (by decide) (fun c9 => ?_) (fun c9 => ?_)
  · replace h := ifP c9 h
    refine wg_drop (lv' := [none, none, none, none, some (.int x4), none, none]) [0, 2, 5, 6] rfl ?_
    exact sjX2_enter_90 X C cn bk st r0 r1 r2 r3 r4 t8.2 fo tx co ke rf cp lk fl em tm rd x4 _ h hT
  · replace h := ifN c9 h
    refine wg_aload_n C dX2_enter_79 rfl ?_
    refine wg_get (v := .ref 26) C fgX2_enter_25 rfl rfl dX2_enter_80 ?_
    refine wg_iload C dX2_enter_83 rfl ?_
    refine wg_iload C dX2_enter_85 rfl ?_
    refine wg_iadd C dX2_enter_87 ?_
    refine wg_iload_n C dX2_enter_88 rfl ?_
    obtain ⟨g10, h⟩ := gdP h
    refine wg_iast (f := t8.2.2.2.2.2.1) (n := 600) (hp' := (mkH cn bk st r0 r1 r2 r3 r4 (t8.2.1, t8.2.2.1, t8.2.2.2.1, t8.2.2.2.2.1, (upd t8.2.2.2.2.2.1 (((x1 * (12 : Int32)) + t8.1)).toNatClampNeg x2), t8.2.2.2.2.2.2.1, t8.2.2.2.2.2.2.2.1, t8.2.2.2.2.2.2.2.2.1, t8.2.2.2.2.2.2.2.2.2) fo tx co ke rf cp lk fl em tm rd)) C rfl g10 rfl dX2_enter_89 ?_
    refine wg_drop (lv' := [none, none, none, none, some (.int x4), none, none]) [0, 2, 5, 6] rfl ?_
    exact sjX2_enter_90 X C cn bk st r0 r1 r2 r3 r4 (t8.2.1, t8.2.2.1, t8.2.2.2.1, t8.2.2.2.2.1, (upd t8.2.2.2.2.2.1 (((x1 * (12 : Int32)) + t8.1)).toNatClampNeg x2), t8.2.2.2.2.2.2.1, t8.2.2.2.2.2.2.2.1, t8.2.2.2.2.2.2.2.2.1, t8.2.2.2.2.2.2.2.2.2) fo tx co ke rf cp lk fl em tm rd x4 _ h hT
abbrev rX2_rank : Room := { frames := 3, cells := 0, slots := 0, locals := 69 }
theorem iwX2_rank_2 : ∀ w ∈ wsX20, w ∈ wsX2_rank := by decide +kernel
theorem fgX2_rank_22 : FG wsX2_rank RX2 22 2 3 := ⟨RX2, TX2, 9, rfl, by decide, by decide +kernel, iwX2_rank_2⟩
theorem fgX2_rank_29 : FG wsX2_rank RX2 29 2 5 := ⟨RX2, TX2, 9, rfl, by decide, by decide +kernel, iwX2_rank_2⟩
theorem fgX2_rank_32 : FG wsX2_rank RX2 32 2 6 := ⟨RX2, TX2, 9, rfl, by decide, by decide +kernel, iwX2_rank_2⟩
theorem fgX2_rank_51 : FG wsX2_rank RX2 51 2 7 := ⟨RX2, TX2, 9, rfl, by decide, by decide +kernel, iwX2_rank_2⟩
set_option maxRecDepth 100000 in
set_option maxHeartbeats 4000000 in
theorem sjX2_rank_8_87 (X : CX) (C : Ok X RX2 cX2_rank wsX2_rank rX2_rank) (cn : Tcn) (bk : Tbk) (st : Tst) (r0 : Tbk) (r1 : Tbk) (r2 : Tbk) (r3 : Tbk) (r4 : Tbk) (li : Tli) (fo : Tfo) (tx : Ttx) (co : Tco) (ke : Tke) (rf : (Nat → Int32)) (cp : Int32) (lk : Tlk) (fl : Tfl) (em : Int32) (tm : Ttm) (rd : Trd) (x1 : Int32) (x2 : Int32) (x3 : Int32) (x4 : Int32) (x5 : Int32) (o : (Int32 × Int32 × Int32 × Tli) ⊕ (Int32 × Int32 × Tli)) (h : jX2_rank_8_87 li x1 x2 x3 x4 x5 = some o) (k0 : ∀ a : Int32 × Int32 × Int32 × Tli, o = .inl a → Wg X 8 [some (.ref 21), some (.int x1), some (.int x2), some (.int a.1), some (.int a.2.1), some (.int a.2.2.1), none, none] [] (mkH cn bk st r0 r1 r2 r3 r4 a.2.2.2 fo tx co ke rf cp lk fl em tm rd)) (e0 : ∀ a : Int32 × Int32 × Tli, o = .inr a → Wg X 93 [some (.ref 21), some (.int x1), none, some (.int a.1), some (.int a.2.1), none, none, none] [] (mkH cn bk st r0 r1 r2 r3 r4 a.2.2 fo tx co ke rf cp lk fl em tm rd)) : Wg X 87 [some (.ref 21), some (.int x1), some (.int x2), some (.int x3), some (.int x4), some (.int x5), none, none] [] (mkH cn bk st r0 r1 r2 r3 r4 li fo tx co ke rf cp lk fl em tm rd) := by
  unfold jX2_rank_8_87 at h
  refine wg_iinc (v := (x5 + (1 : Int32))) (lv' := [some (.ref 21), some (.int x1), some (.int x2), some (.int x3), some (.int x4), some (.int (x5 + (1 : Int32))), none, none]) C dX2_rank_87 rfl rfl rfl ?_
  refine wg_goto (tgt := 8) C dX2_rank_90 (by decide) ?_
  have hk := k0 _ (Option.some.inj h).symm
  exact hk
set_option maxRecDepth 100000 in
set_option maxHeartbeats 4000000 in
theorem sjX2_rank_8_43 (X : CX) (C : Ok X RX2 cX2_rank wsX2_rank rX2_rank) (cn : Tcn) (bk : Tbk) (st : Tst) (r0 : Tbk) (r1 : Tbk) (r2 : Tbk) (r3 : Tbk) (r4 : Tbk) (li : Tli) (fo : Tfo) (tx : Ttx) (co : Tco) (ke : Tke) (rf : (Nat → Int32)) (cp : Int32) (lk : Tlk) (fl : Tfl) (em : Int32) (tm : Ttm) (rd : Trd) (x1 : Int32) (x2 : Int32) (x3 : Int32) (x4 : Int32) (x5 : Int32) (y0 : Int32) (o : (Int32 × Int32 × Int32 × Tli) ⊕ (Int32 × Int32 × Tli)) (h : jX2_rank_8_43 li x1 x2 x3 x4 x5 y0 = some o) (k0 : ∀ a : Int32 × Int32 × Int32 × Tli, o = .inl a → Wg X 8 [some (.ref 21), some (.int x1), some (.int x2), some (.int a.1), some (.int a.2.1), some (.int a.2.2.1), none, none] [] (mkH cn bk st r0 r1 r2 r3 r4 a.2.2.2 fo tx co ke rf cp lk fl em tm rd)) (e0 : ∀ a : Int32 × Int32 × Tli, o = .inr a → Wg X 93 [some (.ref 21), some (.int x1), none, some (.int a.1), some (.int a.2.1), none, none, none] [] (mkH cn bk st r0 r1 r2 r3 r4 a.2.2 fo tx co ke rf cp lk fl em tm rd)) : Wg X 43 [some (.ref 21), some (.int x1), some (.int x2), some (.int x3), some (.int x4), some (.int x5), none, none] [.int y0] (mkH cn bk st r0 r1 r2 r3 r4 li fo tx co ke rf cp lk fl em tm rd) := by
  unfold jX2_rank_8_43 at h
  refine wg_istore (lv' := [some (.ref 21), some (.int x1), some (.int x2), some (.int x3), some (.int x4), some (.int x5), some (.int y0), none]) C dX2_rank_43 (Nat.le_of_ble_eq_true rfl) rfl ?_
  refine wg_aload_n C dX2_rank_45 rfl ?_
  refine wg_get (v := .ref 25) C fgX2_rank_22 rfl rfl dX2_rank_46 ?_
  refine wg_iload_n C dX2_rank_49 rfl ?_
  refine wg_bipush (v := 50) C dX2_rank_50 (by decide) ?_
  refine wg_imul C dX2_rank_52 ?_
  refine wg_iload C dX2_rank_53 rfl ?_
  refine wg_iadd C dX2_rank_55 ?_
  obtain ⟨g3, h⟩ := gdP h
  refine wg_fald (f := li.2.2.2.1) (n := 2500) C rfl g3 dX2_rank_56 ?_
  refine wg_fstore (lv' := [some (.ref 21), some (.int x1), some (.int x2), some (.int x3), some (.int x4), some (.int x5), some (.int y0), some (.float (li.2.2.2.1 (((x1 * (50 : Int32)) + x5)).toNatClampNeg))]) C dX2_rank_57 (Nat.le_of_ble_eq_true rfl) rfl ?_
  refine wg_iload C dX2_rank_59 rfl ?_
  refine wg_if_ne (tgt := 87) C dX2_rank_61 (by decide) (fun c4 => ?_) (fun c4 => ?_)
  · replace h := ifP c4 h
    refine wg_drop (lv' := [some (.ref 21), some (.int x1), some (.int x2), some (.int x3), some (.int x4), some (.int x5), none, none]) [6, 7] rfl ?_
    exact sjX2_rank_8_87 X C cn bk st r0 r1 r2 r3 r4 li fo tx co ke rf cp lk fl em tm rd x1 x2 x3 x4 x5 _ h k0 e0
  · replace h := ifN c4 h
    refine wg_fload C dX2_rank_64 rfl ?_
    refine wg_fconst0 C dX2_rank_66 ?_
    refine wg_fcmp C dX2_rank_67 ?_
    refine wg_if_lt (tgt := 87) C dX2_rank_68 (by decide) (fun c5 => ?_) (fun c5 => ?_)
    · replace h := ifP c5 h
      refine wg_drop (lv' := [some (.ref 21), some (.int x1), some (.int x2), some (.int x3), some (.int x4), some (.int x5), none, none]) [6, 7] rfl ?_
      exact sjX2_rank_8_87 X C cn bk st r0 r1 r2 r3 r4 li fo tx co ke rf cp lk fl em tm rd x1 x2 x3 x4 x5 _ h k0 e0
    · replace h := ifN c5 h
      refine wg_iinc (v := (x3 + (1 : Int32))) (lv' := [some (.ref 21), some (.int x1), some (.int x2), some (.int (x3 + (1 : Int32))), some (.int x4), some (.int x5), some (.int y0), some (.float (li.2.2.2.1 (((x1 * (50 : Int32)) + x5)).toNatClampNeg))]) C dX2_rank_71 rfl rfl rfl ?_
      refine wg_aload_n C dX2_rank_74 rfl ?_
      refine wg_iload_n C dX2_rank_75 rfl ?_
      refine wg_iload C dX2_rank_76 rfl ?_
      refine wg_fload C dX2_rank_78 rfl ?_
      refine wg_iload C dX2_rank_80 rfl ?_
      obtain ⟨q6, e6q, h⟩ := bnd h
      refine wg_callV (n := 4) (As := [.int x1, .int x5, .float (li.2.2.2.1 (((x1 * (50 : Int32)) + x5)).toNatClampNeg), .int x4]) (st := []) (st' := [.int q6.1]) C (sX2_enter cn bk st r0 r1 r2 r3 r4 li fo tx co ke rf cp lk fl em tm rd x1 x5 (li.2.2.2.1 (((x1 * (50 : Int32)) + x5)).toNatClampNeg) x4 q6 e6q) gX2_rank_X2_enter rfl (by decide +kernel) ⟨⟨rfl, rfl⟩, Nat.le_of_ble_eq_true rfl, Nat.le_of_ble_eq_true rfl⟩ rfl rfl rfl rfl (Nat.le_of_ble_eq_true rfl) dX2_rank_82 rfl ?_
      refine wg_istore (lv' := [some (.ref 21), some (.int x1), some (.int x2), some (.int (x3 + (1 : Int32))), some (.int q6.1), some (.int x5), some (.int y0), some (.float (li.2.2.2.1 (((x1 * (50 : Int32)) + x5)).toNatClampNeg))]) C dX2_rank_85 (Nat.le_of_ble_eq_true rfl) rfl ?_
      refine wg_drop (lv' := [some (.ref 21), some (.int x1), some (.int x2), some (.int (x3 + (1 : Int32))), some (.int q6.1), some (.int x5), none, none]) [6, 7] rfl ?_
      exact sjX2_rank_8_87 X C cn bk st r0 r1 r2 r3 r4 q6.2 fo tx co ke rf cp lk fl em tm rd x1 x2 (x3 + (1 : Int32)) q6.1 x5 _ h k0 e0
set_option maxRecDepth 100000 in
set_option maxHeartbeats 4000000 in
theorem sjX2_rank_8_38 (X : CX) (C : Ok X RX2 cX2_rank wsX2_rank rX2_rank) (cn : Tcn) (bk : Tbk) (st : Tst) (r0 : Tbk) (r1 : Tbk) (r2 : Tbk) (r3 : Tbk) (r4 : Tbk) (li : Tli) (fo : Tfo) (tx : Ttx) (co : Tco) (ke : Tke) (rf : (Nat → Int32)) (cp : Int32) (lk : Tlk) (fl : Tfl) (em : Int32) (tm : Ttm) (rd : Trd) (x1 : Int32) (x2 : Int32) (x3 : Int32) (x4 : Int32) (x5 : Int32) (o : (Int32 × Int32 × Int32 × Tli) ⊕ (Int32 × Int32 × Tli)) (h : jX2_rank_8_38 li x1 x2 x3 x4 x5 = some o) (k0 : ∀ a : Int32 × Int32 × Int32 × Tli, o = .inl a → Wg X 8 [some (.ref 21), some (.int x1), some (.int x2), some (.int a.1), some (.int a.2.1), some (.int a.2.2.1), none, none] [] (mkH cn bk st r0 r1 r2 r3 r4 a.2.2.2 fo tx co ke rf cp lk fl em tm rd)) (e0 : ∀ a : Int32 × Int32 × Tli, o = .inr a → Wg X 93 [some (.ref 21), some (.int x1), none, some (.int a.1), some (.int a.2.1), none, none, none] [] (mkH cn bk st r0 r1 r2 r3 r4 a.2.2 fo tx co ke rf cp lk fl em tm rd)) : Wg X 38 [some (.ref 21), some (.int x1), some (.int x2), some (.int x3), some (.int x4), some (.int x5), none, none] [] (mkH cn bk st r0 r1 r2 r3 r4 li fo tx co ke rf cp lk fl em tm rd) := by
  unfold jX2_rank_8_38 at h
  refine wg_iconst (v := 1) C dX2_rank_38 (by decide) ?_
  refine wg_goto (tgt := 43) C dX2_rank_39 (by decide) ?_
  exact sjX2_rank_8_43 X C cn bk st r0 r1 r2 r3 r4 li fo tx co ke rf cp lk fl em tm rd x1 x2 x3 x4 x5 (1 : Int32) _ h k0 e0
set_option maxRecDepth 100000 in
set_option maxHeartbeats 4000000 in
theorem sbX2_rank_8 (X : CX) (C : Ok X RX2 cX2_rank wsX2_rank rX2_rank) (cn : Tcn) (bk : Tbk) (st : Tst) (r0 : Tbk) (r1 : Tbk) (r2 : Tbk) (r3 : Tbk) (r4 : Tbk) (li : Tli) (fo : Tfo) (tx : Ttx) (co : Tco) (ke : Tke) (rf : (Nat → Int32)) (cp : Int32) (lk : Tlk) (fl : Tfl) (em : Int32) (tm : Ttm) (rd : Trd) (x1 : Int32) (x2 : Int32) (z : Int32 × Int32 × Int32 × Tli) (o : (Int32 × Int32 × Int32 × Tli) ⊕ (Int32 × Int32 × Tli)) (h : bX2_rank_8  x1 x2 z = some o) (k0 : ∀ a : Int32 × Int32 × Int32 × Tli, o = .inl a → Wg X 8 [some (.ref 21), some (.int x1), some (.int x2), some (.int a.1), some (.int a.2.1), some (.int a.2.2.1), none, none] [] (mkH cn bk st r0 r1 r2 r3 r4 a.2.2.2 fo tx co ke rf cp lk fl em tm rd)) (e0 : ∀ a : Int32 × Int32 × Tli, o = .inr a → Wg X 93 [some (.ref 21), some (.int x1), none, some (.int a.1), some (.int a.2.1), none, none, none] [] (mkH cn bk st r0 r1 r2 r3 r4 a.2.2 fo tx co ke rf cp lk fl em tm rd)) : Wg X 8 [some (.ref 21), some (.int x1), some (.int x2), some (.int z.1), some (.int z.2.1), some (.int z.2.2.1), none, none] [] (mkH cn bk st r0 r1 r2 r3 r4 z.2.2.2 fo tx co ke rf cp lk fl em tm rd) := by
  unfold bX2_rank_8 at h
  refine wg_iload C dX2_rank_8 rfl ?_
  refine wg_iconst (v := 1) C dX2_rank_10 (by decide) ?_
  refine wg_iadd C dX2_rank_11 ?_
  refine wg_aload_n C dX2_rank_12 rfl ?_
  refine wg_get (v := .int z.2.2.2.2.2.2.2.2.2.2.1) C fgX2_rank_51 rfl rfl dX2_rank_13 ?_
  refine wg_icmp_ge (tgt := 93) C dX2_rank_16 (by decide) (fun c1 => ?_) (fun c1 => ?_)
  · replace h := ifP c1 h
    refine wg_drop (lv' := [some (.ref 21), some (.int x1), none, some (.int z.1), some (.int z.2.1), none, none, none]) [2, 5] rfl ?_
    have hk := e0 _ (Option.some.inj h).symm
    exact hk
  · replace h := ifN c1 h
    refine wg_iload C dX2_rank_19 rfl ?_
    refine wg_iload_n C dX2_rank_21 rfl ?_
    refine wg_isub C dX2_rank_22 ?_
    refine wg_mabs C ⟨by decide +kernel, by decide +kernel, by decide +kernel, by decide +kernel⟩ ⟨Nat.le_of_ble_eq_true rfl, Nat.le_of_ble_eq_true rfl⟩ dX2_rank_23 ?_
    refine wg_iload_n C dX2_rank_26 rfl ?_
    refine wg_icmp_le (tgt := 38) C dX2_rank_27 (by decide) (fun c2 => ?_) (fun c2 => ?_)
    · replace h := ifP c2 h
      exact sjX2_rank_8_38 X C cn bk st r0 r1 r2 r3 r4 z.2.2.2 fo tx co ke rf cp lk fl em tm rd x1 x2 z.1 z.2.1 z.2.2.1 _ h k0 e0
    · replace h := ifN c2 h
      refine wg_iload C dX2_rank_30 rfl ?_
      refine wg_iconst (v := 1) C dX2_rank_32 (by decide) ?_
      refine wg_iadd C dX2_rank_33 ?_
      refine wg_iload_n C dX2_rank_34 rfl ?_
      refine wg_icmp_ne (tgt := 42) C dX2_rank_35 (by decide) (fun c7 => ?_) (fun c7 => ?_)
      · replace h := ifP c7 h
        refine wg_iconst (v := 0) C dX2_rank_42 (by decide) ?_
        exact sjX2_rank_8_43 X C cn bk st r0 r1 r2 r3 r4 z.2.2.2 fo tx co ke rf cp lk fl em tm rd x1 x2 z.1 z.2.1 z.2.2.1 (0 : Int32) _ h k0 e0
      · replace h := ifN c7 h
        exact sjX2_rank_8_38 X C cn bk st r0 r1 r2 r3 r4 z.2.2.2 fo tx co ke rf cp lk fl em tm rd x1 x2 z.1 z.2.1 z.2.2.1 _ h k0 e0
set_option maxRecDepth 100000 in
set_option maxHeartbeats 4000000 in
theorem slX2_rank_8 (X : CX) (C : Ok X RX2 cX2_rank wsX2_rank rX2_rank) (cn : Tcn) (bk : Tbk) (st : Tst) (r0 : Tbk) (r1 : Tbk) (r2 : Tbk) (r3 : Tbk) (r4 : Tbk) (li : Tli) (fo : Tfo) (tx : Ttx) (co : Tco) (ke : Tke) (rf : (Nat → Int32)) (cp : Int32) (lk : Tlk) (fl : Tfl) (em : Int32) (tm : Ttm) (rd : Trd) (x1 : Int32) (x2 : Int32) (o : (Int32 × Int32 × Tli)) (e0 : ∀ a : Int32 × Int32 × Tli, o = a → Wg X 93 [some (.ref 21), some (.int x1), none, some (.int a.1), some (.int a.2.1), none, none, none] [] (mkH cn bk st r0 r1 r2 r3 r4 a.2.2 fo tx co ke rf cp lk fl em tm rd)) : ∀ (n : Nat) (z : Int32 × Int32 × Int32 × Tli), lpF (bX2_rank_8  x1 x2) n z = some o → Wg X 8 [some (.ref 21), some (.int x1), some (.int x2), some (.int z.1), some (.int z.2.1), some (.int z.2.2.1), none, none] [] (mkH cn bk st r0 r1 r2 r3 r4 z.2.2.2 fo tx co ke rf cp lk fl em tm rd) := by
  intro n
  induction n with
  | zero => intro z h; cases h
  | succ n ih =>
    intro z h
    obtain ⟨r, hB, h⟩ := bnd h
    refine sbX2_rank_8 X C cn bk st r0 r1 r2 r3 r4 li fo tx co ke rf cp lk fl em tm rd x1 x2 z r hB (fun a e => ih a (by subst e; exact h)) (fun a e => e0 a (by subst e; exact (Option.some.inj h).symm))
set_option maxRecDepth 100000 in
set_option maxHeartbeats 4000000 in
theorem sX2_rank (cn : Tcn) (bk : Tbk) (st : Tst) (r0 : Tbk) (r1 : Tbk) (r2 : Tbk) (r3 : Tbk) (r4 : Tbk) (li : Tli) (fo : Tfo) (tx : Ttx) (co : Tco) (ke : Tke) (rf : (Nat → Int32)) (cp : Int32) (lk : Tlk) (fl : Tfl) (em : Int32) (tm : Ttm) (rd : Trd) (x1 : Int32) (x2 : Int32) (o : Tli) (h : fX2_rank li x1 x2 = some o) : Sp yX2_rank wsX2_rank rX2_rank [.ref 21, .int x1, .int x2] (mkH cn bk st r0 r1 r2 r3 r4 li fo tx co ke rf cp lk fl em tm rd) none (mkH cn bk st r0 r1 r2 r3 r4 o fo tx co ke rf cp lk fl em tm rd) := by
  refine Sp.of (lv := [some (.ref 21), some (.int x1), some (.int x2), none, none, none, none, none]) RX2 (by decide +kernel) rfl (Nat.le_of_ble_eq_true rfl) rfl ?_
  intro X C hT
  unfold fX2_rank at h
  refine wg_iconst (v := 0) C dX2_rank_0 (by decide) ?_
  refine wg_istore_n (lv' := [some (.ref 21), some (.int x1), some (.int x2), some (.int (0 : Int32)), none, none, none, none]) C dX2_rank_1 (Nat.le_of_ble_eq_true rfl) rfl ?_
  refine wg_iconst (v := 0) C dX2_rank_2 (by decide) ?_
  refine wg_istore (lv' := [some (.ref 21), some (.int x1), some (.int x2), some (.int (0 : Int32)), some (.int (0 : Int32)), none, none, none]) C dX2_rank_3 (Nat.le_of_ble_eq_true rfl) rfl ?_
  refine wg_iconst (v := 0) C dX2_rank_5 (by decide) ?_
  refine wg_istore (lv' := [some (.ref 21), some (.int x1), some (.int x2), some (.int (0 : Int32)), some (.int (0 : Int32)), some (.int (0 : Int32)), none, none]) C dX2_rank_6 (Nat.le_of_ble_eq_true rfl) rfl ?_
  obtain ⟨t8, hL8, h⟩ := bnd h
  refine slX2_rank_8 X C cn bk st r0 r1 r2 r3 r4 li fo tx co ke rf cp lk fl em tm rd x1 x2 t8 (fun a e => ?_) FU ((0 : Int32), (0 : Int32), (0 : Int32), li) hL8
  subst e
  refine wg_aload_n C dX2_rank_93 rfl ?_
  refine wg_get (v := .ref 28) C fgX2_rank_32 rfl rfl dX2_rank_94 ?_
  refine wg_iload_n C dX2_rank_97 rfl ?_
  refine wg_iload_n C dX2_rank_98 rfl ?_
  obtain ⟨g9, h⟩ := gdP h
  refine wg_iast (f := t8.2.2.2.2.2.2.2.2.1) (n := 50) (hp' := (mkH cn bk st r0 r1 r2 r3 r4 (t8.2.2.1, t8.2.2.2.1, t8.2.2.2.2.1, t8.2.2.2.2.2.1, t8.2.2.2.2.2.2.1, t8.2.2.2.2.2.2.2.1, (upd t8.2.2.2.2.2.2.2.2.1 (x1).toNatClampNeg t8.1), t8.2.2.2.2.2.2.2.2.2.1, t8.2.2.2.2.2.2.2.2.2.2) fo tx co ke rf cp lk fl em tm rd)) C rfl g9 rfl dX2_rank_99 ?_
  refine wg_aload_n C dX2_rank_100 rfl ?_
  refine wg_get (v := .ref 27) C fgX2_rank_29 rfl rfl dX2_rank_101 ?_
  refine wg_iload_n C dX2_rank_104 rfl ?_
  refine wg_iload C dX2_rank_105 rfl ?_
  obtain ⟨g10, h⟩ := gdP h
  refine wg_iast (f := t8.2.2.2.2.2.2.2.1) (n := 50) (hp' := (mkH cn bk st r0 r1 r2 r3 r4 (t8.2.2.1, t8.2.2.2.1, t8.2.2.2.2.1, t8.2.2.2.2.2.1, t8.2.2.2.2.2.2.1, (upd t8.2.2.2.2.2.2.2.1 (x1).toNatClampNeg t8.2.1), (upd t8.2.2.2.2.2.2.2.2.1 (x1).toNatClampNeg t8.1), t8.2.2.2.2.2.2.2.2.2.1, t8.2.2.2.2.2.2.2.2.2.2) fo tx co ke rf cp lk fl em tm rd)) C rfl g10 rfl dX2_rank_107 ?_
  obtain rfl := Option.some.inj h
  exact wg_vret C hT dX2_rank_108
abbrev rX2_learn : Room := { frames := 4, cells := 0, slots := 0, locals := 96 }
theorem iwX2_learn_2 : ∀ w ∈ wsX20, w ∈ wsX2_learn := by decide +kernel
theorem fgX2_learn_19 : FG wsX2_learn RX2 19 2 2 := ⟨RX2, TX2, 9, rfl, by decide, by decide +kernel, iwX2_learn_2⟩
theorem fgX2_learn_22 : FG wsX2_learn RX2 22 2 3 := ⟨RX2, TX2, 9, rfl, by decide, by decide +kernel, iwX2_learn_2⟩
theorem fgX2_learn_35 : FG wsX2_learn RX2 35 2 8 := ⟨RX2, TX2, 9, rfl, by decide, by decide +kernel, iwX2_learn_2⟩
theorem fwX2_learn_35 : FW wsX2_learn RX2 35 2 8 .int := ⟨RX2, TX2, 9, tyX2, rfl, by decide, by decide +kernel, iwX2_learn_2, tyX2_ok, nmX2, rfl, by decide +kernel⟩
theorem fgX2_learn_51 : FG wsX2_learn RX2 51 2 7 := ⟨RX2, TX2, 9, rfl, by decide, by decide +kernel, iwX2_learn_2⟩
theorem fwX2_learn_51 : FW wsX2_learn RX2 51 2 7 .int := ⟨RX2, TX2, 9, tyX2, rfl, by decide, by decide +kernel, iwX2_learn_2, tyX2_ok, nmX2, rfl, by decide +kernel⟩
set_option maxRecDepth 100000 in
set_option maxHeartbeats 4000000 in
theorem sjX2_learn_34_62 (X : CX) (C : Ok X RX2 cX2_learn wsX2_learn rX2_learn) (cn : Tcn) (bk : Tbk) (st : Tst) (r0 : Tbk) (r1 : Tbk) (r2 : Tbk) (r3 : Tbk) (r4 : Tbk) (li : Tli) (fo : Tfo) (tx : Ttx) (co : Tco) (ke : Tke) (rf : (Nat → Int32)) (cp : Int32) (lk : Tlk) (fl : Tfl) (em : Int32) (tm : Ttm) (rd : Trd) (x2 : Int32) (x3 : Int32) (y1 : Int32) (y2 : UInt32) (o : (Int32 × Tli) ⊕ Tli) (h : jX2_learn_34_62 bk li x2 x3 y1 y2 = some o) (k0 : ∀ a : Int32 × Tli, o = .inl a → Wg X 34 [some (.ref 21), some (.ref 1), some (.int x2), some (.int a.1), none, none] [] (mkH cn bk st r0 r1 r2 r3 r4 a.2 fo tx co ke rf cp lk fl em tm rd)) (e0 : ∀ a : Tli, o = .inr a → Wg X 69 [some (.ref 21), some (.ref 1), none, none, none, none] [] (mkH cn bk st r0 r1 r2 r3 r4 a fo tx co ke rf cp lk fl em tm rd)) : Wg X 62 [some (.ref 21), some (.ref 1), some (.int x2), some (.int x3), none, none] [.float y2, .int y1, .ref 24] (mkH cn bk st r0 r1 r2 r3 r4 li fo tx co ke rf cp lk fl em tm rd) := by
  unfold jX2_learn_34_62 at h
  obtain ⟨g8, h⟩ := gdP h
  refine wg_fast (f := li.2.2.1) (n := 4) (hp' := (mkH cn bk st r0 r1 r2 r3 r4 (li.1, li.2.1, (vf_upd li.2.2.1 (y1).toNatClampNeg y2), li.2.2.2.1, li.2.2.2.2.1, li.2.2.2.2.2.1, li.2.2.2.2.2.2.1, li.2.2.2.2.2.2.2.1, li.2.2.2.2.2.2.2.2) fo tx co ke rf cp lk fl em tm rd)) C rfl g8 rfl dX2_learn_62 ?_
  refine wg_iinc (v := (x3 + (1 : Int32))) (lv' := [some (.ref 21), some (.ref 1), some (.int x2), some (.int (x3 + (1 : Int32))), none, none]) C dX2_learn_63 rfl rfl rfl ?_
  refine wg_goto (tgt := 34) C dX2_learn_66 (by decide) ?_
  have hk := k0 _ (Option.some.inj h).symm
  exact hk
set_option maxRecDepth 100000 in
set_option maxHeartbeats 4000000 in
theorem sbX2_learn_34 (X : CX) (C : Ok X RX2 cX2_learn wsX2_learn rX2_learn) (cn : Tcn) (bk : Tbk) (st : Tst) (r0 : Tbk) (r1 : Tbk) (r2 : Tbk) (r3 : Tbk) (r4 : Tbk) (li : Tli) (fo : Tfo) (tx : Ttx) (co : Tco) (ke : Tke) (rf : (Nat → Int32)) (cp : Int32) (lk : Tlk) (fl : Tfl) (em : Int32) (tm : Ttm) (rd : Trd) (x2 : Int32) (z : Int32 × Tli) (o : (Int32 × Tli) ⊕ Tli) (h : bX2_learn_34 bk x2 z = some o) (k0 : ∀ a : Int32 × Tli, o = .inl a → Wg X 34 [some (.ref 21), some (.ref 1), some (.int x2), some (.int a.1), none, none] [] (mkH cn bk st r0 r1 r2 r3 r4 a.2 fo tx co ke rf cp lk fl em tm rd)) (e0 : ∀ a : Tli, o = .inr a → Wg X 69 [some (.ref 21), some (.ref 1), none, none, none, none] [] (mkH cn bk st r0 r1 r2 r3 r4 a fo tx co ke rf cp lk fl em tm rd)) : Wg X 34 [some (.ref 21), some (.ref 1), some (.int x2), some (.int z.1), none, none] [] (mkH cn bk st r0 r1 r2 r3 r4 z.2 fo tx co ke rf cp lk fl em tm rd) := by
  unfold bX2_learn_34 at h
  refine wg_iload_n C dX2_learn_34 rfl ?_
  refine wg_iconst (v := 4) C dX2_learn_35 (by decide) ?_
  refine wg_icmp_ge (tgt := 69) C dX2_learn_36 (by decide) (fun c4 => ?_) (fun c4 => ?_)
  · replace h := ifP c4 h
    refine wg_drop (lv' := [some (.ref 21), some (.ref 1), none, none, none, none]) [2, 3] rfl ?_
    have hk := e0 _ (Option.some.inj h).symm
    exact hk
  · replace h := ifN c4 h
    refine wg_aload_n C dX2_learn_39 rfl ?_
    refine wg_get (v := .ref 24) C fgX2_learn_19 rfl rfl dX2_learn_40 ?_
    refine wg_iload_n C dX2_learn_43 rfl ?_
    refine wg_iload_n C dX2_learn_44 rfl ?_
    refine wg_iload_n C dX2_learn_45 rfl ?_
    refine wg_icmp_ne (tgt := 53) C dX2_learn_46 (by decide) (fun c5 => ?_) (fun c5 => ?_)
    · replace h := ifP c5 h
      refine wg_aload_n C dX2_learn_53 rfl ?_
      refine wg_iload_n C dX2_learn_54 rfl ?_
      obtain ⟨q6, e6q, h⟩ := bnd h
      refine wg_callV (n := 1) (As := [.int z.1]) (st := [.int z.1, .ref 24]) (st' := [.int q6, .int z.1, .ref 24]) C (sX0_rule cn bk st r0 r1 r2 r3 r4 z.2 fo tx co ke rf cp lk fl em tm rd z.1 q6 e6q) gX2_learn_X0_rule rfl (by decide +kernel) ⟨⟨rfl, rfl⟩, Nat.le_of_ble_eq_true rfl, Nat.le_of_ble_eq_true rfl⟩ rfl rfl rfl rfl (Nat.le_of_ble_eq_true rfl) dX2_learn_55 rfl ?_
      refine wg_i2f C dX2_learn_58 ?_
      refine wg_ldcf (v := 1090519040) C (by decide +kernel) dX2_learn_59 ?_
      obtain ⟨g7, h⟩ := gdP h
      refine wg_fdiv C dX2_learn_61 g7 ?_
      exact sjX2_learn_34_62 X C cn bk st r0 r1 r2 r3 r4 z.2 fo tx co ke rf cp lk fl em tm rd x2 z.1 z.1 (FP.fdiv (FP.i2f q6) (1090519040 : UInt32)) _ h k0 e0
    · replace h := ifN c5 h
      refine wg_fconst0 C dX2_learn_49 ?_
      refine wg_goto (tgt := 62) C dX2_learn_50 (by decide) ?_
      exact sjX2_learn_34_62 X C cn bk st r0 r1 r2 r3 r4 z.2 fo tx co ke rf cp lk fl em tm rd x2 z.1 z.1 FP.fconst0 _ h k0 e0
set_option maxRecDepth 100000 in
set_option maxHeartbeats 4000000 in
theorem slX2_learn_34 (X : CX) (C : Ok X RX2 cX2_learn wsX2_learn rX2_learn) (cn : Tcn) (bk : Tbk) (st : Tst) (r0 : Tbk) (r1 : Tbk) (r2 : Tbk) (r3 : Tbk) (r4 : Tbk) (li : Tli) (fo : Tfo) (tx : Ttx) (co : Tco) (ke : Tke) (rf : (Nat → Int32)) (cp : Int32) (lk : Tlk) (fl : Tfl) (em : Int32) (tm : Ttm) (rd : Trd) (x2 : Int32) (o : Tli) (e0 : ∀ a : Tli, o = a → Wg X 69 [some (.ref 21), some (.ref 1), none, none, none, none] [] (mkH cn bk st r0 r1 r2 r3 r4 a fo tx co ke rf cp lk fl em tm rd)) : ∀ (n : Nat) (z : Int32 × Tli), lpF (bX2_learn_34 bk x2) n z = some o → Wg X 34 [some (.ref 21), some (.ref 1), some (.int x2), some (.int z.1), none, none] [] (mkH cn bk st r0 r1 r2 r3 r4 z.2 fo tx co ke rf cp lk fl em tm rd) := by
  intro n
  induction n with
  | zero => intro z h; cases h
  | succ n ih =>
    intro z h
    obtain ⟨r, hB, h⟩ := bnd h
    refine sbX2_learn_34 X C cn bk st r0 r1 r2 r3 r4 li fo tx co ke rf cp lk fl em tm rd x2 z r hB (fun a e => ih a (by subst e; exact h)) (fun a e => e0 a (by subst e; exact (Option.some.inj h).symm))
set_option maxRecDepth 100000 in
set_option maxHeartbeats 4000000 in
theorem sbX2_learn_84 (X : CX) (C : Ok X RX2 cX2_learn wsX2_learn rX2_learn) (cn : Tcn) (bk : Tbk) (st : Tst) (r0 : Tbk) (r1 : Tbk) (r2 : Tbk) (r3 : Tbk) (r4 : Tbk) (li : Tli) (fo : Tfo) (tx : Ttx) (co : Tco) (ke : Tke) (rf : (Nat → Int32)) (cp : Int32) (lk : Tlk) (fl : Tfl) (em : Int32) (tm : Ttm) (rd : Trd) (x3 : Int32) (z : Int32 × Tli) (o : (Int32 × Tli) ⊕ Tli) (h : bX2_learn_84 bk x3 z = some o) (k0 : ∀ a : Int32 × Tli, o = .inl a → Wg X 84 [some (.ref 21), some (.ref 1), none, some (.int x3), some (.int a.1), none] [] (mkH cn bk st r0 r1 r2 r3 r4 a.2 fo tx co ke rf cp lk fl em tm rd)) (e0 : ∀ a : Tli, o = .inr a → Wg X 136 [some (.ref 21), some (.ref 1), none, some (.int x3), none, none] [] (mkH cn bk st r0 r1 r2 r3 r4 a fo tx co ke rf cp lk fl em tm rd)) : Wg X 84 [some (.ref 21), some (.ref 1), none, some (.int x3), some (.int z.1), none] [] (mkH cn bk st r0 r1 r2 r3 r4 z.2 fo tx co ke rf cp lk fl em tm rd) := by
  unfold bX2_learn_84 at h
  refine wg_iload C dX2_learn_84 rfl ?_
  refine wg_aload_n C dX2_learn_86 rfl ?_
  refine wg_get (v := .int z.2.2.2.2.2.2.2.2.1) C fgX2_learn_51 rfl rfl dX2_learn_87 ?_
  refine wg_icmp_ge (tgt := 136) C dX2_learn_90 (by decide) (fun c11 => ?_) (fun c11 => ?_)
  · replace h := ifP c11 h
    refine wg_drop (lv' := [some (.ref 21), some (.ref 1), none, some (.int x3), none, none]) [4] rfl ?_
    have hk := e0 _ (Option.some.inj h).symm
    exact hk
  · replace h := ifN c11 h
    refine wg_aload_n C dX2_learn_93 rfl ?_
    refine wg_iload_n C dX2_learn_94 rfl ?_
    refine wg_iload C dX2_learn_95 rfl ?_
    obtain ⟨q12, e12q, h⟩ := bnd h
    refine wg_callV (n := 2) (As := [.int x3, .int z.1]) (st := []) (st' := [.float q12]) C (sX2_measure cn bk st r0 r1 r2 r3 r4 z.2 fo tx co ke rf cp lk fl em tm rd x3 z.1 q12 e12q) gX2_learn_X2_measure rfl (by decide +kernel) ⟨⟨rfl, rfl⟩, Nat.le_of_ble_eq_true rfl, Nat.le_of_ble_eq_true rfl⟩ rfl rfl rfl rfl (Nat.le_of_ble_eq_true rfl) dX2_learn_97 rfl ?_
    refine wg_fstore (lv' := [some (.ref 21), some (.ref 1), none, some (.int x3), some (.int z.1), some (.float q12)]) C dX2_learn_100 (Nat.le_of_ble_eq_true rfl) rfl ?_
    refine wg_aload_n C dX2_learn_102 rfl ?_
    refine wg_get (v := .ref 25) C fgX2_learn_22 rfl rfl dX2_learn_103 ?_
    refine wg_iload_n C dX2_learn_106 rfl ?_
    refine wg_bipush (v := 50) C dX2_learn_107 (by decide) ?_
    refine wg_imul C dX2_learn_109 ?_
    refine wg_iload C dX2_learn_110 rfl ?_
    refine wg_iadd C dX2_learn_112 ?_
    refine wg_fload C dX2_learn_113 rfl ?_
    obtain ⟨g13, h⟩ := gdP h
    refine wg_fast (f := z.2.2.2.2.1) (n := 2500) (hp' := (mkH cn bk st r0 r1 r2 r3 r4 (z.2.1, z.2.2.1, z.2.2.2.1, (vf_upd z.2.2.2.2.1 (((x3 * (50 : Int32)) + z.1)).toNatClampNeg q12), z.2.2.2.2.2.1, z.2.2.2.2.2.2.1, z.2.2.2.2.2.2.2.1, z.2.2.2.2.2.2.2.2.1, z.2.2.2.2.2.2.2.2.2) fo tx co ke rf cp lk fl em tm rd)) C rfl g13 rfl dX2_learn_115 ?_
    refine wg_aload_n C dX2_learn_116 rfl ?_
    refine wg_get (v := .ref 25) C fgX2_learn_22 rfl rfl dX2_learn_117 ?_
    refine wg_iload C dX2_learn_120 rfl ?_
    refine wg_bipush (v := 50) C dX2_learn_122 (by decide) ?_
    refine wg_imul C dX2_learn_124 ?_
    refine wg_iload_n C dX2_learn_125 rfl ?_
    refine wg_iadd C dX2_learn_126 ?_
    refine wg_fload C dX2_learn_127 rfl ?_
    obtain ⟨g14, h⟩ := gdP h
    refine wg_fast (f := (vf_upd z.2.2.2.2.1 (((x3 * (50 : Int32)) + z.1)).toNatClampNeg q12)) (n := 2500) (hp' := (mkH cn bk st r0 r1 r2 r3 r4 (z.2.1, z.2.2.1, z.2.2.2.1, (vf_upd (vf_upd z.2.2.2.2.1 (((x3 * (50 : Int32)) + z.1)).toNatClampNeg q12) (((z.1 * (50 : Int32)) + x3)).toNatClampNeg q12), z.2.2.2.2.2.1, z.2.2.2.2.2.2.1, z.2.2.2.2.2.2.2.1, z.2.2.2.2.2.2.2.2.1, z.2.2.2.2.2.2.2.2.2) fo tx co ke rf cp lk fl em tm rd)) C rfl g14 rfl dX2_learn_129 ?_
    refine wg_iinc (v := (z.1 + (1 : Int32))) (lv' := [some (.ref 21), some (.ref 1), none, some (.int x3), some (.int (z.1 + (1 : Int32))), some (.float q12)]) C dX2_learn_130 rfl rfl rfl ?_
    refine wg_goto (tgt := 84) C dX2_learn_133 (by decide) ?_
    refine wg_drop (lv' := [some (.ref 21), some (.ref 1), none, some (.int x3), some (.int (z.1 + (1 : Int32))), none]) [5] rfl ?_
    have hk := k0 _ (Option.some.inj h).symm
    exact hk
set_option maxRecDepth 100000 in
set_option maxHeartbeats 4000000 in
theorem slX2_learn_84 (X : CX) (C : Ok X RX2 cX2_learn wsX2_learn rX2_learn) (cn : Tcn) (bk : Tbk) (st : Tst) (r0 : Tbk) (r1 : Tbk) (r2 : Tbk) (r3 : Tbk) (r4 : Tbk) (li : Tli) (fo : Tfo) (tx : Ttx) (co : Tco) (ke : Tke) (rf : (Nat → Int32)) (cp : Int32) (lk : Tlk) (fl : Tfl) (em : Int32) (tm : Ttm) (rd : Trd) (x3 : Int32) (o : Tli) (e0 : ∀ a : Tli, o = a → Wg X 136 [some (.ref 21), some (.ref 1), none, some (.int x3), none, none] [] (mkH cn bk st r0 r1 r2 r3 r4 a fo tx co ke rf cp lk fl em tm rd)) : ∀ (n : Nat) (z : Int32 × Tli), lpF (bX2_learn_84 bk x3) n z = some o → Wg X 84 [some (.ref 21), some (.ref 1), none, some (.int x3), some (.int z.1), none] [] (mkH cn bk st r0 r1 r2 r3 r4 z.2 fo tx co ke rf cp lk fl em tm rd) := by
  intro n
  induction n with
  | zero => intro z h; cases h
  | succ n ih =>
    intro z h
    obtain ⟨r, hB, h⟩ := bnd h
    refine sbX2_learn_84 X C cn bk st r0 r1 r2 r3 r4 li fo tx co ke rf cp lk fl em tm rd x3 z r hB (fun a e => ih a (by subst e; exact h)) (fun a e => e0 a (by subst e; exact (Option.some.inj h).symm))
set_option maxRecDepth 100000 in
set_option maxHeartbeats 4000000 in
theorem sbX2_learn_71 (X : CX) (C : Ok X RX2 cX2_learn wsX2_learn rX2_learn) (cn : Tcn) (bk : Tbk) (st : Tst) (r0 : Tbk) (r1 : Tbk) (r2 : Tbk) (r3 : Tbk) (r4 : Tbk) (li : Tli) (fo : Tfo) (tx : Ttx) (co : Tco) (ke : Tke) (rf : (Nat → Int32)) (cp : Int32) (lk : Tlk) (fl : Tfl) (em : Int32) (tm : Ttm) (rd : Trd)  (z : Int32 × Tli) (o : (Int32 × Tli) ⊕ Tli) (h : bX2_learn_71 bk  z = some o) (k0 : ∀ a : Int32 × Tli, o = .inl a → Wg X 71 [some (.ref 21), some (.ref 1), none, some (.int a.1), none, none] [] (mkH cn bk st r0 r1 r2 r3 r4 a.2 fo tx co ke rf cp lk fl em tm rd)) (e0 : ∀ a : Tli, o = .inr a → Wg X 142 [some (.ref 21), some (.ref 1), none, none, none, none] [] (mkH cn bk st r0 r1 r2 r3 r4 a fo tx co ke rf cp lk fl em tm rd)) : Wg X 71 [some (.ref 21), some (.ref 1), none, some (.int z.1), none, none] [] (mkH cn bk st r0 r1 r2 r3 r4 z.2 fo tx co ke rf cp lk fl em tm rd) := by
  unfold bX2_learn_71 at h
  refine wg_iload_n C dX2_learn_71 rfl ?_
  refine wg_aload_n C dX2_learn_72 rfl ?_
  refine wg_get (v := .int z.2.2.2.2.2.2.2.2.1) C fgX2_learn_51 rfl rfl dX2_learn_73 ?_
  refine wg_icmp_ge (tgt := 142) C dX2_learn_76 (by decide) (fun c10 => ?_) (fun c10 => ?_)
  · replace h := ifP c10 h
    refine wg_drop (lv' := [some (.ref 21), some (.ref 1), none, none, none, none]) [3] rfl ?_
    have hk := e0 _ (Option.some.inj h).symm
    exact hk
  · replace h := ifN c10 h
    refine wg_iload_n C dX2_learn_79 rfl ?_
    refine wg_iconst (v := 1) C dX2_learn_80 (by decide) ?_
    refine wg_iadd C dX2_learn_81 ?_
    refine wg_istore (lv' := [some (.ref 21), some (.ref 1), none, some (.int z.1), some (.int (z.1 + (1 : Int32))), none]) C dX2_learn_82 (Nat.le_of_ble_eq_true rfl) rfl ?_
    obtain ⟨t15, hL15, h⟩ := bnd h
    refine slX2_learn_84 X C cn bk st r0 r1 r2 r3 r4 z.2 fo tx co ke rf cp lk fl em tm rd z.1 t15 (fun a e => ?_) FU ((z.1 + (1 : Int32)), z.2) hL15
    subst e
    refine wg_iinc (v := (z.1 + (1 : Int32))) (lv' := [some (.ref 21), some (.ref 1), none, some (.int (z.1 + (1 : Int32))), none, none]) C dX2_learn_136 rfl rfl rfl ?_
    refine wg_goto (tgt := 71) C dX2_learn_139 (by decide) ?_
    have hk := k0 _ (Option.some.inj h).symm
    exact hk
set_option maxRecDepth 100000 in
set_option maxHeartbeats 4000000 in
theorem slX2_learn_71 (X : CX) (C : Ok X RX2 cX2_learn wsX2_learn rX2_learn) (cn : Tcn) (bk : Tbk) (st : Tst) (r0 : Tbk) (r1 : Tbk) (r2 : Tbk) (r3 : Tbk) (r4 : Tbk) (li : Tli) (fo : Tfo) (tx : Ttx) (co : Tco) (ke : Tke) (rf : (Nat → Int32)) (cp : Int32) (lk : Tlk) (fl : Tfl) (em : Int32) (tm : Ttm) (rd : Trd)  (o : Tli) (e0 : ∀ a : Tli, o = a → Wg X 142 [some (.ref 21), some (.ref 1), none, none, none, none] [] (mkH cn bk st r0 r1 r2 r3 r4 a fo tx co ke rf cp lk fl em tm rd)) : ∀ (n : Nat) (z : Int32 × Tli), lpF (bX2_learn_71 bk ) n z = some o → Wg X 71 [some (.ref 21), some (.ref 1), none, some (.int z.1), none, none] [] (mkH cn bk st r0 r1 r2 r3 r4 z.2 fo tx co ke rf cp lk fl em tm rd) := by
  intro n
  induction n with
  | zero => intro z h; cases h
  | succ n ih =>
    intro z h
    obtain ⟨r, hB, h⟩ := bnd h
    refine sbX2_learn_71 X C cn bk st r0 r1 r2 r3 r4 li fo tx co ke rf cp lk fl em tm rd  z r hB (fun a e => ih a (by subst e; exact h)) (fun a e => e0 a (by subst e; exact (Option.some.inj h).symm))
set_option maxRecDepth 100000 in
set_option maxHeartbeats 4000000 in
theorem sbX2_learn_144 (X : CX) (C : Ok X RX2 cX2_learn wsX2_learn rX2_learn) (cn : Tcn) (bk : Tbk) (st : Tst) (r0 : Tbk) (r1 : Tbk) (r2 : Tbk) (r3 : Tbk) (r4 : Tbk) (li : Tli) (fo : Tfo) (tx : Ttx) (co : Tco) (ke : Tke) (rf : (Nat → Int32)) (cp : Int32) (lk : Tlk) (fl : Tfl) (em : Int32) (tm : Ttm) (rd : Trd)  (z : Int32 × Tli) (o : (Int32 × Tli) ⊕ Tli) (h : bX2_learn_144 bk  z = some o) (k0 : ∀ a : Int32 × Tli, o = .inl a → Wg X 144 [some (.ref 21), some (.ref 1), none, some (.int a.1), none, none] [] (mkH cn bk st r0 r1 r2 r3 r4 a.2 fo tx co ke rf cp lk fl em tm rd)) (e0 : ∀ a : Tli, o = .inr a → Wg X 167 [none, none, none, none, none, none] [] (mkH cn bk st r0 r1 r2 r3 r4 a fo tx co ke rf cp lk fl em tm rd)) : Wg X 144 [some (.ref 21), some (.ref 1), none, some (.int z.1), none, none] [] (mkH cn bk st r0 r1 r2 r3 r4 z.2 fo tx co ke rf cp lk fl em tm rd) := by
  unfold bX2_learn_144 at h
  refine wg_iload_n C dX2_learn_144 rfl ?_
  refine wg_aload_n C dX2_learn_145 rfl ?_
  refine wg_get (v := .int z.2.2.2.2.2.2.2.2.1) C fgX2_learn_51 rfl rfl dX2_learn_146 ?_
  refine wg_icmp_ge (tgt := 167) C dX2_learn_149 (by decide) (fun c17 => ?_) (fun c17 => ?_)
  · replace h := ifP c17 h
    refine wg_drop (lv' := [none, none, none, none, none, none]) [0, 1, 3] rfl ?_
    have hk := e0 _ (Option.some.inj h).symm
    exact hk
  · replace h := ifN c17 h
    refine wg_aload_n C dX2_learn_152 rfl ?_
    refine wg_iload_n C dX2_learn_153 rfl ?_
    refine wg_aload_n C dX2_learn_154 rfl ?_
    obtain ⟨q18, e18q, h⟩ := bnd h
    refine wg_callV (n := 0) (As := []) (st := [.int z.1, .ref 21]) (st' := [.int q18, .int z.1, .ref 21]) C (sX0_gap cn bk st r0 r1 r2 r3 r4 z.2 fo tx co ke rf cp lk fl em tm rd  q18 e18q) gX2_learn_X0_gap rfl (by decide +kernel) ⟨⟨rfl, rfl⟩, Nat.le_of_ble_eq_true rfl, Nat.le_of_ble_eq_true rfl⟩ rfl rfl rfl rfl (Nat.le_of_ble_eq_true rfl) dX2_learn_155 rfl ?_
    obtain ⟨q19, e19q, h⟩ := bnd h
    refine wg_callV (n := 2) (As := [.int z.1, .int q18]) (st := []) (st' := []) C (sX2_rank cn bk st r0 r1 r2 r3 r4 z.2 fo tx co ke rf cp lk fl em tm rd z.1 q18 q19 e19q) gX2_learn_X2_rank rfl (by decide +kernel) ⟨⟨rfl, rfl⟩, Nat.le_of_ble_eq_true rfl, Nat.le_of_ble_eq_true rfl⟩ rfl rfl rfl rfl (Nat.le_of_ble_eq_true rfl) dX2_learn_158 rfl ?_
    refine wg_iinc (v := (z.1 + (1 : Int32))) (lv' := [some (.ref 21), some (.ref 1), none, some (.int (z.1 + (1 : Int32))), none, none]) C dX2_learn_161 rfl rfl rfl ?_
    refine wg_goto (tgt := 144) C dX2_learn_164 (by decide) ?_
    have hk := k0 _ (Option.some.inj h).symm
    exact hk
set_option maxRecDepth 100000 in
set_option maxHeartbeats 4000000 in
theorem slX2_learn_144 (X : CX) (C : Ok X RX2 cX2_learn wsX2_learn rX2_learn) (cn : Tcn) (bk : Tbk) (st : Tst) (r0 : Tbk) (r1 : Tbk) (r2 : Tbk) (r3 : Tbk) (r4 : Tbk) (li : Tli) (fo : Tfo) (tx : Ttx) (co : Tco) (ke : Tke) (rf : (Nat → Int32)) (cp : Int32) (lk : Tlk) (fl : Tfl) (em : Int32) (tm : Ttm) (rd : Trd)  (o : Tli) (e0 : ∀ a : Tli, o = a → Wg X 167 [none, none, none, none, none, none] [] (mkH cn bk st r0 r1 r2 r3 r4 a fo tx co ke rf cp lk fl em tm rd)) : ∀ (n : Nat) (z : Int32 × Tli), lpF (bX2_learn_144 bk ) n z = some o → Wg X 144 [some (.ref 21), some (.ref 1), none, some (.int z.1), none, none] [] (mkH cn bk st r0 r1 r2 r3 r4 z.2 fo tx co ke rf cp lk fl em tm rd) := by
  intro n
  induction n with
  | zero => intro z h; cases h
  | succ n ih =>
    intro z h
    obtain ⟨r, hB, h⟩ := bnd h
    refine sbX2_learn_144 X C cn bk st r0 r1 r2 r3 r4 li fo tx co ke rf cp lk fl em tm rd  z r hB (fun a e => ih a (by subst e; exact h)) (fun a e => e0 a (by subst e; exact (Option.some.inj h).symm))
set_option maxRecDepth 100000 in
set_option maxHeartbeats 4000000 in
theorem sX2_learn (cn : Tcn) (bk : Tbk) (st : Tst) (r0 : Tbk) (r1 : Tbk) (r2 : Tbk) (r3 : Tbk) (r4 : Tbk) (li : Tli) (fo : Tfo) (tx : Ttx) (co : Tco) (ke : Tke) (rf : (Nat → Int32)) (cp : Int32) (lk : Tlk) (fl : Tfl) (em : Int32) (tm : Ttm) (rd : Trd) (x2 : Int32) (o : Tli) (h : fX2_learn bk li x2 = some o) : Sp yX2_learn wsX2_learn rX2_learn [.ref 21, .ref 1, .int x2] (mkH cn bk st r0 r1 r2 r3 r4 li fo tx co ke rf cp lk fl em tm rd) none (mkH cn bk st r0 r1 r2 r3 r4 o fo tx co ke rf cp lk fl em tm rd) := by
  refine Sp.of (lv := [some (.ref 21), some (.ref 1), some (.int x2), none, none, none]) RX2 (by decide +kernel) rfl (Nat.le_of_ble_eq_true rfl) rfl ?_
  intro X C hT
  unfold fX2_learn at h
  refine wg_aload_n C dX2_learn_0 rfl ?_
  refine wg_get (v := .int li.2.2.2.2.2.2.2.2) C fgX2_learn_35 rfl rfl dX2_learn_1 ?_
  refine wg_iload_n C dX2_learn_4 rfl ?_
  refine wg_icmp_ne (tgt := 9) C dX2_learn_5 (by decide) (fun c1 => ?_) (fun c1 => ?_)
  · replace h := ifP c1 h
    refine wg_aload_n C dX2_learn_9 rfl ?_
    refine wg_iload_n C dX2_learn_10 rfl ?_
    refine wg_put (hp' := (mkH cn bk st r0 r1 r2 r3 r4 (li.1, li.2.1, li.2.2.1, li.2.2.2.1, li.2.2.2.2.1, li.2.2.2.2.2.1, li.2.2.2.2.2.2.1, li.2.2.2.2.2.2.2.1, x2) fo tx co ke rf cp lk fl em tm rd)) C fwX2_learn_35 rfl (Nat.le_of_ble_eq_true rfl) rfl rfl rfl dX2_learn_11 ?_
    refine wg_aload_n C dX2_learn_14 rfl ?_
    refine wg_aload_n C dX2_learn_15 rfl ?_
    obtain ⟨q2, e2q, h⟩ := bnd h
    refine wg_callV (n := 0) (As := []) (st := [.ref 21]) (st' := [.int q2, .ref 21]) C (sX0_days cn bk st r0 r1 r2 r3 r4 (li.1, li.2.1, li.2.2.1, li.2.2.2.1, li.2.2.2.2.1, li.2.2.2.2.2.1, li.2.2.2.2.2.2.1, li.2.2.2.2.2.2.2.1, x2) fo tx co ke rf cp lk fl em tm rd  q2 e2q) gX2_learn_X0_days rfl (by decide +kernel) ⟨⟨rfl, rfl⟩, Nat.le_of_ble_eq_true rfl, Nat.le_of_ble_eq_true rfl⟩ rfl rfl rfl rfl (Nat.le_of_ble_eq_true rfl) dX2_learn_16 rfl ?_
    refine wg_bipush (v := 50) C dX2_learn_19 (by decide) ?_
    refine wg_mmin C ⟨by decide +kernel, by decide +kernel, by decide +kernel, by decide +kernel⟩ ⟨Nat.le_of_ble_eq_true rfl, Nat.le_of_ble_eq_true rfl⟩ dX2_learn_21 ?_
    refine wg_put (hp' := (mkH cn bk st r0 r1 r2 r3 r4 (li.1, li.2.1, li.2.2.1, li.2.2.2.1, li.2.2.2.2.1, li.2.2.2.2.2.1, li.2.2.2.2.2.2.1, (if (50 : Int32) < q2 then (50 : Int32) else q2), x2) fo tx co ke rf cp lk fl em tm rd)) C fwX2_learn_51 rfl (Nat.le_of_ble_eq_true rfl) rfl rfl rfl dX2_learn_24 ?_
    refine wg_aload_n C dX2_learn_27 rfl ?_
    refine wg_aload_n C dX2_learn_28 rfl ?_
    obtain ⟨q3, e3q, h⟩ := bnd h
    refine wg_callV (n := 1) (As := [.ref 1]) (st := []) (st' := []) C (sX2_takeNotes cn bk st r0 r1 r2 r3 r4 (li.1, li.2.1, li.2.2.1, li.2.2.2.1, li.2.2.2.2.1, li.2.2.2.2.2.1, li.2.2.2.2.2.2.1, (if (50 : Int32) < q2 then (50 : Int32) else q2), x2) fo tx co ke rf cp lk fl em tm rd  q3 e3q) gX2_learn_X2_takeNotes rfl (by decide +kernel) ⟨⟨rfl, rfl⟩, Nat.le_of_ble_eq_true rfl, Nat.le_of_ble_eq_true rfl⟩ rfl rfl rfl rfl (Nat.le_of_ble_eq_true rfl) dX2_learn_29 rfl ?_
    refine wg_iconst (v := 0) C dX2_learn_32 (by decide) ?_
    refine wg_istore_n (lv' := [some (.ref 21), some (.ref 1), some (.int x2), some (.int (0 : Int32)), none, none]) C dX2_learn_33 (Nat.le_of_ble_eq_true rfl) rfl ?_
    obtain ⟨t9, hL9, h⟩ := bnd h
    refine slX2_learn_34 X C cn bk st r0 r1 r2 r3 r4 q3 fo tx co ke rf cp lk fl em tm rd x2 t9 (fun a e => ?_) FU ((0 : Int32), q3) hL9
    subst e
    refine wg_iconst (v := 0) C dX2_learn_69 (by decide) ?_
    refine wg_istore_n (lv' := [some (.ref 21), some (.ref 1), none, some (.int (0 : Int32)), none, none]) C dX2_learn_70 (Nat.le_of_ble_eq_true rfl) rfl ?_
    obtain ⟨t16, hL16, h⟩ := bnd h
    refine slX2_learn_71 X C cn bk st r0 r1 r2 r3 r4 t9 fo tx co ke rf cp lk fl em tm rd  t16 (fun a e => ?_) FU ((0 : Int32), t9) hL16
    subst e
    refine wg_iconst (v := 0) C dX2_learn_142 (by decide) ?_
    refine wg_istore_n (lv' := [some (.ref 21), some (.ref 1), none, some (.int (0 : Int32)), none, none]) C dX2_learn_143 (Nat.le_of_ble_eq_true rfl) rfl ?_
    obtain ⟨t20, hL20, h⟩ := bnd h
    refine slX2_learn_144 X C cn bk st r0 r1 r2 r3 r4 t16 fo tx co ke rf cp lk fl em tm rd  t20 (fun a e => ?_) FU ((0 : Int32), t16) hL20
    subst e
    obtain rfl := Option.some.inj h
    exact wg_vret C hT dX2_learn_167
  · replace h := ifN c1 h
    obtain rfl := Option.some.inj h
    exact wg_vret C hT dX2_learn_8
abbrev rX5_floatBits : Room := { frames := 0, cells := 0, slots := 0, locals := 0 }
set_option maxRecDepth 100000 in
set_option maxHeartbeats 4000000 in
theorem sbX5_floatBits_24 (X : CX) (C : Ok X RX5 cX5_floatBits wsX5_floatBits rX5_floatBits) (cn : Tcn) (bk : Tbk) (st : Tst) (r0 : Tbk) (r1 : Tbk) (r2 : Tbk) (r3 : Tbk) (r4 : Tbk) (li : Tli) (fo : Tfo) (tx : Ttx) (co : Tco) (ke : Tke) (rf : (Nat → Int32)) (cp : Int32) (lk : Tlk) (fl : Tfl) (em : Int32) (tm : Ttm) (rd : Trd) (x0 : UInt32) (z : UInt32 × Int32) (o : (UInt32 × Int32) ⊕ (UInt32 × Int32)) (h : bX5_floatBits_24  x0 z = some o) (k0 : ∀ a : UInt32 × Int32, o = .inl a → Wg X 24 [some (.float x0), some (.float a.1), some (.int a.2), none] [] (mkH cn bk st r0 r1 r2 r3 r4 li fo tx co ke rf cp lk fl em tm rd)) (e0 : ∀ a : UInt32 × Int32, o = .inr a → Wg X 47 [some (.float x0), some (.float a.1), some (.int a.2), none] [] (mkH cn bk st r0 r1 r2 r3 r4 li fo tx co ke rf cp lk fl em tm rd)) : Wg X 24 [some (.float x0), some (.float z.1), some (.int z.2), none] [] (mkH cn bk st r0 r1 r2 r3 r4 li fo tx co ke rf cp lk fl em tm rd) := by
  unfold bX5_floatBits_24 at h
  refine wg_fload_n C dX5_floatBits_24 rfl ?_
  refine wg_fconst2 C dX5_floatBits_25 ?_
  refine wg_fcmp C dX5_floatBits_26 ?_
  refine wg_if_lt (tgt := 47) C dX5_floatBits_27 (by decide) (fun c3 => ?_) (fun c3 => ?_)
  · replace h := ifP c3 h
    have hk := e0 _ (Option.some.inj h).symm
    exact hk
  · replace h := ifN c3 h
    refine wg_iload_n C dX5_floatBits_30 rfl ?_
    refine wg_sipush (v := 254) C dX5_floatBits_31 (by decide) ?_
    refine wg_icmp_ge (tgt := 47) C dX5_floatBits_34 (by decide) (fun c4 => ?_) (fun c4 => ?_)
    · replace h := ifP c4 h
      have hk := e0 _ (Option.some.inj h).symm
      exact hk
    · replace h := ifN c4 h
      refine wg_fload_n C dX5_floatBits_37 rfl ?_
      refine wg_fconst2 C dX5_floatBits_38 ?_
      obtain ⟨g5, h⟩ := gdP h
      refine wg_fdiv C dX5_floatBits_39 g5 ?_
      refine wg_fstore_n (lv' := [some (.float x0), some (.float (FP.fdiv z.1 FP.fconst2)), some (.int z.2), none]) C dX5_floatBits_40 (Nat.le_of_ble_eq_true rfl) rfl ?_
      refine wg_iinc (v := (z.2 + (1 : Int32))) (lv' := [some (.float x0), some (.float (FP.fdiv z.1 FP.fconst2)), some (.int (z.2 + (1 : Int32))), none]) C dX5_floatBits_41 rfl rfl rfl ?_
      refine wg_goto (tgt := 24) C dX5_floatBits_44 (by decide) ?_
      have hk := k0 _ (Option.some.inj h).symm
      exact hk
set_option maxRecDepth 100000 in
set_option maxHeartbeats 4000000 in
theorem slX5_floatBits_24 (X : CX) (C : Ok X RX5 cX5_floatBits wsX5_floatBits rX5_floatBits) (cn : Tcn) (bk : Tbk) (st : Tst) (r0 : Tbk) (r1 : Tbk) (r2 : Tbk) (r3 : Tbk) (r4 : Tbk) (li : Tli) (fo : Tfo) (tx : Ttx) (co : Tco) (ke : Tke) (rf : (Nat → Int32)) (cp : Int32) (lk : Tlk) (fl : Tfl) (em : Int32) (tm : Ttm) (rd : Trd) (x0 : UInt32) (o : (UInt32 × Int32)) (e0 : ∀ a : UInt32 × Int32, o = a → Wg X 47 [some (.float x0), some (.float a.1), some (.int a.2), none] [] (mkH cn bk st r0 r1 r2 r3 r4 li fo tx co ke rf cp lk fl em tm rd)) : ∀ (n : Nat) (z : UInt32 × Int32), lpF (bX5_floatBits_24  x0) n z = some o → Wg X 24 [some (.float x0), some (.float z.1), some (.int z.2), none] [] (mkH cn bk st r0 r1 r2 r3 r4 li fo tx co ke rf cp lk fl em tm rd) := by
  intro n
  induction n with
  | zero => intro z h; cases h
  | succ n ih =>
    intro z h
    obtain ⟨r, hB, h⟩ := bnd h
    refine sbX5_floatBits_24 X C cn bk st r0 r1 r2 r3 r4 li fo tx co ke rf cp lk fl em tm rd x0 z r hB (fun a e => ih a (by subst e; exact h)) (fun a e => e0 a (by subst e; exact (Option.some.inj h).symm))
set_option maxRecDepth 100000 in
set_option maxHeartbeats 4000000 in
theorem sbX5_floatBits_47 (X : CX) (C : Ok X RX5 cX5_floatBits wsX5_floatBits rX5_floatBits) (cn : Tcn) (bk : Tbk) (st : Tst) (r0 : Tbk) (r1 : Tbk) (r2 : Tbk) (r3 : Tbk) (r4 : Tbk) (li : Tli) (fo : Tfo) (tx : Ttx) (co : Tco) (ke : Tke) (rf : (Nat → Int32)) (cp : Int32) (lk : Tlk) (fl : Tfl) (em : Int32) (tm : Ttm) (rd : Trd) (x0 : UInt32) (z : UInt32 × Int32) (o : (UInt32 × Int32) ⊕ (UInt32 × Int32)) (h : bX5_floatBits_47  x0 z = some o) (k0 : ∀ a : UInt32 × Int32, o = .inl a → Wg X 47 [some (.float x0), some (.float a.1), some (.int a.2), none] [] (mkH cn bk st r0 r1 r2 r3 r4 li fo tx co ke rf cp lk fl em tm rd)) (e0 : ∀ a : UInt32 × Int32, o = .inr a → Wg X 68 [some (.float x0), some (.float a.1), some (.int a.2), none] [] (mkH cn bk st r0 r1 r2 r3 r4 li fo tx co ke rf cp lk fl em tm rd)) : Wg X 47 [some (.float x0), some (.float z.1), some (.int z.2), none] [] (mkH cn bk st r0 r1 r2 r3 r4 li fo tx co ke rf cp lk fl em tm rd) := by
  unfold bX5_floatBits_47 at h
  refine wg_fload_n C dX5_floatBits_47 rfl ?_
  refine wg_fconst1 C dX5_floatBits_48 ?_
  refine wg_fcmp C dX5_floatBits_49 ?_
  refine wg_if_ge (tgt := 68) C dX5_floatBits_50 (by decide) (fun c7 => ?_) (fun c7 => ?_)
  · replace h := ifP c7 h
    have hk := e0 _ (Option.some.inj h).symm
    exact hk
  · replace h := ifN c7 h
    refine wg_iload_n C dX5_floatBits_53 rfl ?_
    refine wg_iconst (v := 1) C dX5_floatBits_54 (by decide) ?_
    refine wg_icmp_le (tgt := 68) C dX5_floatBits_55 (by decide) (fun c8 => ?_) (fun c8 => ?_)
    · replace h := ifP c8 h
      have hk := e0 _ (Option.some.inj h).symm
      exact hk
    · replace h := ifN c8 h
      refine wg_fload_n C dX5_floatBits_58 rfl ?_
      refine wg_fconst2 C dX5_floatBits_59 ?_
      obtain ⟨g9, h⟩ := gdP h
      refine wg_fmul C dX5_floatBits_60 g9 ?_
      refine wg_fstore_n (lv' := [some (.float x0), some (.float (FP.fmul z.1 FP.fconst2)), some (.int z.2), none]) C dX5_floatBits_61 (Nat.le_of_ble_eq_true rfl) rfl ?_
      refine wg_iinc (v := (z.2 + (-1 : Int32))) (lv' := [some (.float x0), some (.float (FP.fmul z.1 FP.fconst2)), some (.int (z.2 + (-1 : Int32))), none]) C dX5_floatBits_62 rfl rfl rfl ?_
      refine wg_goto (tgt := 47) C dX5_floatBits_65 (by decide) ?_
      have hk := k0 _ (Option.some.inj h).symm
      exact hk
set_option maxRecDepth 100000 in
set_option maxHeartbeats 4000000 in
theorem slX5_floatBits_47 (X : CX) (C : Ok X RX5 cX5_floatBits wsX5_floatBits rX5_floatBits) (cn : Tcn) (bk : Tbk) (st : Tst) (r0 : Tbk) (r1 : Tbk) (r2 : Tbk) (r3 : Tbk) (r4 : Tbk) (li : Tli) (fo : Tfo) (tx : Ttx) (co : Tco) (ke : Tke) (rf : (Nat → Int32)) (cp : Int32) (lk : Tlk) (fl : Tfl) (em : Int32) (tm : Ttm) (rd : Trd) (x0 : UInt32) (o : (UInt32 × Int32)) (e0 : ∀ a : UInt32 × Int32, o = a → Wg X 68 [some (.float x0), some (.float a.1), some (.int a.2), none] [] (mkH cn bk st r0 r1 r2 r3 r4 li fo tx co ke rf cp lk fl em tm rd)) : ∀ (n : Nat) (z : UInt32 × Int32), lpF (bX5_floatBits_47  x0) n z = some o → Wg X 47 [some (.float x0), some (.float z.1), some (.int z.2), none] [] (mkH cn bk st r0 r1 r2 r3 r4 li fo tx co ke rf cp lk fl em tm rd) := by
  intro n
  induction n with
  | zero => intro z h; cases h
  | succ n ih =>
    intro z h
    obtain ⟨r, hB, h⟩ := bnd h
    refine sbX5_floatBits_47 X C cn bk st r0 r1 r2 r3 r4 li fo tx co ke rf cp lk fl em tm rd x0 z r hB (fun a e => ih a (by subst e; exact h)) (fun a e => e0 a (by subst e; exact (Option.some.inj h).symm))
set_option maxRecDepth 100000 in
set_option maxHeartbeats 4000000 in
theorem sjX5_floatBits_95 (X : CX) (C : Ok X RX5 cX5_floatBits wsX5_floatBits rX5_floatBits) (cn : Tcn) (bk : Tbk) (st : Tst) (r0 : Tbk) (r1 : Tbk) (r2 : Tbk) (r3 : Tbk) (r4 : Tbk) (li : Tli) (fo : Tfo) (tx : Ttx) (co : Tco) (ke : Tke) (rf : (Nat → Int32)) (cp : Int32) (lk : Tlk) (fl : Tfl) (em : Int32) (tm : Ttm) (rd : Trd) (y0 : Int32) (o : Int32) (h : jX5_floatBits_95  y0 = some o) (hT : Rt X (some .int) (some (.int o)) (mkH cn bk st r0 r1 r2 r3 r4 li fo tx co ke rf cp lk fl em tm rd)) : Wg X 95 [none, none, none, none] [.int y0] (mkH cn bk st r0 r1 r2 r3 r4 li fo tx co ke rf cp lk fl em tm rd) := by
  unfold jX5_floatBits_95 at h
  obtain rfl := Option.some.inj h
  exact wg_iret C hT dX5_floatBits_95
set_option maxRecDepth 100000 in
set_option maxHeartbeats 4000000 in
theorem sjX5_floatBits_20 (X : CX) (C : Ok X RX5 cX5_floatBits wsX5_floatBits rX5_floatBits) (cn : Tcn) (bk : Tbk) (st : Tst) (r0 : Tbk) (r1 : Tbk) (r2 : Tbk) (r3 : Tbk) (r4 : Tbk) (li : Tli) (fo : Tfo) (tx : Ttx) (co : Tco) (ke : Tke) (rf : (Nat → Int32)) (cp : Int32) (lk : Tlk) (fl : Tfl) (em : Int32) (tm : Ttm) (rd : Trd) (x0 : UInt32) (y0 : UInt32) (o : Int32) (h : jX5_floatBits_20  x0 y0 = some o) (hT : Rt X (some .int) (some (.int o)) (mkH cn bk st r0 r1 r2 r3 r4 li fo tx co ke rf cp lk fl em tm rd)) : Wg X 20 [some (.float x0), none, none, none] [.float y0] (mkH cn bk st r0 r1 r2 r3 r4 li fo tx co ke rf cp lk fl em tm rd) := by
  unfold jX5_floatBits_20 at h
  refine wg_fstore_n (lv' := [some (.float x0), some (.float y0), none, none]) C dX5_floatBits_20 (Nat.le_of_ble_eq_true rfl) rfl ?_
  refine wg_bipush (v := 127) C dX5_floatBits_21 (by decide) ?_
  refine wg_istore_n (lv' := [some (.float x0), some (.float y0), some (.int (127 : Int32)), none]) C dX5_floatBits_23 (Nat.le_of_ble_eq_true rfl) rfl ?_
  obtain ⟨t6, hL6, h⟩ := bnd h
  refine slX5_floatBits_24 X C cn bk st r0 r1 r2 r3 r4 li fo tx co ke rf cp lk fl em tm rd x0 t6 (fun a e => ?_) FU (y0, (127 : Int32)) hL6
  subst e
  obtain ⟨t10, hL10, h⟩ := bnd h
  refine slX5_floatBits_47 X C cn bk st r0 r1 r2 r3 r4 li fo tx co ke rf cp lk fl em tm rd x0 t10 (fun a e => ?_) FU (t6.1, t6.2) hL10
  subst e
  refine wg_iload_n C dX5_floatBits_68 rfl ?_
  refine wg_bipush (v := 23) C dX5_floatBits_69 (by decide) ?_
  refine wg_ishl C dX5_floatBits_71 ?_
  refine wg_fload_n C dX5_floatBits_72 rfl ?_
  refine wg_fconst1 C dX5_floatBits_73 ?_
  obtain ⟨g11, h⟩ := gdP h
  refine wg_fsub C dX5_floatBits_74 g11 ?_
  refine wg_ldcf (v := 1258291200) C (by decide +kernel) dX5_floatBits_75 ?_
  obtain ⟨g12, h⟩ := gdP h
  refine wg_fmul C dX5_floatBits_77 g12 ?_
  refine wg_f2i C dX5_floatBits_78 ?_
  refine wg_ior C dX5_floatBits_79 ?_
  refine wg_istore_n (lv' := [some (.float x0), some (.float t10.1), some (.int t10.2), some (.int ((t10.2 <<< ((23 : Int32) &&& 31)) ||| (FP.f2i (FP.fmul (FP.fsub t10.1 FP.fconst1) (1258291200 : UInt32)))))]) C dX5_floatBits_80 (Nat.le_of_ble_eq_true rfl) rfl ?_
  refine wg_fload_n C dX5_floatBits_81 rfl ?_
  refine wg_fconst0 C dX5_floatBits_82 ?_
  refine wg_fcmp C dX5_floatBits_83 ?_
  refine wg_if_ge (tgt := 94) C dX5_floatBits_84 (by decide) (fun c13 => ?_) (fun c13 => ?_)
  · replace h := ifP c13 h
    refine wg_iload_n C dX5_floatBits_94 rfl ?_
    refine wg_drop (lv' := [none, none, none, none]) [0, 1, 2, 3] rfl ?_
    exact sjX5_floatBits_95 X C cn bk st r0 r1 r2 r3 r4 li fo tx co ke rf cp lk fl em tm rd ((t10.2 <<< ((23 : Int32) &&& 31)) ||| (FP.f2i (FP.fmul (FP.fsub t10.1 FP.fconst1) (1258291200 : UInt32)))) _ h hT
  · replace h := ifN c13 h
    refine wg_iload_n C dX5_floatBits_87 rfl ?_
    refine wg_ldci (v := -2147483648) C (by decide +kernel) dX5_floatBits_88 ?_
    refine wg_ior C dX5_floatBits_90 ?_
    refine wg_goto (tgt := 95) C dX5_floatBits_91 (by decide) ?_
    refine wg_drop (lv' := [none, none, none, none]) [0, 1, 2, 3] rfl ?_
    exact sjX5_floatBits_95 X C cn bk st r0 r1 r2 r3 r4 li fo tx co ke rf cp lk fl em tm rd (((t10.2 <<< ((23 : Int32) &&& 31)) ||| (FP.f2i (FP.fmul (FP.fsub t10.1 FP.fconst1) (1258291200 : UInt32)))) ||| (-2147483648 : Int32)) _ h hT
set_option maxRecDepth 100000 in
set_option maxHeartbeats 4000000 in
theorem sX5_floatBits (cn : Tcn) (bk : Tbk) (st : Tst) (r0 : Tbk) (r1 : Tbk) (r2 : Tbk) (r3 : Tbk) (r4 : Tbk) (li : Tli) (fo : Tfo) (tx : Ttx) (co : Tco) (ke : Tke) (rf : (Nat → Int32)) (cp : Int32) (lk : Tlk) (fl : Tfl) (em : Int32) (tm : Ttm) (rd : Trd) (x0 : UInt32) (o : Int32) (h : fX5_floatBits  x0 = some o) : Sp yX5_floatBits wsX5_floatBits rX5_floatBits [.float x0] (mkH cn bk st r0 r1 r2 r3 r4 li fo tx co ke rf cp lk fl em tm rd) (some (.int o)) (mkH cn bk st r0 r1 r2 r3 r4 li fo tx co ke rf cp lk fl em tm rd) := by
  refine Sp.of (lv := [some (.float x0), none, none, none]) RX5 (by decide +kernel) rfl (Nat.le_of_ble_eq_true rfl) rfl ?_
  intro X C hT
  unfold fX5_floatBits at h
  refine wg_fload_n C dX5_floatBits_0 rfl ?_
  refine wg_fconst0 C dX5_floatBits_1 ?_
  refine wg_fcmp C dX5_floatBits_2 ?_
  refine wg_if_ne (tgt := 8) C dX5_floatBits_3 (by decide) (fun c1 => ?_) (fun c1 => ?_)
  · replace h := ifP c1 h
    refine wg_fload_n C dX5_floatBits_8 rfl ?_
    refine wg_fconst0 C dX5_floatBits_9 ?_
    refine wg_fcmp C dX5_floatBits_10 ?_
    refine wg_if_ge (tgt := 19) C dX5_floatBits_11 (by decide) (fun c2 => ?_) (fun c2 => ?_)
    · replace h := ifP c2 h
      refine wg_fload_n C dX5_floatBits_19 rfl ?_
      exact sjX5_floatBits_20 X C cn bk st r0 r1 r2 r3 r4 li fo tx co ke rf cp lk fl em tm rd x0 x0 _ h hT
    · replace h := ifN c2 h
      refine wg_fload_n C dX5_floatBits_14 rfl ?_
      refine wg_fneg C dX5_floatBits_15 ?_
      refine wg_goto (tgt := 20) C dX5_floatBits_16 (by decide) ?_
      exact sjX5_floatBits_20 X C cn bk st r0 r1 r2 r3 r4 li fo tx co ke rf cp lk fl em tm rd x0 (FP.fneg x0) _ h hT
  · replace h := ifN c1 h
    refine wg_iconst (v := 0) C dX5_floatBits_6 (by decide) ?_
    obtain rfl := Option.some.inj h
    exact wg_iret C hT dX5_floatBits_7
abbrev rX5_bitsOrNone : Room := { frames := 1, cells := 0, slots := 0, locals := 23 }
set_option maxRecDepth 100000 in
set_option maxHeartbeats 4000000 in
theorem sjX5_bitsOrNone_14 (X : CX) (C : Ok X RX5 cX5_bitsOrNone wsX5_bitsOrNone rX5_bitsOrNone) (cn : Tcn) (bk : Tbk) (st : Tst) (r0 : Tbk) (r1 : Tbk) (r2 : Tbk) (r3 : Tbk) (r4 : Tbk) (li : Tli) (fo : Tfo) (tx : Ttx) (co : Tco) (ke : Tke) (rf : (Nat → Int32)) (cp : Int32) (lk : Tlk) (fl : Tfl) (em : Int32) (tm : Ttm) (rd : Trd) (y0 : Int32) (o : Int32) (h : jX5_bitsOrNone_14  y0 = some o) (hT : Rt X (some .int) (some (.int o)) (mkH cn bk st r0 r1 r2 r3 r4 li fo tx co ke rf cp lk fl em tm rd)) : Wg X 14 [none] [.int y0] (mkH cn bk st r0 r1 r2 r3 r4 li fo tx co ke rf cp lk fl em tm rd) := by
  unfold jX5_bitsOrNone_14 at h
  obtain rfl := Option.some.inj h
  exact wg_iret C hT dX5_bitsOrNone_14
set_option maxRecDepth 100000 in
set_option maxHeartbeats 4000000 in
theorem sX5_bitsOrNone (cn : Tcn) (bk : Tbk) (st : Tst) (r0 : Tbk) (r1 : Tbk) (r2 : Tbk) (r3 : Tbk) (r4 : Tbk) (li : Tli) (fo : Tfo) (tx : Ttx) (co : Tco) (ke : Tke) (rf : (Nat → Int32)) (cp : Int32) (lk : Tlk) (fl : Tfl) (em : Int32) (tm : Ttm) (rd : Trd) (x0 : UInt32) (o : Int32) (h : fX5_bitsOrNone  x0 = some o) : Sp yX5_bitsOrNone wsX5_bitsOrNone rX5_bitsOrNone [.float x0] (mkH cn bk st r0 r1 r2 r3 r4 li fo tx co ke rf cp lk fl em tm rd) (some (.int o)) (mkH cn bk st r0 r1 r2 r3 r4 li fo tx co ke rf cp lk fl em tm rd) := by
  refine Sp.of (lv := [some (.float x0)]) RX5 (by decide +kernel) rfl (Nat.le_of_ble_eq_true rfl) rfl ?_
  intro X C hT
  unfold fX5_bitsOrNone at h
  refine wg_fload_n C dX5_bitsOrNone_0 rfl ?_
  refine wg_fconst0 C dX5_bitsOrNone_1 ?_
  refine wg_fcmp C dX5_bitsOrNone_2 ?_
  refine wg_if_ge (tgt := 10) C dX5_bitsOrNone_3 (by decide) (fun c1 => ?_) (fun c1 => ?_)
  · replace h := ifP c1 h
    refine wg_fload_n C dX5_bitsOrNone_10 rfl ?_
    obtain ⟨q2, e2q, h⟩ := bnd h
    refine wg_callT (n := 1) (As := [.float x0]) (st := []) (st' := [.int q2]) C (sX5_floatBits cn bk st r0 r1 r2 r3 r4 li fo tx co ke rf cp lk fl em tm rd x0 q2 e2q) gX5_bitsOrNone_X5_floatBits rfl (by decide +kernel) ⟨⟨rfl, rfl⟩, Nat.le_of_ble_eq_true rfl, Nat.le_of_ble_eq_true rfl⟩ rfl rfl (Nat.le_of_ble_eq_true rfl) dX5_bitsOrNone_11 rfl ?_
    refine wg_drop (lv' := [none]) [0] rfl ?_
    exact sjX5_bitsOrNone_14 X C cn bk st r0 r1 r2 r3 r4 li fo tx co ke rf cp lk fl em tm rd q2 _ h hT
  · replace h := ifN c1 h
    refine wg_iconst (v := -1) C dX5_bitsOrNone_6 (by decide) ?_
    refine wg_goto (tgt := 14) C dX5_bitsOrNone_7 (by decide) ?_
    refine wg_drop (lv' := [none]) [0] rfl ?_
    exact sjX5_bitsOrNone_14 X C cn bk st r0 r1 r2 r3 r4 li fo tx co ke rf cp lk fl em tm rd (-1 : Int32) _ h hT
abbrev rX5_distance : Room := { frames := 5, cells := 0, slots := 0, locals := 121 }
theorem iwX5_distance_5 : ∀ w ∈ wsX50, w ∈ wsX5_distance := by decide +kernel
theorem fgX5_distance_10 : FG wsX5_distance RX5 10 5 0 := ⟨RX5, TX5, 8, rfl, by decide, by decide +kernel, iwX5_distance_5⟩
theorem fgX5_distance_26 : FG wsX5_distance RX5 26 5 2 := ⟨RX5, TX5, 8, rfl, by decide, by decide +kernel, iwX5_distance_5⟩
set_option maxRecDepth 100000 in
set_option maxHeartbeats 4000000 in
theorem sjX5_distance_27 (X : CX) (C : Ok X RX5 cX5_distance wsX5_distance rX5_distance) (cn : Tcn) (bk : Tbk) (st : Tst) (r0 : Tbk) (r1 : Tbk) (r2 : Tbk) (r3 : Tbk) (r4 : Tbk) (li : Tli) (fo : Tfo) (tx : Ttx) (co : Tco) (ke : Tke) (rf : (Nat → Int32)) (cp : Int32) (lk : Tlk) (fl : Tfl) (em : Int32) (tm : Ttm) (rd : Trd)  (o : Int32 × Tcn × Tli) (h : jX5_distance_27 cn bk li  = some o) (hT : Rt X (some .int) (some (.int o.1)) (mkH o.2.1 bk st r0 r1 r2 r3 r4 o.2.2 fo tx co ke rf cp lk fl em tm rd)) : Wg X 27 [some (.ref 0), none, none] [] (mkH cn bk st r0 r1 r2 r3 r4 li fo tx co ke rf cp lk fl em tm rd) := by
  unfold jX5_distance_27 at h
  refine wg_aload_n C dX5_distance_27 rfl ?_
  refine wg_bipush (v := -2) C dX5_distance_28 (by decide) ?_
  obtain ⟨q3, e3q, h⟩ := bnd h
  refine wg_callV (n := 1) (As := [.int (-2 : Int32)]) (st := []) (st' := [.int q3.1]) C (sX5_refuseBad cn bk st r0 r1 r2 r3 r4 li fo tx co ke rf cp lk fl em tm rd (-2 : Int32) q3 e3q) gX5_distance_X5_refuseBad rfl (by decide +kernel) ⟨⟨rfl, rfl⟩, Nat.le_of_ble_eq_true rfl, Nat.le_of_ble_eq_true rfl⟩ rfl rfl rfl rfl (Nat.le_of_ble_eq_true rfl) dX5_distance_30 rfl ?_
  obtain rfl := Option.some.inj h
  exact wg_iret C hT dX5_distance_33
set_option maxRecDepth 100000 in
set_option maxHeartbeats 4000000 in
theorem sX5_distance (cn : Tcn) (bk : Tbk) (st : Tst) (r0 : Tbk) (r1 : Tbk) (r2 : Tbk) (r3 : Tbk) (r4 : Tbk) (li : Tli) (fo : Tfo) (tx : Ttx) (co : Tco) (ke : Tke) (rf : (Nat → Int32)) (cp : Int32) (lk : Tlk) (fl : Tfl) (em : Int32) (tm : Ttm) (rd : Trd) (x1 : Int32) (x2 : Int32) (o : Int32 × Tcn × Tli) (h : fX5_distance cn bk li x1 x2 = some o) : Sp yX5_distance wsX5_distance rX5_distance [.ref 0, .int x1, .int x2] (mkH cn bk st r0 r1 r2 r3 r4 li fo tx co ke rf cp lk fl em tm rd) (some (.int o.1)) (mkH o.2.1 bk st r0 r1 r2 r3 r4 o.2.2 fo tx co ke rf cp lk fl em tm rd) := by
  refine Sp.of (lv := [some (.ref 0), some (.int x1), some (.int x2)]) RX5 (by decide +kernel) rfl (Nat.le_of_ble_eq_true rfl) rfl ?_
  intro X C hT
  unfold fX5_distance at h
  refine wg_aload_n C dX5_distance_0 rfl ?_
  refine wg_get (v := .ref 1) C fgX5_distance_10 rfl rfl dX5_distance_1 ?_
  refine wg_iload_n C dX5_distance_4 rfl ?_
  obtain ⟨q1, e1q, h⟩ := bnd h
  refine wg_callV (n := 1) (As := [.int x1]) (st := []) (st' := [.int q1]) C (sX0_has cn bk st r0 r1 r2 r3 r4 li fo tx co ke rf cp lk fl em tm rd x1 q1 e1q) gX5_distance_X0_has rfl (by decide +kernel) ⟨⟨rfl, rfl⟩, Nat.le_of_ble_eq_true rfl, Nat.le_of_ble_eq_true rfl⟩ rfl rfl rfl rfl (Nat.le_of_ble_eq_true rfl) dX5_distance_5 rfl ?_
  refine wg_if_eq (tgt := 27) C dX5_distance_8 (by decide) (fun c2 => ?_) (fun c2 => ?_)
  · replace h := ifP c2 h
    refine wg_drop (lv' := [some (.ref 0), none, none]) [1, 2] rfl ?_
    exact sjX5_distance_27 X C cn bk st r0 r1 r2 r3 r4 li fo tx co ke rf cp lk fl em tm rd  _ h hT
  · replace h := ifN c2 h
    refine wg_aload_n C dX5_distance_11 rfl ?_
    refine wg_get (v := .ref 1) C fgX5_distance_10 rfl rfl dX5_distance_12 ?_
    refine wg_iload_n C dX5_distance_15 rfl ?_
    obtain ⟨q4, e4q, h⟩ := bnd h
    refine wg_callV (n := 1) (As := [.int x2]) (st := []) (st' := [.int q4]) C (sX0_has cn bk st r0 r1 r2 r3 r4 li fo tx co ke rf cp lk fl em tm rd x2 q4 e4q) gX5_distance_X0_has rfl (by decide +kernel) ⟨⟨rfl, rfl⟩, Nat.le_of_ble_eq_true rfl, Nat.le_of_ble_eq_true rfl⟩ rfl rfl rfl rfl (Nat.le_of_ble_eq_true rfl) dX5_distance_16 rfl ?_
    refine wg_if_eq (tgt := 27) C dX5_distance_19 (by decide) (fun c5 => ?_) (fun c5 => ?_)
    · replace h := ifP c5 h
      refine wg_drop (lv' := [some (.ref 0), none, none]) [1, 2] rfl ?_
      exact sjX5_distance_27 X C cn bk st r0 r1 r2 r3 r4 li fo tx co ke rf cp lk fl em tm rd  _ h hT
    · replace h := ifN c5 h
      refine wg_iload_n C dX5_distance_22 rfl ?_
      refine wg_iload_n C dX5_distance_23 rfl ?_
      refine wg_icmp_ne (tgt := 34) C dX5_distance_24 (by decide) (fun c6 => ?_) (fun c6 => ?_)
      · replace h := ifP c6 h
        refine wg_aload_n C dX5_distance_34 rfl ?_
        refine wg_get (v := .ref 21) C fgX5_distance_26 rfl rfl dX5_distance_35 ?_
        refine wg_aload_n C dX5_distance_38 rfl ?_
        refine wg_get (v := .ref 1) C fgX5_distance_10 rfl rfl dX5_distance_39 ?_
        refine wg_iconst (v := -1) C dX5_distance_42 (by decide) ?_
        obtain ⟨q7, e7q, h⟩ := bnd h
        refine wg_callV (n := 2) (As := [.ref 1, .int (-1 : Int32)]) (st := []) (st' := []) C (sX2_learn cn bk st r0 r1 r2 r3 r4 li fo tx co ke rf cp lk fl em tm rd (-1 : Int32) q7 e7q) gX5_distance_X2_learn rfl (by decide +kernel) ⟨⟨rfl, rfl⟩, Nat.le_of_ble_eq_true rfl, Nat.le_of_ble_eq_true rfl⟩ rfl rfl rfl rfl (Nat.le_of_ble_eq_true rfl) dX5_distance_43 rfl ?_
        refine wg_aload_n C dX5_distance_46 rfl ?_
        refine wg_get (v := .ref 21) C fgX5_distance_26 rfl rfl dX5_distance_47 ?_
        refine wg_iload_n C dX5_distance_50 rfl ?_
        refine wg_iload_n C dX5_distance_51 rfl ?_
        obtain ⟨q8, e8q, h⟩ := bnd h
        refine wg_callV (n := 2) (As := [.int x1, .int x2]) (st := []) (st' := [.float q8]) C (sX2_between cn bk st r0 r1 r2 r3 r4 q7 fo tx co ke rf cp lk fl em tm rd x1 x2 q8 e8q) gX5_distance_X2_between rfl (by decide +kernel) ⟨⟨rfl, rfl⟩, Nat.le_of_ble_eq_true rfl, Nat.le_of_ble_eq_true rfl⟩ rfl rfl rfl rfl (Nat.le_of_ble_eq_true rfl) dX5_distance_52 rfl ?_
        obtain ⟨q9, e9q, h⟩ := bnd h
        refine wg_callT (n := 1) (As := [.float q8]) (st := []) (st' := [.int q9]) C (sX5_bitsOrNone cn bk st r0 r1 r2 r3 r4 q7 fo tx co ke rf cp lk fl em tm rd q8 q9 e9q) gX5_distance_X5_bitsOrNone rfl (by decide +kernel) ⟨⟨rfl, rfl⟩, Nat.le_of_ble_eq_true rfl, Nat.le_of_ble_eq_true rfl⟩ rfl rfl (Nat.le_of_ble_eq_true rfl) dX5_distance_55 rfl ?_
        obtain rfl := Option.some.inj h
        exact wg_iret C hT dX5_distance_58
      · replace h := ifN c6 h
        refine wg_drop (lv' := [some (.ref 0), none, none]) [1, 2] rfl ?_
        exact sjX5_distance_27 X C cn bk st r0 r1 r2 r3 r4 li fo tx co ke rf cp lk fl em tm rd  _ h hT
abbrev rX0_few : Room := { frames := 0, cells := 0, slots := 0, locals := 0 }
theorem iwX0_few_0 : ∀ w ∈ wsX00, w ∈ wsX0_few := by decide +kernel
theorem fgX0_few_24 : FG wsX0_few RX0 24 0 4 := ⟨RX0, TX0, 5, rfl, by decide, by decide +kernel, iwX0_few_0⟩
set_option maxRecDepth 100000 in
set_option maxHeartbeats 4000000 in
theorem sX0_few (cn : Tcn) (bk : Tbk) (st : Tst) (r0 : Tbk) (r1 : Tbk) (r2 : Tbk) (r3 : Tbk) (r4 : Tbk) (li : Tli) (fo : Tfo) (tx : Ttx) (co : Tco) (ke : Tke) (rf : (Nat → Int32)) (cp : Int32) (lk : Tlk) (fl : Tfl) (em : Int32) (tm : Ttm) (rd : Trd)  (o : Int32) (h : fX0_few bk  = some o) : Sp yX0_few wsX0_few rX0_few [.ref 1] (mkH cn bk st r0 r1 r2 r3 r4 li fo tx co ke rf cp lk fl em tm rd) (some (.int o)) (mkH cn bk st r0 r1 r2 r3 r4 li fo tx co ke rf cp lk fl em tm rd) := by
  refine Sp.of (lv := [some (.ref 1)]) RX0 (by decide +kernel) rfl (Nat.le_of_ble_eq_true rfl) rfl ?_
  intro X C hT
  unfold fX0_few at h
  refine wg_aload_n C dX0_few_0 rfl ?_
  refine wg_get (v := .int bk.2.2.2.2) C fgX0_few_24 rfl rfl dX0_few_1 ?_
  obtain rfl := Option.some.inj h
  exact wg_iret C hT dX0_few_4
abbrev rX2_nearOnes : Room := { frames := 1, cells := 0, slots := 0, locals := 21 }
theorem iwX2_nearOnes_2 : ∀ w ∈ wsX20, w ∈ wsX2_nearOnes := by decide +kernel
theorem fgX2_nearOnes_29 : FG wsX2_nearOnes RX2 29 2 5 := ⟨RX2, TX2, 9, rfl, by decide, by decide +kernel, iwX2_nearOnes_2⟩
set_option maxRecDepth 100000 in
set_option maxHeartbeats 4000000 in
theorem sjX2_nearOnes_22 (X : CX) (C : Ok X RX2 cX2_nearOnes wsX2_nearOnes rX2_nearOnes) (cn : Tcn) (bk : Tbk) (st : Tst) (r0 : Tbk) (r1 : Tbk) (r2 : Tbk) (r3 : Tbk) (r4 : Tbk) (li : Tli) (fo : Tfo) (tx : Ttx) (co : Tco) (ke : Tke) (rf : (Nat → Int32)) (cp : Int32) (lk : Tlk) (fl : Tfl) (em : Int32) (tm : Ttm) (rd : Trd) (y0 : Int32) (o : Int32) (h : jX2_nearOnes_22 li y0 = some o) (hT : Rt X (some .int) (some (.int o)) (mkH cn bk st r0 r1 r2 r3 r4 li fo tx co ke rf cp lk fl em tm rd)) : Wg X 22 [none, none, none] [.int y0] (mkH cn bk st r0 r1 r2 r3 r4 li fo tx co ke rf cp lk fl em tm rd) := by
  unfold jX2_nearOnes_22 at h
  obtain rfl := Option.some.inj h
  exact wg_iret C hT dX2_nearOnes_22
set_option maxRecDepth 100000 in
set_option maxHeartbeats 4000000 in
theorem sX2_nearOnes (cn : Tcn) (bk : Tbk) (st : Tst) (r0 : Tbk) (r1 : Tbk) (r2 : Tbk) (r3 : Tbk) (r4 : Tbk) (li : Tli) (fo : Tfo) (tx : Ttx) (co : Tco) (ke : Tke) (rf : (Nat → Int32)) (cp : Int32) (lk : Tlk) (fl : Tfl) (em : Int32) (tm : Ttm) (rd : Trd) (x1 : Int32) (x2 : Int32) (o : Int32) (h : fX2_nearOnes li x1 x2 = some o) : Sp yX2_nearOnes wsX2_nearOnes rX2_nearOnes [.ref 21, .int x1, .int x2] (mkH cn bk st r0 r1 r2 r3 r4 li fo tx co ke rf cp lk fl em tm rd) (some (.int o)) (mkH cn bk st r0 r1 r2 r3 r4 li fo tx co ke rf cp lk fl em tm rd) := by
  refine Sp.of (lv := [some (.ref 21), some (.int x1), some (.int x2)]) RX2 (by decide +kernel) rfl (Nat.le_of_ble_eq_true rfl) rfl ?_
  intro X C hT
  unfold fX2_nearOnes at h
  refine wg_aload_n C dX2_nearOnes_0 rfl ?_
  refine wg_iload_n C dX2_nearOnes_1 rfl ?_
  obtain ⟨q1, e1q, h⟩ := bnd h
  refine wg_callV (n := 1) (As := [.int x1]) (st := []) (st' := [.int q1]) C (sX2_has cn bk st r0 r1 r2 r3 r4 li fo tx co ke rf cp lk fl em tm rd x1 q1 e1q) gX2_nearOnes_X2_has rfl (by decide +kernel) ⟨⟨rfl, rfl⟩, Nat.le_of_ble_eq_true rfl, Nat.le_of_ble_eq_true rfl⟩ rfl rfl rfl rfl (Nat.le_of_ble_eq_true rfl) dX2_nearOnes_2 rfl ?_
  refine wg_if_eq (tgt := 21) C dX2_nearOnes_5 (by decide) (fun c2 => ?_) (fun c2 => ?_)
  · replace h := ifP c2 h
    refine wg_iconst (v := 0) C dX2_nearOnes_21 (by decide) ?_
    refine wg_drop (lv' := [none, none, none]) [0, 1, 2] rfl ?_
    exact sjX2_nearOnes_22 X C cn bk st r0 r1 r2 r3 r4 li fo tx co ke rf cp lk fl em tm rd (0 : Int32) _ h hT
  · replace h := ifN c2 h
    refine wg_aload_n C dX2_nearOnes_8 rfl ?_
    refine wg_get (v := .ref 27) C fgX2_nearOnes_29 rfl rfl dX2_nearOnes_9 ?_
    refine wg_iload_n C dX2_nearOnes_12 rfl ?_
    obtain ⟨g3, h⟩ := gdP h
    refine wg_iald (f := li.2.2.2.2.2.1) (n := 50) C rfl g3 dX2_nearOnes_13 ?_
    refine wg_iload_n C dX2_nearOnes_14 rfl ?_
    refine wg_mmin C ⟨by decide +kernel, by decide +kernel, by decide +kernel, by decide +kernel⟩ ⟨Nat.le_of_ble_eq_true rfl, Nat.le_of_ble_eq_true rfl⟩ dX2_nearOnes_15 ?_
    refine wg_goto (tgt := 22) C dX2_nearOnes_18 (by decide) ?_
    refine wg_drop (lv' := [none, none, none]) [0, 1, 2] rfl ?_
    exact sjX2_nearOnes_22 X C cn bk st r0 r1 r2 r3 r4 li fo tx co ke rf cp lk fl em tm rd (if x2 < (li.2.2.2.2.2.1 (x1).toNatClampNeg) then x2 else (li.2.2.2.2.2.1 (x1).toNatClampNeg)) _ h hT
abbrev rX2_near : Room := { frames := 1, cells := 0, slots := 0, locals := 21 }
theorem iwX2_near_2 : ∀ w ∈ wsX20, w ∈ wsX2_near := by decide +kernel
theorem fgX2_near_25 : FG wsX2_near RX2 25 2 4 := ⟨RX2, TX2, 9, rfl, by decide, by decide +kernel, iwX2_near_2⟩
theorem fgX2_near_29 : FG wsX2_near RX2 29 2 5 := ⟨RX2, TX2, 9, rfl, by decide, by decide +kernel, iwX2_near_2⟩
set_option maxRecDepth 100000 in
set_option maxHeartbeats 4000000 in
theorem sjX2_near_37 (X : CX) (C : Ok X RX2 cX2_near wsX2_near rX2_near) (cn : Tcn) (bk : Tbk) (st : Tst) (r0 : Tbk) (r1 : Tbk) (r2 : Tbk) (r3 : Tbk) (r4 : Tbk) (li : Tli) (fo : Tfo) (tx : Ttx) (co : Tco) (ke : Tke) (rf : (Nat → Int32)) (cp : Int32) (lk : Tlk) (fl : Tfl) (em : Int32) (tm : Ttm) (rd : Trd) (y0 : Int32) (o : Int32) (h : jX2_near_37 li y0 = some o) (hT : Rt X (some .int) (some (.int o)) (mkH cn bk st r0 r1 r2 r3 r4 li fo tx co ke rf cp lk fl em tm rd)) : Wg X 37 [none, none, none] [.int y0] (mkH cn bk st r0 r1 r2 r3 r4 li fo tx co ke rf cp lk fl em tm rd) := by
  unfold jX2_near_37 at h
  obtain rfl := Option.some.inj h
  exact wg_iret C hT dX2_near_37
set_option maxRecDepth 100000 in
set_option maxHeartbeats 4000000 in
theorem sjX2_near_36 (X : CX) (C : Ok X RX2 cX2_near wsX2_near rX2_near) (cn : Tcn) (bk : Tbk) (st : Tst) (r0 : Tbk) (r1 : Tbk) (r2 : Tbk) (r3 : Tbk) (r4 : Tbk) (li : Tli) (fo : Tfo) (tx : Ttx) (co : Tco) (ke : Tke) (rf : (Nat → Int32)) (cp : Int32) (lk : Tlk) (fl : Tfl) (em : Int32) (tm : Ttm) (rd : Trd)  (o : Int32) (h : jX2_near_36 li  = some o) (hT : Rt X (some .int) (some (.int o)) (mkH cn bk st r0 r1 r2 r3 r4 li fo tx co ke rf cp lk fl em tm rd)) : Wg X 36 [none, none, none] [] (mkH cn bk st r0 r1 r2 r3 r4 li fo tx co ke rf cp lk fl em tm rd) := by
  unfold jX2_near_36 at h
  refine wg_iconst (v := -1) C dX2_near_36 (by decide) ?_
  exact sjX2_near_37 X C cn bk st r0 r1 r2 r3 r4 li fo tx co ke rf cp lk fl em tm rd (-1 : Int32) _ h hT
set_option maxRecDepth 100000 in
set_option maxHeartbeats 4000000 in
theorem sX2_near (cn : Tcn) (bk : Tbk) (st : Tst) (r0 : Tbk) (r1 : Tbk) (r2 : Tbk) (r3 : Tbk) (r4 : Tbk) (li : Tli) (fo : Tfo) (tx : Ttx) (co : Tco) (ke : Tke) (rf : (Nat → Int32)) (cp : Int32) (lk : Tlk) (fl : Tfl) (em : Int32) (tm : Ttm) (rd : Trd) (x1 : Int32) (x2 : Int32) (o : Int32) (h : fX2_near li x1 x2 = some o) : Sp yX2_near wsX2_near rX2_near [.ref 21, .int x1, .int x2] (mkH cn bk st r0 r1 r2 r3 r4 li fo tx co ke rf cp lk fl em tm rd) (some (.int o)) (mkH cn bk st r0 r1 r2 r3 r4 li fo tx co ke rf cp lk fl em tm rd) := by
  refine Sp.of (lv := [some (.ref 21), some (.int x1), some (.int x2)]) RX2 (by decide +kernel) rfl (Nat.le_of_ble_eq_true rfl) rfl ?_
  intro X C hT
  unfold fX2_near at h
  refine wg_aload_n C dX2_near_0 rfl ?_
  refine wg_iload_n C dX2_near_1 rfl ?_
  obtain ⟨q1, e1q, h⟩ := bnd h
  refine wg_callV (n := 1) (As := [.int x1]) (st := []) (st' := [.int q1]) C (sX2_has cn bk st r0 r1 r2 r3 r4 li fo tx co ke rf cp lk fl em tm rd x1 q1 e1q) gX2_near_X2_has rfl (by decide +kernel) ⟨⟨rfl, rfl⟩, Nat.le_of_ble_eq_true rfl, Nat.le_of_ble_eq_true rfl⟩ rfl rfl rfl rfl (Nat.le_of_ble_eq_true rfl) dX2_near_2 rfl ?_
  refine wg_if_eq (tgt := 36) C dX2_near_5 (by decide) (fun c2 => ?_) (fun c2 => ?_)
  · replace h := ifP c2 h
    refine wg_drop (lv' := [none, none, none]) [0, 1, 2] rfl ?_
    exact sjX2_near_36 X C cn bk st r0 r1 r2 r3 r4 li fo tx co ke rf cp lk fl em tm rd  _ h hT
  · replace h := ifN c2 h
    refine wg_iload_n C dX2_near_8 rfl ?_
    refine wg_if_lt (tgt := 36) C dX2_near_9 (by decide) (fun c3 => ?_) (fun c3 => ?_)
    · replace h := ifP c3 h
      refine wg_drop (lv' := [none, none, none]) [0, 1, 2] rfl ?_
      exact sjX2_near_36 X C cn bk st r0 r1 r2 r3 r4 li fo tx co ke rf cp lk fl em tm rd  _ h hT
    · replace h := ifN c3 h
      refine wg_iload_n C dX2_near_12 rfl ?_
      refine wg_aload_n C dX2_near_13 rfl ?_
      refine wg_get (v := .ref 27) C fgX2_near_29 rfl rfl dX2_near_14 ?_
      refine wg_iload_n C dX2_near_17 rfl ?_
      obtain ⟨g4, h⟩ := gdP h
      refine wg_iald (f := li.2.2.2.2.2.1) (n := 50) C rfl g4 dX2_near_18 ?_
      refine wg_icmp_ge (tgt := 36) C dX2_near_19 (by decide) (fun c5 => ?_) (fun c5 => ?_)
      · replace h := ifP c5 h
        refine wg_drop (lv' := [none, none, none]) [0, 1, 2] rfl ?_
        exact sjX2_near_36 X C cn bk st r0 r1 r2 r3 r4 li fo tx co ke rf cp lk fl em tm rd  _ h hT
      · replace h := ifN c5 h
        refine wg_aload_n C dX2_near_22 rfl ?_
        refine wg_get (v := .ref 26) C fgX2_near_25 rfl rfl dX2_near_23 ?_
        refine wg_iload_n C dX2_near_26 rfl ?_
        refine wg_bipush (v := 12) C dX2_near_27 (by decide) ?_
        refine wg_imul C dX2_near_29 ?_
        refine wg_iload_n C dX2_near_30 rfl ?_
        refine wg_iadd C dX2_near_31 ?_
        obtain ⟨g6, h⟩ := gdP h
        refine wg_iald (f := li.2.2.2.2.1) (n := 600) C rfl g6 dX2_near_32 ?_
        refine wg_goto (tgt := 37) C dX2_near_33 (by decide) ?_
        refine wg_drop (lv' := [none, none, none]) [0, 1, 2] rfl ?_
        exact sjX2_near_37 X C cn bk st r0 r1 r2 r3 r4 li fo tx co ke rf cp lk fl em tm rd (li.2.2.2.2.1 (((x1 * (12 : Int32)) + x2)).toNatClampNeg) _ h hT
abbrev rX5_nearest : Room := { frames := 5, cells := 0, slots := 0, locals := 121 }
theorem iwX5_nearest_5 : ∀ w ∈ wsX50, w ∈ wsX5_nearest := by decide +kernel
theorem fgX5_nearest_10 : FG wsX5_nearest RX5 10 5 0 := ⟨RX5, TX5, 8, rfl, by decide, by decide +kernel, iwX5_nearest_5⟩
theorem fgX5_nearest_26 : FG wsX5_nearest RX5 26 5 2 := ⟨RX5, TX5, 8, rfl, by decide, by decide +kernel, iwX5_nearest_5⟩
set_option maxRecDepth 100000 in
set_option maxHeartbeats 4000000 in
theorem sjX5_nearest_24 (X : CX) (C : Ok X RX5 cX5_nearest wsX5_nearest rX5_nearest) (cn : Tcn) (bk : Tbk) (st : Tst) (r0 : Tbk) (r1 : Tbk) (r2 : Tbk) (r3 : Tbk) (r4 : Tbk) (li : Tli) (fo : Tfo) (tx : Ttx) (co : Tco) (ke : Tke) (rf : (Nat → Int32)) (cp : Int32) (lk : Tlk) (fl : Tfl) (em : Int32) (tm : Ttm) (rd : Trd)  (o : Int32 × Tcn × Tli) (h : jX5_nearest_24 cn bk li  = some o) (hT : Rt X (some .int) (some (.int o.1)) (mkH o.2.1 bk st r0 r1 r2 r3 r4 o.2.2 fo tx co ke rf cp lk fl em tm rd)) : Wg X 24 [some (.ref 0), none, none, none, none] [] (mkH cn bk st r0 r1 r2 r3 r4 li fo tx co ke rf cp lk fl em tm rd) := by
  unfold jX5_nearest_24 at h
  refine wg_aload_n C dX5_nearest_24 rfl ?_
  refine wg_bipush (v := -2) C dX5_nearest_25 (by decide) ?_
  obtain ⟨q3, e3q, h⟩ := bnd h
  refine wg_callV (n := 1) (As := [.int (-2 : Int32)]) (st := []) (st' := [.int q3.1]) C (sX5_refuseBad cn bk st r0 r1 r2 r3 r4 li fo tx co ke rf cp lk fl em tm rd (-2 : Int32) q3 e3q) gX5_nearest_X5_refuseBad rfl (by decide +kernel) ⟨⟨rfl, rfl⟩, Nat.le_of_ble_eq_true rfl, Nat.le_of_ble_eq_true rfl⟩ rfl rfl rfl rfl (Nat.le_of_ble_eq_true rfl) dX5_nearest_27 rfl ?_
  obtain rfl := Option.some.inj h
  exact wg_iret C hT dX5_nearest_30
set_option maxRecDepth 100000 in
set_option maxHeartbeats 4000000 in
theorem sjX5_nearest_97 (X : CX) (C : Ok X RX5 cX5_nearest wsX5_nearest rX5_nearest) (cn : Tcn) (bk : Tbk) (st : Tst) (r0 : Tbk) (r1 : Tbk) (r2 : Tbk) (r3 : Tbk) (r4 : Tbk) (li : Tli) (fo : Tfo) (tx : Ttx) (co : Tco) (ke : Tke) (rf : (Nat → Int32)) (cp : Int32) (lk : Tlk) (fl : Tfl) (em : Int32) (tm : Ttm) (rd : Trd) (y0 : Int32) (o : Int32 × Tcn × Tli) (h : jX5_nearest_97 cn bk li y0 = some o) (hT : Rt X (some .int) (some (.int o.1)) (mkH o.2.1 bk st r0 r1 r2 r3 r4 o.2.2 fo tx co ke rf cp lk fl em tm rd)) : Wg X 97 [none, none, none, none, none] [.int y0] (mkH cn bk st r0 r1 r2 r3 r4 li fo tx co ke rf cp lk fl em tm rd) := by
  unfold jX5_nearest_97 at h
  obtain rfl := Option.some.inj h
  exact wg_iret C hT dX5_nearest_97
set_option maxRecDepth 100000 in
set_option maxHeartbeats 4000000 in
theorem sX5_nearest (cn : Tcn) (bk : Tbk) (st : Tst) (r0 : Tbk) (r1 : Tbk) (r2 : Tbk) (r3 : Tbk) (r4 : Tbk) (li : Tli) (fo : Tfo) (tx : Ttx) (co : Tco) (ke : Tke) (rf : (Nat → Int32)) (cp : Int32) (lk : Tlk) (fl : Tfl) (em : Int32) (tm : Ttm) (rd : Trd) (x1 : Int32) (x2 : Int32) (x3 : Int32) (o : Int32 × Tcn × Tli) (h : fX5_nearest cn bk li x1 x2 x3 = some o) : Sp yX5_nearest wsX5_nearest rX5_nearest [.ref 0, .int x1, .int x2, .int x3] (mkH cn bk st r0 r1 r2 r3 r4 li fo tx co ke rf cp lk fl em tm rd) (some (.int o.1)) (mkH o.2.1 bk st r0 r1 r2 r3 r4 o.2.2 fo tx co ke rf cp lk fl em tm rd) := by
  refine Sp.of (lv := [some (.ref 0), some (.int x1), some (.int x2), some (.int x3), none]) RX5 (by decide +kernel) rfl (Nat.le_of_ble_eq_true rfl) rfl ?_
  intro X C hT
  unfold fX5_nearest at h
  refine wg_aload_n C dX5_nearest_0 rfl ?_
  refine wg_get (v := .ref 1) C fgX5_nearest_10 rfl rfl dX5_nearest_1 ?_
  refine wg_iload_n C dX5_nearest_4 rfl ?_
  obtain ⟨q1, e1q, h⟩ := bnd h
  refine wg_callV (n := 1) (As := [.int x1]) (st := []) (st' := [.int q1]) C (sX0_has cn bk st r0 r1 r2 r3 r4 li fo tx co ke rf cp lk fl em tm rd x1 q1 e1q) gX5_nearest_X0_has rfl (by decide +kernel) ⟨⟨rfl, rfl⟩, Nat.le_of_ble_eq_true rfl, Nat.le_of_ble_eq_true rfl⟩ rfl rfl rfl rfl (Nat.le_of_ble_eq_true rfl) dX5_nearest_5 rfl ?_
  refine wg_if_eq (tgt := 24) C dX5_nearest_8 (by decide) (fun c2 => ?_) (fun c2 => ?_)
  · replace h := ifP c2 h
    refine wg_drop (lv' := [some (.ref 0), none, none, none, none]) [1, 2, 3] rfl ?_
    exact sjX5_nearest_24 X C cn bk st r0 r1 r2 r3 r4 li fo tx co ke rf cp lk fl em tm rd  _ h hT
  · replace h := ifN c2 h
    refine wg_iload_n C dX5_nearest_11 rfl ?_
    refine wg_if_lt (tgt := 24) C dX5_nearest_12 (by decide) (fun c4 => ?_) (fun c4 => ?_)
    · replace h := ifP c4 h
      refine wg_drop (lv' := [some (.ref 0), none, none, none, none]) [1, 2, 3] rfl ?_
      exact sjX5_nearest_24 X C cn bk st r0 r1 r2 r3 r4 li fo tx co ke rf cp lk fl em tm rd  _ h hT
    · replace h := ifN c4 h
      refine wg_iload_n C dX5_nearest_15 rfl ?_
      refine wg_iconst (v := 0) C dX5_nearest_16 (by decide) ?_
      refine wg_iconst (v := 1) C dX5_nearest_17 (by decide) ?_
      obtain ⟨q5, e5q, h⟩ := bnd h
      refine wg_callT (n := 3) (As := [.int x3, .int (0 : Int32), .int (1 : Int32)]) (st := []) (st' := [.int q5]) C (sX5_isWithin cn bk st r0 r1 r2 r3 r4 li fo tx co ke rf cp lk fl em tm rd x3 (0 : Int32) (1 : Int32) q5 e5q) gX5_nearest_X5_isWithin rfl (by decide +kernel) ⟨⟨rfl, rfl⟩, Nat.le_of_ble_eq_true rfl, Nat.le_of_ble_eq_true rfl⟩ rfl rfl (Nat.le_of_ble_eq_true rfl) dX5_nearest_18 rfl ?_
      refine wg_if_ne (tgt := 31) C dX5_nearest_21 (by decide) (fun c6 => ?_) (fun c6 => ?_)
      · replace h := ifP c6 h
        refine wg_aload_n C dX5_nearest_31 rfl ?_
        refine wg_get (v := .ref 21) C fgX5_nearest_26 rfl rfl dX5_nearest_32 ?_
        refine wg_aload_n C dX5_nearest_35 rfl ?_
        refine wg_get (v := .ref 1) C fgX5_nearest_10 rfl rfl dX5_nearest_36 ?_
        refine wg_iconst (v := -1) C dX5_nearest_39 (by decide) ?_
        obtain ⟨q7, e7q, h⟩ := bnd h
        refine wg_callV (n := 2) (As := [.ref 1, .int (-1 : Int32)]) (st := []) (st' := []) C (sX2_learn cn bk st r0 r1 r2 r3 r4 li fo tx co ke rf cp lk fl em tm rd (-1 : Int32) q7 e7q) gX5_nearest_X2_learn rfl (by decide +kernel) ⟨⟨rfl, rfl⟩, Nat.le_of_ble_eq_true rfl, Nat.le_of_ble_eq_true rfl⟩ rfl rfl rfl rfl (Nat.le_of_ble_eq_true rfl) dX5_nearest_40 rfl ?_
        refine wg_iload_n C dX5_nearest_43 rfl ?_
        refine wg_aload_n C dX5_nearest_44 rfl ?_
        refine wg_get (v := .ref 21) C fgX5_nearest_26 rfl rfl dX5_nearest_45 ?_
        refine wg_iload_n C dX5_nearest_48 rfl ?_
        refine wg_aload_n C dX5_nearest_49 rfl ?_
        refine wg_get (v := .ref 1) C fgX5_nearest_10 rfl rfl dX5_nearest_50 ?_
        obtain ⟨q8, e8q, h⟩ := bnd h
        refine wg_callV (n := 0) (As := []) (st := [.int x1, .ref 21, .int x2]) (st' := [.int q8, .int x1, .ref 21, .int x2]) C (sX0_few cn bk st r0 r1 r2 r3 r4 q7 fo tx co ke rf cp lk fl em tm rd  q8 e8q) gX5_nearest_X0_few rfl (by decide +kernel) ⟨⟨rfl, rfl⟩, Nat.le_of_ble_eq_true rfl, Nat.le_of_ble_eq_true rfl⟩ rfl rfl rfl rfl (Nat.le_of_ble_eq_true rfl) dX5_nearest_53 rfl ?_
        obtain ⟨q9, e9q, h⟩ := bnd h
        refine wg_callV (n := 2) (As := [.int x1, .int q8]) (st := [.int x2]) (st' := [.int q9, .int x2]) C (sX2_nearOnes cn bk st r0 r1 r2 r3 r4 q7 fo tx co ke rf cp lk fl em tm rd x1 q8 q9 e9q) gX5_nearest_X2_nearOnes rfl (by decide +kernel) ⟨⟨rfl, rfl⟩, Nat.le_of_ble_eq_true rfl, Nat.le_of_ble_eq_true rfl⟩ rfl rfl rfl rfl (Nat.le_of_ble_eq_true rfl) dX5_nearest_56 rfl ?_
        refine wg_icmp_lt (tgt := 64) C dX5_nearest_59 (by decide) (fun c10 => ?_) (fun c10 => ?_)
        · replace h := ifP c10 h
          refine wg_aload_n C dX5_nearest_64 rfl ?_
          refine wg_get (v := .ref 21) C fgX5_nearest_26 rfl rfl dX5_nearest_65 ?_
          refine wg_iload_n C dX5_nearest_68 rfl ?_
          refine wg_iload_n C dX5_nearest_69 rfl ?_
          obtain ⟨q11, e11q, h⟩ := bnd h
          refine wg_callV (n := 2) (As := [.int x1, .int x2]) (st := []) (st' := [.int q11]) C (sX2_near cn bk st r0 r1 r2 r3 r4 q7 fo tx co ke rf cp lk fl em tm rd x1 x2 q11 e11q) gX5_nearest_X2_near rfl (by decide +kernel) ⟨⟨rfl, rfl⟩, Nat.le_of_ble_eq_true rfl, Nat.le_of_ble_eq_true rfl⟩ rfl rfl rfl rfl (Nat.le_of_ble_eq_true rfl) dX5_nearest_70 rfl ?_
          refine wg_istore (lv' := [some (.ref 0), some (.int x1), some (.int x2), some (.int x3), some (.int q11)]) C dX5_nearest_73 (Nat.le_of_ble_eq_true rfl) rfl ?_
          refine wg_iload_n C dX5_nearest_75 rfl ?_
          refine wg_if_ne (tgt := 84) C dX5_nearest_76 (by decide) (fun c12 => ?_) (fun c12 => ?_)
          · replace h := ifP c12 h
            refine wg_aload_n C dX5_nearest_84 rfl ?_
            refine wg_get (v := .ref 21) C fgX5_nearest_26 rfl rfl dX5_nearest_85 ?_
            refine wg_iload_n C dX5_nearest_88 rfl ?_
            refine wg_iload C dX5_nearest_89 rfl ?_
            obtain ⟨q13, e13q, h⟩ := bnd h
            refine wg_callV (n := 2) (As := [.int x1, .int q11]) (st := []) (st' := [.float q13]) C (sX2_between cn bk st r0 r1 r2 r3 r4 q7 fo tx co ke rf cp lk fl em tm rd x1 q11 q13 e13q) gX5_nearest_X2_between rfl (by decide +kernel) ⟨⟨rfl, rfl⟩, Nat.le_of_ble_eq_true rfl, Nat.le_of_ble_eq_true rfl⟩ rfl rfl rfl rfl (Nat.le_of_ble_eq_true rfl) dX5_nearest_91 rfl ?_
            obtain ⟨q14, e14q, h⟩ := bnd h
            refine wg_callT (n := 1) (As := [.float q13]) (st := []) (st' := [.int q14]) C (sX5_bitsOrNone cn bk st r0 r1 r2 r3 r4 q7 fo tx co ke rf cp lk fl em tm rd q13 q14 e14q) gX5_nearest_X5_bitsOrNone rfl (by decide +kernel) ⟨⟨rfl, rfl⟩, Nat.le_of_ble_eq_true rfl, Nat.le_of_ble_eq_true rfl⟩ rfl rfl (Nat.le_of_ble_eq_true rfl) dX5_nearest_94 rfl ?_
            refine wg_drop (lv' := [none, none, none, none, none]) [0, 1, 2, 3, 4] rfl ?_
            exact sjX5_nearest_97 X C cn bk st r0 r1 r2 r3 r4 q7 fo tx co ke rf cp lk fl em tm rd q14 _ h hT
          · replace h := ifN c12 h
            refine wg_iload C dX5_nearest_79 rfl ?_
            refine wg_goto (tgt := 97) C dX5_nearest_81 (by decide) ?_
            refine wg_drop (lv' := [none, none, none, none, none]) [0, 1, 2, 3, 4] rfl ?_
            exact sjX5_nearest_97 X C cn bk st r0 r1 r2 r3 r4 q7 fo tx co ke rf cp lk fl em tm rd q11 _ h hT
        · replace h := ifN c10 h
          refine wg_iconst (v := -1) C dX5_nearest_62 (by decide) ?_
          obtain rfl := Option.some.inj h
          exact wg_iret C hT dX5_nearest_63
      · replace h := ifN c6 h
        refine wg_drop (lv' := [some (.ref 0), none, none, none, none]) [1, 2, 3] rfl ?_
        exact sjX5_nearest_24 X C cn bk st r0 r1 r2 r3 r4 li fo tx co ke rf cp lk fl em tm rd  _ h hT
abbrev rX2_likeOnes : Room := { frames := 1, cells := 0, slots := 0, locals := 21 }
theorem iwX2_likeOnes_2 : ∀ w ∈ wsX20, w ∈ wsX2_likeOnes := by decide +kernel
theorem fgX2_likeOnes_32 : FG wsX2_likeOnes RX2 32 2 6 := ⟨RX2, TX2, 9, rfl, by decide, by decide +kernel, iwX2_likeOnes_2⟩
set_option maxRecDepth 100000 in
set_option maxHeartbeats 4000000 in
theorem sjX2_likeOnes_18 (X : CX) (C : Ok X RX2 cX2_likeOnes wsX2_likeOnes rX2_likeOnes) (cn : Tcn) (bk : Tbk) (st : Tst) (r0 : Tbk) (r1 : Tbk) (r2 : Tbk) (r3 : Tbk) (r4 : Tbk) (li : Tli) (fo : Tfo) (tx : Ttx) (co : Tco) (ke : Tke) (rf : (Nat → Int32)) (cp : Int32) (lk : Tlk) (fl : Tfl) (em : Int32) (tm : Ttm) (rd : Trd) (y0 : Int32) (o : Int32) (h : jX2_likeOnes_18 li y0 = some o) (hT : Rt X (some .int) (some (.int o)) (mkH cn bk st r0 r1 r2 r3 r4 li fo tx co ke rf cp lk fl em tm rd)) : Wg X 18 [none, none] [.int y0] (mkH cn bk st r0 r1 r2 r3 r4 li fo tx co ke rf cp lk fl em tm rd) := by
  unfold jX2_likeOnes_18 at h
  obtain rfl := Option.some.inj h
  exact wg_iret C hT dX2_likeOnes_18
set_option maxRecDepth 100000 in
set_option maxHeartbeats 4000000 in
theorem sX2_likeOnes (cn : Tcn) (bk : Tbk) (st : Tst) (r0 : Tbk) (r1 : Tbk) (r2 : Tbk) (r3 : Tbk) (r4 : Tbk) (li : Tli) (fo : Tfo) (tx : Ttx) (co : Tco) (ke : Tke) (rf : (Nat → Int32)) (cp : Int32) (lk : Tlk) (fl : Tfl) (em : Int32) (tm : Ttm) (rd : Trd) (x1 : Int32) (o : Int32) (h : fX2_likeOnes li x1 = some o) : Sp yX2_likeOnes wsX2_likeOnes rX2_likeOnes [.ref 21, .int x1] (mkH cn bk st r0 r1 r2 r3 r4 li fo tx co ke rf cp lk fl em tm rd) (some (.int o)) (mkH cn bk st r0 r1 r2 r3 r4 li fo tx co ke rf cp lk fl em tm rd) := by
  refine Sp.of (lv := [some (.ref 21), some (.int x1)]) RX2 (by decide +kernel) rfl (Nat.le_of_ble_eq_true rfl) rfl ?_
  intro X C hT
  unfold fX2_likeOnes at h
  refine wg_aload_n C dX2_likeOnes_0 rfl ?_
  refine wg_iload_n C dX2_likeOnes_1 rfl ?_
  obtain ⟨q1, e1q, h⟩ := bnd h
  refine wg_callV (n := 1) (As := [.int x1]) (st := []) (st' := [.int q1]) C (sX2_has cn bk st r0 r1 r2 r3 r4 li fo tx co ke rf cp lk fl em tm rd x1 q1 e1q) gX2_likeOnes_X2_has rfl (by decide +kernel) ⟨⟨rfl, rfl⟩, Nat.le_of_ble_eq_true rfl, Nat.le_of_ble_eq_true rfl⟩ rfl rfl rfl rfl (Nat.le_of_ble_eq_true rfl) dX2_likeOnes_2 rfl ?_
  refine wg_if_eq (tgt := 17) C dX2_likeOnes_5 (by decide) (fun c2 => ?_) (fun c2 => ?_)
  · replace h := ifP c2 h
    refine wg_iconst (v := 0) C dX2_likeOnes_17 (by decide) ?_
    refine wg_drop (lv' := [none, none]) [0, 1] rfl ?_
    exact sjX2_likeOnes_18 X C cn bk st r0 r1 r2 r3 r4 li fo tx co ke rf cp lk fl em tm rd (0 : Int32) _ h hT
  · replace h := ifN c2 h
    refine wg_aload_n C dX2_likeOnes_8 rfl ?_
    refine wg_get (v := .ref 28) C fgX2_likeOnes_32 rfl rfl dX2_likeOnes_9 ?_
    refine wg_iload_n C dX2_likeOnes_12 rfl ?_
    obtain ⟨g3, h⟩ := gdP h
    refine wg_iald (f := li.2.2.2.2.2.2.1) (n := 50) C rfl g3 dX2_likeOnes_13 ?_
    refine wg_goto (tgt := 18) C dX2_likeOnes_14 (by decide) ?_
    refine wg_drop (lv' := [none, none]) [0, 1] rfl ?_
    exact sjX2_likeOnes_18 X C cn bk st r0 r1 r2 r3 r4 li fo tx co ke rf cp lk fl em tm rd (li.2.2.2.2.2.2.1 (x1).toNatClampNeg) _ h hT
abbrev rX5_likes : Room := { frames := 5, cells := 0, slots := 0, locals := 121 }
theorem iwX5_likes_5 : ∀ w ∈ wsX50, w ∈ wsX5_likes := by decide +kernel
theorem fgX5_likes_10 : FG wsX5_likes RX5 10 5 0 := ⟨RX5, TX5, 8, rfl, by decide, by decide +kernel, iwX5_likes_5⟩
theorem fgX5_likes_26 : FG wsX5_likes RX5 26 5 2 := ⟨RX5, TX5, 8, rfl, by decide, by decide +kernel, iwX5_likes_5⟩
set_option maxRecDepth 100000 in
set_option maxHeartbeats 4000000 in
theorem sX5_likes (cn : Tcn) (bk : Tbk) (st : Tst) (r0 : Tbk) (r1 : Tbk) (r2 : Tbk) (r3 : Tbk) (r4 : Tbk) (li : Tli) (fo : Tfo) (tx : Ttx) (co : Tco) (ke : Tke) (rf : (Nat → Int32)) (cp : Int32) (lk : Tlk) (fl : Tfl) (em : Int32) (tm : Ttm) (rd : Trd) (x1 : Int32) (o : Int32 × Tcn × Tli) (h : fX5_likes cn bk li x1 = some o) : Sp yX5_likes wsX5_likes rX5_likes [.ref 0, .int x1] (mkH cn bk st r0 r1 r2 r3 r4 li fo tx co ke rf cp lk fl em tm rd) (some (.int o.1)) (mkH o.2.1 bk st r0 r1 r2 r3 r4 o.2.2 fo tx co ke rf cp lk fl em tm rd) := by
  refine Sp.of (lv := [some (.ref 0), some (.int x1)]) RX5 (by decide +kernel) rfl (Nat.le_of_ble_eq_true rfl) rfl ?_
  intro X C hT
  unfold fX5_likes at h
  refine wg_aload_n C dX5_likes_0 rfl ?_
  refine wg_get (v := .ref 1) C fgX5_likes_10 rfl rfl dX5_likes_1 ?_
  refine wg_iload_n C dX5_likes_4 rfl ?_
  obtain ⟨q1, e1q, h⟩ := bnd h
  refine wg_callV (n := 1) (As := [.int x1]) (st := []) (st' := [.int q1]) C (sX0_has cn bk st r0 r1 r2 r3 r4 li fo tx co ke rf cp lk fl em tm rd x1 q1 e1q) gX5_likes_X0_has rfl (by decide +kernel) ⟨⟨rfl, rfl⟩, Nat.le_of_ble_eq_true rfl, Nat.le_of_ble_eq_true rfl⟩ rfl rfl rfl rfl (Nat.le_of_ble_eq_true rfl) dX5_likes_5 rfl ?_
  refine wg_if_ne (tgt := 18) C dX5_likes_8 (by decide) (fun c2 => ?_) (fun c2 => ?_)
  · replace h := ifP c2 h
    refine wg_aload_n C dX5_likes_18 rfl ?_
    refine wg_get (v := .ref 21) C fgX5_likes_26 rfl rfl dX5_likes_19 ?_
    refine wg_aload_n C dX5_likes_22 rfl ?_
    refine wg_get (v := .ref 1) C fgX5_likes_10 rfl rfl dX5_likes_23 ?_
    refine wg_iconst (v := -1) C dX5_likes_26 (by decide) ?_
    obtain ⟨q3, e3q, h⟩ := bnd h
    refine wg_callV (n := 2) (As := [.ref 1, .int (-1 : Int32)]) (st := []) (st' := []) C (sX2_learn cn bk st r0 r1 r2 r3 r4 li fo tx co ke rf cp lk fl em tm rd (-1 : Int32) q3 e3q) gX5_likes_X2_learn rfl (by decide +kernel) ⟨⟨rfl, rfl⟩, Nat.le_of_ble_eq_true rfl, Nat.le_of_ble_eq_true rfl⟩ rfl rfl rfl rfl (Nat.le_of_ble_eq_true rfl) dX5_likes_27 rfl ?_
    refine wg_aload_n C dX5_likes_30 rfl ?_
    refine wg_get (v := .ref 21) C fgX5_likes_26 rfl rfl dX5_likes_31 ?_
    refine wg_iload_n C dX5_likes_34 rfl ?_
    obtain ⟨q4, e4q, h⟩ := bnd h
    refine wg_callV (n := 1) (As := [.int x1]) (st := []) (st' := [.int q4]) C (sX2_likeOnes cn bk st r0 r1 r2 r3 r4 q3 fo tx co ke rf cp lk fl em tm rd x1 q4 e4q) gX5_likes_X2_likeOnes rfl (by decide +kernel) ⟨⟨rfl, rfl⟩, Nat.le_of_ble_eq_true rfl, Nat.le_of_ble_eq_true rfl⟩ rfl rfl rfl rfl (Nat.le_of_ble_eq_true rfl) dX5_likes_35 rfl ?_
    obtain rfl := Option.some.inj h
    exact wg_iret C hT dX5_likes_38
  · replace h := ifN c2 h
    refine wg_aload_n C dX5_likes_11 rfl ?_
    refine wg_bipush (v := -2) C dX5_likes_12 (by decide) ?_
    obtain ⟨q5, e5q, h⟩ := bnd h
    refine wg_callV (n := 1) (As := [.int (-2 : Int32)]) (st := []) (st' := [.int q5.1]) C (sX5_refuseBad cn bk st r0 r1 r2 r3 r4 li fo tx co ke rf cp lk fl em tm rd (-2 : Int32) q5 e5q) gX5_likes_X5_refuseBad rfl (by decide +kernel) ⟨⟨rfl, rfl⟩, Nat.le_of_ble_eq_true rfl, Nat.le_of_ble_eq_true rfl⟩ rfl rfl rfl rfl (Nat.le_of_ble_eq_true rfl) dX5_likes_14 rfl ?_
    obtain rfl := Option.some.inj h
    exact wg_iret C hT dX5_likes_17
abbrev rX2_isNear : Room := { frames := 2, cells := 0, slots := 0, locals := 43 }
set_option maxRecDepth 100000 in
set_option maxHeartbeats 4000000 in
theorem sbX2_isNear_3 (X : CX) (C : Ok X RX2 cX2_isNear wsX2_isNear rX2_isNear) (cn : Tcn) (bk : Tbk) (st : Tst) (r0 : Tbk) (r1 : Tbk) (r2 : Tbk) (r3 : Tbk) (r4 : Tbk) (li : Tli) (fo : Tfo) (tx : Ttx) (co : Tco) (ke : Tke) (rf : (Nat → Int32)) (cp : Int32) (lk : Tlk) (fl : Tfl) (em : Int32) (tm : Ttm) (rd : Trd) (x1 : Int32) (x2 : Int32) (x3 : Int32) (z : Int32) (o : (Int32) ⊕ (Unit ⊕ Unit)) (h : bX2_isNear_3 li x1 x2 x3 z = some o) (k0 : ∀ a : Int32, o = .inl a → Wg X 3 [some (.ref 21), some (.int x1), some (.int x2), some (.int x3), some (.int a)] [] (mkH cn bk st r0 r1 r2 r3 r4 li fo tx co ke rf cp lk fl em tm rd)) (e0 : ∀ a : Unit, o = .inr (.inl a) → Wg X 25 [none, none, none, none, none] [] (mkH cn bk st r0 r1 r2 r3 r4 li fo tx co ke rf cp lk fl em tm rd)) (e1 : ∀ a : Unit, o = .inr (.inr a) → Wg X 33 [none, none, none, none, none] [] (mkH cn bk st r0 r1 r2 r3 r4 li fo tx co ke rf cp lk fl em tm rd)) : Wg X 3 [some (.ref 21), some (.int x1), some (.int x2), some (.int x3), some (.int z)] [] (mkH cn bk st r0 r1 r2 r3 r4 li fo tx co ke rf cp lk fl em tm rd) := by
  unfold bX2_isNear_3 at h
  refine wg_iload C dX2_isNear_3 rfl ?_
  refine wg_aload_n C dX2_isNear_5 rfl ?_
  refine wg_iload_n C dX2_isNear_6 rfl ?_
  refine wg_iload_n C dX2_isNear_7 rfl ?_
  obtain ⟨q1, e1q, h⟩ := bnd h
  refine wg_callV (n := 2) (As := [.int x1, .int x3]) (st := [.int z]) (st' := [.int q1, .int z]) C (sX2_nearOnes cn bk st r0 r1 r2 r3 r4 li fo tx co ke rf cp lk fl em tm rd x1 x3 q1 e1q) gX2_isNear_X2_nearOnes rfl (by decide +kernel) ⟨⟨rfl, rfl⟩, Nat.le_of_ble_eq_true rfl, Nat.le_of_ble_eq_true rfl⟩ rfl rfl rfl rfl (Nat.le_of_ble_eq_true rfl) dX2_isNear_8 rfl ?_
  refine wg_icmp_ge (tgt := 33) C dX2_isNear_11 (by decide) (fun c2 => ?_) (fun c2 => ?_)
  · replace h := ifP c2 h
    refine wg_drop (lv' := [none, none, none, none, none]) [0, 1, 2, 3, 4] rfl ?_
    have hk := e1 _ (Option.some.inj h).symm
    exact hk
  · replace h := ifN c2 h
    refine wg_aload_n C dX2_isNear_14 rfl ?_
    refine wg_iload_n C dX2_isNear_15 rfl ?_
    refine wg_iload C dX2_isNear_16 rfl ?_
    obtain ⟨q3, e3q, h⟩ := bnd h
    refine wg_callV (n := 2) (As := [.int x1, .int z]) (st := []) (st' := [.int q3]) C (sX2_near cn bk st r0 r1 r2 r3 r4 li fo tx co ke rf cp lk fl em tm rd x1 z q3 e3q) gX2_isNear_X2_near rfl (by decide +kernel) ⟨⟨rfl, rfl⟩, Nat.le_of_ble_eq_true rfl, Nat.le_of_ble_eq_true rfl⟩ rfl rfl rfl rfl (Nat.le_of_ble_eq_true rfl) dX2_isNear_18 rfl ?_
    refine wg_iload_n C dX2_isNear_21 rfl ?_
    refine wg_icmp_ne (tgt := 27) C dX2_isNear_22 (by decide) (fun c4 => ?_) (fun c4 => ?_)
    · replace h := ifP c4 h
      refine wg_iinc (v := (z + (1 : Int32))) (lv' := [some (.ref 21), some (.int x1), some (.int x2), some (.int x3), some (.int (z + (1 : Int32)))]) C dX2_isNear_27 rfl rfl rfl ?_
      refine wg_goto (tgt := 3) C dX2_isNear_30 (by decide) ?_
      have hk := k0 _ (Option.some.inj h).symm
      exact hk
    · replace h := ifN c4 h
      refine wg_drop (lv' := [none, none, none, none, none]) [0, 1, 2, 3, 4] rfl ?_
      have hk := e0 _ (Option.some.inj h).symm
      exact hk
set_option maxRecDepth 100000 in
set_option maxHeartbeats 4000000 in
theorem slX2_isNear_3 (X : CX) (C : Ok X RX2 cX2_isNear wsX2_isNear rX2_isNear) (cn : Tcn) (bk : Tbk) (st : Tst) (r0 : Tbk) (r1 : Tbk) (r2 : Tbk) (r3 : Tbk) (r4 : Tbk) (li : Tli) (fo : Tfo) (tx : Ttx) (co : Tco) (ke : Tke) (rf : (Nat → Int32)) (cp : Int32) (lk : Tlk) (fl : Tfl) (em : Int32) (tm : Ttm) (rd : Trd) (x1 : Int32) (x2 : Int32) (x3 : Int32) (o : (Unit ⊕ Unit)) (e0 : ∀ a : Unit, o = (.inl a) → Wg X 25 [none, none, none, none, none] [] (mkH cn bk st r0 r1 r2 r3 r4 li fo tx co ke rf cp lk fl em tm rd)) (e1 : ∀ a : Unit, o = (.inr a) → Wg X 33 [none, none, none, none, none] [] (mkH cn bk st r0 r1 r2 r3 r4 li fo tx co ke rf cp lk fl em tm rd)) : ∀ (n : Nat) (z : Int32), lpF (bX2_isNear_3 li x1 x2 x3) n z = some o → Wg X 3 [some (.ref 21), some (.int x1), some (.int x2), some (.int x3), some (.int z)] [] (mkH cn bk st r0 r1 r2 r3 r4 li fo tx co ke rf cp lk fl em tm rd) := by
  intro n
  induction n with
  | zero => intro z h; cases h
  | succ n ih =>
    intro z h
    obtain ⟨r, hB, h⟩ := bnd h
    refine sbX2_isNear_3 X C cn bk st r0 r1 r2 r3 r4 li fo tx co ke rf cp lk fl em tm rd x1 x2 x3 z r hB (fun a e => ih a (by subst e; exact h)) (fun a e => e0 a (by subst e; exact (Option.some.inj h).symm)) (fun a e => e1 a (by subst e; exact (Option.some.inj h).symm))
set_option maxRecDepth 100000 in
set_option maxHeartbeats 4000000 in
theorem sX2_isNear (cn : Tcn) (bk : Tbk) (st : Tst) (r0 : Tbk) (r1 : Tbk) (r2 : Tbk) (r3 : Tbk) (r4 : Tbk) (li : Tli) (fo : Tfo) (tx : Ttx) (co : Tco) (ke : Tke) (rf : (Nat → Int32)) (cp : Int32) (lk : Tlk) (fl : Tfl) (em : Int32) (tm : Ttm) (rd : Trd) (x1 : Int32) (x2 : Int32) (x3 : Int32) (o : Int32) (h : fX2_isNear li x1 x2 x3 = some o) : Sp yX2_isNear wsX2_isNear rX2_isNear [.ref 21, .int x1, .int x2, .int x3] (mkH cn bk st r0 r1 r2 r3 r4 li fo tx co ke rf cp lk fl em tm rd) (some (.int o)) (mkH cn bk st r0 r1 r2 r3 r4 li fo tx co ke rf cp lk fl em tm rd) := by
  refine Sp.of (lv := [some (.ref 21), some (.int x1), some (.int x2), some (.int x3), none]) RX2 (by decide +kernel) rfl (Nat.le_of_ble_eq_true rfl) rfl ?_
  intro X C hT
  unfold fX2_isNear at h
  refine wg_iconst (v := 0) C dX2_isNear_0 (by decide) ?_
  refine wg_istore (lv' := [some (.ref 21), some (.int x1), some (.int x2), some (.int x3), some (.int (0 : Int32))]) C dX2_isNear_1 (Nat.le_of_ble_eq_true rfl) rfl ?_
  obtain ⟨t5, hL5, h⟩ := bnd h
  refine slX2_isNear_3 X C cn bk st r0 r1 r2 r3 r4 li fo tx co ke rf cp lk fl em tm rd x1 x2 x3 t5 (fun u5 e => ?_) (fun u5 e => ?_) FU (0 : Int32) hL5
  · subst e
    refine wg_iconst (v := 1) C dX2_isNear_25 (by decide) ?_
    obtain rfl := Option.some.inj h
    exact wg_zret C hT (by decide) dX2_isNear_26
  · subst e
    refine wg_iconst (v := 0) C dX2_isNear_33 (by decide) ?_
    obtain rfl := Option.some.inj h
    exact wg_zret C hT (by decide) dX2_isNear_34
abbrev rX5_serves : Room := { frames := 5, cells := 0, slots := 0, locals := 121 }
theorem iwX5_serves_5 : ∀ w ∈ wsX50, w ∈ wsX5_serves := by decide +kernel
theorem fgX5_serves_10 : FG wsX5_serves RX5 10 5 0 := ⟨RX5, TX5, 8, rfl, by decide, by decide +kernel, iwX5_serves_5⟩
theorem fgX5_serves_26 : FG wsX5_serves RX5 26 5 2 := ⟨RX5, TX5, 8, rfl, by decide, by decide +kernel, iwX5_serves_5⟩
set_option maxRecDepth 100000 in
set_option maxHeartbeats 4000000 in
theorem sjX5_serves_34_67 (X : CX) (C : Ok X RX5 cX5_serves wsX5_serves rX5_serves) (cn : Tcn) (bk : Tbk) (st : Tst) (r0 : Tbk) (r1 : Tbk) (r2 : Tbk) (r3 : Tbk) (r4 : Tbk) (li : Tli) (fo : Tfo) (tx : Ttx) (co : Tco) (ke : Tke) (rf : (Nat → Int32)) (cp : Int32) (lk : Tlk) (fl : Tfl) (em : Int32) (tm : Ttm) (rd : Trd) (x1 : Int32) (x2 : Int32) (x3 : Int32) (o : (Int32 × Int32) ⊕ Int32) (h : jX5_serves_34_67 cn bk li x1 x2 x3 = some o) (k0 : ∀ a : Int32 × Int32, o = .inl a → Wg X 34 [some (.ref 0), some (.int x1), some (.int a.1), some (.int a.2)] [] (mkH cn bk st r0 r1 r2 r3 r4 li fo tx co ke rf cp lk fl em tm rd)) (e0 : ∀ a : Int32, o = .inr a → Wg X 73 [none, none, some (.int a), none] [] (mkH cn bk st r0 r1 r2 r3 r4 li fo tx co ke rf cp lk fl em tm rd)) : Wg X 67 [some (.ref 0), some (.int x1), some (.int x2), some (.int x3)] [] (mkH cn bk st r0 r1 r2 r3 r4 li fo tx co ke rf cp lk fl em tm rd) := by
  unfold jX5_serves_34_67 at h
  refine wg_iinc (v := (x3 + (1 : Int32))) (lv' := [some (.ref 0), some (.int x1), some (.int x2), some (.int (x3 + (1 : Int32)))]) C dX5_serves_67 rfl rfl rfl ?_
  refine wg_goto (tgt := 34) C dX5_serves_70 (by decide) ?_
  have hk := k0 _ (Option.some.inj h).symm
  exact hk
set_option maxRecDepth 100000 in
set_option maxHeartbeats 4000000 in
theorem sbX5_serves_34 (X : CX) (C : Ok X RX5 cX5_serves wsX5_serves rX5_serves) (cn : Tcn) (bk : Tbk) (st : Tst) (r0 : Tbk) (r1 : Tbk) (r2 : Tbk) (r3 : Tbk) (r4 : Tbk) (li : Tli) (fo : Tfo) (tx : Ttx) (co : Tco) (ke : Tke) (rf : (Nat → Int32)) (cp : Int32) (lk : Tlk) (fl : Tfl) (em : Int32) (tm : Ttm) (rd : Trd) (x1 : Int32) (z : Int32 × Int32) (o : (Int32 × Int32) ⊕ Int32) (h : bX5_serves_34 cn bk li x1 z = some o) (k0 : ∀ a : Int32 × Int32, o = .inl a → Wg X 34 [some (.ref 0), some (.int x1), some (.int a.1), some (.int a.2)] [] (mkH cn bk st r0 r1 r2 r3 r4 li fo tx co ke rf cp lk fl em tm rd)) (e0 : ∀ a : Int32, o = .inr a → Wg X 73 [none, none, some (.int a), none] [] (mkH cn bk st r0 r1 r2 r3 r4 li fo tx co ke rf cp lk fl em tm rd)) : Wg X 34 [some (.ref 0), some (.int x1), some (.int z.1), some (.int z.2)] [] (mkH cn bk st r0 r1 r2 r3 r4 li fo tx co ke rf cp lk fl em tm rd) := by
  unfold bX5_serves_34 at h
  refine wg_iload_n C dX5_serves_34 rfl ?_
  refine wg_aload_n C dX5_serves_35 rfl ?_
  refine wg_get (v := .ref 1) C fgX5_serves_10 rfl rfl dX5_serves_36 ?_
  obtain ⟨q4, e4q, h⟩ := bnd h
  refine wg_callV (n := 0) (As := []) (st := [.int z.2]) (st' := [.int q4, .int z.2]) C (sX0_days cn bk st r0 r1 r2 r3 r4 li fo tx co ke rf cp lk fl em tm rd  q4 e4q) gX5_serves_X0_days rfl (by decide +kernel) ⟨⟨rfl, rfl⟩, Nat.le_of_ble_eq_true rfl, Nat.le_of_ble_eq_true rfl⟩ rfl rfl rfl rfl (Nat.le_of_ble_eq_true rfl) dX5_serves_39 rfl ?_
  refine wg_icmp_ge (tgt := 73) C dX5_serves_42 (by decide) (fun c5 => ?_) (fun c5 => ?_)
  · replace h := ifP c5 h
    refine wg_drop (lv' := [none, none, some (.int z.1), none]) [0, 1, 3] rfl ?_
    have hk := e0 _ (Option.some.inj h).symm
    exact hk
  · replace h := ifN c5 h
    refine wg_aload_n C dX5_serves_45 rfl ?_
    refine wg_get (v := .ref 21) C fgX5_serves_26 rfl rfl dX5_serves_46 ?_
    refine wg_iload_n C dX5_serves_49 rfl ?_
    refine wg_iload_n C dX5_serves_50 rfl ?_
    refine wg_aload_n C dX5_serves_51 rfl ?_
    refine wg_get (v := .ref 1) C fgX5_serves_10 rfl rfl dX5_serves_52 ?_
    obtain ⟨q6, e6q, h⟩ := bnd h
    refine wg_callV (n := 0) (As := []) (st := [.int x1, .int z.2, .ref 21]) (st' := [.int q6, .int x1, .int z.2, .ref 21]) C (sX0_few cn bk st r0 r1 r2 r3 r4 li fo tx co ke rf cp lk fl em tm rd  q6 e6q) gX5_serves_X0_few rfl (by decide +kernel) ⟨⟨rfl, rfl⟩, Nat.le_of_ble_eq_true rfl, Nat.le_of_ble_eq_true rfl⟩ rfl rfl rfl rfl (Nat.le_of_ble_eq_true rfl) dX5_serves_55 rfl ?_
    obtain ⟨q7, e7q, h⟩ := bnd h
    refine wg_callV (n := 3) (As := [.int z.2, .int x1, .int q6]) (st := []) (st' := [.int q7]) C (sX2_isNear cn bk st r0 r1 r2 r3 r4 li fo tx co ke rf cp lk fl em tm rd z.2 x1 q6 q7 e7q) gX5_serves_X2_isNear rfl (by decide +kernel) ⟨⟨rfl, rfl⟩, Nat.le_of_ble_eq_true rfl, Nat.le_of_ble_eq_true rfl⟩ rfl rfl rfl rfl (Nat.le_of_ble_eq_true rfl) dX5_serves_58 rfl ?_
    refine wg_if_eq (tgt := 67) C dX5_serves_61 (by decide) (fun c8 => ?_) (fun c8 => ?_)
    · replace h := ifP c8 h
      exact sjX5_serves_34_67 X C cn bk st r0 r1 r2 r3 r4 li fo tx co ke rf cp lk fl em tm rd x1 z.1 z.2 _ h k0 e0
    · replace h := ifN c8 h
      refine wg_iinc (v := (z.1 + (1 : Int32))) (lv' := [some (.ref 0), some (.int x1), some (.int (z.1 + (1 : Int32))), some (.int z.2)]) C dX5_serves_64 rfl rfl rfl ?_
      exact sjX5_serves_34_67 X C cn bk st r0 r1 r2 r3 r4 li fo tx co ke rf cp lk fl em tm rd x1 (z.1 + (1 : Int32)) z.2 _ h k0 e0
set_option maxRecDepth 100000 in
set_option maxHeartbeats 4000000 in
theorem slX5_serves_34 (X : CX) (C : Ok X RX5 cX5_serves wsX5_serves rX5_serves) (cn : Tcn) (bk : Tbk) (st : Tst) (r0 : Tbk) (r1 : Tbk) (r2 : Tbk) (r3 : Tbk) (r4 : Tbk) (li : Tli) (fo : Tfo) (tx : Ttx) (co : Tco) (ke : Tke) (rf : (Nat → Int32)) (cp : Int32) (lk : Tlk) (fl : Tfl) (em : Int32) (tm : Ttm) (rd : Trd) (x1 : Int32) (o : Int32) (e0 : ∀ a : Int32, o = a → Wg X 73 [none, none, some (.int a), none] [] (mkH cn bk st r0 r1 r2 r3 r4 li fo tx co ke rf cp lk fl em tm rd)) : ∀ (n : Nat) (z : Int32 × Int32), lpF (bX5_serves_34 cn bk li x1) n z = some o → Wg X 34 [some (.ref 0), some (.int x1), some (.int z.1), some (.int z.2)] [] (mkH cn bk st r0 r1 r2 r3 r4 li fo tx co ke rf cp lk fl em tm rd) := by
  intro n
  induction n with
  | zero => intro z h; cases h
  | succ n ih =>
    intro z h
    obtain ⟨r, hB, h⟩ := bnd h
    refine sbX5_serves_34 X C cn bk st r0 r1 r2 r3 r4 li fo tx co ke rf cp lk fl em tm rd x1 z r hB (fun a e => ih a (by subst e; exact h)) (fun a e => e0 a (by subst e; exact (Option.some.inj h).symm))
set_option maxRecDepth 100000 in
set_option maxHeartbeats 4000000 in
theorem sX5_serves (cn : Tcn) (bk : Tbk) (st : Tst) (r0 : Tbk) (r1 : Tbk) (r2 : Tbk) (r3 : Tbk) (r4 : Tbk) (li : Tli) (fo : Tfo) (tx : Ttx) (co : Tco) (ke : Tke) (rf : (Nat → Int32)) (cp : Int32) (lk : Tlk) (fl : Tfl) (em : Int32) (tm : Ttm) (rd : Trd) (x1 : Int32) (o : Int32 × Tcn × Tli) (h : fX5_serves cn bk li x1 = some o) : Sp yX5_serves wsX5_serves rX5_serves [.ref 0, .int x1] (mkH cn bk st r0 r1 r2 r3 r4 li fo tx co ke rf cp lk fl em tm rd) (some (.int o.1)) (mkH o.2.1 bk st r0 r1 r2 r3 r4 o.2.2 fo tx co ke rf cp lk fl em tm rd) := by
  refine Sp.of (lv := [some (.ref 0), some (.int x1), none, none]) RX5 (by decide +kernel) rfl (Nat.le_of_ble_eq_true rfl) rfl ?_
  intro X C hT
  unfold fX5_serves at h
  refine wg_aload_n C dX5_serves_0 rfl ?_
  refine wg_get (v := .ref 1) C fgX5_serves_10 rfl rfl dX5_serves_1 ?_
  refine wg_iload_n C dX5_serves_4 rfl ?_
  obtain ⟨q1, e1q, h⟩ := bnd h
  refine wg_callV (n := 1) (As := [.int x1]) (st := []) (st' := [.int q1]) C (sX0_has cn bk st r0 r1 r2 r3 r4 li fo tx co ke rf cp lk fl em tm rd x1 q1 e1q) gX5_serves_X0_has rfl (by decide +kernel) ⟨⟨rfl, rfl⟩, Nat.le_of_ble_eq_true rfl, Nat.le_of_ble_eq_true rfl⟩ rfl rfl rfl rfl (Nat.le_of_ble_eq_true rfl) dX5_serves_5 rfl ?_
  refine wg_if_ne (tgt := 18) C dX5_serves_8 (by decide) (fun c2 => ?_) (fun c2 => ?_)
  · replace h := ifP c2 h
    refine wg_aload_n C dX5_serves_18 rfl ?_
    refine wg_get (v := .ref 21) C fgX5_serves_26 rfl rfl dX5_serves_19 ?_
    refine wg_aload_n C dX5_serves_22 rfl ?_
    refine wg_get (v := .ref 1) C fgX5_serves_10 rfl rfl dX5_serves_23 ?_
    refine wg_iconst (v := -1) C dX5_serves_26 (by decide) ?_
    obtain ⟨q3, e3q, h⟩ := bnd h
    refine wg_callV (n := 2) (As := [.ref 1, .int (-1 : Int32)]) (st := []) (st' := []) C (sX2_learn cn bk st r0 r1 r2 r3 r4 li fo tx co ke rf cp lk fl em tm rd (-1 : Int32) q3 e3q) gX5_serves_X2_learn rfl (by decide +kernel) ⟨⟨rfl, rfl⟩, Nat.le_of_ble_eq_true rfl, Nat.le_of_ble_eq_true rfl⟩ rfl rfl rfl rfl (Nat.le_of_ble_eq_true rfl) dX5_serves_27 rfl ?_
    refine wg_iconst (v := 0) C dX5_serves_30 (by decide) ?_
    refine wg_istore_n (lv' := [some (.ref 0), some (.int x1), some (.int (0 : Int32)), none]) C dX5_serves_31 (Nat.le_of_ble_eq_true rfl) rfl ?_
    refine wg_iconst (v := 0) C dX5_serves_32 (by decide) ?_
    refine wg_istore_n (lv' := [some (.ref 0), some (.int x1), some (.int (0 : Int32)), some (.int (0 : Int32))]) C dX5_serves_33 (Nat.le_of_ble_eq_true rfl) rfl ?_
    obtain ⟨t9, hL9, h⟩ := bnd h
    refine slX5_serves_34 X C cn bk st r0 r1 r2 r3 r4 q3 fo tx co ke rf cp lk fl em tm rd x1 t9 (fun a e => ?_) FU ((0 : Int32), (0 : Int32)) hL9
    subst e
    refine wg_iload_n C dX5_serves_73 rfl ?_
    obtain rfl := Option.some.inj h
    exact wg_iret C hT dX5_serves_74
  · replace h := ifN c2 h
    refine wg_aload_n C dX5_serves_11 rfl ?_
    refine wg_bipush (v := -2) C dX5_serves_12 (by decide) ?_
    obtain ⟨q10, e10q, h⟩ := bnd h
    refine wg_callV (n := 1) (As := [.int (-2 : Int32)]) (st := []) (st' := [.int q10.1]) C (sX5_refuseBad cn bk st r0 r1 r2 r3 r4 li fo tx co ke rf cp lk fl em tm rd (-2 : Int32) q10 e10q) gX5_serves_X5_refuseBad rfl (by decide +kernel) ⟨⟨rfl, rfl⟩, Nat.le_of_ble_eq_true rfl, Nat.le_of_ble_eq_true rfl⟩ rfl rfl rfl rfl (Nat.le_of_ble_eq_true rfl) dX5_serves_14 rfl ?_
    obtain rfl := Option.some.inj h
    exact wg_iret C hT dX5_serves_17
