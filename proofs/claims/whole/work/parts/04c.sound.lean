abbrev rX5_isLess : Room := { frames := 0, cells := 0, slots := 0, locals := 0 }
set_option maxRecDepth 100000 in
set_option maxHeartbeats 4000000 in
theorem sjX5_isLess_23 (X : CX) (C : Ok X RX5 cX5_isLess wsX5_isLess rX5_isLess) (cn : Tcn) (bk : Tbk) (st : Tst) (r0 : Tbk) (r1 : Tbk) (r2 : Tbk) (r3 : Tbk) (r4 : Tbk) (li : Tli) (fo : Tfo) (tx : Ttx) (co : Tco) (ke : Tke) (rf : (Nat → Int32)) (cp : Int32) (lk : Tlk) (fl : Tfl) (em : Int32) (tm : Ttm) (rd : Trd) (y0 : Int32) (o : Int32) (h : jX5_isLess_23  y0 = some o) (hT : Rt X (some .boolean) (some (.int o)) (mkH cn bk st r0 r1 r2 r3 r4 li fo tx co ke rf cp lk fl em tm rd)) : Wg X 23 [none, none] [.int y0] (mkH cn bk st r0 r1 r2 r3 r4 li fo tx co ke rf cp lk fl em tm rd) := by
  unfold jX5_isLess_23 at h
  obtain ⟨g2, h⟩ := gdP h
  obtain rfl := Option.some.inj h
  exact wg_zret C hT (of_decide_eq_true g2) dX5_isLess_23
set_option maxRecDepth 100000 in
set_option maxHeartbeats 4000000 in
theorem sjX5_isLess_22 (X : CX) (C : Ok X RX5 cX5_isLess wsX5_isLess rX5_isLess) (cn : Tcn) (bk : Tbk) (st : Tst) (r0 : Tbk) (r1 : Tbk) (r2 : Tbk) (r3 : Tbk) (r4 : Tbk) (li : Tli) (fo : Tfo) (tx : Ttx) (co : Tco) (ke : Tke) (rf : (Nat → Int32)) (cp : Int32) (lk : Tlk) (fl : Tfl) (em : Int32) (tm : Ttm) (rd : Trd)  (o : Int32) (h : jX5_isLess_22   = some o) (hT : Rt X (some .boolean) (some (.int o)) (mkH cn bk st r0 r1 r2 r3 r4 li fo tx co ke rf cp lk fl em tm rd)) : Wg X 22 [none, none] [] (mkH cn bk st r0 r1 r2 r3 r4 li fo tx co ke rf cp lk fl em tm rd) := by
  unfold jX5_isLess_22 at h
  refine wg_iconst (v := 0) C dX5_isLess_22 (by decide) ?_
  exact sjX5_isLess_23 X C cn bk st r0 r1 r2 r3 r4 li fo tx co ke rf cp lk fl em tm rd (0 : Int32) _ h hT
set_option maxRecDepth 100000 in
set_option maxHeartbeats 4000000 in
theorem sjX5_isLess_18 (X : CX) (C : Ok X RX5 cX5_isLess wsX5_isLess rX5_isLess) (cn : Tcn) (bk : Tbk) (st : Tst) (r0 : Tbk) (r1 : Tbk) (r2 : Tbk) (r3 : Tbk) (r4 : Tbk) (li : Tli) (fo : Tfo) (tx : Ttx) (co : Tco) (ke : Tke) (rf : (Nat → Int32)) (cp : Int32) (lk : Tlk) (fl : Tfl) (em : Int32) (tm : Ttm) (rd : Trd)  (o : Int32) (h : jX5_isLess_18   = some o) (hT : Rt X (some .boolean) (some (.int o)) (mkH cn bk st r0 r1 r2 r3 r4 li fo tx co ke rf cp lk fl em tm rd)) : Wg X 18 [none, none] [] (mkH cn bk st r0 r1 r2 r3 r4 li fo tx co ke rf cp lk fl em tm rd) := by
  unfold jX5_isLess_18 at h
  refine wg_iconst (v := 1) C dX5_isLess_18 (by decide) ?_
  refine wg_goto (tgt := 23) C dX5_isLess_19 (by decide) ?_
  exact sjX5_isLess_23 X C cn bk st r0 r1 r2 r3 r4 li fo tx co ke rf cp lk fl em tm rd (1 : Int32) _ h hT
set_option maxRecDepth 100000 in
set_option maxHeartbeats 4000000 in
theorem sX5_isLess (cn : Tcn) (bk : Tbk) (st : Tst) (r0 : Tbk) (r1 : Tbk) (r2 : Tbk) (r3 : Tbk) (r4 : Tbk) (li : Tli) (fo : Tfo) (tx : Ttx) (co : Tco) (ke : Tke) (rf : (Nat → Int32)) (cp : Int32) (lk : Tlk) (fl : Tfl) (em : Int32) (tm : Ttm) (rd : Trd) (x0 : UInt32) (x1 : UInt32) (o : Int32) (h : fX5_isLess  x0 x1 = some o) : Sp yX5_isLess wsX5_isLess rX5_isLess [.float x0, .float x1] (mkH cn bk st r0 r1 r2 r3 r4 li fo tx co ke rf cp lk fl em tm rd) (some (.int o)) (mkH cn bk st r0 r1 r2 r3 r4 li fo tx co ke rf cp lk fl em tm rd) := by
  refine Sp.of (lv := [some (.float x0), some (.float x1)]) RX5 (by decide +kernel) rfl (Nat.le_of_ble_eq_true rfl) rfl ?_
  intro X C hT
  unfold fX5_isLess at h
  refine wg_fload_n C dX5_isLess_0 rfl ?_
  refine wg_fconst0 C dX5_isLess_1 ?_
  refine wg_fcmp C dX5_isLess_2 ?_
  refine wg_if_lt (tgt := 22) C dX5_isLess_3 (by decide) (fun c1 => ?_) (fun c1 => ?_)
  · replace h := ifP c1 h
    refine wg_drop (lv' := [none, none]) [0, 1] rfl ?_
    exact sjX5_isLess_22 X C cn bk st r0 r1 r2 r3 r4 li fo tx co ke rf cp lk fl em tm rd  _ h hT
  · replace h := ifN c1 h
    refine wg_fload_n C dX5_isLess_6 rfl ?_
    refine wg_fconst0 C dX5_isLess_7 ?_
    refine wg_fcmp C dX5_isLess_8 ?_
    refine wg_if_lt (tgt := 18) C dX5_isLess_9 (by decide) (fun c3 => ?_) (fun c3 => ?_)
    · replace h := ifP c3 h
      refine wg_drop (lv' := [none, none]) [0, 1] rfl ?_
      exact sjX5_isLess_18 X C cn bk st r0 r1 r2 r3 r4 li fo tx co ke rf cp lk fl em tm rd  _ h hT
    · replace h := ifN c3 h
      refine wg_fload_n C dX5_isLess_12 rfl ?_
      refine wg_fload_n C dX5_isLess_13 rfl ?_
      refine wg_fcmp C dX5_isLess_14 ?_
      refine wg_if_ge (tgt := 22) C dX5_isLess_15 (by decide) (fun c4 => ?_) (fun c4 => ?_)
      · replace h := ifP c4 h
        refine wg_drop (lv' := [none, none]) [0, 1] rfl ?_
        exact sjX5_isLess_22 X C cn bk st r0 r1 r2 r3 r4 li fo tx co ke rf cp lk fl em tm rd  _ h hT
      · replace h := ifN c4 h
        refine wg_drop (lv' := [none, none]) [0, 1] rfl ?_
        exact sjX5_isLess_18 X C cn bk st r0 r1 r2 r3 r4 li fo tx co ke rf cp lk fl em tm rd  _ h hT
abbrev rX5_twins : Room := { frames := 5, cells := 0, slots := 0, locals := 121 }
theorem iwX5_twins_5 : ∀ w ∈ wsX50, w ∈ wsX5_twins := by decide +kernel
theorem fgX5_twins_10 : FG wsX5_twins RX5 10 5 0 := ⟨RX5, TX5, 8, rfl, by decide, by decide +kernel, iwX5_twins_5⟩
theorem fgX5_twins_26 : FG wsX5_twins RX5 26 5 2 := ⟨RX5, TX5, 8, rfl, by decide, by decide +kernel, iwX5_twins_5⟩
set_option maxRecDepth 100000 in
set_option maxHeartbeats 4000000 in
theorem sjX5_twins_57_102 (X : CX) (C : Ok X RX5 cX5_twins wsX5_twins rX5_twins) (cn : Tcn) (bk : Tbk) (st : Tst) (r0 : Tbk) (r1 : Tbk) (r2 : Tbk) (r3 : Tbk) (r4 : Tbk) (li : Tli) (fo : Tfo) (tx : Ttx) (co : Tco) (ke : Tke) (rf : (Nat → Int32)) (cp : Int32) (lk : Tlk) (fl : Tfl) (em : Int32) (tm : Ttm) (rd : Trd) (x1 : Int32) (x2 : Int32) (x3 : Int32) (x4 : UInt32) (x5 : Int32) (x6 : Int32) (o : (Int32 × Int32 × UInt32 × Int32) ⊕ (Int32 × Int32 × UInt32)) (h : jX5_twins_57_102 cn bk li x1 x2 x3 x4 x5 x6 = some o) (k0 : ∀ a : Int32 × Int32 × UInt32 × Int32, o = .inl a → Wg X 57 [some (.ref 0), some (.int x1), some (.int a.1), some (.int a.2.1), some (.float a.2.2.1), some (.int x5), some (.int a.2.2.2), none] [] (mkH cn bk st r0 r1 r2 r3 r4 li fo tx co ke rf cp lk fl em tm rd)) (e0 : ∀ a : Int32 × Int32 × UInt32, o = .inr a → Wg X 108 [some (.ref 0), some (.int x1), some (.int a.1), some (.int a.2.1), some (.float a.2.2), some (.int x5), none, none] [] (mkH cn bk st r0 r1 r2 r3 r4 li fo tx co ke rf cp lk fl em tm rd)) : Wg X 102 [some (.ref 0), some (.int x1), some (.int x2), some (.int x3), some (.float x4), some (.int x5), some (.int x6), none] [] (mkH cn bk st r0 r1 r2 r3 r4 li fo tx co ke rf cp lk fl em tm rd) := by
  unfold jX5_twins_57_102 at h
  refine wg_iinc (v := (x6 + (1 : Int32))) (lv' := [some (.ref 0), some (.int x1), some (.int x2), some (.int x3), some (.float x4), some (.int x5), some (.int (x6 + (1 : Int32))), none]) C dX5_twins_102 rfl rfl rfl ?_
  refine wg_goto (tgt := 57) C dX5_twins_105 (by decide) ?_
  have hk := k0 _ (Option.some.inj h).symm
  exact hk
set_option maxRecDepth 100000 in
set_option maxHeartbeats 4000000 in
theorem sbX5_twins_57 (X : CX) (C : Ok X RX5 cX5_twins wsX5_twins rX5_twins) (cn : Tcn) (bk : Tbk) (st : Tst) (r0 : Tbk) (r1 : Tbk) (r2 : Tbk) (r3 : Tbk) (r4 : Tbk) (li : Tli) (fo : Tfo) (tx : Ttx) (co : Tco) (ke : Tke) (rf : (Nat → Int32)) (cp : Int32) (lk : Tlk) (fl : Tfl) (em : Int32) (tm : Ttm) (rd : Trd) (x1 : Int32) (x5 : Int32) (z : Int32 × Int32 × UInt32 × Int32) (o : (Int32 × Int32 × UInt32 × Int32) ⊕ (Int32 × Int32 × UInt32)) (h : bX5_twins_57 cn bk li x1 x5 z = some o) (k0 : ∀ a : Int32 × Int32 × UInt32 × Int32, o = .inl a → Wg X 57 [some (.ref 0), some (.int x1), some (.int a.1), some (.int a.2.1), some (.float a.2.2.1), some (.int x5), some (.int a.2.2.2), none] [] (mkH cn bk st r0 r1 r2 r3 r4 li fo tx co ke rf cp lk fl em tm rd)) (e0 : ∀ a : Int32 × Int32 × UInt32, o = .inr a → Wg X 108 [some (.ref 0), some (.int x1), some (.int a.1), some (.int a.2.1), some (.float a.2.2), some (.int x5), none, none] [] (mkH cn bk st r0 r1 r2 r3 r4 li fo tx co ke rf cp lk fl em tm rd)) : Wg X 57 [some (.ref 0), some (.int x1), some (.int z.1), some (.int z.2.1), some (.float z.2.2.1), some (.int x5), some (.int z.2.2.2), none] [] (mkH cn bk st r0 r1 r2 r3 r4 li fo tx co ke rf cp lk fl em tm rd) := by
  unfold bX5_twins_57 at h
  refine wg_iload C dX5_twins_57 rfl ?_
  refine wg_aload_n C dX5_twins_59 rfl ?_
  refine wg_get (v := .ref 1) C fgX5_twins_10 rfl rfl dX5_twins_60 ?_
  obtain ⟨q6, e6q, h⟩ := bnd h
  refine wg_callV (n := 0) (As := []) (st := [.int z.2.2.2]) (st' := [.int q6, .int z.2.2.2]) C (sX0_days cn bk st r0 r1 r2 r3 r4 li fo tx co ke rf cp lk fl em tm rd  q6 e6q) gX5_twins_X0_days rfl (by decide +kernel) ⟨⟨rfl, rfl⟩, Nat.le_of_ble_eq_true rfl, Nat.le_of_ble_eq_true rfl⟩ rfl rfl rfl rfl (Nat.le_of_ble_eq_true rfl) dX5_twins_63 rfl ?_
  refine wg_icmp_ge (tgt := 108) C dX5_twins_66 (by decide) (fun c7 => ?_) (fun c7 => ?_)
  · replace h := ifP c7 h
    refine wg_drop (lv' := [some (.ref 0), some (.int x1), some (.int z.1), some (.int z.2.1), some (.float z.2.2.1), some (.int x5), none, none]) [6] rfl ?_
    have hk := e0 _ (Option.some.inj h).symm
    exact hk
  · replace h := ifN c7 h
    refine wg_aload_n C dX5_twins_69 rfl ?_
    refine wg_get (v := .ref 21) C fgX5_twins_26 rfl rfl dX5_twins_70 ?_
    refine wg_iload C dX5_twins_73 rfl ?_
    refine wg_iload C dX5_twins_75 rfl ?_
    obtain ⟨q8, e8q, h⟩ := bnd h
    refine wg_callV (n := 2) (As := [.int x5, .int z.2.2.2]) (st := []) (st' := [.float q8]) C (sX2_between cn bk st r0 r1 r2 r3 r4 li fo tx co ke rf cp lk fl em tm rd x5 z.2.2.2 q8 e8q) gX5_twins_X2_between rfl (by decide +kernel) ⟨⟨rfl, rfl⟩, Nat.le_of_ble_eq_true rfl, Nat.le_of_ble_eq_true rfl⟩ rfl rfl rfl rfl (Nat.le_of_ble_eq_true rfl) dX5_twins_77 rfl ?_
    refine wg_fstore (lv' := [some (.ref 0), some (.int x1), some (.int z.1), some (.int z.2.1), some (.float z.2.2.1), some (.int x5), some (.int z.2.2.2), some (.float q8)]) C dX5_twins_80 (Nat.le_of_ble_eq_true rfl) rfl ?_
    refine wg_fload C dX5_twins_82 rfl ?_
    refine wg_fload C dX5_twins_84 rfl ?_
    obtain ⟨q9, e9q, h⟩ := bnd h
    refine wg_callT (n := 2) (As := [.float q8, .float z.2.2.1]) (st := []) (st' := [.int q9]) C (sX5_isLess cn bk st r0 r1 r2 r3 r4 li fo tx co ke rf cp lk fl em tm rd q8 z.2.2.1 q9 e9q) gX5_twins_X5_isLess rfl (by decide +kernel) ⟨⟨rfl, rfl⟩, Nat.le_of_ble_eq_true rfl, Nat.le_of_ble_eq_true rfl⟩ rfl rfl (Nat.le_of_ble_eq_true rfl) dX5_twins_86 rfl ?_
    refine wg_if_eq (tgt := 102) C dX5_twins_89 (by decide) (fun c10 => ?_) (fun c10 => ?_)
    · replace h := ifP c10 h
      refine wg_drop (lv' := [some (.ref 0), some (.int x1), some (.int z.1), some (.int z.2.1), some (.float z.2.2.1), some (.int x5), some (.int z.2.2.2), none]) [7] rfl ?_
      exact sjX5_twins_57_102 X C cn bk st r0 r1 r2 r3 r4 li fo tx co ke rf cp lk fl em tm rd x1 z.1 z.2.1 z.2.2.1 x5 z.2.2.2 _ h k0 e0
    · replace h := ifN c10 h
      refine wg_fload C dX5_twins_92 rfl ?_
      refine wg_fstore (lv' := [some (.ref 0), some (.int x1), some (.int z.1), some (.int z.2.1), some (.float q8), some (.int x5), some (.int z.2.2.2), some (.float q8)]) C dX5_twins_94 (Nat.le_of_ble_eq_true rfl) rfl ?_
      refine wg_iload C dX5_twins_96 rfl ?_
      refine wg_istore_n (lv' := [some (.ref 0), some (.int x1), some (.int x5), some (.int z.2.1), some (.float q8), some (.int x5), some (.int z.2.2.2), some (.float q8)]) C dX5_twins_98 (Nat.le_of_ble_eq_true rfl) rfl ?_
      refine wg_iload C dX5_twins_99 rfl ?_
      refine wg_istore_n (lv' := [some (.ref 0), some (.int x1), some (.int x5), some (.int z.2.2.2), some (.float q8), some (.int x5), some (.int z.2.2.2), some (.float q8)]) C dX5_twins_101 (Nat.le_of_ble_eq_true rfl) rfl ?_
      refine wg_drop (lv' := [some (.ref 0), some (.int x1), some (.int x5), some (.int z.2.2.2), some (.float q8), some (.int x5), some (.int z.2.2.2), none]) [7] rfl ?_
      exact sjX5_twins_57_102 X C cn bk st r0 r1 r2 r3 r4 li fo tx co ke rf cp lk fl em tm rd x1 x5 z.2.2.2 q8 x5 z.2.2.2 _ h k0 e0
set_option maxRecDepth 100000 in
set_option maxHeartbeats 4000000 in
theorem slX5_twins_57 (X : CX) (C : Ok X RX5 cX5_twins wsX5_twins rX5_twins) (cn : Tcn) (bk : Tbk) (st : Tst) (r0 : Tbk) (r1 : Tbk) (r2 : Tbk) (r3 : Tbk) (r4 : Tbk) (li : Tli) (fo : Tfo) (tx : Ttx) (co : Tco) (ke : Tke) (rf : (Nat → Int32)) (cp : Int32) (lk : Tlk) (fl : Tfl) (em : Int32) (tm : Ttm) (rd : Trd) (x1 : Int32) (x5 : Int32) (o : (Int32 × Int32 × UInt32)) (e0 : ∀ a : Int32 × Int32 × UInt32, o = a → Wg X 108 [some (.ref 0), some (.int x1), some (.int a.1), some (.int a.2.1), some (.float a.2.2), some (.int x5), none, none] [] (mkH cn bk st r0 r1 r2 r3 r4 li fo tx co ke rf cp lk fl em tm rd)) : ∀ (n : Nat) (z : Int32 × Int32 × UInt32 × Int32), lpF (bX5_twins_57 cn bk li x1 x5) n z = some o → Wg X 57 [some (.ref 0), some (.int x1), some (.int z.1), some (.int z.2.1), some (.float z.2.2.1), some (.int x5), some (.int z.2.2.2), none] [] (mkH cn bk st r0 r1 r2 r3 r4 li fo tx co ke rf cp lk fl em tm rd) := by
  intro n
  induction n with
  | zero => intro z h; cases h
  | succ n ih =>
    intro z h
    obtain ⟨r, hB, h⟩ := bnd h
    refine sbX5_twins_57 X C cn bk st r0 r1 r2 r3 r4 li fo tx co ke rf cp lk fl em tm rd x1 x5 z r hB (fun a e => ih a (by subst e; exact h)) (fun a e => e0 a (by subst e; exact (Option.some.inj h).symm))
set_option maxRecDepth 100000 in
set_option maxHeartbeats 4000000 in
theorem sbX5_twins_39 (X : CX) (C : Ok X RX5 cX5_twins wsX5_twins rX5_twins) (cn : Tcn) (bk : Tbk) (st : Tst) (r0 : Tbk) (r1 : Tbk) (r2 : Tbk) (r3 : Tbk) (r4 : Tbk) (li : Tli) (fo : Tfo) (tx : Ttx) (co : Tco) (ke : Tke) (rf : (Nat → Int32)) (cp : Int32) (lk : Tlk) (fl : Tfl) (em : Int32) (tm : Ttm) (rd : Trd) (x1 : Int32) (z : Int32 × Int32 × UInt32 × Int32) (o : (Int32 × Int32 × UInt32 × Int32) ⊕ (Int32 × Int32 × UInt32)) (h : bX5_twins_39 cn bk li x1 z = some o) (k0 : ∀ a : Int32 × Int32 × UInt32 × Int32, o = .inl a → Wg X 39 [some (.ref 0), some (.int x1), some (.int a.1), some (.int a.2.1), some (.float a.2.2.1), some (.int a.2.2.2), none, none] [] (mkH cn bk st r0 r1 r2 r3 r4 li fo tx co ke rf cp lk fl em tm rd)) (e0 : ∀ a : Int32 × Int32 × UInt32, o = .inr a → Wg X 114 [none, some (.int x1), some (.int a.1), some (.int a.2.1), some (.float a.2.2), none, none, none] [] (mkH cn bk st r0 r1 r2 r3 r4 li fo tx co ke rf cp lk fl em tm rd)) : Wg X 39 [some (.ref 0), some (.int x1), some (.int z.1), some (.int z.2.1), some (.float z.2.2.1), some (.int z.2.2.2), none, none] [] (mkH cn bk st r0 r1 r2 r3 r4 li fo tx co ke rf cp lk fl em tm rd) := by
  unfold bX5_twins_39 at h
  refine wg_iload C dX5_twins_39 rfl ?_
  refine wg_aload_n C dX5_twins_41 rfl ?_
  refine wg_get (v := .ref 1) C fgX5_twins_10 rfl rfl dX5_twins_42 ?_
  obtain ⟨q4, e4q, h⟩ := bnd h
  refine wg_callV (n := 0) (As := []) (st := [.int z.2.2.2]) (st' := [.int q4, .int z.2.2.2]) C (sX0_days cn bk st r0 r1 r2 r3 r4 li fo tx co ke rf cp lk fl em tm rd  q4 e4q) gX5_twins_X0_days rfl (by decide +kernel) ⟨⟨rfl, rfl⟩, Nat.le_of_ble_eq_true rfl, Nat.le_of_ble_eq_true rfl⟩ rfl rfl rfl rfl (Nat.le_of_ble_eq_true rfl) dX5_twins_45 rfl ?_
  refine wg_icmp_ge (tgt := 114) C dX5_twins_48 (by decide) (fun c5 => ?_) (fun c5 => ?_)
  · replace h := ifP c5 h
    refine wg_drop (lv' := [none, some (.int x1), some (.int z.1), some (.int z.2.1), some (.float z.2.2.1), none, none, none]) [0, 5] rfl ?_
    have hk := e0 _ (Option.some.inj h).symm
    exact hk
  · replace h := ifN c5 h
    refine wg_iload C dX5_twins_51 rfl ?_
    refine wg_iconst (v := 1) C dX5_twins_53 (by decide) ?_
    refine wg_iadd C dX5_twins_54 ?_
    refine wg_istore (lv' := [some (.ref 0), some (.int x1), some (.int z.1), some (.int z.2.1), some (.float z.2.2.1), some (.int z.2.2.2), some (.int (z.2.2.2 + (1 : Int32))), none]) C dX5_twins_55 (Nat.le_of_ble_eq_true rfl) rfl ?_
    obtain ⟨t11, hL11, h⟩ := bnd h
    refine slX5_twins_57 X C cn bk st r0 r1 r2 r3 r4 li fo tx co ke rf cp lk fl em tm rd x1 z.2.2.2 t11 (fun a e => ?_) FU (z.1, z.2.1, z.2.2.1, (z.2.2.2 + (1 : Int32))) hL11
    subst e
    refine wg_iinc (v := (z.2.2.2 + (1 : Int32))) (lv' := [some (.ref 0), some (.int x1), some (.int t11.1), some (.int t11.2.1), some (.float t11.2.2), some (.int (z.2.2.2 + (1 : Int32))), none, none]) C dX5_twins_108 rfl rfl rfl ?_
    refine wg_goto (tgt := 39) C dX5_twins_111 (by decide) ?_
    have hk := k0 _ (Option.some.inj h).symm
    exact hk
set_option maxRecDepth 100000 in
set_option maxHeartbeats 4000000 in
theorem slX5_twins_39 (X : CX) (C : Ok X RX5 cX5_twins wsX5_twins rX5_twins) (cn : Tcn) (bk : Tbk) (st : Tst) (r0 : Tbk) (r1 : Tbk) (r2 : Tbk) (r3 : Tbk) (r4 : Tbk) (li : Tli) (fo : Tfo) (tx : Ttx) (co : Tco) (ke : Tke) (rf : (Nat → Int32)) (cp : Int32) (lk : Tlk) (fl : Tfl) (em : Int32) (tm : Ttm) (rd : Trd) (x1 : Int32) (o : (Int32 × Int32 × UInt32)) (e0 : ∀ a : Int32 × Int32 × UInt32, o = a → Wg X 114 [none, some (.int x1), some (.int a.1), some (.int a.2.1), some (.float a.2.2), none, none, none] [] (mkH cn bk st r0 r1 r2 r3 r4 li fo tx co ke rf cp lk fl em tm rd)) : ∀ (n : Nat) (z : Int32 × Int32 × UInt32 × Int32), lpF (bX5_twins_39 cn bk li x1) n z = some o → Wg X 39 [some (.ref 0), some (.int x1), some (.int z.1), some (.int z.2.1), some (.float z.2.2.1), some (.int z.2.2.2), none, none] [] (mkH cn bk st r0 r1 r2 r3 r4 li fo tx co ke rf cp lk fl em tm rd) := by
  intro n
  induction n with
  | zero => intro z h; cases h
  | succ n ih =>
    intro z h
    obtain ⟨r, hB, h⟩ := bnd h
    refine sbX5_twins_39 X C cn bk st r0 r1 r2 r3 r4 li fo tx co ke rf cp lk fl em tm rd x1 z r hB (fun a e => ih a (by subst e; exact h)) (fun a e => e0 a (by subst e; exact (Option.some.inj h).symm))
set_option maxRecDepth 100000 in
set_option maxHeartbeats 4000000 in
theorem sjX5_twins_134 (X : CX) (C : Ok X RX5 cX5_twins wsX5_twins rX5_twins) (cn : Tcn) (bk : Tbk) (st : Tst) (r0 : Tbk) (r1 : Tbk) (r2 : Tbk) (r3 : Tbk) (r4 : Tbk) (li : Tli) (fo : Tfo) (tx : Ttx) (co : Tco) (ke : Tke) (rf : (Nat → Int32)) (cp : Int32) (lk : Tlk) (fl : Tfl) (em : Int32) (tm : Ttm) (rd : Trd) (y0 : Int32) (o : Int32 × Tcn × Tli) (h : jX5_twins_134 cn bk li y0 = some o) (hT : Rt X (some .int) (some (.int o.1)) (mkH o.2.1 bk st r0 r1 r2 r3 r4 o.2.2 fo tx co ke rf cp lk fl em tm rd)) : Wg X 134 [none, none, none, none, none, none, none, none] [.int y0] (mkH cn bk st r0 r1 r2 r3 r4 li fo tx co ke rf cp lk fl em tm rd) := by
  unfold jX5_twins_134 at h
  obtain rfl := Option.some.inj h
  exact wg_iret C hT dX5_twins_134
set_option maxRecDepth 100000 in
set_option maxHeartbeats 4000000 in
theorem sX5_twins (cn : Tcn) (bk : Tbk) (st : Tst) (r0 : Tbk) (r1 : Tbk) (r2 : Tbk) (r3 : Tbk) (r4 : Tbk) (li : Tli) (fo : Tfo) (tx : Ttx) (co : Tco) (ke : Tke) (rf : (Nat → Int32)) (cp : Int32) (lk : Tlk) (fl : Tfl) (em : Int32) (tm : Ttm) (rd : Trd) (x1 : Int32) (o : Int32 × Tcn × Tli) (h : fX5_twins cn bk li x1 = some o) : Sp yX5_twins wsX5_twins rX5_twins [.ref 0, .int x1] (mkH cn bk st r0 r1 r2 r3 r4 li fo tx co ke rf cp lk fl em tm rd) (some (.int o.1)) (mkH o.2.1 bk st r0 r1 r2 r3 r4 o.2.2 fo tx co ke rf cp lk fl em tm rd) := by
  refine Sp.of (lv := [some (.ref 0), some (.int x1), none, none, none, none, none, none]) RX5 (by decide +kernel) rfl (Nat.le_of_ble_eq_true rfl) rfl ?_
  intro X C hT
  unfold fX5_twins at h
  refine wg_iload_n C dX5_twins_0 rfl ?_
  refine wg_iconst (v := 0) C dX5_twins_1 (by decide) ?_
  refine wg_iconst (v := 2) C dX5_twins_2 (by decide) ?_
  obtain ⟨q1, e1q, h⟩ := bnd h
  refine wg_callT (n := 3) (As := [.int x1, .int (0 : Int32), .int (2 : Int32)]) (st := []) (st' := [.int q1]) C (sX5_isWithin cn bk st r0 r1 r2 r3 r4 li fo tx co ke rf cp lk fl em tm rd x1 (0 : Int32) (2 : Int32) q1 e1q) gX5_twins_X5_isWithin rfl (by decide +kernel) ⟨⟨rfl, rfl⟩, Nat.le_of_ble_eq_true rfl, Nat.le_of_ble_eq_true rfl⟩ rfl rfl (Nat.le_of_ble_eq_true rfl) dX5_twins_3 rfl ?_
  refine wg_if_ne (tgt := 16) C dX5_twins_6 (by decide) (fun c2 => ?_) (fun c2 => ?_)
  · replace h := ifP c2 h
    refine wg_aload_n C dX5_twins_16 rfl ?_
    refine wg_get (v := .ref 21) C fgX5_twins_26 rfl rfl dX5_twins_17 ?_
    refine wg_aload_n C dX5_twins_20 rfl ?_
    refine wg_get (v := .ref 1) C fgX5_twins_10 rfl rfl dX5_twins_21 ?_
    refine wg_iconst (v := -1) C dX5_twins_24 (by decide) ?_
    obtain ⟨q3, e3q, h⟩ := bnd h
    refine wg_callV (n := 2) (As := [.ref 1, .int (-1 : Int32)]) (st := []) (st' := []) C (sX2_learn cn bk st r0 r1 r2 r3 r4 li fo tx co ke rf cp lk fl em tm rd (-1 : Int32) q3 e3q) gX5_twins_X2_learn rfl (by decide +kernel) ⟨⟨rfl, rfl⟩, Nat.le_of_ble_eq_true rfl, Nat.le_of_ble_eq_true rfl⟩ rfl rfl rfl rfl (Nat.le_of_ble_eq_true rfl) dX5_twins_25 rfl ?_
    refine wg_iconst (v := -1) C dX5_twins_28 (by decide) ?_
    refine wg_istore_n (lv' := [some (.ref 0), some (.int x1), some (.int (-1 : Int32)), none, none, none, none, none]) C dX5_twins_29 (Nat.le_of_ble_eq_true rfl) rfl ?_
    refine wg_iconst (v := -1) C dX5_twins_30 (by decide) ?_
    refine wg_istore_n (lv' := [some (.ref 0), some (.int x1), some (.int (-1 : Int32)), some (.int (-1 : Int32)), none, none, none, none]) C dX5_twins_31 (Nat.le_of_ble_eq_true rfl) rfl ?_
    refine wg_ldcf (v := 3212836864) C (by decide +kernel) dX5_twins_32 ?_
    refine wg_fstore (lv' := [some (.ref 0), some (.int x1), some (.int (-1 : Int32)), some (.int (-1 : Int32)), some (.float (3212836864 : UInt32)), none, none, none]) C dX5_twins_34 (Nat.le_of_ble_eq_true rfl) rfl ?_
    refine wg_iconst (v := 0) C dX5_twins_36 (by decide) ?_
    refine wg_istore (lv' := [some (.ref 0), some (.int x1), some (.int (-1 : Int32)), some (.int (-1 : Int32)), some (.float (3212836864 : UInt32)), some (.int (0 : Int32)), none, none]) C dX5_twins_37 (Nat.le_of_ble_eq_true rfl) rfl ?_
    obtain ⟨t12, hL12, h⟩ := bnd h
    refine slX5_twins_39 X C cn bk st r0 r1 r2 r3 r4 q3 fo tx co ke rf cp lk fl em tm rd x1 t12 (fun a e => ?_) FU ((-1 : Int32), (-1 : Int32), (3212836864 : UInt32), (0 : Int32)) hL12
    subst e
    refine wg_iload_n C dX5_twins_114 rfl ?_
    refine wg_iconst (v := 2) C dX5_twins_115 (by decide) ?_
    refine wg_icmp_ne (tgt := 125) C dX5_twins_116 (by decide) (fun c13 => ?_) (fun c13 => ?_)
    · replace h := ifP c13 h
      refine wg_iload_n C dX5_twins_125 rfl ?_
      refine wg_if_ne (tgt := 133) C dX5_twins_126 (by decide) (fun c14 => ?_) (fun c14 => ?_)
      · replace h := ifP c14 h
        refine wg_iload_n C dX5_twins_133 rfl ?_
        refine wg_drop (lv' := [none, none, none, none, none, none, none, none]) [1, 2, 3, 4] rfl ?_
        exact sjX5_twins_134 X C cn bk st r0 r1 r2 r3 r4 q3 fo tx co ke rf cp lk fl em tm rd t12.2.1 _ h hT
      · replace h := ifN c14 h
        refine wg_iload_n C dX5_twins_129 rfl ?_
        refine wg_goto (tgt := 134) C dX5_twins_130 (by decide) ?_
        refine wg_drop (lv' := [none, none, none, none, none, none, none, none]) [1, 2, 3, 4] rfl ?_
        exact sjX5_twins_134 X C cn bk st r0 r1 r2 r3 r4 q3 fo tx co ke rf cp lk fl em tm rd t12.1 _ h hT
    · replace h := ifN c13 h
      refine wg_fload C dX5_twins_119 rfl ?_
      obtain ⟨q15, e15q, h⟩ := bnd h
      refine wg_callT (n := 1) (As := [.float t12.2.2]) (st := []) (st' := [.int q15]) C (sX5_bitsOrNone cn bk st r0 r1 r2 r3 r4 q3 fo tx co ke rf cp lk fl em tm rd t12.2.2 q15 e15q) gX5_twins_X5_bitsOrNone rfl (by decide +kernel) ⟨⟨rfl, rfl⟩, Nat.le_of_ble_eq_true rfl, Nat.le_of_ble_eq_true rfl⟩ rfl rfl (Nat.le_of_ble_eq_true rfl) dX5_twins_121 rfl ?_
      obtain rfl := Option.some.inj h
      exact wg_iret C hT dX5_twins_124
  · replace h := ifN c2 h
    refine wg_aload_n C dX5_twins_9 rfl ?_
    refine wg_bipush (v := -2) C dX5_twins_10 (by decide) ?_
    obtain ⟨q16, e16q, h⟩ := bnd h
    refine wg_callV (n := 1) (As := [.int (-2 : Int32)]) (st := []) (st' := [.int q16.1]) C (sX5_refuseBad cn bk st r0 r1 r2 r3 r4 li fo tx co ke rf cp lk fl em tm rd (-2 : Int32) q16 e16q) gX5_twins_X5_refuseBad rfl (by decide +kernel) ⟨⟨rfl, rfl⟩, Nat.le_of_ble_eq_true rfl, Nat.le_of_ble_eq_true rfl⟩ rfl rfl rfl rfl (Nat.le_of_ble_eq_true rfl) dX5_twins_12 rfl ?_
    obtain rfl := Option.some.inj h
    exact wg_iret C hT dX5_twins_15
abbrev rX5_strangers : Room := { frames := 5, cells := 0, slots := 0, locals := 121 }
theorem iwX5_strangers_5 : ∀ w ∈ wsX50, w ∈ wsX5_strangers := by decide +kernel
theorem fgX5_strangers_10 : FG wsX5_strangers RX5 10 5 0 := ⟨RX5, TX5, 8, rfl, by decide, by decide +kernel, iwX5_strangers_5⟩
theorem fgX5_strangers_26 : FG wsX5_strangers RX5 26 5 2 := ⟨RX5, TX5, 8, rfl, by decide, by decide +kernel, iwX5_strangers_5⟩
set_option maxRecDepth 100000 in
set_option maxHeartbeats 4000000 in
theorem sjX5_strangers_34_67 (X : CX) (C : Ok X RX5 cX5_strangers wsX5_strangers rX5_strangers) (cn : Tcn) (bk : Tbk) (st : Tst) (r0 : Tbk) (r1 : Tbk) (r2 : Tbk) (r3 : Tbk) (r4 : Tbk) (li : Tli) (fo : Tfo) (tx : Ttx) (co : Tco) (ke : Tke) (rf : (Nat → Int32)) (cp : Int32) (lk : Tlk) (fl : Tfl) (em : Int32) (tm : Ttm) (rd : Trd) (x1 : Int32) (x2 : Int32) (x3 : Int32) (o : (Int32 × Int32) ⊕ Int32) (h : jX5_strangers_34_67 cn bk li x1 x2 x3 = some o) (k0 : ∀ a : Int32 × Int32, o = .inl a → Wg X 34 [some (.ref 0), some (.int x1), some (.int a.1), some (.int a.2)] [] (mkH cn bk st r0 r1 r2 r3 r4 li fo tx co ke rf cp lk fl em tm rd)) (e0 : ∀ a : Int32, o = .inr a → Wg X 73 [none, none, some (.int a), none] [] (mkH cn bk st r0 r1 r2 r3 r4 li fo tx co ke rf cp lk fl em tm rd)) : Wg X 67 [some (.ref 0), some (.int x1), some (.int x2), some (.int x3)] [] (mkH cn bk st r0 r1 r2 r3 r4 li fo tx co ke rf cp lk fl em tm rd) := by
  unfold jX5_strangers_34_67 at h
  refine wg_iinc (v := (x3 + (1 : Int32))) (lv' := [some (.ref 0), some (.int x1), some (.int x2), some (.int (x3 + (1 : Int32)))]) C dX5_strangers_67 rfl rfl rfl ?_
  refine wg_goto (tgt := 34) C dX5_strangers_70 (by decide) ?_
  have hk := k0 _ (Option.some.inj h).symm
  exact hk
set_option maxRecDepth 100000 in
set_option maxHeartbeats 4000000 in
theorem sbX5_strangers_34 (X : CX) (C : Ok X RX5 cX5_strangers wsX5_strangers rX5_strangers) (cn : Tcn) (bk : Tbk) (st : Tst) (r0 : Tbk) (r1 : Tbk) (r2 : Tbk) (r3 : Tbk) (r4 : Tbk) (li : Tli) (fo : Tfo) (tx : Ttx) (co : Tco) (ke : Tke) (rf : (Nat → Int32)) (cp : Int32) (lk : Tlk) (fl : Tfl) (em : Int32) (tm : Ttm) (rd : Trd) (x1 : Int32) (z : Int32 × Int32) (o : (Int32 × Int32) ⊕ Int32) (h : bX5_strangers_34 cn bk li x1 z = some o) (k0 : ∀ a : Int32 × Int32, o = .inl a → Wg X 34 [some (.ref 0), some (.int x1), some (.int a.1), some (.int a.2)] [] (mkH cn bk st r0 r1 r2 r3 r4 li fo tx co ke rf cp lk fl em tm rd)) (e0 : ∀ a : Int32, o = .inr a → Wg X 73 [none, none, some (.int a), none] [] (mkH cn bk st r0 r1 r2 r3 r4 li fo tx co ke rf cp lk fl em tm rd)) : Wg X 34 [some (.ref 0), some (.int x1), some (.int z.1), some (.int z.2)] [] (mkH cn bk st r0 r1 r2 r3 r4 li fo tx co ke rf cp lk fl em tm rd) := by
  unfold bX5_strangers_34 at h
  refine wg_iload_n C dX5_strangers_34 rfl ?_
  refine wg_aload_n C dX5_strangers_35 rfl ?_
  refine wg_get (v := .ref 1) C fgX5_strangers_10 rfl rfl dX5_strangers_36 ?_
  obtain ⟨q4, e4q, h⟩ := bnd h
  refine wg_callV (n := 0) (As := []) (st := [.int z.2]) (st' := [.int q4, .int z.2]) C (sX0_days cn bk st r0 r1 r2 r3 r4 li fo tx co ke rf cp lk fl em tm rd  q4 e4q) gX5_strangers_X0_days rfl (by decide +kernel) ⟨⟨rfl, rfl⟩, Nat.le_of_ble_eq_true rfl, Nat.le_of_ble_eq_true rfl⟩ rfl rfl rfl rfl (Nat.le_of_ble_eq_true rfl) dX5_strangers_39 rfl ?_
  refine wg_icmp_ge (tgt := 73) C dX5_strangers_42 (by decide) (fun c5 => ?_) (fun c5 => ?_)
  · replace h := ifP c5 h
    refine wg_drop (lv' := [none, none, some (.int z.1), none]) [0, 1, 3] rfl ?_
    have hk := e0 _ (Option.some.inj h).symm
    exact hk
  · replace h := ifN c5 h
    refine wg_iload_n C dX5_strangers_45 rfl ?_
    refine wg_iload_n C dX5_strangers_46 rfl ?_
    refine wg_icmp_eq (tgt := 67) C dX5_strangers_47 (by decide) (fun c6 => ?_) (fun c6 => ?_)
    · replace h := ifP c6 h
      exact sjX5_strangers_34_67 X C cn bk st r0 r1 r2 r3 r4 li fo tx co ke rf cp lk fl em tm rd x1 z.1 z.2 _ h k0 e0
    · replace h := ifN c6 h
      refine wg_aload_n C dX5_strangers_50 rfl ?_
      refine wg_get (v := .ref 21) C fgX5_strangers_26 rfl rfl dX5_strangers_51 ?_
      refine wg_iload_n C dX5_strangers_54 rfl ?_
      refine wg_iload_n C dX5_strangers_55 rfl ?_
      obtain ⟨q7, e7q, h⟩ := bnd h
      refine wg_callV (n := 2) (As := [.int x1, .int z.2]) (st := []) (st' := [.float q7]) C (sX2_between cn bk st r0 r1 r2 r3 r4 li fo tx co ke rf cp lk fl em tm rd x1 z.2 q7 e7q) gX5_strangers_X2_between rfl (by decide +kernel) ⟨⟨rfl, rfl⟩, Nat.le_of_ble_eq_true rfl, Nat.le_of_ble_eq_true rfl⟩ rfl rfl rfl rfl (Nat.le_of_ble_eq_true rfl) dX5_strangers_56 rfl ?_
      refine wg_fconst0 C dX5_strangers_59 ?_
      refine wg_fcmp C dX5_strangers_60 ?_
      refine wg_if_ge (tgt := 67) C dX5_strangers_61 (by decide) (fun c8 => ?_) (fun c8 => ?_)
      · replace h := ifP c8 h
        exact sjX5_strangers_34_67 X C cn bk st r0 r1 r2 r3 r4 li fo tx co ke rf cp lk fl em tm rd x1 z.1 z.2 _ h k0 e0
      · replace h := ifN c8 h
        refine wg_iinc (v := (z.1 + (1 : Int32))) (lv' := [some (.ref 0), some (.int x1), some (.int (z.1 + (1 : Int32))), some (.int z.2)]) C dX5_strangers_64 rfl rfl rfl ?_
        exact sjX5_strangers_34_67 X C cn bk st r0 r1 r2 r3 r4 li fo tx co ke rf cp lk fl em tm rd x1 (z.1 + (1 : Int32)) z.2 _ h k0 e0
set_option maxRecDepth 100000 in
set_option maxHeartbeats 4000000 in
theorem slX5_strangers_34 (X : CX) (C : Ok X RX5 cX5_strangers wsX5_strangers rX5_strangers) (cn : Tcn) (bk : Tbk) (st : Tst) (r0 : Tbk) (r1 : Tbk) (r2 : Tbk) (r3 : Tbk) (r4 : Tbk) (li : Tli) (fo : Tfo) (tx : Ttx) (co : Tco) (ke : Tke) (rf : (Nat → Int32)) (cp : Int32) (lk : Tlk) (fl : Tfl) (em : Int32) (tm : Ttm) (rd : Trd) (x1 : Int32) (o : Int32) (e0 : ∀ a : Int32, o = a → Wg X 73 [none, none, some (.int a), none] [] (mkH cn bk st r0 r1 r2 r3 r4 li fo tx co ke rf cp lk fl em tm rd)) : ∀ (n : Nat) (z : Int32 × Int32), lpF (bX5_strangers_34 cn bk li x1) n z = some o → Wg X 34 [some (.ref 0), some (.int x1), some (.int z.1), some (.int z.2)] [] (mkH cn bk st r0 r1 r2 r3 r4 li fo tx co ke rf cp lk fl em tm rd) := by
  intro n
  induction n with
  | zero => intro z h; cases h
  | succ n ih =>
    intro z h
    obtain ⟨r, hB, h⟩ := bnd h
    refine sbX5_strangers_34 X C cn bk st r0 r1 r2 r3 r4 li fo tx co ke rf cp lk fl em tm rd x1 z r hB (fun a e => ih a (by subst e; exact h)) (fun a e => e0 a (by subst e; exact (Option.some.inj h).symm))
set_option maxRecDepth 100000 in
set_option maxHeartbeats 4000000 in
theorem sX5_strangers (cn : Tcn) (bk : Tbk) (st : Tst) (r0 : Tbk) (r1 : Tbk) (r2 : Tbk) (r3 : Tbk) (r4 : Tbk) (li : Tli) (fo : Tfo) (tx : Ttx) (co : Tco) (ke : Tke) (rf : (Nat → Int32)) (cp : Int32) (lk : Tlk) (fl : Tfl) (em : Int32) (tm : Ttm) (rd : Trd) (x1 : Int32) (o : Int32 × Tcn × Tli) (h : fX5_strangers cn bk li x1 = some o) : Sp yX5_strangers wsX5_strangers rX5_strangers [.ref 0, .int x1] (mkH cn bk st r0 r1 r2 r3 r4 li fo tx co ke rf cp lk fl em tm rd) (some (.int o.1)) (mkH o.2.1 bk st r0 r1 r2 r3 r4 o.2.2 fo tx co ke rf cp lk fl em tm rd) := by
  refine Sp.of (lv := [some (.ref 0), some (.int x1), none, none]) RX5 (by decide +kernel) rfl (Nat.le_of_ble_eq_true rfl) rfl ?_
  intro X C hT
  unfold fX5_strangers at h
  refine wg_aload_n C dX5_strangers_0 rfl ?_
  refine wg_get (v := .ref 1) C fgX5_strangers_10 rfl rfl dX5_strangers_1 ?_
  refine wg_iload_n C dX5_strangers_4 rfl ?_
  obtain ⟨q1, e1q, h⟩ := bnd h
  refine wg_callV (n := 1) (As := [.int x1]) (st := []) (st' := [.int q1]) C (sX0_has cn bk st r0 r1 r2 r3 r4 li fo tx co ke rf cp lk fl em tm rd x1 q1 e1q) gX5_strangers_X0_has rfl (by decide +kernel) ⟨⟨rfl, rfl⟩, Nat.le_of_ble_eq_true rfl, Nat.le_of_ble_eq_true rfl⟩ rfl rfl rfl rfl (Nat.le_of_ble_eq_true rfl) dX5_strangers_5 rfl ?_
  refine wg_if_ne (tgt := 18) C dX5_strangers_8 (by decide) (fun c2 => ?_) (fun c2 => ?_)
  · replace h := ifP c2 h
    refine wg_aload_n C dX5_strangers_18 rfl ?_
    refine wg_get (v := .ref 21) C fgX5_strangers_26 rfl rfl dX5_strangers_19 ?_
    refine wg_aload_n C dX5_strangers_22 rfl ?_
    refine wg_get (v := .ref 1) C fgX5_strangers_10 rfl rfl dX5_strangers_23 ?_
    refine wg_iconst (v := -1) C dX5_strangers_26 (by decide) ?_
    obtain ⟨q3, e3q, h⟩ := bnd h
    refine wg_callV (n := 2) (As := [.ref 1, .int (-1 : Int32)]) (st := []) (st' := []) C (sX2_learn cn bk st r0 r1 r2 r3 r4 li fo tx co ke rf cp lk fl em tm rd (-1 : Int32) q3 e3q) gX5_strangers_X2_learn rfl (by decide +kernel) ⟨⟨rfl, rfl⟩, Nat.le_of_ble_eq_true rfl, Nat.le_of_ble_eq_true rfl⟩ rfl rfl rfl rfl (Nat.le_of_ble_eq_true rfl) dX5_strangers_27 rfl ?_
    refine wg_iconst (v := 0) C dX5_strangers_30 (by decide) ?_
    refine wg_istore_n (lv' := [some (.ref 0), some (.int x1), some (.int (0 : Int32)), none]) C dX5_strangers_31 (Nat.le_of_ble_eq_true rfl) rfl ?_
    refine wg_iconst (v := 0) C dX5_strangers_32 (by decide) ?_
    refine wg_istore_n (lv' := [some (.ref 0), some (.int x1), some (.int (0 : Int32)), some (.int (0 : Int32))]) C dX5_strangers_33 (Nat.le_of_ble_eq_true rfl) rfl ?_
    obtain ⟨t9, hL9, h⟩ := bnd h
    refine slX5_strangers_34 X C cn bk st r0 r1 r2 r3 r4 q3 fo tx co ke rf cp lk fl em tm rd x1 t9 (fun a e => ?_) FU ((0 : Int32), (0 : Int32)) hL9
    subst e
    refine wg_iload_n C dX5_strangers_73 rfl ?_
    obtain rfl := Option.some.inj h
    exact wg_iret C hT dX5_strangers_74
  · replace h := ifN c2 h
    refine wg_aload_n C dX5_strangers_11 rfl ?_
    refine wg_bipush (v := -2) C dX5_strangers_12 (by decide) ?_
    obtain ⟨q10, e10q, h⟩ := bnd h
    refine wg_callV (n := 1) (As := [.int (-2 : Int32)]) (st := []) (st' := [.int q10.1]) C (sX5_refuseBad cn bk st r0 r1 r2 r3 r4 li fo tx co ke rf cp lk fl em tm rd (-2 : Int32) q10 e10q) gX5_strangers_X5_refuseBad rfl (by decide +kernel) ⟨⟨rfl, rfl⟩, Nat.le_of_ble_eq_true rfl, Nat.le_of_ble_eq_true rfl⟩ rfl rfl rfl rfl (Nat.le_of_ble_eq_true rfl) dX5_strangers_14 rfl ?_
    obtain rfl := Option.some.inj h
    exact wg_iret C hT dX5_strangers_17
abbrev rX1_add : Room := { frames := 0, cells := 0, slots := 0, locals := 0 }
theorem iwX1_add_1 : ∀ w ∈ wsX10, w ∈ wsX1_add := by decide +kernel
theorem fgX1_add_9 : FG wsX1_add RX1 9 1 0 := ⟨RX1, TX1, 4, rfl, by decide, by decide +kernel, iwX1_add_1⟩
theorem fgX1_add_15 : FG wsX1_add RX1 15 1 1 := ⟨RX1, TX1, 4, rfl, by decide, by decide +kernel, iwX1_add_1⟩
theorem fgX1_add_19 : FG wsX1_add RX1 19 1 2 := ⟨RX1, TX1, 4, rfl, by decide, by decide +kernel, iwX1_add_1⟩
theorem fgX1_add_22 : FG wsX1_add RX1 22 1 3 := ⟨RX1, TX1, 4, rfl, by decide, by decide +kernel, iwX1_add_1⟩
theorem fwX1_add_22 : FW wsX1_add RX1 22 1 3 .int := ⟨RX1, TX1, 4, tyX1, rfl, by decide, by decide +kernel, iwX1_add_1, tyX1_ok, nmX1, rfl, by decide +kernel⟩
set_option maxRecDepth 100000 in
set_option maxHeartbeats 4000000 in
theorem sjX1_add_87 (X : CX) (C : Ok X RX1 cX1_add wsX1_add rX1_add) (cn : Tcn) (bk : Tbk) (st : Tst) (r0 : Tbk) (r1 : Tbk) (r2 : Tbk) (r3 : Tbk) (r4 : Tbk) (li : Tli) (fo : Tfo) (tx : Ttx) (co : Tco) (ke : Tke) (rf : (Nat → Int32)) (cp : Int32) (lk : Tlk) (fl : Tfl) (em : Int32) (tm : Ttm) (rd : Trd)  (o : Tfo) (h : jX1_add_87 fo  = some o) (hT : Rt X none none (mkH cn bk st r0 r1 r2 r3 r4 li o tx co ke rf cp lk fl em tm rd)) : Wg X 87 [none, none, none, none] [] (mkH cn bk st r0 r1 r2 r3 r4 li fo tx co ke rf cp lk fl em tm rd) := by
  unfold jX1_add_87 at h
  obtain rfl := Option.some.inj h
  exact wg_vret C hT dX1_add_87
set_option maxRecDepth 100000 in
set_option maxHeartbeats 4000000 in
theorem sbX1_add_34 (X : CX) (C : Ok X RX1 cX1_add wsX1_add rX1_add) (cn : Tcn) (bk : Tbk) (st : Tst) (r0 : Tbk) (r1 : Tbk) (r2 : Tbk) (r3 : Tbk) (r4 : Tbk) (li : Tli) (fo : Tfo) (tx : Ttx) (co : Tco) (ke : Tke) (rf : (Nat → Int32)) (cp : Int32) (lk : Tlk) (fl : Tfl) (em : Int32) (tm : Ttm) (rd : Trd) (x1 : Int32) (z : Int32 × Tfo) (o : (Int32 × Tfo) ⊕ (Int32 × Tfo)) (h : bX1_add_34  x1 z = some o) (k0 : ∀ a : Int32 × Tfo, o = .inl a → Wg X 34 [some (.ref 29), some (.int x1), none, some (.int a.1)] [] (mkH cn bk st r0 r1 r2 r3 r4 li a.2 tx co ke rf cp lk fl em tm rd)) (e0 : ∀ a : Int32 × Tfo, o = .inr a → Wg X 70 [some (.ref 29), some (.int x1), none, some (.int a.1)] [] (mkH cn bk st r0 r1 r2 r3 r4 li a.2 tx co ke rf cp lk fl em tm rd)) : Wg X 34 [some (.ref 29), some (.int x1), none, some (.int z.1)] [] (mkH cn bk st r0 r1 r2 r3 r4 li z.2 tx co ke rf cp lk fl em tm rd) := by
  unfold bX1_add_34 at h
  refine wg_iload_n C dX1_add_34 rfl ?_
  refine wg_if_le (tgt := 70) C dX1_add_35 (by decide) (fun c4 => ?_) (fun c4 => ?_)
  · replace h := ifP c4 h
    have hk := e0 _ (Option.some.inj h).symm
    exact hk
  · replace h := ifN c4 h
    refine wg_iload_n C dX1_add_38 rfl ?_
    refine wg_aload_n C dX1_add_39 rfl ?_
    refine wg_get (v := .ref 32) C fgX1_add_19 rfl rfl dX1_add_40 ?_
    refine wg_iload_n C dX1_add_43 rfl ?_
    refine wg_iconst (v := 1) C dX1_add_44 (by decide) ?_
    refine wg_isub C dX1_add_45 ?_
    obtain ⟨g5, h⟩ := gdP h
    refine wg_iald (f := z.2.2.2.1) (n := 12) C rfl g5 dX1_add_46 ?_
    refine wg_icmp_ge (tgt := 70) C dX1_add_47 (by decide) (fun c6 => ?_) (fun c6 => ?_)
    · replace h := ifP c6 h
      have hk := e0 _ (Option.some.inj h).symm
      exact hk
    · replace h := ifN c6 h
      refine wg_aload_n C dX1_add_50 rfl ?_
      refine wg_get (v := .ref 32) C fgX1_add_19 rfl rfl dX1_add_51 ?_
      refine wg_iload_n C dX1_add_54 rfl ?_
      refine wg_aload_n C dX1_add_55 rfl ?_
      refine wg_get (v := .ref 32) C fgX1_add_19 rfl rfl dX1_add_56 ?_
      refine wg_iload_n C dX1_add_59 rfl ?_
      refine wg_iconst (v := 1) C dX1_add_60 (by decide) ?_
      refine wg_isub C dX1_add_61 ?_
      obtain ⟨g7, h⟩ := gdP h
      refine wg_iald (f := z.2.2.2.1) (n := 12) C rfl g7 dX1_add_62 ?_
      obtain ⟨g8, h⟩ := gdP h
      refine wg_iast (f := z.2.2.2.1) (n := 12) (hp' := (mkH cn bk st r0 r1 r2 r3 r4 li (z.2.1, z.2.2.1, (upd z.2.2.2.1 (z.1).toNatClampNeg (z.2.2.2.1 ((z.1 - (1 : Int32))).toNatClampNeg)), z.2.2.2.2) tx co ke rf cp lk fl em tm rd)) C rfl g8 rfl dX1_add_63 ?_
      refine wg_iinc (v := (z.1 + (-1 : Int32))) (lv' := [some (.ref 29), some (.int x1), none, some (.int (z.1 + (-1 : Int32)))]) C dX1_add_64 rfl rfl rfl ?_
      refine wg_goto (tgt := 34) C dX1_add_67 (by decide) ?_
      have hk := k0 _ (Option.some.inj h).symm
      exact hk
set_option maxRecDepth 100000 in
set_option maxHeartbeats 4000000 in
theorem slX1_add_34 (X : CX) (C : Ok X RX1 cX1_add wsX1_add rX1_add) (cn : Tcn) (bk : Tbk) (st : Tst) (r0 : Tbk) (r1 : Tbk) (r2 : Tbk) (r3 : Tbk) (r4 : Tbk) (li : Tli) (fo : Tfo) (tx : Ttx) (co : Tco) (ke : Tke) (rf : (Nat → Int32)) (cp : Int32) (lk : Tlk) (fl : Tfl) (em : Int32) (tm : Ttm) (rd : Trd) (x1 : Int32) (o : (Int32 × Tfo)) (e0 : ∀ a : Int32 × Tfo, o = a → Wg X 70 [some (.ref 29), some (.int x1), none, some (.int a.1)] [] (mkH cn bk st r0 r1 r2 r3 r4 li a.2 tx co ke rf cp lk fl em tm rd)) : ∀ (n : Nat) (z : Int32 × Tfo), lpF (bX1_add_34  x1) n z = some o → Wg X 34 [some (.ref 29), some (.int x1), none, some (.int z.1)] [] (mkH cn bk st r0 r1 r2 r3 r4 li z.2 tx co ke rf cp lk fl em tm rd) := by
  intro n
  induction n with
  | zero => intro z h; cases h
  | succ n ih =>
    intro z h
    obtain ⟨r, hB, h⟩ := bnd h
    refine sbX1_add_34 X C cn bk st r0 r1 r2 r3 r4 li fo tx co ke rf cp lk fl em tm rd x1 z r hB (fun a e => ih a (by subst e; exact h)) (fun a e => e0 a (by subst e; exact (Option.some.inj h).symm))
set_option maxRecDepth 100000 in
set_option maxHeartbeats 4000000 in
theorem sX1_add (cn : Tcn) (bk : Tbk) (st : Tst) (r0 : Tbk) (r1 : Tbk) (r2 : Tbk) (r3 : Tbk) (r4 : Tbk) (li : Tli) (fo : Tfo) (tx : Ttx) (co : Tco) (ke : Tke) (rf : (Nat → Int32)) (cp : Int32) (lk : Tlk) (fl : Tfl) (em : Int32) (tm : Ttm) (rd : Trd) (x1 : Int32) (x2 : UInt32) (o : Tfo) (h : fX1_add fo x1 x2 = some o) : Sp yX1_add wsX1_add rX1_add [.ref 29, .int x1, .float x2] (mkH cn bk st r0 r1 r2 r3 r4 li fo tx co ke rf cp lk fl em tm rd) none (mkH cn bk st r0 r1 r2 r3 r4 li o tx co ke rf cp lk fl em tm rd) := by
  refine Sp.of (lv := [some (.ref 29), some (.int x1), some (.float x2), none]) RX1 (by decide +kernel) rfl (Nat.le_of_ble_eq_true rfl) rfl ?_
  intro X C hT
  unfold fX1_add at h
  refine wg_aload_n C dX1_add_0 rfl ?_
  refine wg_get (v := .int fo.2.2.2) C fgX1_add_22 rfl rfl dX1_add_1 ?_
  refine wg_bipush (v := 12) C dX1_add_4 (by decide) ?_
  refine wg_icmp_ge (tgt := 87) C dX1_add_6 (by decide) (fun c1 => ?_) (fun c1 => ?_)
  · replace h := ifP c1 h
    refine wg_drop (lv' := [none, none, none, none]) [0, 1, 2] rfl ?_
    exact sjX1_add_87 X C cn bk st r0 r1 r2 r3 r4 li fo tx co ke rf cp lk fl em tm rd  _ h hT
  · replace h := ifN c1 h
    refine wg_aload_n C dX1_add_9 rfl ?_
    refine wg_get (v := .ref 30) C fgX1_add_9 rfl rfl dX1_add_10 ?_
    refine wg_aload_n C dX1_add_13 rfl ?_
    refine wg_get (v := .int fo.2.2.2) C fgX1_add_22 rfl rfl dX1_add_14 ?_
    refine wg_iload_n C dX1_add_17 rfl ?_
    obtain ⟨g2, h⟩ := gdP h
    refine wg_iast (f := fo.1) (n := 12) (hp' := (mkH cn bk st r0 r1 r2 r3 r4 li ((upd fo.1 (fo.2.2.2).toNatClampNeg x1), fo.2.1, fo.2.2.1, fo.2.2.2) tx co ke rf cp lk fl em tm rd)) C rfl g2 rfl dX1_add_18 ?_
    refine wg_aload_n C dX1_add_19 rfl ?_
    refine wg_get (v := .ref 31) C fgX1_add_15 rfl rfl dX1_add_20 ?_
    refine wg_aload_n C dX1_add_23 rfl ?_
    refine wg_get (v := .int fo.2.2.2) C fgX1_add_22 rfl rfl dX1_add_24 ?_
    refine wg_fload_n C dX1_add_27 rfl ?_
    obtain ⟨g3, h⟩ := gdP h
    refine wg_fast (f := fo.2.1) (n := 12) (hp' := (mkH cn bk st r0 r1 r2 r3 r4 li ((upd fo.1 (fo.2.2.2).toNatClampNeg x1), (vf_upd fo.2.1 (fo.2.2.2).toNatClampNeg x2), fo.2.2.1, fo.2.2.2) tx co ke rf cp lk fl em tm rd)) C rfl g3 rfl dX1_add_28 ?_
    refine wg_aload_n C dX1_add_29 rfl ?_
    refine wg_get (v := .int fo.2.2.2) C fgX1_add_22 rfl rfl dX1_add_30 ?_
    refine wg_istore_n (lv' := [some (.ref 29), some (.int x1), some (.float x2), some (.int fo.2.2.2)]) C dX1_add_33 (Nat.le_of_ble_eq_true rfl) rfl ?_
    refine wg_drop (lv' := [some (.ref 29), some (.int x1), none, some (.int fo.2.2.2)]) [2] rfl ?_
    obtain ⟨t9, hL9, h⟩ := bnd h
    refine slX1_add_34 X C cn bk st r0 r1 r2 r3 r4 li ((upd fo.1 (fo.2.2.2).toNatClampNeg x1), (vf_upd fo.2.1 (fo.2.2.2).toNatClampNeg x2), fo.2.2.1, fo.2.2.2) tx co ke rf cp lk fl em tm rd x1 t9 (fun a e => ?_) FU (fo.2.2.2, ((upd fo.1 (fo.2.2.2).toNatClampNeg x1), (vf_upd fo.2.1 (fo.2.2.2).toNatClampNeg x2), fo.2.2.1, fo.2.2.2)) hL9
    subst e
    refine wg_aload_n C dX1_add_70 rfl ?_
    refine wg_get (v := .ref 32) C fgX1_add_19 rfl rfl dX1_add_71 ?_
    refine wg_iload_n C dX1_add_74 rfl ?_
    refine wg_iload_n C dX1_add_75 rfl ?_
    obtain ⟨g10, h⟩ := gdP h
    refine wg_iast (f := t9.2.2.2.1) (n := 12) (hp' := (mkH cn bk st r0 r1 r2 r3 r4 li (t9.2.1, t9.2.2.1, (upd t9.2.2.2.1 (t9.1).toNatClampNeg x1), t9.2.2.2.2) tx co ke rf cp lk fl em tm rd)) C rfl g10 rfl dX1_add_76 ?_
    refine wg_aload_n C dX1_add_77 rfl ?_
    refine wg_dup C dX1_add_78 rfl ?_
    refine wg_get (v := .int t9.2.2.2.2) C fgX1_add_22 rfl rfl dX1_add_79 ?_
    refine wg_iconst (v := 1) C dX1_add_82 (by decide) ?_
    refine wg_iadd C dX1_add_83 ?_
    refine wg_put (hp' := (mkH cn bk st r0 r1 r2 r3 r4 li (t9.2.1, t9.2.2.1, (upd t9.2.2.2.1 (t9.1).toNatClampNeg x1), (t9.2.2.2.2 + (1 : Int32))) tx co ke rf cp lk fl em tm rd)) C fwX1_add_22 rfl (Nat.le_of_ble_eq_true rfl) rfl rfl rfl dX1_add_84 ?_
    refine wg_drop (lv' := [none, none, none, none]) [0, 1, 3] rfl ?_
    exact sjX1_add_87 X C cn bk st r0 r1 r2 r3 r4 li (t9.2.1, t9.2.2.1, (upd t9.2.2.2.1 (t9.1).toNatClampNeg x1), (t9.2.2.2.2 + (1 : Int32))) tx co ke rf cp lk fl em tm rd  _ h hT
abbrev rX1_gather : Room := { frames := 3, cells := 0, slots := 0, locals := 64 }
theorem iwX1_gather_1 : ∀ w ∈ wsX10, w ∈ wsX1_gather := by decide +kernel
theorem fwX1_gather_22 : FW wsX1_gather RX1 22 1 3 .int := ⟨RX1, TX1, 4, tyX1, rfl, by decide, by decide +kernel, iwX1_gather_1, tyX1_ok, nmX1, rfl, by decide +kernel⟩
set_option maxRecDepth 100000 in
set_option maxHeartbeats 4000000 in
theorem sjX1_gather_8_62 (X : CX) (C : Ok X RX1 cX1_gather wsX1_gather rX1_gather) (cn : Tcn) (bk : Tbk) (st : Tst) (r0 : Tbk) (r1 : Tbk) (r2 : Tbk) (r3 : Tbk) (r4 : Tbk) (li : Tli) (fo : Tfo) (tx : Ttx) (co : Tco) (ke : Tke) (rf : (Nat → Int32)) (cp : Int32) (lk : Tlk) (fl : Tfl) (em : Int32) (tm : Ttm) (rd : Trd) (x3 : Int32) (x4 : Int32) (x5 : Int32) (x6 : Int32) (o : (Int32 × Tfo) ⊕ Tfo) (h : jX1_gather_8_62 bk li fo x3 x4 x5 x6 = some o) (k0 : ∀ a : Int32 × Tfo, o = .inl a → Wg X 8 [some (.ref 29), some (.ref 1), some (.ref 21), some (.int x3), some (.int x4), some (.int x5), some (.int a.1), none, none] [] (mkH cn bk st r0 r1 r2 r3 r4 li a.2 tx co ke rf cp lk fl em tm rd)) (e0 : ∀ a : Tfo, o = .inr a → Wg X 68 [none, none, none, none, none, none, none, none, none] [] (mkH cn bk st r0 r1 r2 r3 r4 li a tx co ke rf cp lk fl em tm rd)) : Wg X 62 [some (.ref 29), some (.ref 1), some (.ref 21), some (.int x3), some (.int x4), some (.int x5), some (.int x6), none, none] [] (mkH cn bk st r0 r1 r2 r3 r4 li fo tx co ke rf cp lk fl em tm rd) := by
  unfold jX1_gather_8_62 at h
  refine wg_iinc (v := (x6 + (1 : Int32))) (lv' := [some (.ref 29), some (.ref 1), some (.ref 21), some (.int x3), some (.int x4), some (.int x5), some (.int (x6 + (1 : Int32))), none, none]) C dX1_gather_62 rfl rfl rfl ?_
  refine wg_goto (tgt := 8) C dX1_gather_65 (by decide) ?_
  have hk := k0 _ (Option.some.inj h).symm
  exact hk
set_option maxRecDepth 100000 in
set_option maxHeartbeats 4000000 in
theorem sbX1_gather_8 (X : CX) (C : Ok X RX1 cX1_gather wsX1_gather rX1_gather) (cn : Tcn) (bk : Tbk) (st : Tst) (r0 : Tbk) (r1 : Tbk) (r2 : Tbk) (r3 : Tbk) (r4 : Tbk) (li : Tli) (fo : Tfo) (tx : Ttx) (co : Tco) (ke : Tke) (rf : (Nat → Int32)) (cp : Int32) (lk : Tlk) (fl : Tfl) (em : Int32) (tm : Ttm) (rd : Trd) (x3 : Int32) (x4 : Int32) (x5 : Int32) (z : Int32 × Tfo) (o : (Int32 × Tfo) ⊕ Tfo) (h : bX1_gather_8 bk li x3 x4 x5 z = some o) (k0 : ∀ a : Int32 × Tfo, o = .inl a → Wg X 8 [some (.ref 29), some (.ref 1), some (.ref 21), some (.int x3), some (.int x4), some (.int x5), some (.int a.1), none, none] [] (mkH cn bk st r0 r1 r2 r3 r4 li a.2 tx co ke rf cp lk fl em tm rd)) (e0 : ∀ a : Tfo, o = .inr a → Wg X 68 [none, none, none, none, none, none, none, none, none] [] (mkH cn bk st r0 r1 r2 r3 r4 li a tx co ke rf cp lk fl em tm rd)) : Wg X 8 [some (.ref 29), some (.ref 1), some (.ref 21), some (.int x3), some (.int x4), some (.int x5), some (.int z.1), none, none] [] (mkH cn bk st r0 r1 r2 r3 r4 li z.2 tx co ke rf cp lk fl em tm rd) := by
  unfold bX1_gather_8 at h
  refine wg_iload C dX1_gather_8 rfl ?_
  refine wg_aload_n C dX1_gather_10 rfl ?_
  refine wg_iload_n C dX1_gather_11 rfl ?_
  refine wg_iload C dX1_gather_12 rfl ?_
  obtain ⟨q1, e1q, h⟩ := bnd h
  refine wg_callV (n := 2) (As := [.int x3, .int x5]) (st := [.int z.1]) (st' := [.int q1, .int z.1]) C (sX2_nearOnes cn bk st r0 r1 r2 r3 r4 li z.2 tx co ke rf cp lk fl em tm rd x3 x5 q1 e1q) gX1_gather_X2_nearOnes rfl (by decide +kernel) ⟨⟨rfl, rfl⟩, Nat.le_of_ble_eq_true rfl, Nat.le_of_ble_eq_true rfl⟩ rfl rfl rfl rfl (Nat.le_of_ble_eq_true rfl) dX1_gather_14 rfl ?_
  refine wg_icmp_ge (tgt := 68) C dX1_gather_17 (by decide) (fun c2 => ?_) (fun c2 => ?_)
  · replace h := ifP c2 h
    refine wg_drop (lv' := [none, none, none, none, none, none, none, none, none]) [0, 1, 2, 3, 4, 5, 6] rfl ?_
    have hk := e0 _ (Option.some.inj h).symm
    exact hk
  · replace h := ifN c2 h
    refine wg_aload_n C dX1_gather_20 rfl ?_
    refine wg_iload_n C dX1_gather_21 rfl ?_
    refine wg_iload C dX1_gather_22 rfl ?_
    obtain ⟨q3, e3q, h⟩ := bnd h
    refine wg_callV (n := 2) (As := [.int x3, .int z.1]) (st := []) (st' := [.int q3]) C (sX2_near cn bk st r0 r1 r2 r3 r4 li z.2 tx co ke rf cp lk fl em tm rd x3 z.1 q3 e3q) gX1_gather_X2_near rfl (by decide +kernel) ⟨⟨rfl, rfl⟩, Nat.le_of_ble_eq_true rfl, Nat.le_of_ble_eq_true rfl⟩ rfl rfl rfl rfl (Nat.le_of_ble_eq_true rfl) dX1_gather_24 rfl ?_
    refine wg_istore (lv' := [some (.ref 29), some (.ref 1), some (.ref 21), some (.int x3), some (.int x4), some (.int x5), some (.int z.1), some (.int q3), none]) C dX1_gather_27 (Nat.le_of_ble_eq_true rfl) rfl ?_
    refine wg_aload_n C dX1_gather_29 rfl ?_
    refine wg_iload C dX1_gather_30 rfl ?_
    refine wg_iconst (v := 1) C dX1_gather_32 (by decide) ?_
    refine wg_iadd C dX1_gather_33 ?_
    refine wg_iload C dX1_gather_34 rfl ?_
    obtain ⟨q4, e4q, h⟩ := bnd h
    refine wg_callV (n := 2) (As := [.int (q3 + (1 : Int32)), .int x4]) (st := []) (st' := [.int q4]) C (sX0_member cn bk st r0 r1 r2 r3 r4 li z.2 tx co ke rf cp lk fl em tm rd (q3 + (1 : Int32)) x4 q4 e4q) gX1_gather_X0_member rfl (by decide +kernel) ⟨⟨rfl, rfl⟩, Nat.le_of_ble_eq_true rfl, Nat.le_of_ble_eq_true rfl⟩ rfl rfl rfl rfl (Nat.le_of_ble_eq_true rfl) dX1_gather_36 rfl ?_
    refine wg_istore (lv' := [some (.ref 29), some (.ref 1), some (.ref 21), some (.int x3), some (.int x4), some (.int x5), some (.int z.1), some (.int q3), some (.int q4)]) C dX1_gather_39 (Nat.le_of_ble_eq_true rfl) rfl ?_
    refine wg_iload C dX1_gather_41 rfl ?_
    refine wg_sipush (v := -10000) C dX1_gather_43 (by decide) ?_
    refine wg_icmp_eq (tgt := 62) C dX1_gather_46 (by decide) (fun c5 => ?_) (fun c5 => ?_)
    · replace h := ifP c5 h
      refine wg_drop (lv' := [some (.ref 29), some (.ref 1), some (.ref 21), some (.int x3), some (.int x4), some (.int x5), some (.int z.1), none, none]) [7, 8] rfl ?_
      exact sjX1_gather_8_62 X C cn bk st r0 r1 r2 r3 r4 li z.2 tx co ke rf cp lk fl em tm rd x3 x4 x5 z.1 _ h k0 e0
    · replace h := ifN c5 h
      refine wg_aload_n C dX1_gather_49 rfl ?_
      refine wg_iload C dX1_gather_50 rfl ?_
      refine wg_aload_n C dX1_gather_52 rfl ?_
      refine wg_iload_n C dX1_gather_53 rfl ?_
      refine wg_iload C dX1_gather_54 rfl ?_
      obtain ⟨q6, e6q, h⟩ := bnd h
      refine wg_callV (n := 2) (As := [.int x3, .int q3]) (st := [.int q4, .ref 29]) (st' := [.float q6, .int q4, .ref 29]) C (sX2_between cn bk st r0 r1 r2 r3 r4 li z.2 tx co ke rf cp lk fl em tm rd x3 q3 q6 e6q) gX1_gather_X2_between rfl (by decide +kernel) ⟨⟨rfl, rfl⟩, Nat.le_of_ble_eq_true rfl, Nat.le_of_ble_eq_true rfl⟩ rfl rfl rfl rfl (Nat.le_of_ble_eq_true rfl) dX1_gather_56 rfl ?_
      obtain ⟨q7, e7q, h⟩ := bnd h
      refine wg_callV (n := 2) (As := [.int q4, .float q6]) (st := []) (st' := []) C (sX1_add cn bk st r0 r1 r2 r3 r4 li z.2 tx co ke rf cp lk fl em tm rd q4 q6 q7 e7q) gX1_gather_X1_add rfl (by decide +kernel) ⟨⟨rfl, rfl⟩, Nat.le_of_ble_eq_true rfl, Nat.le_of_ble_eq_true rfl⟩ rfl rfl rfl rfl (Nat.le_of_ble_eq_true rfl) dX1_gather_59 rfl ?_
      refine wg_drop (lv' := [some (.ref 29), some (.ref 1), some (.ref 21), some (.int x3), some (.int x4), some (.int x5), some (.int z.1), none, none]) [7, 8] rfl ?_
      exact sjX1_gather_8_62 X C cn bk st r0 r1 r2 r3 r4 li q7 tx co ke rf cp lk fl em tm rd x3 x4 x5 z.1 _ h k0 e0
set_option maxRecDepth 100000 in
set_option maxHeartbeats 4000000 in
theorem slX1_gather_8 (X : CX) (C : Ok X RX1 cX1_gather wsX1_gather rX1_gather) (cn : Tcn) (bk : Tbk) (st : Tst) (r0 : Tbk) (r1 : Tbk) (r2 : Tbk) (r3 : Tbk) (r4 : Tbk) (li : Tli) (fo : Tfo) (tx : Ttx) (co : Tco) (ke : Tke) (rf : (Nat → Int32)) (cp : Int32) (lk : Tlk) (fl : Tfl) (em : Int32) (tm : Ttm) (rd : Trd) (x3 : Int32) (x4 : Int32) (x5 : Int32) (o : Tfo) (e0 : ∀ a : Tfo, o = a → Wg X 68 [none, none, none, none, none, none, none, none, none] [] (mkH cn bk st r0 r1 r2 r3 r4 li a tx co ke rf cp lk fl em tm rd)) : ∀ (n : Nat) (z : Int32 × Tfo), lpF (bX1_gather_8 bk li x3 x4 x5) n z = some o → Wg X 8 [some (.ref 29), some (.ref 1), some (.ref 21), some (.int x3), some (.int x4), some (.int x5), some (.int z.1), none, none] [] (mkH cn bk st r0 r1 r2 r3 r4 li z.2 tx co ke rf cp lk fl em tm rd) := by
  intro n
  induction n with
  | zero => intro z h; cases h
  | succ n ih =>
    intro z h
    obtain ⟨r, hB, h⟩ := bnd h
    refine sbX1_gather_8 X C cn bk st r0 r1 r2 r3 r4 li fo tx co ke rf cp lk fl em tm rd x3 x4 x5 z r hB (fun a e => ih a (by subst e; exact h)) (fun a e => e0 a (by subst e; exact (Option.some.inj h).symm))
set_option maxRecDepth 100000 in
set_option maxHeartbeats 4000000 in
theorem sX1_gather (cn : Tcn) (bk : Tbk) (st : Tst) (r0 : Tbk) (r1 : Tbk) (r2 : Tbk) (r3 : Tbk) (r4 : Tbk) (li : Tli) (fo : Tfo) (tx : Ttx) (co : Tco) (ke : Tke) (rf : (Nat → Int32)) (cp : Int32) (lk : Tlk) (fl : Tfl) (em : Int32) (tm : Ttm) (rd : Trd) (x3 : Int32) (x4 : Int32) (x5 : Int32) (o : Tfo) (h : fX1_gather bk li fo x3 x4 x5 = some o) : Sp yX1_gather wsX1_gather rX1_gather [.ref 29, .ref 1, .ref 21, .int x3, .int x4, .int x5] (mkH cn bk st r0 r1 r2 r3 r4 li fo tx co ke rf cp lk fl em tm rd) none (mkH cn bk st r0 r1 r2 r3 r4 li o tx co ke rf cp lk fl em tm rd) := by
  refine Sp.of (lv := [some (.ref 29), some (.ref 1), some (.ref 21), some (.int x3), some (.int x4), some (.int x5), none, none, none]) RX1 (by decide +kernel) rfl (Nat.le_of_ble_eq_true rfl) rfl ?_
  intro X C hT
  unfold fX1_gather at h
  refine wg_aload_n C dX1_gather_0 rfl ?_
  refine wg_iconst (v := 0) C dX1_gather_1 (by decide) ?_
  refine wg_put (hp' := (mkH cn bk st r0 r1 r2 r3 r4 li (fo.1, fo.2.1, fo.2.2.1, (0 : Int32)) tx co ke rf cp lk fl em tm rd)) C fwX1_gather_22 rfl (Nat.le_of_ble_eq_true rfl) rfl rfl rfl dX1_gather_2 ?_
  refine wg_iconst (v := 0) C dX1_gather_5 (by decide) ?_
  refine wg_istore (lv' := [some (.ref 29), some (.ref 1), some (.ref 21), some (.int x3), some (.int x4), some (.int x5), some (.int (0 : Int32)), none, none]) C dX1_gather_6 (Nat.le_of_ble_eq_true rfl) rfl ?_
  obtain ⟨t8, hL8, h⟩ := bnd h
  refine slX1_gather_8 X C cn bk st r0 r1 r2 r3 r4 li (fo.1, fo.2.1, fo.2.2.1, (0 : Int32)) tx co ke rf cp lk fl em tm rd x3 x4 x5 t8 (fun a e => ?_) FU ((0 : Int32), (fo.1, fo.2.1, fo.2.2.1, (0 : Int32))) hL8
  subst e
  obtain rfl := Option.some.inj h
  exact wg_vret C hT dX1_gather_68
abbrev rX5_gatherFollowers : Room := { frames := 5, cells := 0, slots := 0, locals := 121 }
theorem iwX5_gatherFollowers_5 : ∀ w ∈ wsX50, w ∈ wsX5_gatherFollowers := by decide +kernel
theorem fgX5_gatherFollowers_10 : FG wsX5_gatherFollowers RX5 10 5 0 := ⟨RX5, TX5, 8, rfl, by decide, by decide +kernel, iwX5_gatherFollowers_5⟩
theorem fgX5_gatherFollowers_26 : FG wsX5_gatherFollowers RX5 26 5 2 := ⟨RX5, TX5, 8, rfl, by decide, by decide +kernel, iwX5_gatherFollowers_5⟩
theorem fgX5_gatherFollowers_33 : FG wsX5_gatherFollowers RX5 33 5 3 := ⟨RX5, TX5, 8, rfl, by decide, by decide +kernel, iwX5_gatherFollowers_5⟩
set_option maxRecDepth 100000 in
set_option maxHeartbeats 4000000 in
theorem sX5_gatherFollowers (cn : Tcn) (bk : Tbk) (st : Tst) (r0 : Tbk) (r1 : Tbk) (r2 : Tbk) (r3 : Tbk) (r4 : Tbk) (li : Tli) (fo : Tfo) (tx : Ttx) (co : Tco) (ke : Tke) (rf : (Nat → Int32)) (cp : Int32) (lk : Tlk) (fl : Tfl) (em : Int32) (tm : Ttm) (rd : Trd) (x1 : Int32) (x2 : Int32) (o : Tli × Tfo) (h : fX5_gatherFollowers bk li fo x1 x2 = some o) : Sp yX5_gatherFollowers wsX5_gatherFollowers rX5_gatherFollowers [.ref 0, .int x1, .int x2] (mkH cn bk st r0 r1 r2 r3 r4 li fo tx co ke rf cp lk fl em tm rd) none (mkH cn bk st r0 r1 r2 r3 r4 o.1 o.2 tx co ke rf cp lk fl em tm rd) := by
  refine Sp.of (lv := [some (.ref 0), some (.int x1), some (.int x2)]) RX5 (by decide +kernel) rfl (Nat.le_of_ble_eq_true rfl) rfl ?_
  intro X C hT
  unfold fX5_gatherFollowers at h
  refine wg_aload_n C dX5_gatherFollowers_0 rfl ?_
  refine wg_get (v := .ref 21) C fgX5_gatherFollowers_26 rfl rfl dX5_gatherFollowers_1 ?_
  refine wg_aload_n C dX5_gatherFollowers_4 rfl ?_
  refine wg_get (v := .ref 1) C fgX5_gatherFollowers_10 rfl rfl dX5_gatherFollowers_5 ?_
  refine wg_iconst (v := -1) C dX5_gatherFollowers_8 (by decide) ?_
  obtain ⟨q1, e1q, h⟩ := bnd h
  refine wg_callV (n := 2) (As := [.ref 1, .int (-1 : Int32)]) (st := []) (st' := []) C (sX2_learn cn bk st r0 r1 r2 r3 r4 li fo tx co ke rf cp lk fl em tm rd (-1 : Int32) q1 e1q) gX5_gatherFollowers_X2_learn rfl (by decide +kernel) ⟨⟨rfl, rfl⟩, Nat.le_of_ble_eq_true rfl, Nat.le_of_ble_eq_true rfl⟩ rfl rfl rfl rfl (Nat.le_of_ble_eq_true rfl) dX5_gatherFollowers_9 rfl ?_
  refine wg_aload_n C dX5_gatherFollowers_12 rfl ?_
  refine wg_get (v := .ref 29) C fgX5_gatherFollowers_33 rfl rfl dX5_gatherFollowers_13 ?_
  refine wg_aload_n C dX5_gatherFollowers_16 rfl ?_
  refine wg_get (v := .ref 1) C fgX5_gatherFollowers_10 rfl rfl dX5_gatherFollowers_17 ?_
  refine wg_aload_n C dX5_gatherFollowers_20 rfl ?_
  refine wg_get (v := .ref 21) C fgX5_gatherFollowers_26 rfl rfl dX5_gatherFollowers_21 ?_
  refine wg_iload_n C dX5_gatherFollowers_24 rfl ?_
  refine wg_iload_n C dX5_gatherFollowers_25 rfl ?_
  refine wg_aload_n C dX5_gatherFollowers_26 rfl ?_
  refine wg_get (v := .ref 1) C fgX5_gatherFollowers_10 rfl rfl dX5_gatherFollowers_27 ?_
  obtain ⟨q2, e2q, h⟩ := bnd h
  refine wg_callV (n := 0) (As := []) (st := [.int x2, .int x1, .ref 21, .ref 1, .ref 29]) (st' := [.int q2, .int x2, .int x1, .ref 21, .ref 1, .ref 29]) C (sX0_few cn bk st r0 r1 r2 r3 r4 q1 fo tx co ke rf cp lk fl em tm rd  q2 e2q) gX5_gatherFollowers_X0_few rfl (by decide +kernel) ⟨⟨rfl, rfl⟩, Nat.le_of_ble_eq_true rfl, Nat.le_of_ble_eq_true rfl⟩ rfl rfl rfl rfl (Nat.le_of_ble_eq_true rfl) dX5_gatherFollowers_30 rfl ?_
  obtain ⟨q3, e3q, h⟩ := bnd h
  refine wg_callV (n := 5) (As := [.ref 1, .ref 21, .int x1, .int x2, .int q2]) (st := []) (st' := []) C (sX1_gather cn bk st r0 r1 r2 r3 r4 q1 fo tx co ke rf cp lk fl em tm rd x1 x2 q2 q3 e3q) gX5_gatherFollowers_X1_gather rfl (by decide +kernel) ⟨⟨rfl, rfl⟩, Nat.le_of_ble_eq_true rfl, Nat.le_of_ble_eq_true rfl⟩ rfl rfl rfl rfl (Nat.le_of_ble_eq_true rfl) dX5_gatherFollowers_33 rfl ?_
  obtain rfl := Option.some.inj h
  exact wg_vret C hT dX5_gatherFollowers_36
abbrev rX1_size : Room := { frames := 0, cells := 0, slots := 0, locals := 0 }
theorem iwX1_size_1 : ∀ w ∈ wsX10, w ∈ wsX1_size := by decide +kernel
theorem fgX1_size_22 : FG wsX1_size RX1 22 1 3 := ⟨RX1, TX1, 4, rfl, by decide, by decide +kernel, iwX1_size_1⟩
set_option maxRecDepth 100000 in
set_option maxHeartbeats 4000000 in
theorem sX1_size (cn : Tcn) (bk : Tbk) (st : Tst) (r0 : Tbk) (r1 : Tbk) (r2 : Tbk) (r3 : Tbk) (r4 : Tbk) (li : Tli) (fo : Tfo) (tx : Ttx) (co : Tco) (ke : Tke) (rf : (Nat → Int32)) (cp : Int32) (lk : Tlk) (fl : Tfl) (em : Int32) (tm : Ttm) (rd : Trd)  (o : Int32) (h : fX1_size fo  = some o) : Sp yX1_size wsX1_size rX1_size [.ref 29] (mkH cn bk st r0 r1 r2 r3 r4 li fo tx co ke rf cp lk fl em tm rd) (some (.int o)) (mkH cn bk st r0 r1 r2 r3 r4 li fo tx co ke rf cp lk fl em tm rd) := by
  refine Sp.of (lv := [some (.ref 29)]) RX1 (by decide +kernel) rfl (Nat.le_of_ble_eq_true rfl) rfl ?_
  intro X C hT
  unfold fX1_size at h
  refine wg_aload_n C dX1_size_0 rfl ?_
  refine wg_get (v := .int fo.2.2.2) C fgX1_size_22 rfl rfl dX1_size_1 ?_
  obtain rfl := Option.some.inj h
  exact wg_iret C hT dX1_size_4
abbrev rX1_spanSize : Room := { frames := 1, cells := 0, slots := 0, locals := 13 }
theorem iwX1_spanSize_1 : ∀ w ∈ wsX10, w ∈ wsX1_spanSize := by decide +kernel
theorem fgX1_spanSize_22 : FG wsX1_spanSize RX1 22 1 3 := ⟨RX1, TX1, 4, rfl, by decide, by decide +kernel, iwX1_spanSize_1⟩
set_option maxRecDepth 100000 in
set_option maxHeartbeats 4000000 in
theorem sX1_spanSize (cn : Tcn) (bk : Tbk) (st : Tst) (r0 : Tbk) (r1 : Tbk) (r2 : Tbk) (r3 : Tbk) (r4 : Tbk) (li : Tli) (fo : Tfo) (tx : Ttx) (co : Tco) (ke : Tke) (rf : (Nat → Int32)) (cp : Int32) (lk : Tlk) (fl : Tfl) (em : Int32) (tm : Ttm) (rd : Trd) (x1 : Int32) (o : Int32) (h : fX1_spanSize fo x1 = some o) : Sp yX1_spanSize wsX1_spanSize rX1_spanSize [.ref 29, .int x1] (mkH cn bk st r0 r1 r2 r3 r4 li fo tx co ke rf cp lk fl em tm rd) (some (.int o)) (mkH cn bk st r0 r1 r2 r3 r4 li fo tx co ke rf cp lk fl em tm rd) := by
  refine Sp.of (lv := [some (.ref 29), some (.int x1)]) RX1 (by decide +kernel) rfl (Nat.le_of_ble_eq_true rfl) rfl ?_
  intro X C hT
  unfold fX1_spanSize at h
  refine wg_iconst (v := 0) C dX1_spanSize_0 (by decide) ?_
  refine wg_aload_n C dX1_spanSize_1 rfl ?_
  refine wg_get (v := .int fo.2.2.2) C fgX1_spanSize_22 rfl rfl dX1_spanSize_2 ?_
  refine wg_iconst (v := 2) C dX1_spanSize_5 (by decide) ?_
  refine wg_iload_n C dX1_spanSize_6 rfl ?_
  refine wg_imul C dX1_spanSize_7 ?_
  refine wg_isub C dX1_spanSize_8 ?_
  refine wg_mmax C ⟨by decide +kernel, by decide +kernel, by decide +kernel, by decide +kernel⟩ ⟨Nat.le_of_ble_eq_true rfl, Nat.le_of_ble_eq_true rfl⟩ dX1_spanSize_9 ?_
  obtain rfl := Option.some.inj h
  exact wg_iret C hT dX1_spanSize_12
abbrev rX1_least : Room := { frames := 2, cells := 0, slots := 0, locals := 34 }
theorem iwX1_least_1 : ∀ w ∈ wsX10, w ∈ wsX1_least := by decide +kernel
theorem fgX1_least_19 : FG wsX1_least RX1 19 1 2 := ⟨RX1, TX1, 4, rfl, by decide, by decide +kernel, iwX1_least_1⟩
set_option maxRecDepth 100000 in
set_option maxHeartbeats 4000000 in
theorem sjX1_least_24 (X : CX) (C : Ok X RX1 cX1_least wsX1_least rX1_least) (cn : Tcn) (bk : Tbk) (st : Tst) (r0 : Tbk) (r1 : Tbk) (r2 : Tbk) (r3 : Tbk) (r4 : Tbk) (li : Tli) (fo : Tfo) (tx : Ttx) (co : Tco) (ke : Tke) (rf : (Nat → Int32)) (cp : Int32) (lk : Tlk) (fl : Tfl) (em : Int32) (tm : Ttm) (rd : Trd) (y0 : Int32) (o : Int32) (h : jX1_least_24 fo y0 = some o) (hT : Rt X (some .int) (some (.int o)) (mkH cn bk st r0 r1 r2 r3 r4 li fo tx co ke rf cp lk fl em tm rd)) : Wg X 24 [none, none] [.int y0] (mkH cn bk st r0 r1 r2 r3 r4 li fo tx co ke rf cp lk fl em tm rd) := by
  unfold jX1_least_24 at h
  obtain rfl := Option.some.inj h
  exact wg_iret C hT dX1_least_24
set_option maxRecDepth 100000 in
set_option maxHeartbeats 4000000 in
theorem sjX1_least_21 (X : CX) (C : Ok X RX1 cX1_least wsX1_least rX1_least) (cn : Tcn) (bk : Tbk) (st : Tst) (r0 : Tbk) (r1 : Tbk) (r2 : Tbk) (r3 : Tbk) (r4 : Tbk) (li : Tli) (fo : Tfo) (tx : Ttx) (co : Tco) (ke : Tke) (rf : (Nat → Int32)) (cp : Int32) (lk : Tlk) (fl : Tfl) (em : Int32) (tm : Ttm) (rd : Trd)  (o : Int32) (h : jX1_least_21 fo  = some o) (hT : Rt X (some .int) (some (.int o)) (mkH cn bk st r0 r1 r2 r3 r4 li fo tx co ke rf cp lk fl em tm rd)) : Wg X 21 [none, none] [] (mkH cn bk st r0 r1 r2 r3 r4 li fo tx co ke rf cp lk fl em tm rd) := by
  unfold jX1_least_21 at h
  refine wg_sipush (v := -10000) C dX1_least_21 (by decide) ?_
  exact sjX1_least_24 X C cn bk st r0 r1 r2 r3 r4 li fo tx co ke rf cp lk fl em tm rd (-10000 : Int32) _ h hT
set_option maxRecDepth 100000 in
set_option maxHeartbeats 4000000 in
theorem sX1_least (cn : Tcn) (bk : Tbk) (st : Tst) (r0 : Tbk) (r1 : Tbk) (r2 : Tbk) (r3 : Tbk) (r4 : Tbk) (li : Tli) (fo : Tfo) (tx : Ttx) (co : Tco) (ke : Tke) (rf : (Nat → Int32)) (cp : Int32) (lk : Tlk) (fl : Tfl) (em : Int32) (tm : Ttm) (rd : Trd) (x1 : Int32) (o : Int32) (h : fX1_least fo x1 = some o) : Sp yX1_least wsX1_least rX1_least [.ref 29, .int x1] (mkH cn bk st r0 r1 r2 r3 r4 li fo tx co ke rf cp lk fl em tm rd) (some (.int o)) (mkH cn bk st r0 r1 r2 r3 r4 li fo tx co ke rf cp lk fl em tm rd) := by
  refine Sp.of (lv := [some (.ref 29), some (.int x1)]) RX1 (by decide +kernel) rfl (Nat.le_of_ble_eq_true rfl) rfl ?_
  intro X C hT
  unfold fX1_least at h
  refine wg_iload_n C dX1_least_0 rfl ?_
  refine wg_if_lt (tgt := 21) C dX1_least_1 (by decide) (fun c1 => ?_) (fun c1 => ?_)
  · replace h := ifP c1 h
    refine wg_drop (lv' := [none, none]) [0, 1] rfl ?_
    exact sjX1_least_21 X C cn bk st r0 r1 r2 r3 r4 li fo tx co ke rf cp lk fl em tm rd  _ h hT
  · replace h := ifN c1 h
    refine wg_aload_n C dX1_least_4 rfl ?_
    refine wg_iload_n C dX1_least_5 rfl ?_
    obtain ⟨q2, e2q, h⟩ := bnd h
    refine wg_callV (n := 1) (As := [.int x1]) (st := []) (st' := [.int q2]) C (sX1_spanSize cn bk st r0 r1 r2 r3 r4 li fo tx co ke rf cp lk fl em tm rd x1 q2 e2q) gX1_least_X1_spanSize rfl (by decide +kernel) ⟨⟨rfl, rfl⟩, Nat.le_of_ble_eq_true rfl, Nat.le_of_ble_eq_true rfl⟩ rfl rfl rfl rfl (Nat.le_of_ble_eq_true rfl) dX1_least_6 rfl ?_
    refine wg_if_le (tgt := 21) C dX1_least_9 (by decide) (fun c3 => ?_) (fun c3 => ?_)
    · replace h := ifP c3 h
      refine wg_drop (lv' := [none, none]) [0, 1] rfl ?_
      exact sjX1_least_21 X C cn bk st r0 r1 r2 r3 r4 li fo tx co ke rf cp lk fl em tm rd  _ h hT
    · replace h := ifN c3 h
      refine wg_aload_n C dX1_least_12 rfl ?_
      refine wg_get (v := .ref 32) C fgX1_least_19 rfl rfl dX1_least_13 ?_
      refine wg_iload_n C dX1_least_16 rfl ?_
      obtain ⟨g4, h⟩ := gdP h
      refine wg_iald (f := fo.2.2.1) (n := 12) C rfl g4 dX1_least_17 ?_
      refine wg_goto (tgt := 24) C dX1_least_18 (by decide) ?_
      refine wg_drop (lv' := [none, none]) [0, 1] rfl ?_
      exact sjX1_least_24 X C cn bk st r0 r1 r2 r3 r4 li fo tx co ke rf cp lk fl em tm rd (fo.2.2.1 (x1).toNatClampNeg) _ h hT
abbrev rX1_greatest : Room := { frames := 2, cells := 0, slots := 0, locals := 34 }
theorem iwX1_greatest_1 : ∀ w ∈ wsX10, w ∈ wsX1_greatest := by decide +kernel
theorem fgX1_greatest_19 : FG wsX1_greatest RX1 19 1 2 := ⟨RX1, TX1, 4, rfl, by decide, by decide +kernel, iwX1_greatest_1⟩
theorem fgX1_greatest_22 : FG wsX1_greatest RX1 22 1 3 := ⟨RX1, TX1, 4, rfl, by decide, by decide +kernel, iwX1_greatest_1⟩
set_option maxRecDepth 100000 in
set_option maxHeartbeats 4000000 in
theorem sjX1_greatest_31 (X : CX) (C : Ok X RX1 cX1_greatest wsX1_greatest rX1_greatest) (cn : Tcn) (bk : Tbk) (st : Tst) (r0 : Tbk) (r1 : Tbk) (r2 : Tbk) (r3 : Tbk) (r4 : Tbk) (li : Tli) (fo : Tfo) (tx : Ttx) (co : Tco) (ke : Tke) (rf : (Nat → Int32)) (cp : Int32) (lk : Tlk) (fl : Tfl) (em : Int32) (tm : Ttm) (rd : Trd) (y0 : Int32) (o : Int32) (h : jX1_greatest_31 fo y0 = some o) (hT : Rt X (some .int) (some (.int o)) (mkH cn bk st r0 r1 r2 r3 r4 li fo tx co ke rf cp lk fl em tm rd)) : Wg X 31 [none, none] [.int y0] (mkH cn bk st r0 r1 r2 r3 r4 li fo tx co ke rf cp lk fl em tm rd) := by
  unfold jX1_greatest_31 at h
  obtain rfl := Option.some.inj h
  exact wg_iret C hT dX1_greatest_31
set_option maxRecDepth 100000 in
set_option maxHeartbeats 4000000 in
theorem sjX1_greatest_28 (X : CX) (C : Ok X RX1 cX1_greatest wsX1_greatest rX1_greatest) (cn : Tcn) (bk : Tbk) (st : Tst) (r0 : Tbk) (r1 : Tbk) (r2 : Tbk) (r3 : Tbk) (r4 : Tbk) (li : Tli) (fo : Tfo) (tx : Ttx) (co : Tco) (ke : Tke) (rf : (Nat → Int32)) (cp : Int32) (lk : Tlk) (fl : Tfl) (em : Int32) (tm : Ttm) (rd : Trd)  (o : Int32) (h : jX1_greatest_28 fo  = some o) (hT : Rt X (some .int) (some (.int o)) (mkH cn bk st r0 r1 r2 r3 r4 li fo tx co ke rf cp lk fl em tm rd)) : Wg X 28 [none, none] [] (mkH cn bk st r0 r1 r2 r3 r4 li fo tx co ke rf cp lk fl em tm rd) := by
  unfold jX1_greatest_28 at h
  refine wg_sipush (v := -10000) C dX1_greatest_28 (by decide) ?_
  exact sjX1_greatest_31 X C cn bk st r0 r1 r2 r3 r4 li fo tx co ke rf cp lk fl em tm rd (-10000 : Int32) _ h hT
set_option maxRecDepth 100000 in
set_option maxHeartbeats 4000000 in
theorem sX1_greatest (cn : Tcn) (bk : Tbk) (st : Tst) (r0 : Tbk) (r1 : Tbk) (r2 : Tbk) (r3 : Tbk) (r4 : Tbk) (li : Tli) (fo : Tfo) (tx : Ttx) (co : Tco) (ke : Tke) (rf : (Nat → Int32)) (cp : Int32) (lk : Tlk) (fl : Tfl) (em : Int32) (tm : Ttm) (rd : Trd) (x1 : Int32) (o : Int32) (h : fX1_greatest fo x1 = some o) : Sp yX1_greatest wsX1_greatest rX1_greatest [.ref 29, .int x1] (mkH cn bk st r0 r1 r2 r3 r4 li fo tx co ke rf cp lk fl em tm rd) (some (.int o)) (mkH cn bk st r0 r1 r2 r3 r4 li fo tx co ke rf cp lk fl em tm rd) := by
  refine Sp.of (lv := [some (.ref 29), some (.int x1)]) RX1 (by decide +kernel) rfl (Nat.le_of_ble_eq_true rfl) rfl ?_
  intro X C hT
  unfold fX1_greatest at h
  refine wg_iload_n C dX1_greatest_0 rfl ?_
  refine wg_if_lt (tgt := 28) C dX1_greatest_1 (by decide) (fun c1 => ?_) (fun c1 => ?_)
  · replace h := ifP c1 h
    refine wg_drop (lv' := [none, none]) [0, 1] rfl ?_
    exact sjX1_greatest_28 X C cn bk st r0 r1 r2 r3 r4 li fo tx co ke rf cp lk fl em tm rd  _ h hT
  · replace h := ifN c1 h
    refine wg_aload_n C dX1_greatest_4 rfl ?_
    refine wg_iload_n C dX1_greatest_5 rfl ?_
    obtain ⟨q2, e2q, h⟩ := bnd h
    refine wg_callV (n := 1) (As := [.int x1]) (st := []) (st' := [.int q2]) C (sX1_spanSize cn bk st r0 r1 r2 r3 r4 li fo tx co ke rf cp lk fl em tm rd x1 q2 e2q) gX1_greatest_X1_spanSize rfl (by decide +kernel) ⟨⟨rfl, rfl⟩, Nat.le_of_ble_eq_true rfl, Nat.le_of_ble_eq_true rfl⟩ rfl rfl rfl rfl (Nat.le_of_ble_eq_true rfl) dX1_greatest_6 rfl ?_
    refine wg_if_le (tgt := 28) C dX1_greatest_9 (by decide) (fun c3 => ?_) (fun c3 => ?_)
    · replace h := ifP c3 h
      refine wg_drop (lv' := [none, none]) [0, 1] rfl ?_
      exact sjX1_greatest_28 X C cn bk st r0 r1 r2 r3 r4 li fo tx co ke rf cp lk fl em tm rd  _ h hT
    · replace h := ifN c3 h
      refine wg_aload_n C dX1_greatest_12 rfl ?_
      refine wg_get (v := .ref 32) C fgX1_greatest_19 rfl rfl dX1_greatest_13 ?_
      refine wg_aload_n C dX1_greatest_16 rfl ?_
      refine wg_get (v := .int fo.2.2.2) C fgX1_greatest_22 rfl rfl dX1_greatest_17 ?_
      refine wg_iconst (v := 1) C dX1_greatest_20 (by decide) ?_
      refine wg_isub C dX1_greatest_21 ?_
      refine wg_iload_n C dX1_greatest_22 rfl ?_
      refine wg_isub C dX1_greatest_23 ?_
      obtain ⟨g4, h⟩ := gdP h
      refine wg_iald (f := fo.2.2.1) (n := 12) C rfl g4 dX1_greatest_24 ?_
      refine wg_goto (tgt := 31) C dX1_greatest_25 (by decide) ?_
      refine wg_drop (lv' := [none, none]) [0, 1] rfl ?_
      exact sjX1_greatest_31 X C cn bk st r0 r1 r2 r3 r4 li fo tx co ke rf cp lk fl em tm rd (fo.2.2.1 (((fo.2.2.2 - (1 : Int32)) - x1)).toNatClampNeg) _ h hT
abbrev rX5_follows : Room := { frames := 6, cells := 0, slots := 0, locals := 143 }
theorem iwX5_follows_5 : ∀ w ∈ wsX50, w ∈ wsX5_follows := by decide +kernel
theorem fgX5_follows_10 : FG wsX5_follows RX5 10 5 0 := ⟨RX5, TX5, 8, rfl, by decide, by decide +kernel, iwX5_follows_5⟩
theorem fgX5_follows_33 : FG wsX5_follows RX5 33 5 3 := ⟨RX5, TX5, 8, rfl, by decide, by decide +kernel, iwX5_follows_5⟩
set_option maxRecDepth 100000 in
set_option maxHeartbeats 4000000 in
theorem sjX5_follows_37 (X : CX) (C : Ok X RX5 cX5_follows wsX5_follows rX5_follows) (cn : Tcn) (bk : Tbk) (st : Tst) (r0 : Tbk) (r1 : Tbk) (r2 : Tbk) (r3 : Tbk) (r4 : Tbk) (li : Tli) (fo : Tfo) (tx : Ttx) (co : Tco) (ke : Tke) (rf : (Nat → Int32)) (cp : Int32) (lk : Tlk) (fl : Tfl) (em : Int32) (tm : Ttm) (rd : Trd)  (o : Int32 × Tcn × Tli × Tfo) (h : jX5_follows_37 cn bk li fo  = some o) (hT : Rt X (some .int) (some (.int o.1)) (mkH o.2.1 bk st r0 r1 r2 r3 r4 o.2.2.1 o.2.2.2 tx co ke rf cp lk fl em tm rd)) : Wg X 37 [some (.ref 0), none, none, none, none] [] (mkH cn bk st r0 r1 r2 r3 r4 li fo tx co ke rf cp lk fl em tm rd) := by
  unfold jX5_follows_37 at h
  refine wg_aload_n C dX5_follows_37 rfl ?_
  refine wg_sipush (v := -20000) C dX5_follows_38 (by decide) ?_
  obtain ⟨q3, e3q, h⟩ := bnd h
  refine wg_callV (n := 1) (As := [.int (-20000 : Int32)]) (st := []) (st' := [.int q3.1]) C (sX5_refuseBad cn bk st r0 r1 r2 r3 r4 li fo tx co ke rf cp lk fl em tm rd (-20000 : Int32) q3 e3q) gX5_follows_X5_refuseBad rfl (by decide +kernel) ⟨⟨rfl, rfl⟩, Nat.le_of_ble_eq_true rfl, Nat.le_of_ble_eq_true rfl⟩ rfl rfl rfl rfl (Nat.le_of_ble_eq_true rfl) dX5_follows_41 rfl ?_
  obtain rfl := Option.some.inj h
  exact wg_iret C hT dX5_follows_44
set_option maxRecDepth 100000 in
set_option maxHeartbeats 4000000 in
theorem sX5_follows (cn : Tcn) (bk : Tbk) (st : Tst) (r0 : Tbk) (r1 : Tbk) (r2 : Tbk) (r3 : Tbk) (r4 : Tbk) (li : Tli) (fo : Tfo) (tx : Ttx) (co : Tco) (ke : Tke) (rf : (Nat → Int32)) (cp : Int32) (lk : Tlk) (fl : Tfl) (em : Int32) (tm : Ttm) (rd : Trd) (x1 : Int32) (x2 : Int32) (x3 : Int32) (x4 : Int32) (o : Int32 × Tcn × Tli × Tfo) (h : fX5_follows cn bk li fo x1 x2 x3 x4 = some o) : Sp yX5_follows wsX5_follows rX5_follows [.ref 0, .int x1, .int x2, .int x3, .int x4] (mkH cn bk st r0 r1 r2 r3 r4 li fo tx co ke rf cp lk fl em tm rd) (some (.int o.1)) (mkH o.2.1 bk st r0 r1 r2 r3 r4 o.2.2.1 o.2.2.2 tx co ke rf cp lk fl em tm rd) := by
  refine Sp.of (lv := [some (.ref 0), some (.int x1), some (.int x2), some (.int x3), some (.int x4)]) RX5 (by decide +kernel) rfl (Nat.le_of_ble_eq_true rfl) rfl ?_
  intro X C hT
  unfold fX5_follows at h
  refine wg_aload_n C dX5_follows_0 rfl ?_
  refine wg_get (v := .ref 1) C fgX5_follows_10 rfl rfl dX5_follows_1 ?_
  refine wg_iload_n C dX5_follows_4 rfl ?_
  obtain ⟨q1, e1q, h⟩ := bnd h
  refine wg_callV (n := 1) (As := [.int x1]) (st := []) (st' := [.int q1]) C (sX0_has cn bk st r0 r1 r2 r3 r4 li fo tx co ke rf cp lk fl em tm rd x1 q1 e1q) gX5_follows_X0_has rfl (by decide +kernel) ⟨⟨rfl, rfl⟩, Nat.le_of_ble_eq_true rfl, Nat.le_of_ble_eq_true rfl⟩ rfl rfl rfl rfl (Nat.le_of_ble_eq_true rfl) dX5_follows_5 rfl ?_
  refine wg_if_eq (tgt := 37) C dX5_follows_8 (by decide) (fun c2 => ?_) (fun c2 => ?_)
  · replace h := ifP c2 h
    refine wg_drop (lv' := [some (.ref 0), none, none, none, none]) [1, 2, 3, 4] rfl ?_
    exact sjX5_follows_37 X C cn bk st r0 r1 r2 r3 r4 li fo tx co ke rf cp lk fl em tm rd  _ h hT
  · replace h := ifN c2 h
    refine wg_iload_n C dX5_follows_11 rfl ?_
    obtain ⟨q4, e4q, h⟩ := bnd h
    refine wg_callT (n := 1) (As := [.int x2]) (st := []) (st' := [.int q4]) C (sX5_isMember cn bk st r0 r1 r2 r3 r4 li fo tx co ke rf cp lk fl em tm rd x2 q4 e4q) gX5_follows_X5_isMember rfl (by decide +kernel) ⟨⟨rfl, rfl⟩, Nat.le_of_ble_eq_true rfl, Nat.le_of_ble_eq_true rfl⟩ rfl rfl (Nat.le_of_ble_eq_true rfl) dX5_follows_12 rfl ?_
    refine wg_if_eq (tgt := 37) C dX5_follows_15 (by decide) (fun c5 => ?_) (fun c5 => ?_)
    · replace h := ifP c5 h
      refine wg_drop (lv' := [some (.ref 0), none, none, none, none]) [1, 2, 3, 4] rfl ?_
      exact sjX5_follows_37 X C cn bk st r0 r1 r2 r3 r4 li fo tx co ke rf cp lk fl em tm rd  _ h hT
    · replace h := ifN c5 h
      refine wg_iload_n C dX5_follows_18 rfl ?_
      refine wg_iconst (v := 0) C dX5_follows_19 (by decide) ?_
      refine wg_iconst (v := 5) C dX5_follows_20 (by decide) ?_
      obtain ⟨q6, e6q, h⟩ := bnd h
      refine wg_callT (n := 3) (As := [.int x3, .int (0 : Int32), .int (5 : Int32)]) (st := []) (st' := [.int q6]) C (sX5_isWithin cn bk st r0 r1 r2 r3 r4 li fo tx co ke rf cp lk fl em tm rd x3 (0 : Int32) (5 : Int32) q6 e6q) gX5_follows_X5_isWithin rfl (by decide +kernel) ⟨⟨rfl, rfl⟩, Nat.le_of_ble_eq_true rfl, Nat.le_of_ble_eq_true rfl⟩ rfl rfl (Nat.le_of_ble_eq_true rfl) dX5_follows_21 rfl ?_
      refine wg_if_eq (tgt := 37) C dX5_follows_24 (by decide) (fun c7 => ?_) (fun c7 => ?_)
      · replace h := ifP c7 h
        refine wg_drop (lv' := [some (.ref 0), none, none, none, none]) [1, 2, 3, 4] rfl ?_
        exact sjX5_follows_37 X C cn bk st r0 r1 r2 r3 r4 li fo tx co ke rf cp lk fl em tm rd  _ h hT
      · replace h := ifN c7 h
        refine wg_iload C dX5_follows_27 rfl ?_
        refine wg_iconst (v := 0) C dX5_follows_29 (by decide) ?_
        refine wg_iconst (v := 3) C dX5_follows_30 (by decide) ?_
        obtain ⟨q8, e8q, h⟩ := bnd h
        refine wg_callT (n := 3) (As := [.int x4, .int (0 : Int32), .int (3 : Int32)]) (st := []) (st' := [.int q8]) C (sX5_isWithin cn bk st r0 r1 r2 r3 r4 li fo tx co ke rf cp lk fl em tm rd x4 (0 : Int32) (3 : Int32) q8 e8q) gX5_follows_X5_isWithin rfl (by decide +kernel) ⟨⟨rfl, rfl⟩, Nat.le_of_ble_eq_true rfl, Nat.le_of_ble_eq_true rfl⟩ rfl rfl (Nat.le_of_ble_eq_true rfl) dX5_follows_31 rfl ?_
        refine wg_if_ne (tgt := 45) C dX5_follows_34 (by decide) (fun c9 => ?_) (fun c9 => ?_)
        · replace h := ifP c9 h
          refine wg_aload_n C dX5_follows_45 rfl ?_
          refine wg_iload_n C dX5_follows_46 rfl ?_
          refine wg_iload_n C dX5_follows_47 rfl ?_
          obtain ⟨q10, e10q, h⟩ := bnd h
          refine wg_callV (n := 2) (As := [.int x1, .int x2]) (st := []) (st' := []) C (sX5_gatherFollowers cn bk st r0 r1 r2 r3 r4 li fo tx co ke rf cp lk fl em tm rd x1 x2 q10 e10q) gX5_follows_X5_gatherFollowers rfl (by decide +kernel) ⟨⟨rfl, rfl⟩, Nat.le_of_ble_eq_true rfl, Nat.le_of_ble_eq_true rfl⟩ rfl rfl rfl rfl (Nat.le_of_ble_eq_true rfl) dX5_follows_48 rfl ?_
          refine wg_iload C dX5_follows_51 rfl ?_
          by_cases c11 : x4 = 0
          · replace h := ifP c11 h
            refine wg_tin (off := 27) (tgt := 80) C dX5_follows_53 (by rw [c11]; decide) (by rw [c11]; decide) (by rw [c11]; rfl) (by decide) ?_
            refine wg_aload_n C dX5_follows_80 rfl ?_
            refine wg_get (v := .ref 29) C fgX5_follows_33 rfl rfl dX5_follows_81 ?_
            obtain ⟨q12, e12q, h⟩ := bnd h
            refine wg_callV (n := 0) (As := []) (st := []) (st' := [.int q12]) C (sX1_size cn bk st r0 r1 r2 r3 r4 q10.1 q10.2 tx co ke rf cp lk fl em tm rd  q12 e12q) gX5_follows_X1_size rfl (by decide +kernel) ⟨⟨rfl, rfl⟩, Nat.le_of_ble_eq_true rfl, Nat.le_of_ble_eq_true rfl⟩ rfl rfl rfl rfl (Nat.le_of_ble_eq_true rfl) dX5_follows_84 rfl ?_
            obtain rfl := Option.some.inj h
            exact wg_iret C hT dX5_follows_87
          · replace h := ifN c11 h
            by_cases c13 : x4 = 1
            · replace h := ifP c13 h
              refine wg_tin (off := 35) (tgt := 88) C dX5_follows_53 (by rw [c13]; decide) (by rw [c13]; decide) (by rw [c13]; rfl) (by decide) ?_
              refine wg_aload_n C dX5_follows_88 rfl ?_
              refine wg_get (v := .ref 29) C fgX5_follows_33 rfl rfl dX5_follows_89 ?_
              refine wg_iload_n C dX5_follows_92 rfl ?_
              obtain ⟨q14, e14q, h⟩ := bnd h
              refine wg_callV (n := 1) (As := [.int x3]) (st := []) (st' := [.int q14]) C (sX1_least cn bk st r0 r1 r2 r3 r4 q10.1 q10.2 tx co ke rf cp lk fl em tm rd x3 q14 e14q) gX5_follows_X1_least rfl (by decide +kernel) ⟨⟨rfl, rfl⟩, Nat.le_of_ble_eq_true rfl, Nat.le_of_ble_eq_true rfl⟩ rfl rfl rfl rfl (Nat.le_of_ble_eq_true rfl) dX5_follows_93 rfl ?_
              obtain rfl := Option.some.inj h
              exact wg_iret C hT dX5_follows_96
            · replace h := ifN c13 h
              by_cases c15 : x4 = 2
              · replace h := ifP c15 h
                refine wg_tin (off := 44) (tgt := 97) C dX5_follows_53 (by rw [c15]; decide) (by rw [c15]; decide) (by rw [c15]; rfl) (by decide) ?_
                refine wg_aload_n C dX5_follows_97 rfl ?_
                refine wg_get (v := .ref 29) C fgX5_follows_33 rfl rfl dX5_follows_98 ?_
                refine wg_iload_n C dX5_follows_101 rfl ?_
                obtain ⟨q16, e16q, h⟩ := bnd h
                refine wg_callV (n := 1) (As := [.int x3]) (st := []) (st' := [.int q16]) C (sX1_greatest cn bk st r0 r1 r2 r3 r4 q10.1 q10.2 tx co ke rf cp lk fl em tm rd x3 q16 e16q) gX5_follows_X1_greatest rfl (by decide +kernel) ⟨⟨rfl, rfl⟩, Nat.le_of_ble_eq_true rfl, Nat.le_of_ble_eq_true rfl⟩ rfl rfl rfl rfl (Nat.le_of_ble_eq_true rfl) dX5_follows_102 rfl ?_
                obtain rfl := Option.some.inj h
                exact wg_iret C hT dX5_follows_105
              · replace h := ifN c15 h
                refine wg_tout (tgt := 106) C dX5_follows_53 (by have z := fun v : Int32 => mt (Int32.toInt_inj (x := x4) (y := v)).mp; have z0 := z 0 c11; have z1 := z 1 c13; have z2 := z 2 c15; simp only [show (0 : Int32).toInt = 0 from rfl, show (1 : Int32).toInt = 1 from rfl, show (2 : Int32).toInt = 2 from rfl] at z0 z1 z2; omega) (by decide) ?_
                refine wg_aload_n C dX5_follows_106 rfl ?_
                refine wg_get (v := .ref 29) C fgX5_follows_33 rfl rfl dX5_follows_107 ?_
                refine wg_iload_n C dX5_follows_110 rfl ?_
                obtain ⟨q17, e17q, h⟩ := bnd h
                refine wg_callV (n := 1) (As := [.int x3]) (st := []) (st' := [.int q17]) C (sX1_spanSize cn bk st r0 r1 r2 r3 r4 q10.1 q10.2 tx co ke rf cp lk fl em tm rd x3 q17 e17q) gX5_follows_X1_spanSize rfl (by decide +kernel) ⟨⟨rfl, rfl⟩, Nat.le_of_ble_eq_true rfl, Nat.le_of_ble_eq_true rfl⟩ rfl rfl rfl rfl (Nat.le_of_ble_eq_true rfl) dX5_follows_111 rfl ?_
                obtain rfl := Option.some.inj h
                exact wg_iret C hT dX5_follows_114
        · replace h := ifN c9 h
          refine wg_drop (lv' := [some (.ref 0), none, none, none, none]) [1, 2, 3, 4] rfl ?_
          exact sjX5_follows_37 X C cn bk st r0 r1 r2 r3 r4 li fo tx co ke rf cp lk fl em tm rd  _ h hT
abbrev rX1_meanValue : Room := { frames := 1, cells := 0, slots := 0, locals := 20 }
theorem iwX1_meanValue_1 : ∀ w ∈ wsX10, w ∈ wsX1_meanValue := by decide +kernel
theorem fgX1_meanValue_9 : FG wsX1_meanValue RX1 9 1 0 := ⟨RX1, TX1, 4, rfl, by decide, by decide +kernel, iwX1_meanValue_1⟩
theorem fgX1_meanValue_15 : FG wsX1_meanValue RX1 15 1 1 := ⟨RX1, TX1, 4, rfl, by decide, by decide +kernel, iwX1_meanValue_1⟩
theorem fgX1_meanValue_22 : FG wsX1_meanValue RX1 22 1 3 := ⟨RX1, TX1, 4, rfl, by decide, by decide +kernel, iwX1_meanValue_1⟩
set_option maxRecDepth 100000 in
set_option maxHeartbeats 4000000 in
theorem sbX1_meanValue_6 (X : CX) (C : Ok X RX1 cX1_meanValue wsX1_meanValue rX1_meanValue) (cn : Tcn) (bk : Tbk) (st : Tst) (r0 : Tbk) (r1 : Tbk) (r2 : Tbk) (r3 : Tbk) (r4 : Tbk) (li : Tli) (fo : Tfo) (tx : Ttx) (co : Tco) (ke : Tke) (rf : (Nat → Int32)) (cp : Int32) (lk : Tlk) (fl : Tfl) (em : Int32) (tm : Ttm) (rd : Trd)  (z : UInt32 × UInt32 × Int32) (o : (UInt32 × UInt32 × Int32) ⊕ (UInt32 × UInt32)) (h : bX1_meanValue_6 fo  z = some o) (k0 : ∀ a : UInt32 × UInt32 × Int32, o = .inl a → Wg X 6 [some (.ref 29), some (.float a.1), some (.float a.2.1), some (.int a.2.2)] [] (mkH cn bk st r0 r1 r2 r3 r4 li fo tx co ke rf cp lk fl em tm rd)) (e0 : ∀ a : UInt32 × UInt32, o = .inr a → Wg X 54 [none, some (.float a.1), some (.float a.2), none] [] (mkH cn bk st r0 r1 r2 r3 r4 li fo tx co ke rf cp lk fl em tm rd)) : Wg X 6 [some (.ref 29), some (.float z.1), some (.float z.2.1), some (.int z.2.2)] [] (mkH cn bk st r0 r1 r2 r3 r4 li fo tx co ke rf cp lk fl em tm rd) := by
  unfold bX1_meanValue_6 at h
  refine wg_iload_n C dX1_meanValue_6 rfl ?_
  refine wg_aload_n C dX1_meanValue_7 rfl ?_
  refine wg_get (v := .int fo.2.2.2) C fgX1_meanValue_22 rfl rfl dX1_meanValue_8 ?_
  refine wg_icmp_ge (tgt := 54) C dX1_meanValue_11 (by decide) (fun c1 => ?_) (fun c1 => ?_)
  · replace h := ifP c1 h
    refine wg_drop (lv' := [none, some (.float z.1), some (.float z.2.1), none]) [0, 3] rfl ?_
    have hk := e0 _ (Option.some.inj h).symm
    exact hk
  · replace h := ifN c1 h
    refine wg_fload_n C dX1_meanValue_14 rfl ?_
    refine wg_aload_n C dX1_meanValue_15 rfl ?_
    refine wg_get (v := .ref 30) C fgX1_meanValue_9 rfl rfl dX1_meanValue_16 ?_
    refine wg_iload_n C dX1_meanValue_19 rfl ?_
    obtain ⟨g2, h⟩ := gdP h
    refine wg_iald (f := fo.1) (n := 12) C rfl g2 dX1_meanValue_20 ?_
    obtain ⟨q3, e3q, h⟩ := bnd h
    refine wg_callN (n := 1) (As := [.int (fo.1 (z.2.2).toNatClampNeg)]) (st := [.float z.1]) (st' := [.float q3, .float z.1]) C (sX5_valueOf cn bk st r0 r1 r2 r3 r4 li fo tx co ke rf cp lk fl em tm rd (fo.1 (z.2.2).toNatClampNeg) q3 e3q) (fun U h => h.2.2.1) gX1_meanValue_X5_valueOf_n57 ⟨by decide +kernel, by decide +kernel⟩ rfl (by decide +kernel) ⟨⟨rfl, rfl⟩, Nat.le_of_ble_eq_true rfl, Nat.le_of_ble_eq_true rfl⟩ rfl rfl (Nat.le_of_ble_eq_true rfl) dX1_meanValue_21 rfl ?_
    refine wg_fconst1 C dX1_meanValue_24 ?_
    refine wg_aload_n C dX1_meanValue_25 rfl ?_
    refine wg_get (v := .ref 31) C fgX1_meanValue_15 rfl rfl dX1_meanValue_26 ?_
    refine wg_iload_n C dX1_meanValue_29 rfl ?_
    obtain ⟨g4, h⟩ := gdP h
    refine wg_fald (f := fo.2.1) (n := 12) C rfl g4 dX1_meanValue_30 ?_
    obtain ⟨g5, h⟩ := gdP h
    refine wg_fadd C dX1_meanValue_31 g5 ?_
    obtain ⟨g6, h⟩ := gdP h
    refine wg_fdiv C dX1_meanValue_32 g6 ?_
    obtain ⟨g7, h⟩ := gdP h
    refine wg_fadd C dX1_meanValue_33 g7 ?_
    refine wg_fstore_n (lv' := [some (.ref 29), some (.float (FP.fadd z.1 (FP.fdiv q3 (FP.fadd FP.fconst1 (fo.2.1 (z.2.2).toNatClampNeg))))), some (.float z.2.1), some (.int z.2.2)]) C dX1_meanValue_34 (Nat.le_of_ble_eq_true rfl) rfl ?_
    refine wg_fload_n C dX1_meanValue_35 rfl ?_
    refine wg_fconst1 C dX1_meanValue_36 ?_
    refine wg_fconst1 C dX1_meanValue_37 ?_
    refine wg_aload_n C dX1_meanValue_38 rfl ?_
    refine wg_get (v := .ref 31) C fgX1_meanValue_15 rfl rfl dX1_meanValue_39 ?_
    refine wg_iload_n C dX1_meanValue_42 rfl ?_
    obtain ⟨g8, h⟩ := gdP h
    refine wg_fald (f := fo.2.1) (n := 12) C rfl g8 dX1_meanValue_43 ?_
    obtain ⟨g9, h⟩ := gdP h
    refine wg_fadd C dX1_meanValue_44 g9 ?_
    obtain ⟨g10, h⟩ := gdP h
    refine wg_fdiv C dX1_meanValue_45 g10 ?_
    obtain ⟨g11, h⟩ := gdP h
    refine wg_fadd C dX1_meanValue_46 g11 ?_
    refine wg_fstore_n (lv' := [some (.ref 29), some (.float (FP.fadd z.1 (FP.fdiv q3 (FP.fadd FP.fconst1 (fo.2.1 (z.2.2).toNatClampNeg))))), some (.float (FP.fadd z.2.1 (FP.fdiv FP.fconst1 (FP.fadd FP.fconst1 (fo.2.1 (z.2.2).toNatClampNeg))))), some (.int z.2.2)]) C dX1_meanValue_47 (Nat.le_of_ble_eq_true rfl) rfl ?_
    refine wg_iinc (v := (z.2.2 + (1 : Int32))) (lv' := [some (.ref 29), some (.float (FP.fadd z.1 (FP.fdiv q3 (FP.fadd FP.fconst1 (fo.2.1 (z.2.2).toNatClampNeg))))), some (.float (FP.fadd z.2.1 (FP.fdiv FP.fconst1 (FP.fadd FP.fconst1 (fo.2.1 (z.2.2).toNatClampNeg))))), some (.int (z.2.2 + (1 : Int32)))]) C dX1_meanValue_48 rfl rfl rfl ?_
    refine wg_goto (tgt := 6) C dX1_meanValue_51 (by decide) ?_
    have hk := k0 _ (Option.some.inj h).symm
    exact hk
set_option maxRecDepth 100000 in
set_option maxHeartbeats 4000000 in
theorem slX1_meanValue_6 (X : CX) (C : Ok X RX1 cX1_meanValue wsX1_meanValue rX1_meanValue) (cn : Tcn) (bk : Tbk) (st : Tst) (r0 : Tbk) (r1 : Tbk) (r2 : Tbk) (r3 : Tbk) (r4 : Tbk) (li : Tli) (fo : Tfo) (tx : Ttx) (co : Tco) (ke : Tke) (rf : (Nat → Int32)) (cp : Int32) (lk : Tlk) (fl : Tfl) (em : Int32) (tm : Ttm) (rd : Trd)  (o : (UInt32 × UInt32)) (e0 : ∀ a : UInt32 × UInt32, o = a → Wg X 54 [none, some (.float a.1), some (.float a.2), none] [] (mkH cn bk st r0 r1 r2 r3 r4 li fo tx co ke rf cp lk fl em tm rd)) : ∀ (n : Nat) (z : UInt32 × UInt32 × Int32), lpF (bX1_meanValue_6 fo ) n z = some o → Wg X 6 [some (.ref 29), some (.float z.1), some (.float z.2.1), some (.int z.2.2)] [] (mkH cn bk st r0 r1 r2 r3 r4 li fo tx co ke rf cp lk fl em tm rd) := by
  intro n
  induction n with
  | zero => intro z h; cases h
  | succ n ih =>
    intro z h
    obtain ⟨r, hB, h⟩ := bnd h
    refine sbX1_meanValue_6 X C cn bk st r0 r1 r2 r3 r4 li fo tx co ke rf cp lk fl em tm rd  z r hB (fun a e => ih a (by subst e; exact h)) (fun a e => e0 a (by subst e; exact (Option.some.inj h).symm))
set_option maxRecDepth 100000 in
set_option maxHeartbeats 4000000 in
theorem sjX1_meanValue_67 (X : CX) (C : Ok X RX1 cX1_meanValue wsX1_meanValue rX1_meanValue) (cn : Tcn) (bk : Tbk) (st : Tst) (r0 : Tbk) (r1 : Tbk) (r2 : Tbk) (r3 : Tbk) (r4 : Tbk) (li : Tli) (fo : Tfo) (tx : Ttx) (co : Tco) (ke : Tke) (rf : (Nat → Int32)) (cp : Int32) (lk : Tlk) (fl : Tfl) (em : Int32) (tm : Ttm) (rd : Trd) (y0 : UInt32) (o : UInt32) (h : jX1_meanValue_67 fo y0 = some o) (hT : Rt X (some .float) (some (.float o)) (mkH cn bk st r0 r1 r2 r3 r4 li fo tx co ke rf cp lk fl em tm rd)) : Wg X 67 [none, none, none, none] [.float y0] (mkH cn bk st r0 r1 r2 r3 r4 li fo tx co ke rf cp lk fl em tm rd) := by
  unfold jX1_meanValue_67 at h
  obtain rfl := Option.some.inj h
  exact wg_fret C hT dX1_meanValue_67
set_option maxRecDepth 100000 in
set_option maxHeartbeats 4000000 in
theorem sX1_meanValue (cn : Tcn) (bk : Tbk) (st : Tst) (r0 : Tbk) (r1 : Tbk) (r2 : Tbk) (r3 : Tbk) (r4 : Tbk) (li : Tli) (fo : Tfo) (tx : Ttx) (co : Tco) (ke : Tke) (rf : (Nat → Int32)) (cp : Int32) (lk : Tlk) (fl : Tfl) (em : Int32) (tm : Ttm) (rd : Trd)  (o : UInt32) (h : fX1_meanValue fo  = some o) : Sp yX1_meanValue wsX1_meanValue rX1_meanValue [.ref 29] (mkH cn bk st r0 r1 r2 r3 r4 li fo tx co ke rf cp lk fl em tm rd) (some (.float o)) (mkH cn bk st r0 r1 r2 r3 r4 li fo tx co ke rf cp lk fl em tm rd) := by
  refine Sp.of (lv := [some (.ref 29), none, none, none]) RX1 (by decide +kernel) rfl (Nat.le_of_ble_eq_true rfl) rfl ?_
  intro X C hT
  unfold fX1_meanValue at h
  refine wg_fconst0 C dX1_meanValue_0 ?_
  refine wg_fstore_n (lv' := [some (.ref 29), some (.float FP.fconst0), none, none]) C dX1_meanValue_1 (Nat.le_of_ble_eq_true rfl) rfl ?_
  refine wg_fconst0 C dX1_meanValue_2 ?_
  refine wg_fstore_n (lv' := [some (.ref 29), some (.float FP.fconst0), some (.float FP.fconst0), none]) C dX1_meanValue_3 (Nat.le_of_ble_eq_true rfl) rfl ?_
  refine wg_iconst (v := 0) C dX1_meanValue_4 (by decide) ?_
  refine wg_istore_n (lv' := [some (.ref 29), some (.float FP.fconst0), some (.float FP.fconst0), some (.int (0 : Int32))]) C dX1_meanValue_5 (Nat.le_of_ble_eq_true rfl) rfl ?_
  obtain ⟨t12, hL12, h⟩ := bnd h
  refine slX1_meanValue_6 X C cn bk st r0 r1 r2 r3 r4 li fo tx co ke rf cp lk fl em tm rd  t12 (fun a e => ?_) FU (FP.fconst0, FP.fconst0, (0 : Int32)) hL12
  subst e
  refine wg_fload_n C dX1_meanValue_54 rfl ?_
  refine wg_fconst0 C dX1_meanValue_55 ?_
  refine wg_fcmp C dX1_meanValue_56 ?_
  refine wg_if_le (tgt := 66) C dX1_meanValue_57 (by decide) (fun c13 => ?_) (fun c13 => ?_)
  · replace h := ifP c13 h
    refine wg_fconst0 C dX1_meanValue_66 ?_
    refine wg_drop (lv' := [none, none, none, none]) [1, 2] rfl ?_
    exact sjX1_meanValue_67 X C cn bk st r0 r1 r2 r3 r4 li fo tx co ke rf cp lk fl em tm rd FP.fconst0 _ h hT
  · replace h := ifN c13 h
    refine wg_fload_n C dX1_meanValue_60 rfl ?_
    refine wg_fload_n C dX1_meanValue_61 rfl ?_
    obtain ⟨g14, h⟩ := gdP h
    refine wg_fdiv C dX1_meanValue_62 g14 ?_
    refine wg_goto (tgt := 67) C dX1_meanValue_63 (by decide) ?_
    refine wg_drop (lv' := [none, none, none, none]) [1, 2] rfl ?_
    exact sjX1_meanValue_67 X C cn bk st r0 r1 r2 r3 r4 li fo tx co ke rf cp lk fl em tm rd (FP.fdiv t12.1 t12.2) _ h hT
abbrev rX5_mean : Room := { frames := 6, cells := 0, slots := 0, locals := 143 }
theorem iwX5_mean_5 : ∀ w ∈ wsX50, w ∈ wsX5_mean := by decide +kernel
theorem fgX5_mean_10 : FG wsX5_mean RX5 10 5 0 := ⟨RX5, TX5, 8, rfl, by decide, by decide +kernel, iwX5_mean_5⟩
theorem fgX5_mean_33 : FG wsX5_mean RX5 33 5 3 := ⟨RX5, TX5, 8, rfl, by decide, by decide +kernel, iwX5_mean_5⟩
set_option maxRecDepth 100000 in
set_option maxHeartbeats 4000000 in
theorem sjX5_mean_18 (X : CX) (C : Ok X RX5 cX5_mean wsX5_mean rX5_mean) (cn : Tcn) (bk : Tbk) (st : Tst) (r0 : Tbk) (r1 : Tbk) (r2 : Tbk) (r3 : Tbk) (r4 : Tbk) (li : Tli) (fo : Tfo) (tx : Ttx) (co : Tco) (ke : Tke) (rf : (Nat → Int32)) (cp : Int32) (lk : Tlk) (fl : Tfl) (em : Int32) (tm : Ttm) (rd : Trd)  (o : Int32 × Tcn × Tli × Tfo) (h : jX5_mean_18 cn bk li fo  = some o) (hT : Rt X (some .int) (some (.int o.1)) (mkH o.2.1 bk st r0 r1 r2 r3 r4 o.2.2.1 o.2.2.2 tx co ke rf cp lk fl em tm rd)) : Wg X 18 [some (.ref 0), none, none] [] (mkH cn bk st r0 r1 r2 r3 r4 li fo tx co ke rf cp lk fl em tm rd) := by
  unfold jX5_mean_18 at h
  refine wg_aload_n C dX5_mean_18 rfl ?_
  refine wg_bipush (v := -2) C dX5_mean_19 (by decide) ?_
  obtain ⟨q3, e3q, h⟩ := bnd h
  refine wg_callV (n := 1) (As := [.int (-2 : Int32)]) (st := []) (st' := [.int q3.1]) C (sX5_refuseBad cn bk st r0 r1 r2 r3 r4 li fo tx co ke rf cp lk fl em tm rd (-2 : Int32) q3 e3q) gX5_mean_X5_refuseBad rfl (by decide +kernel) ⟨⟨rfl, rfl⟩, Nat.le_of_ble_eq_true rfl, Nat.le_of_ble_eq_true rfl⟩ rfl rfl rfl rfl (Nat.le_of_ble_eq_true rfl) dX5_mean_21 rfl ?_
  obtain rfl := Option.some.inj h
  exact wg_iret C hT dX5_mean_24
set_option maxRecDepth 100000 in
set_option maxHeartbeats 4000000 in
theorem sjX5_mean_55 (X : CX) (C : Ok X RX5 cX5_mean wsX5_mean rX5_mean) (cn : Tcn) (bk : Tbk) (st : Tst) (r0 : Tbk) (r1 : Tbk) (r2 : Tbk) (r3 : Tbk) (r4 : Tbk) (li : Tli) (fo : Tfo) (tx : Ttx) (co : Tco) (ke : Tke) (rf : (Nat → Int32)) (cp : Int32) (lk : Tlk) (fl : Tfl) (em : Int32) (tm : Ttm) (rd : Trd) (y0 : Int32) (o : Int32 × Tcn × Tli × Tfo) (h : jX5_mean_55 cn bk li fo y0 = some o) (hT : Rt X (some .int) (some (.int o.1)) (mkH o.2.1 bk st r0 r1 r2 r3 r4 o.2.2.1 o.2.2.2 tx co ke rf cp lk fl em tm rd)) : Wg X 55 [none, none, none] [.int y0] (mkH cn bk st r0 r1 r2 r3 r4 li fo tx co ke rf cp lk fl em tm rd) := by
  unfold jX5_mean_55 at h
  obtain rfl := Option.some.inj h
  exact wg_iret C hT dX5_mean_55
set_option maxRecDepth 100000 in
set_option maxHeartbeats 4000000 in
theorem sX5_mean (cn : Tcn) (bk : Tbk) (st : Tst) (r0 : Tbk) (r1 : Tbk) (r2 : Tbk) (r3 : Tbk) (r4 : Tbk) (li : Tli) (fo : Tfo) (tx : Ttx) (co : Tco) (ke : Tke) (rf : (Nat → Int32)) (cp : Int32) (lk : Tlk) (fl : Tfl) (em : Int32) (tm : Ttm) (rd : Trd) (x1 : Int32) (x2 : Int32) (o : Int32 × Tcn × Tli × Tfo) (h : fX5_mean cn bk li fo x1 x2 = some o) : Sp yX5_mean wsX5_mean rX5_mean [.ref 0, .int x1, .int x2] (mkH cn bk st r0 r1 r2 r3 r4 li fo tx co ke rf cp lk fl em tm rd) (some (.int o.1)) (mkH o.2.1 bk st r0 r1 r2 r3 r4 o.2.2.1 o.2.2.2 tx co ke rf cp lk fl em tm rd) := by
  refine Sp.of (lv := [some (.ref 0), some (.int x1), some (.int x2)]) RX5 (by decide +kernel) rfl (Nat.le_of_ble_eq_true rfl) rfl ?_
  intro X C hT
  unfold fX5_mean at h
  refine wg_aload_n C dX5_mean_0 rfl ?_
  refine wg_get (v := .ref 1) C fgX5_mean_10 rfl rfl dX5_mean_1 ?_
  refine wg_iload_n C dX5_mean_4 rfl ?_
  obtain ⟨q1, e1q, h⟩ := bnd h
  refine wg_callV (n := 1) (As := [.int x1]) (st := []) (st' := [.int q1]) C (sX0_has cn bk st r0 r1 r2 r3 r4 li fo tx co ke rf cp lk fl em tm rd x1 q1 e1q) gX5_mean_X0_has rfl (by decide +kernel) ⟨⟨rfl, rfl⟩, Nat.le_of_ble_eq_true rfl, Nat.le_of_ble_eq_true rfl⟩ rfl rfl rfl rfl (Nat.le_of_ble_eq_true rfl) dX5_mean_5 rfl ?_
  refine wg_if_eq (tgt := 18) C dX5_mean_8 (by decide) (fun c2 => ?_) (fun c2 => ?_)
  · replace h := ifP c2 h
    refine wg_drop (lv' := [some (.ref 0), none, none]) [1, 2] rfl ?_
    exact sjX5_mean_18 X C cn bk st r0 r1 r2 r3 r4 li fo tx co ke rf cp lk fl em tm rd  _ h hT
  · replace h := ifN c2 h
    refine wg_iload_n C dX5_mean_11 rfl ?_
    obtain ⟨q4, e4q, h⟩ := bnd h
    refine wg_callT (n := 1) (As := [.int x2]) (st := []) (st' := [.int q4]) C (sX5_isMember cn bk st r0 r1 r2 r3 r4 li fo tx co ke rf cp lk fl em tm rd x2 q4 e4q) gX5_mean_X5_isMember rfl (by decide +kernel) ⟨⟨rfl, rfl⟩, Nat.le_of_ble_eq_true rfl, Nat.le_of_ble_eq_true rfl⟩ rfl rfl (Nat.le_of_ble_eq_true rfl) dX5_mean_12 rfl ?_
    refine wg_if_ne (tgt := 25) C dX5_mean_15 (by decide) (fun c5 => ?_) (fun c5 => ?_)
    · replace h := ifP c5 h
      refine wg_aload_n C dX5_mean_25 rfl ?_
      refine wg_iload_n C dX5_mean_26 rfl ?_
      refine wg_iload_n C dX5_mean_27 rfl ?_
      obtain ⟨q6, e6q, h⟩ := bnd h
      refine wg_callV (n := 2) (As := [.int x1, .int x2]) (st := []) (st' := []) C (sX5_gatherFollowers cn bk st r0 r1 r2 r3 r4 li fo tx co ke rf cp lk fl em tm rd x1 x2 q6 e6q) gX5_mean_X5_gatherFollowers rfl (by decide +kernel) ⟨⟨rfl, rfl⟩, Nat.le_of_ble_eq_true rfl, Nat.le_of_ble_eq_true rfl⟩ rfl rfl rfl rfl (Nat.le_of_ble_eq_true rfl) dX5_mean_28 rfl ?_
      refine wg_aload_n C dX5_mean_31 rfl ?_
      refine wg_get (v := .ref 29) C fgX5_mean_33 rfl rfl dX5_mean_32 ?_
      obtain ⟨q7, e7q, h⟩ := bnd h
      refine wg_callV (n := 0) (As := []) (st := []) (st' := [.int q7]) C (sX1_size cn bk st r0 r1 r2 r3 r4 q6.1 q6.2 tx co ke rf cp lk fl em tm rd  q7 e7q) gX5_mean_X1_size rfl (by decide +kernel) ⟨⟨rfl, rfl⟩, Nat.le_of_ble_eq_true rfl, Nat.le_of_ble_eq_true rfl⟩ rfl rfl rfl rfl (Nat.le_of_ble_eq_true rfl) dX5_mean_35 rfl ?_
      refine wg_if_ne (tgt := 45) C dX5_mean_38 (by decide) (fun c8 => ?_) (fun c8 => ?_)
      · replace h := ifP c8 h
        refine wg_aload_n C dX5_mean_45 rfl ?_
        refine wg_get (v := .ref 29) C fgX5_mean_33 rfl rfl dX5_mean_46 ?_
        obtain ⟨q9, e9q, h⟩ := bnd h
        refine wg_callV (n := 0) (As := []) (st := []) (st' := [.float q9]) C (sX1_meanValue cn bk st r0 r1 r2 r3 r4 q6.1 q6.2 tx co ke rf cp lk fl em tm rd  q9 e9q) gX5_mean_X1_meanValue rfl (by decide +kernel) ⟨⟨rfl, rfl⟩, Nat.le_of_ble_eq_true rfl, Nat.le_of_ble_eq_true rfl⟩ rfl rfl rfl rfl (Nat.le_of_ble_eq_true rfl) dX5_mean_49 rfl ?_
        obtain ⟨q10, e10q, h⟩ := bnd h
        refine wg_callT (n := 1) (As := [.float q9]) (st := []) (st' := [.int q10]) C (sX5_floatBits cn bk st r0 r1 r2 r3 r4 q6.1 q6.2 tx co ke rf cp lk fl em tm rd q9 q10 e10q) gX5_mean_X5_floatBits rfl (by decide +kernel) ⟨⟨rfl, rfl⟩, Nat.le_of_ble_eq_true rfl, Nat.le_of_ble_eq_true rfl⟩ rfl rfl (Nat.le_of_ble_eq_true rfl) dX5_mean_52 rfl ?_
        refine wg_drop (lv' := [none, none, none]) [0, 1, 2] rfl ?_
        exact sjX5_mean_55 X C cn bk st r0 r1 r2 r3 r4 q6.1 q6.2 tx co ke rf cp lk fl em tm rd q10 _ h hT
      · replace h := ifN c8 h
        refine wg_iconst (v := -1) C dX5_mean_41 (by decide) ?_
        refine wg_goto (tgt := 55) C dX5_mean_42 (by decide) ?_
        refine wg_drop (lv' := [none, none, none]) [0, 1, 2] rfl ?_
        exact sjX5_mean_55 X C cn bk st r0 r1 r2 r3 r4 q6.1 q6.2 tx co ke rf cp lk fl em tm rd (-1 : Int32) _ h hT
    · replace h := ifN c5 h
      refine wg_drop (lv' := [some (.ref 0), none, none]) [1, 2] rfl ?_
      exact sjX5_mean_18 X C cn bk st r0 r1 r2 r3 r4 li fo tx co ke rf cp lk fl em tm rd  _ h hT
abbrev rX1_spreadOfValues : Room := { frames := 1, cells := 0, slots := 0, locals := 20 }
theorem iwX1_spreadOfValues_1 : ∀ w ∈ wsX10, w ∈ wsX1_spreadOfValues := by decide +kernel
theorem fgX1_spreadOfValues_9 : FG wsX1_spreadOfValues RX1 9 1 0 := ⟨RX1, TX1, 4, rfl, by decide, by decide +kernel, iwX1_spreadOfValues_1⟩
theorem fgX1_spreadOfValues_22 : FG wsX1_spreadOfValues RX1 22 1 3 := ⟨RX1, TX1, 4, rfl, by decide, by decide +kernel, iwX1_spreadOfValues_1⟩
set_option maxRecDepth 100000 in
set_option maxHeartbeats 4000000 in
theorem sbX1_spreadOfValues_7 (X : CX) (C : Ok X RX1 cX1_spreadOfValues wsX1_spreadOfValues rX1_spreadOfValues) (cn : Tcn) (bk : Tbk) (st : Tst) (r0 : Tbk) (r1 : Tbk) (r2 : Tbk) (r3 : Tbk) (r4 : Tbk) (li : Tli) (fo : Tfo) (tx : Ttx) (co : Tco) (ke : Tke) (rf : (Nat → Int32)) (cp : Int32) (lk : Tlk) (fl : Tfl) (em : Int32) (tm : Ttm) (rd : Trd)  (z : UInt64 × UInt64 × Int32) (o : (UInt64 × UInt64 × Int32) ⊕ (UInt64 × UInt64)) (h : bX1_spreadOfValues_7 fo  z = some o) (k0 : ∀ a : UInt64 × UInt64 × Int32, o = .inl a → Wg X 7 [some (.ref 29), some (.double a.1), none, some (.double a.2.1), none, some (.int a.2.2), none, none] [] (mkH cn bk st r0 r1 r2 r3 r4 li fo tx co ke rf cp lk fl em tm rd)) (e0 : ∀ a : UInt64 × UInt64, o = .inr a → Wg X 48 [some (.ref 29), some (.double a.1), none, some (.double a.2), none, none, none, none] [] (mkH cn bk st r0 r1 r2 r3 r4 li fo tx co ke rf cp lk fl em tm rd)) : Wg X 7 [some (.ref 29), some (.double z.1), none, some (.double z.2.1), none, some (.int z.2.2), none, none] [] (mkH cn bk st r0 r1 r2 r3 r4 li fo tx co ke rf cp lk fl em tm rd) := by
  unfold bX1_spreadOfValues_7 at h
  refine wg_iload C dX1_spreadOfValues_7 rfl ?_
  refine wg_aload_n C dX1_spreadOfValues_9 rfl ?_
  refine wg_get (v := .int fo.2.2.2) C fgX1_spreadOfValues_22 rfl rfl dX1_spreadOfValues_10 ?_
  refine wg_icmp_ge (tgt := 48) C dX1_spreadOfValues_13 (by decide) (fun c1 => ?_) (fun c1 => ?_)
  · replace h := ifP c1 h
    refine wg_drop (lv' := [some (.ref 29), some (.double z.1), none, some (.double z.2.1), none, none, none, none]) [5] rfl ?_
    have hk := e0 _ (Option.some.inj h).symm
    exact hk
  · replace h := ifN c1 h
    refine wg_aload_n C dX1_spreadOfValues_16 rfl ?_
    refine wg_get (v := .ref 30) C fgX1_spreadOfValues_9 rfl rfl dX1_spreadOfValues_17 ?_
    refine wg_iload C dX1_spreadOfValues_20 rfl ?_
    obtain ⟨g2, h⟩ := gdP h
    refine wg_iald (f := fo.1) (n := 12) C rfl g2 dX1_spreadOfValues_22 ?_
    obtain ⟨q3, e3q, h⟩ := bnd h
    refine wg_callN (n := 1) (As := [.int (fo.1 (z.2.2).toNatClampNeg)]) (st := []) (st' := [.float q3]) C (sX5_valueOf cn bk st r0 r1 r2 r3 r4 li fo tx co ke rf cp lk fl em tm rd (fo.1 (z.2.2).toNatClampNeg) q3 e3q) (fun U h => h.2.2.1) gX1_spreadOfValues_X5_valueOf_n57 ⟨by decide +kernel, by decide +kernel⟩ rfl (by decide +kernel) ⟨⟨rfl, rfl⟩, Nat.le_of_ble_eq_true rfl, Nat.le_of_ble_eq_true rfl⟩ rfl rfl (Nat.le_of_ble_eq_true rfl) dX1_spreadOfValues_23 rfl ?_
    obtain ⟨g4, h⟩ := gdP h
    refine wg_f2d C dX1_spreadOfValues_26 g4 ?_
    refine wg_dstore (lv' := [some (.ref 29), some (.double z.1), none, some (.double z.2.1), none, some (.int z.2.2), some (.double (FP.f2d q3)), none]) C dX1_spreadOfValues_27 (Nat.le_of_ble_eq_true rfl) rfl ?_
    refine wg_dload_n C dX1_spreadOfValues_29 rfl ?_
    refine wg_dload C dX1_spreadOfValues_30 rfl ?_
    obtain ⟨g5, h⟩ := gdP h
    refine wg_dadd C dX1_spreadOfValues_32 g5 ?_
    refine wg_dstore_n (lv' := [some (.ref 29), some (.double (FP.dadd z.1 (FP.f2d q3))), none, some (.double z.2.1), none, some (.int z.2.2), some (.double (FP.f2d q3)), none]) C dX1_spreadOfValues_33 (Nat.le_of_ble_eq_true rfl) rfl ?_
    refine wg_dload_n C dX1_spreadOfValues_34 rfl ?_
    refine wg_dload C dX1_spreadOfValues_35 rfl ?_
    refine wg_dload C dX1_spreadOfValues_37 rfl ?_
    obtain ⟨g6, h⟩ := gdP h
    refine wg_dmul C dX1_spreadOfValues_39 g6 ?_
    obtain ⟨g7, h⟩ := gdP h
    refine wg_dadd C dX1_spreadOfValues_40 g7 ?_
    refine wg_dstore_n (lv' := [some (.ref 29), some (.double (FP.dadd z.1 (FP.f2d q3))), none, some (.double (FP.dadd z.2.1 (FP.dmul (FP.f2d q3) (FP.f2d q3)))), none, some (.int z.2.2), some (.double (FP.f2d q3)), none]) C dX1_spreadOfValues_41 (Nat.le_of_ble_eq_true rfl) rfl ?_
    refine wg_iinc (v := (z.2.2 + (1 : Int32))) (lv' := [some (.ref 29), some (.double (FP.dadd z.1 (FP.f2d q3))), none, some (.double (FP.dadd z.2.1 (FP.dmul (FP.f2d q3) (FP.f2d q3)))), none, some (.int (z.2.2 + (1 : Int32))), some (.double (FP.f2d q3)), none]) C dX1_spreadOfValues_42 rfl rfl rfl ?_
    refine wg_goto (tgt := 7) C dX1_spreadOfValues_45 (by decide) ?_
    refine wg_drop (lv' := [some (.ref 29), some (.double (FP.dadd z.1 (FP.f2d q3))), none, some (.double (FP.dadd z.2.1 (FP.dmul (FP.f2d q3) (FP.f2d q3)))), none, some (.int (z.2.2 + (1 : Int32))), none, none]) [6] rfl ?_
    have hk := k0 _ (Option.some.inj h).symm
    exact hk
set_option maxRecDepth 100000 in
set_option maxHeartbeats 4000000 in
theorem slX1_spreadOfValues_7 (X : CX) (C : Ok X RX1 cX1_spreadOfValues wsX1_spreadOfValues rX1_spreadOfValues) (cn : Tcn) (bk : Tbk) (st : Tst) (r0 : Tbk) (r1 : Tbk) (r2 : Tbk) (r3 : Tbk) (r4 : Tbk) (li : Tli) (fo : Tfo) (tx : Ttx) (co : Tco) (ke : Tke) (rf : (Nat → Int32)) (cp : Int32) (lk : Tlk) (fl : Tfl) (em : Int32) (tm : Ttm) (rd : Trd)  (o : (UInt64 × UInt64)) (e0 : ∀ a : UInt64 × UInt64, o = a → Wg X 48 [some (.ref 29), some (.double a.1), none, some (.double a.2), none, none, none, none] [] (mkH cn bk st r0 r1 r2 r3 r4 li fo tx co ke rf cp lk fl em tm rd)) : ∀ (n : Nat) (z : UInt64 × UInt64 × Int32), lpF (bX1_spreadOfValues_7 fo ) n z = some o → Wg X 7 [some (.ref 29), some (.double z.1), none, some (.double z.2.1), none, some (.int z.2.2), none, none] [] (mkH cn bk st r0 r1 r2 r3 r4 li fo tx co ke rf cp lk fl em tm rd) := by
  intro n
  induction n with
  | zero => intro z h; cases h
  | succ n ih =>
    intro z h
    obtain ⟨r, hB, h⟩ := bnd h
    refine sbX1_spreadOfValues_7 X C cn bk st r0 r1 r2 r3 r4 li fo tx co ke rf cp lk fl em tm rd  z r hB (fun a e => ih a (by subst e; exact h)) (fun a e => e0 a (by subst e; exact (Option.some.inj h).symm))
set_option maxRecDepth 100000 in
set_option maxHeartbeats 4000000 in
theorem sjX1_spreadOfValues_80 (X : CX) (C : Ok X RX1 cX1_spreadOfValues wsX1_spreadOfValues rX1_spreadOfValues) (cn : Tcn) (bk : Tbk) (st : Tst) (r0 : Tbk) (r1 : Tbk) (r2 : Tbk) (r3 : Tbk) (r4 : Tbk) (li : Tli) (fo : Tfo) (tx : Ttx) (co : Tco) (ke : Tke) (rf : (Nat → Int32)) (cp : Int32) (lk : Tlk) (fl : Tfl) (em : Int32) (tm : Ttm) (rd : Trd) (y0 : UInt64) (o : UInt64) (h : jX1_spreadOfValues_80 fo y0 = some o) (hT : Rt X (some .double) (some (.double o)) (mkH cn bk st r0 r1 r2 r3 r4 li fo tx co ke rf cp lk fl em tm rd)) : Wg X 80 [none, none, none, none, none, none, none, none] [.double y0] (mkH cn bk st r0 r1 r2 r3 r4 li fo tx co ke rf cp lk fl em tm rd) := by
  unfold jX1_spreadOfValues_80 at h
  obtain rfl := Option.some.inj h
  exact wg_dret C hT dX1_spreadOfValues_80
set_option maxRecDepth 100000 in
set_option maxHeartbeats 4000000 in
theorem sX1_spreadOfValues (cn : Tcn) (bk : Tbk) (st : Tst) (r0 : Tbk) (r1 : Tbk) (r2 : Tbk) (r3 : Tbk) (r4 : Tbk) (li : Tli) (fo : Tfo) (tx : Ttx) (co : Tco) (ke : Tke) (rf : (Nat → Int32)) (cp : Int32) (lk : Tlk) (fl : Tfl) (em : Int32) (tm : Ttm) (rd : Trd)  (o : UInt64) (h : fX1_spreadOfValues fo  = some o) : Sp yX1_spreadOfValues wsX1_spreadOfValues rX1_spreadOfValues [.ref 29] (mkH cn bk st r0 r1 r2 r3 r4 li fo tx co ke rf cp lk fl em tm rd) (some (.double o)) (mkH cn bk st r0 r1 r2 r3 r4 li fo tx co ke rf cp lk fl em tm rd) := by
  refine Sp.of (lv := [some (.ref 29), none, none, none, none, none, none, none]) RX1 (by decide +kernel) rfl (Nat.le_of_ble_eq_true rfl) rfl ?_
  intro X C hT
  unfold fX1_spreadOfValues at h
  refine wg_dconst0 C dX1_spreadOfValues_0 ?_
  refine wg_dstore_n (lv' := [some (.ref 29), some (.double FP.dconst0), none, none, none, none, none, none]) C dX1_spreadOfValues_1 (Nat.le_of_ble_eq_true rfl) rfl ?_
  refine wg_dconst0 C dX1_spreadOfValues_2 ?_
  refine wg_dstore_n (lv' := [some (.ref 29), some (.double FP.dconst0), none, some (.double FP.dconst0), none, none, none, none]) C dX1_spreadOfValues_3 (Nat.le_of_ble_eq_true rfl) rfl ?_
  refine wg_iconst (v := 0) C dX1_spreadOfValues_4 (by decide) ?_
  refine wg_istore (lv' := [some (.ref 29), some (.double FP.dconst0), none, some (.double FP.dconst0), none, some (.int (0 : Int32)), none, none]) C dX1_spreadOfValues_5 (Nat.le_of_ble_eq_true rfl) rfl ?_
  obtain ⟨t8, hL8, h⟩ := bnd h
  refine slX1_spreadOfValues_7 X C cn bk st r0 r1 r2 r3 r4 li fo tx co ke rf cp lk fl em tm rd  t8 (fun a e => ?_) FU (FP.dconst0, FP.dconst0, (0 : Int32)) hL8
  subst e
  refine wg_aload_n C dX1_spreadOfValues_48 rfl ?_
  refine wg_get (v := .int fo.2.2.2) C fgX1_spreadOfValues_22 rfl rfl dX1_spreadOfValues_49 ?_
  refine wg_i2d C dX1_spreadOfValues_52 ?_
  refine wg_dstore (lv' := [some (.ref 29), some (.double t8.1), none, some (.double t8.2), none, some (.double (FP.i2d fo.2.2.2)), none, none]) C dX1_spreadOfValues_53 (Nat.le_of_ble_eq_true rfl) rfl ?_
  refine wg_aload_n C dX1_spreadOfValues_55 rfl ?_
  refine wg_get (v := .int fo.2.2.2) C fgX1_spreadOfValues_22 rfl rfl dX1_spreadOfValues_56 ?_
  refine wg_if_le (tgt := 79) C dX1_spreadOfValues_59 (by decide) (fun c9 => ?_) (fun c9 => ?_)
  · replace h := ifP c9 h
    refine wg_dconst0 C dX1_spreadOfValues_79 ?_
    refine wg_drop (lv' := [none, none, none, none, none, none, none, none]) [0, 1, 3, 5] rfl ?_
    exact sjX1_spreadOfValues_80 X C cn bk st r0 r1 r2 r3 r4 li fo tx co ke rf cp lk fl em tm rd FP.dconst0 _ h hT
  · replace h := ifN c9 h
    refine wg_dload_n C dX1_spreadOfValues_62 rfl ?_
    refine wg_dload C dX1_spreadOfValues_63 rfl ?_
    obtain ⟨g10, h⟩ := gdP h
    refine wg_ddiv C dX1_spreadOfValues_65 g10 ?_
    refine wg_dload_n C dX1_spreadOfValues_66 rfl ?_
    refine wg_dload C dX1_spreadOfValues_67 rfl ?_
    obtain ⟨g11, h⟩ := gdP h
    refine wg_ddiv C dX1_spreadOfValues_69 g11 ?_
    refine wg_dload_n C dX1_spreadOfValues_70 rfl ?_
    refine wg_dload C dX1_spreadOfValues_71 rfl ?_
    obtain ⟨g12, h⟩ := gdP h
    refine wg_ddiv C dX1_spreadOfValues_73 g12 ?_
    obtain ⟨g13, h⟩ := gdP h
    refine wg_dmul C dX1_spreadOfValues_74 g13 ?_
    obtain ⟨g14, h⟩ := gdP h
    refine wg_dsub C dX1_spreadOfValues_75 g14 ?_
    refine wg_goto (tgt := 80) C dX1_spreadOfValues_76 (by decide) ?_
    refine wg_drop (lv' := [none, none, none, none, none, none, none, none]) [0, 1, 3, 5] rfl ?_
    exact sjX1_spreadOfValues_80 X C cn bk st r0 r1 r2 r3 r4 li fo tx co ke rf cp lk fl em tm rd (FP.dsub (FP.ddiv t8.2 (FP.i2d fo.2.2.2)) (FP.dmul (FP.ddiv t8.1 (FP.i2d fo.2.2.2)) (FP.ddiv t8.1 (FP.i2d fo.2.2.2)))) _ h hT
abbrev rX5_doubleBits : Room := { frames := 0, cells := 0, slots := 0, locals := 0 }
set_option maxRecDepth 100000 in
set_option maxHeartbeats 4000000 in
theorem sbX5_doubleBits_26 (X : CX) (C : Ok X RX5 cX5_doubleBits wsX5_doubleBits rX5_doubleBits) (cn : Tcn) (bk : Tbk) (st : Tst) (r0 : Tbk) (r1 : Tbk) (r2 : Tbk) (r3 : Tbk) (r4 : Tbk) (li : Tli) (fo : Tfo) (tx : Ttx) (co : Tco) (ke : Tke) (rf : (Nat → Int32)) (cp : Int32) (lk : Tlk) (fl : Tfl) (em : Int32) (tm : Ttm) (rd : Trd) (x0 : UInt64) (z : UInt64 × Int32) (o : (UInt64 × Int32) ⊕ (UInt64 × Int32)) (h : bX5_doubleBits_26  x0 z = some o) (k0 : ∀ a : UInt64 × Int32, o = .inl a → Wg X 26 [some (.double x0), none, some (.double a.1), none, some (.int a.2), none, none] [] (mkH cn bk st r0 r1 r2 r3 r4 li fo tx co ke rf cp lk fl em tm rd)) (e0 : ∀ a : UInt64 × Int32, o = .inr a → Wg X 54 [some (.double x0), none, some (.double a.1), none, some (.int a.2), none, none] [] (mkH cn bk st r0 r1 r2 r3 r4 li fo tx co ke rf cp lk fl em tm rd)) : Wg X 26 [some (.double x0), none, some (.double z.1), none, some (.int z.2), none, none] [] (mkH cn bk st r0 r1 r2 r3 r4 li fo tx co ke rf cp lk fl em tm rd) := by
  unfold bX5_doubleBits_26 at h
  refine wg_dload_n C dX5_doubleBits_26 rfl ?_
  refine wg_ldcd (v := 4611686018427387904) C (by decide +kernel) dX5_doubleBits_27 ?_
  refine wg_dcmp C dX5_doubleBits_30 ?_
  refine wg_if_lt (tgt := 54) C dX5_doubleBits_31 (by decide) (fun c3 => ?_) (fun c3 => ?_)
  · replace h := ifP c3 h
    have hk := e0 _ (Option.some.inj h).symm
    exact hk
  · replace h := ifN c3 h
    refine wg_iload C dX5_doubleBits_34 rfl ?_
    refine wg_sipush (v := 2046) C dX5_doubleBits_36 (by decide) ?_
    refine wg_icmp_ge (tgt := 54) C dX5_doubleBits_39 (by decide) (fun c4 => ?_) (fun c4 => ?_)
    · replace h := ifP c4 h
      have hk := e0 _ (Option.some.inj h).symm
      exact hk
    · replace h := ifN c4 h
      refine wg_dload_n C dX5_doubleBits_42 rfl ?_
      refine wg_ldcd (v := 4611686018427387904) C (by decide +kernel) dX5_doubleBits_43 ?_
      obtain ⟨g5, h⟩ := gdP h
      refine wg_ddiv C dX5_doubleBits_46 g5 ?_
      refine wg_dstore_n (lv' := [some (.double x0), none, some (.double (FP.ddiv z.1 (4611686018427387904 : UInt64))), none, some (.int z.2), none, none]) C dX5_doubleBits_47 (Nat.le_of_ble_eq_true rfl) rfl ?_
      refine wg_iinc (v := (z.2 + (1 : Int32))) (lv' := [some (.double x0), none, some (.double (FP.ddiv z.1 (4611686018427387904 : UInt64))), none, some (.int (z.2 + (1 : Int32))), none, none]) C dX5_doubleBits_48 rfl rfl rfl ?_
      refine wg_goto (tgt := 26) C dX5_doubleBits_51 (by decide) ?_
      have hk := k0 _ (Option.some.inj h).symm
      exact hk
set_option maxRecDepth 100000 in
set_option maxHeartbeats 4000000 in
theorem slX5_doubleBits_26 (X : CX) (C : Ok X RX5 cX5_doubleBits wsX5_doubleBits rX5_doubleBits) (cn : Tcn) (bk : Tbk) (st : Tst) (r0 : Tbk) (r1 : Tbk) (r2 : Tbk) (r3 : Tbk) (r4 : Tbk) (li : Tli) (fo : Tfo) (tx : Ttx) (co : Tco) (ke : Tke) (rf : (Nat → Int32)) (cp : Int32) (lk : Tlk) (fl : Tfl) (em : Int32) (tm : Ttm) (rd : Trd) (x0 : UInt64) (o : (UInt64 × Int32)) (e0 : ∀ a : UInt64 × Int32, o = a → Wg X 54 [some (.double x0), none, some (.double a.1), none, some (.int a.2), none, none] [] (mkH cn bk st r0 r1 r2 r3 r4 li fo tx co ke rf cp lk fl em tm rd)) : ∀ (n : Nat) (z : UInt64 × Int32), lpF (bX5_doubleBits_26  x0) n z = some o → Wg X 26 [some (.double x0), none, some (.double z.1), none, some (.int z.2), none, none] [] (mkH cn bk st r0 r1 r2 r3 r4 li fo tx co ke rf cp lk fl em tm rd) := by
  intro n
  induction n with
  | zero => intro z h; cases h
  | succ n ih =>
    intro z h
    obtain ⟨r, hB, h⟩ := bnd h
    refine sbX5_doubleBits_26 X C cn bk st r0 r1 r2 r3 r4 li fo tx co ke rf cp lk fl em tm rd x0 z r hB (fun a e => ih a (by subst e; exact h)) (fun a e => e0 a (by subst e; exact (Option.some.inj h).symm))
set_option maxRecDepth 100000 in
set_option maxHeartbeats 4000000 in
theorem sbX5_doubleBits_54 (X : CX) (C : Ok X RX5 cX5_doubleBits wsX5_doubleBits rX5_doubleBits) (cn : Tcn) (bk : Tbk) (st : Tst) (r0 : Tbk) (r1 : Tbk) (r2 : Tbk) (r3 : Tbk) (r4 : Tbk) (li : Tli) (fo : Tfo) (tx : Ttx) (co : Tco) (ke : Tke) (rf : (Nat → Int32)) (cp : Int32) (lk : Tlk) (fl : Tfl) (em : Int32) (tm : Ttm) (rd : Trd) (x0 : UInt64) (z : UInt64 × Int32) (o : (UInt64 × Int32) ⊕ (UInt64 × Int32)) (h : bX5_doubleBits_54  x0 z = some o) (k0 : ∀ a : UInt64 × Int32, o = .inl a → Wg X 54 [some (.double x0), none, some (.double a.1), none, some (.int a.2), none, none] [] (mkH cn bk st r0 r1 r2 r3 r4 li fo tx co ke rf cp lk fl em tm rd)) (e0 : ∀ a : UInt64 × Int32, o = .inr a → Wg X 78 [some (.double x0), none, some (.double a.1), none, some (.int a.2), none, none] [] (mkH cn bk st r0 r1 r2 r3 r4 li fo tx co ke rf cp lk fl em tm rd)) : Wg X 54 [some (.double x0), none, some (.double z.1), none, some (.int z.2), none, none] [] (mkH cn bk st r0 r1 r2 r3 r4 li fo tx co ke rf cp lk fl em tm rd) := by
  unfold bX5_doubleBits_54 at h
  refine wg_dload_n C dX5_doubleBits_54 rfl ?_
  refine wg_dconst1 C dX5_doubleBits_55 ?_
  refine wg_dcmp C dX5_doubleBits_56 ?_
  refine wg_if_ge (tgt := 78) C dX5_doubleBits_57 (by decide) (fun c7 => ?_) (fun c7 => ?_)
  · replace h := ifP c7 h
    have hk := e0 _ (Option.some.inj h).symm
    exact hk
  · replace h := ifN c7 h
    refine wg_iload C dX5_doubleBits_60 rfl ?_
    refine wg_iconst (v := 1) C dX5_doubleBits_62 (by decide) ?_
    refine wg_icmp_le (tgt := 78) C dX5_doubleBits_63 (by decide) (fun c8 => ?_) (fun c8 => ?_)
    · replace h := ifP c8 h
      have hk := e0 _ (Option.some.inj h).symm
      exact hk
    · replace h := ifN c8 h
      refine wg_dload_n C dX5_doubleBits_66 rfl ?_
      refine wg_ldcd (v := 4611686018427387904) C (by decide +kernel) dX5_doubleBits_67 ?_
      obtain ⟨g9, h⟩ := gdP h
      refine wg_dmul C dX5_doubleBits_70 g9 ?_
      refine wg_dstore_n (lv' := [some (.double x0), none, some (.double (FP.dmul z.1 (4611686018427387904 : UInt64))), none, some (.int z.2), none, none]) C dX5_doubleBits_71 (Nat.le_of_ble_eq_true rfl) rfl ?_
      refine wg_iinc (v := (z.2 + (-1 : Int32))) (lv' := [some (.double x0), none, some (.double (FP.dmul z.1 (4611686018427387904 : UInt64))), none, some (.int (z.2 + (-1 : Int32))), none, none]) C dX5_doubleBits_72 rfl rfl rfl ?_
      refine wg_goto (tgt := 54) C dX5_doubleBits_75 (by decide) ?_
      have hk := k0 _ (Option.some.inj h).symm
      exact hk
set_option maxRecDepth 100000 in
set_option maxHeartbeats 4000000 in
theorem slX5_doubleBits_54 (X : CX) (C : Ok X RX5 cX5_doubleBits wsX5_doubleBits rX5_doubleBits) (cn : Tcn) (bk : Tbk) (st : Tst) (r0 : Tbk) (r1 : Tbk) (r2 : Tbk) (r3 : Tbk) (r4 : Tbk) (li : Tli) (fo : Tfo) (tx : Ttx) (co : Tco) (ke : Tke) (rf : (Nat → Int32)) (cp : Int32) (lk : Tlk) (fl : Tfl) (em : Int32) (tm : Ttm) (rd : Trd) (x0 : UInt64) (o : (UInt64 × Int32)) (e0 : ∀ a : UInt64 × Int32, o = a → Wg X 78 [some (.double x0), none, some (.double a.1), none, some (.int a.2), none, none] [] (mkH cn bk st r0 r1 r2 r3 r4 li fo tx co ke rf cp lk fl em tm rd)) : ∀ (n : Nat) (z : UInt64 × Int32), lpF (bX5_doubleBits_54  x0) n z = some o → Wg X 54 [some (.double x0), none, some (.double z.1), none, some (.int z.2), none, none] [] (mkH cn bk st r0 r1 r2 r3 r4 li fo tx co ke rf cp lk fl em tm rd) := by
  intro n
  induction n with
  | zero => intro z h; cases h
  | succ n ih =>
    intro z h
    obtain ⟨r, hB, h⟩ := bnd h
    refine sbX5_doubleBits_54 X C cn bk st r0 r1 r2 r3 r4 li fo tx co ke rf cp lk fl em tm rd x0 z r hB (fun a e => ih a (by subst e; exact h)) (fun a e => e0 a (by subst e; exact (Option.some.inj h).symm))
set_option maxRecDepth 100000 in
set_option maxHeartbeats 4000000 in
theorem sjX5_doubleBits_112 (X : CX) (C : Ok X RX5 cX5_doubleBits wsX5_doubleBits rX5_doubleBits) (cn : Tcn) (bk : Tbk) (st : Tst) (r0 : Tbk) (r1 : Tbk) (r2 : Tbk) (r3 : Tbk) (r4 : Tbk) (li : Tli) (fo : Tfo) (tx : Ttx) (co : Tco) (ke : Tke) (rf : (Nat → Int32)) (cp : Int32) (lk : Tlk) (fl : Tfl) (em : Int32) (tm : Ttm) (rd : Trd) (y0 : Int64) (o : Int64) (h : jX5_doubleBits_112  y0 = some o) (hT : Rt X (some .long) (some (.long o)) (mkH cn bk st r0 r1 r2 r3 r4 li fo tx co ke rf cp lk fl em tm rd)) : Wg X 112 [none, none, none, none, none, none, none] [.long y0] (mkH cn bk st r0 r1 r2 r3 r4 li fo tx co ke rf cp lk fl em tm rd) := by
  unfold jX5_doubleBits_112 at h
  obtain rfl := Option.some.inj h
  exact wg_lret C hT dX5_doubleBits_112
set_option maxRecDepth 100000 in
set_option maxHeartbeats 4000000 in
theorem sjX5_doubleBits_20 (X : CX) (C : Ok X RX5 cX5_doubleBits wsX5_doubleBits rX5_doubleBits) (cn : Tcn) (bk : Tbk) (st : Tst) (r0 : Tbk) (r1 : Tbk) (r2 : Tbk) (r3 : Tbk) (r4 : Tbk) (li : Tli) (fo : Tfo) (tx : Ttx) (co : Tco) (ke : Tke) (rf : (Nat → Int32)) (cp : Int32) (lk : Tlk) (fl : Tfl) (em : Int32) (tm : Ttm) (rd : Trd) (x0 : UInt64) (y0 : UInt64) (o : Int64) (h : jX5_doubleBits_20  x0 y0 = some o) (hT : Rt X (some .long) (some (.long o)) (mkH cn bk st r0 r1 r2 r3 r4 li fo tx co ke rf cp lk fl em tm rd)) : Wg X 20 [some (.double x0), none, none, none, none, none, none] [.double y0] (mkH cn bk st r0 r1 r2 r3 r4 li fo tx co ke rf cp lk fl em tm rd) := by
  unfold jX5_doubleBits_20 at h
  refine wg_dstore_n (lv' := [some (.double x0), none, some (.double y0), none, none, none, none]) C dX5_doubleBits_20 (Nat.le_of_ble_eq_true rfl) rfl ?_
  refine wg_sipush (v := 1023) C dX5_doubleBits_21 (by decide) ?_
  refine wg_istore (lv' := [some (.double x0), none, some (.double y0), none, some (.int (1023 : Int32)), none, none]) C dX5_doubleBits_24 (Nat.le_of_ble_eq_true rfl) rfl ?_
  obtain ⟨t6, hL6, h⟩ := bnd h
  refine slX5_doubleBits_26 X C cn bk st r0 r1 r2 r3 r4 li fo tx co ke rf cp lk fl em tm rd x0 t6 (fun a e => ?_) FU (y0, (1023 : Int32)) hL6
  subst e
  obtain ⟨t10, hL10, h⟩ := bnd h
  refine slX5_doubleBits_54 X C cn bk st r0 r1 r2 r3 r4 li fo tx co ke rf cp lk fl em tm rd x0 t10 (fun a e => ?_) FU (t6.1, t6.2) hL10
  subst e
  refine wg_iload C dX5_doubleBits_78 rfl ?_
  refine wg_i2l C dX5_doubleBits_80 ?_
  refine wg_bipush (v := 52) C dX5_doubleBits_81 (by decide) ?_
  refine wg_lshl C dX5_doubleBits_83 ?_
  refine wg_dload_n C dX5_doubleBits_84 rfl ?_
  refine wg_dconst1 C dX5_doubleBits_85 ?_
  obtain ⟨g11, h⟩ := gdP h
  refine wg_dsub C dX5_doubleBits_86 g11 ?_
  refine wg_ldcd (v := 4841369599423283200) C (by decide +kernel) dX5_doubleBits_87 ?_
  obtain ⟨g12, h⟩ := gdP h
  refine wg_dmul C dX5_doubleBits_90 g12 ?_
  refine wg_d2l C dX5_doubleBits_91 ?_
  refine wg_lor C dX5_doubleBits_92 ?_
  refine wg_lstore (lv' := [some (.double x0), none, some (.double t10.1), none, some (.int t10.2), some (.long (((t10.2).toInt64 <<< (((52 : Int32)).toInt64 &&& 63)) ||| (FP.d2l (FP.dmul (FP.dsub t10.1 FP.dconst1) (4841369599423283200 : UInt64))))), none]) C dX5_doubleBits_93 (Nat.le_of_ble_eq_true rfl) rfl ?_
  refine wg_dload_n C dX5_doubleBits_95 rfl ?_
  refine wg_dconst0 C dX5_doubleBits_96 ?_
  refine wg_dcmp C dX5_doubleBits_97 ?_
  refine wg_if_ge (tgt := 110) C dX5_doubleBits_98 (by decide) (fun c13 => ?_) (fun c13 => ?_)
  · replace h := ifP c13 h
    refine wg_lload C dX5_doubleBits_110 rfl ?_
    refine wg_drop (lv' := [none, none, none, none, none, none, none]) [0, 2, 4, 5] rfl ?_
    exact sjX5_doubleBits_112 X C cn bk st r0 r1 r2 r3 r4 li fo tx co ke rf cp lk fl em tm rd (((t10.2).toInt64 <<< (((52 : Int32)).toInt64 &&& 63)) ||| (FP.d2l (FP.dmul (FP.dsub t10.1 FP.dconst1) (4841369599423283200 : UInt64)))) _ h hT
  · replace h := ifN c13 h
    refine wg_lload C dX5_doubleBits_101 rfl ?_
    refine wg_ldcl (v := -9223372036854775808) C (by decide +kernel) dX5_doubleBits_103 ?_
    refine wg_lor C dX5_doubleBits_106 ?_
    refine wg_goto (tgt := 112) C dX5_doubleBits_107 (by decide) ?_
    refine wg_drop (lv' := [none, none, none, none, none, none, none]) [0, 2, 4, 5] rfl ?_
    exact sjX5_doubleBits_112 X C cn bk st r0 r1 r2 r3 r4 li fo tx co ke rf cp lk fl em tm rd ((((t10.2).toInt64 <<< (((52 : Int32)).toInt64 &&& 63)) ||| (FP.d2l (FP.dmul (FP.dsub t10.1 FP.dconst1) (4841369599423283200 : UInt64)))) ||| (-9223372036854775808 : Int64)) _ h hT
set_option maxRecDepth 100000 in
set_option maxHeartbeats 4000000 in
theorem sX5_doubleBits (cn : Tcn) (bk : Tbk) (st : Tst) (r0 : Tbk) (r1 : Tbk) (r2 : Tbk) (r3 : Tbk) (r4 : Tbk) (li : Tli) (fo : Tfo) (tx : Ttx) (co : Tco) (ke : Tke) (rf : (Nat → Int32)) (cp : Int32) (lk : Tlk) (fl : Tfl) (em : Int32) (tm : Ttm) (rd : Trd) (x0 : UInt64) (o : Int64) (h : fX5_doubleBits  x0 = some o) : Sp yX5_doubleBits wsX5_doubleBits rX5_doubleBits [.double x0] (mkH cn bk st r0 r1 r2 r3 r4 li fo tx co ke rf cp lk fl em tm rd) (some (.long o)) (mkH cn bk st r0 r1 r2 r3 r4 li fo tx co ke rf cp lk fl em tm rd) := by
  refine Sp.of (lv := [some (.double x0), none, none, none, none, none, none]) RX5 (by decide +kernel) rfl (Nat.le_of_ble_eq_true rfl) rfl ?_
  intro X C hT
  unfold fX5_doubleBits at h
  refine wg_dload_n C dX5_doubleBits_0 rfl ?_
  refine wg_dconst0 C dX5_doubleBits_1 ?_
  refine wg_dcmp C dX5_doubleBits_2 ?_
  refine wg_if_ne (tgt := 8) C dX5_doubleBits_3 (by decide) (fun c1 => ?_) (fun c1 => ?_)
  · replace h := ifP c1 h
    refine wg_dload_n C dX5_doubleBits_8 rfl ?_
    refine wg_dconst0 C dX5_doubleBits_9 ?_
    refine wg_dcmp C dX5_doubleBits_10 ?_
    refine wg_if_ge (tgt := 19) C dX5_doubleBits_11 (by decide) (fun c2 => ?_) (fun c2 => ?_)
    · replace h := ifP c2 h
      refine wg_dload_n C dX5_doubleBits_19 rfl ?_
      exact sjX5_doubleBits_20 X C cn bk st r0 r1 r2 r3 r4 li fo tx co ke rf cp lk fl em tm rd x0 x0 _ h hT
    · replace h := ifN c2 h
      refine wg_dload_n C dX5_doubleBits_14 rfl ?_
      refine wg_dneg C dX5_doubleBits_15 ?_
      refine wg_goto (tgt := 20) C dX5_doubleBits_16 (by decide) ?_
      exact sjX5_doubleBits_20 X C cn bk st r0 r1 r2 r3 r4 li fo tx co ke rf cp lk fl em tm rd x0 (FP.dneg x0) _ h hT
  · replace h := ifN c1 h
    refine wg_lconst (v := 0) C dX5_doubleBits_6 (by decide) ?_
    obtain rfl := Option.some.inj h
    exact wg_lret C hT dX5_doubleBits_7
abbrev rX5_spread : Room := { frames := 6, cells := 0, slots := 0, locals := 143 }
theorem iwX5_spread_5 : ∀ w ∈ wsX50, w ∈ wsX5_spread := by decide +kernel
theorem fgX5_spread_10 : FG wsX5_spread RX5 10 5 0 := ⟨RX5, TX5, 8, rfl, by decide, by decide +kernel, iwX5_spread_5⟩
theorem fgX5_spread_33 : FG wsX5_spread RX5 33 5 3 := ⟨RX5, TX5, 8, rfl, by decide, by decide +kernel, iwX5_spread_5⟩
set_option maxRecDepth 100000 in
set_option maxHeartbeats 4000000 in
theorem sjX5_spread_18 (X : CX) (C : Ok X RX5 cX5_spread wsX5_spread rX5_spread) (cn : Tcn) (bk : Tbk) (st : Tst) (r0 : Tbk) (r1 : Tbk) (r2 : Tbk) (r3 : Tbk) (r4 : Tbk) (li : Tli) (fo : Tfo) (tx : Ttx) (co : Tco) (ke : Tke) (rf : (Nat → Int32)) (cp : Int32) (lk : Tlk) (fl : Tfl) (em : Int32) (tm : Ttm) (rd : Trd)  (o : Int64 × Tcn × Tli × Tfo) (h : jX5_spread_18 cn bk li fo  = some o) (hT : Rt X (some .long) (some (.long o.1)) (mkH o.2.1 bk st r0 r1 r2 r3 r4 o.2.2.1 o.2.2.2 tx co ke rf cp lk fl em tm rd)) : Wg X 18 [some (.ref 0), none, none] [] (mkH cn bk st r0 r1 r2 r3 r4 li fo tx co ke rf cp lk fl em tm rd) := by
  unfold jX5_spread_18 at h
  refine wg_aload_n C dX5_spread_18 rfl ?_
  refine wg_bipush (v := -2) C dX5_spread_19 (by decide) ?_
  obtain ⟨q3, e3q, h⟩ := bnd h
  refine wg_callV (n := 1) (As := [.int (-2 : Int32)]) (st := []) (st' := [.int q3.1]) C (sX5_refuseBad cn bk st r0 r1 r2 r3 r4 li fo tx co ke rf cp lk fl em tm rd (-2 : Int32) q3 e3q) gX5_spread_X5_refuseBad rfl (by decide +kernel) ⟨⟨rfl, rfl⟩, Nat.le_of_ble_eq_true rfl, Nat.le_of_ble_eq_true rfl⟩ rfl rfl rfl rfl (Nat.le_of_ble_eq_true rfl) dX5_spread_21 rfl ?_
  refine wg_i2l C dX5_spread_24 ?_
  obtain rfl := Option.some.inj h
  exact wg_lret C hT dX5_spread_25
set_option maxRecDepth 100000 in
set_option maxHeartbeats 4000000 in
theorem sjX5_spread_58 (X : CX) (C : Ok X RX5 cX5_spread wsX5_spread rX5_spread) (cn : Tcn) (bk : Tbk) (st : Tst) (r0 : Tbk) (r1 : Tbk) (r2 : Tbk) (r3 : Tbk) (r4 : Tbk) (li : Tli) (fo : Tfo) (tx : Ttx) (co : Tco) (ke : Tke) (rf : (Nat → Int32)) (cp : Int32) (lk : Tlk) (fl : Tfl) (em : Int32) (tm : Ttm) (rd : Trd) (y0 : Int64) (o : Int64 × Tcn × Tli × Tfo) (h : jX5_spread_58 cn bk li fo y0 = some o) (hT : Rt X (some .long) (some (.long o.1)) (mkH o.2.1 bk st r0 r1 r2 r3 r4 o.2.2.1 o.2.2.2 tx co ke rf cp lk fl em tm rd)) : Wg X 58 [none, none, none] [.long y0] (mkH cn bk st r0 r1 r2 r3 r4 li fo tx co ke rf cp lk fl em tm rd) := by
  unfold jX5_spread_58 at h
  obtain rfl := Option.some.inj h
  exact wg_lret C hT dX5_spread_58
set_option maxRecDepth 100000 in
set_option maxHeartbeats 4000000 in
theorem sX5_spread (cn : Tcn) (bk : Tbk) (st : Tst) (r0 : Tbk) (r1 : Tbk) (r2 : Tbk) (r3 : Tbk) (r4 : Tbk) (li : Tli) (fo : Tfo) (tx : Ttx) (co : Tco) (ke : Tke) (rf : (Nat → Int32)) (cp : Int32) (lk : Tlk) (fl : Tfl) (em : Int32) (tm : Ttm) (rd : Trd) (x1 : Int32) (x2 : Int32) (o : Int64 × Tcn × Tli × Tfo) (h : fX5_spread cn bk li fo x1 x2 = some o) : Sp yX5_spread wsX5_spread rX5_spread [.ref 0, .int x1, .int x2] (mkH cn bk st r0 r1 r2 r3 r4 li fo tx co ke rf cp lk fl em tm rd) (some (.long o.1)) (mkH o.2.1 bk st r0 r1 r2 r3 r4 o.2.2.1 o.2.2.2 tx co ke rf cp lk fl em tm rd) := by
  refine Sp.of (lv := [some (.ref 0), some (.int x1), some (.int x2)]) RX5 (by decide +kernel) rfl (Nat.le_of_ble_eq_true rfl) rfl ?_
  intro X C hT
  unfold fX5_spread at h
  refine wg_aload_n C dX5_spread_0 rfl ?_
  refine wg_get (v := .ref 1) C fgX5_spread_10 rfl rfl dX5_spread_1 ?_
  refine wg_iload_n C dX5_spread_4 rfl ?_
  obtain ⟨q1, e1q, h⟩ := bnd h
  refine wg_callV (n := 1) (As := [.int x1]) (st := []) (st' := [.int q1]) C (sX0_has cn bk st r0 r1 r2 r3 r4 li fo tx co ke rf cp lk fl em tm rd x1 q1 e1q) gX5_spread_X0_has rfl (by decide +kernel) ⟨⟨rfl, rfl⟩, Nat.le_of_ble_eq_true rfl, Nat.le_of_ble_eq_true rfl⟩ rfl rfl rfl rfl (Nat.le_of_ble_eq_true rfl) dX5_spread_5 rfl ?_
  refine wg_if_eq (tgt := 18) C dX5_spread_8 (by decide) (fun c2 => ?_) (fun c2 => ?_)
  · replace h := ifP c2 h
    refine wg_drop (lv' := [some (.ref 0), none, none]) [1, 2] rfl ?_
    exact sjX5_spread_18 X C cn bk st r0 r1 r2 r3 r4 li fo tx co ke rf cp lk fl em tm rd  _ h hT
  · replace h := ifN c2 h
    refine wg_iload_n C dX5_spread_11 rfl ?_
    obtain ⟨q4, e4q, h⟩ := bnd h
    refine wg_callT (n := 1) (As := [.int x2]) (st := []) (st' := [.int q4]) C (sX5_isMember cn bk st r0 r1 r2 r3 r4 li fo tx co ke rf cp lk fl em tm rd x2 q4 e4q) gX5_spread_X5_isMember rfl (by decide +kernel) ⟨⟨rfl, rfl⟩, Nat.le_of_ble_eq_true rfl, Nat.le_of_ble_eq_true rfl⟩ rfl rfl (Nat.le_of_ble_eq_true rfl) dX5_spread_12 rfl ?_
    refine wg_if_ne (tgt := 26) C dX5_spread_15 (by decide) (fun c5 => ?_) (fun c5 => ?_)
    · replace h := ifP c5 h
      refine wg_aload_n C dX5_spread_26 rfl ?_
      refine wg_iload_n C dX5_spread_27 rfl ?_
      refine wg_iload_n C dX5_spread_28 rfl ?_
      obtain ⟨q6, e6q, h⟩ := bnd h
      refine wg_callV (n := 2) (As := [.int x1, .int x2]) (st := []) (st' := []) C (sX5_gatherFollowers cn bk st r0 r1 r2 r3 r4 li fo tx co ke rf cp lk fl em tm rd x1 x2 q6 e6q) gX5_spread_X5_gatherFollowers rfl (by decide +kernel) ⟨⟨rfl, rfl⟩, Nat.le_of_ble_eq_true rfl, Nat.le_of_ble_eq_true rfl⟩ rfl rfl rfl rfl (Nat.le_of_ble_eq_true rfl) dX5_spread_29 rfl ?_
      refine wg_aload_n C dX5_spread_32 rfl ?_
      refine wg_get (v := .ref 29) C fgX5_spread_33 rfl rfl dX5_spread_33 ?_
      obtain ⟨q7, e7q, h⟩ := bnd h
      refine wg_callV (n := 0) (As := []) (st := []) (st' := [.int q7]) C (sX1_size cn bk st r0 r1 r2 r3 r4 q6.1 q6.2 tx co ke rf cp lk fl em tm rd  q7 e7q) gX5_spread_X1_size rfl (by decide +kernel) ⟨⟨rfl, rfl⟩, Nat.le_of_ble_eq_true rfl, Nat.le_of_ble_eq_true rfl⟩ rfl rfl rfl rfl (Nat.le_of_ble_eq_true rfl) dX5_spread_36 rfl ?_
      refine wg_if_ne (tgt := 48) C dX5_spread_39 (by decide) (fun c8 => ?_) (fun c8 => ?_)
      · replace h := ifP c8 h
        refine wg_aload_n C dX5_spread_48 rfl ?_
        refine wg_get (v := .ref 29) C fgX5_spread_33 rfl rfl dX5_spread_49 ?_
        obtain ⟨q9, e9q, h⟩ := bnd h
        refine wg_callV (n := 0) (As := []) (st := []) (st' := [.double q9]) C (sX1_spreadOfValues cn bk st r0 r1 r2 r3 r4 q6.1 q6.2 tx co ke rf cp lk fl em tm rd  q9 e9q) gX5_spread_X1_spreadOfValues rfl (by decide +kernel) ⟨⟨rfl, rfl⟩, Nat.le_of_ble_eq_true rfl, Nat.le_of_ble_eq_true rfl⟩ rfl rfl rfl rfl (Nat.le_of_ble_eq_true rfl) dX5_spread_52 rfl ?_
        obtain ⟨q10, e10q, h⟩ := bnd h
        refine wg_callT (n := 1) (As := [.double q9]) (st := []) (st' := [.long q10]) C (sX5_doubleBits cn bk st r0 r1 r2 r3 r4 q6.1 q6.2 tx co ke rf cp lk fl em tm rd q9 q10 e10q) gX5_spread_X5_doubleBits rfl (by decide +kernel) ⟨⟨rfl, rfl⟩, Nat.le_of_ble_eq_true rfl, Nat.le_of_ble_eq_true rfl⟩ rfl rfl (Nat.le_of_ble_eq_true rfl) dX5_spread_55 rfl ?_
        refine wg_drop (lv' := [none, none, none]) [0, 1, 2] rfl ?_
        exact sjX5_spread_58 X C cn bk st r0 r1 r2 r3 r4 q6.1 q6.2 tx co ke rf cp lk fl em tm rd q10 _ h hT
      · replace h := ifN c8 h
        refine wg_ldcl (v := -1) C (by decide +kernel) dX5_spread_42 ?_
        refine wg_goto (tgt := 58) C dX5_spread_45 (by decide) ?_
        refine wg_drop (lv' := [none, none, none]) [0, 1, 2] rfl ?_
        exact sjX5_spread_58 X C cn bk st r0 r1 r2 r3 r4 q6.1 q6.2 tx co ke rf cp lk fl em tm rd (-1 : Int64) _ h hT
    · replace h := ifN c5 h
      refine wg_drop (lv' := [some (.ref 0), none, none]) [1, 2] rfl ?_
      exact sjX5_spread_18 X C cn bk st r0 r1 r2 r3 r4 li fo tx co ke rf cp lk fl em tm rd  _ h hT
abbrev rX5_holds : Room := { frames := 6, cells := 0, slots := 0, locals := 143 }
theorem iwX5_holds_5 : ∀ w ∈ wsX50, w ∈ wsX5_holds := by decide +kernel
theorem fgX5_holds_10 : FG wsX5_holds RX5 10 5 0 := ⟨RX5, TX5, 8, rfl, by decide, by decide +kernel, iwX5_holds_5⟩
theorem fgX5_holds_33 : FG wsX5_holds RX5 33 5 3 := ⟨RX5, TX5, 8, rfl, by decide, by decide +kernel, iwX5_holds_5⟩
set_option maxRecDepth 100000 in
set_option maxHeartbeats 4000000 in
theorem sjX5_holds_25 (X : CX) (C : Ok X RX5 cX5_holds wsX5_holds rX5_holds) (cn : Tcn) (bk : Tbk) (st : Tst) (r0 : Tbk) (r1 : Tbk) (r2 : Tbk) (r3 : Tbk) (r4 : Tbk) (li : Tli) (fo : Tfo) (tx : Ttx) (co : Tco) (ke : Tke) (rf : (Nat → Int32)) (cp : Int32) (lk : Tlk) (fl : Tfl) (em : Int32) (tm : Ttm) (rd : Trd)  (o : Int32 × Tcn × Tli × Tfo) (h : jX5_holds_25 cn bk li fo  = some o) (hT : Rt X (some .int) (some (.int o.1)) (mkH o.2.1 bk st r0 r1 r2 r3 r4 o.2.2.1 o.2.2.2 tx co ke rf cp lk fl em tm rd)) : Wg X 25 [some (.ref 0), none, none, none, none, none, none, none] [] (mkH cn bk st r0 r1 r2 r3 r4 li fo tx co ke rf cp lk fl em tm rd) := by
  unfold jX5_holds_25 at h
  refine wg_aload_n C dX5_holds_25 rfl ?_
  refine wg_bipush (v := -2) C dX5_holds_26 (by decide) ?_
  obtain ⟨q3, e3q, h⟩ := bnd h
  refine wg_callV (n := 1) (As := [.int (-2 : Int32)]) (st := []) (st' := [.int q3.1]) C (sX5_refuseBad cn bk st r0 r1 r2 r3 r4 li fo tx co ke rf cp lk fl em tm rd (-2 : Int32) q3 e3q) gX5_holds_X5_refuseBad rfl (by decide +kernel) ⟨⟨rfl, rfl⟩, Nat.le_of_ble_eq_true rfl, Nat.le_of_ble_eq_true rfl⟩ rfl rfl rfl rfl (Nat.le_of_ble_eq_true rfl) dX5_holds_28 rfl ?_
  obtain rfl := Option.some.inj h
  exact wg_iret C hT dX5_holds_31
set_option maxRecDepth 100000 in
set_option maxHeartbeats 4000000 in
theorem sjX5_holds_41_134 (X : CX) (C : Ok X RX5 cX5_holds wsX5_holds rX5_holds) (cn : Tcn) (bk : Tbk) (st : Tst) (r0 : Tbk) (r1 : Tbk) (r2 : Tbk) (r3 : Tbk) (r4 : Tbk) (li : Tli) (fo : Tfo) (tx : Ttx) (co : Tco) (ke : Tke) (rf : (Nat → Int32)) (cp : Int32) (lk : Tlk) (fl : Tfl) (em : Int32) (tm : Ttm) (rd : Trd) (x1 : Int32) (x2 : Int32) (x3 : Int32) (x4 : Int32) (x5 : Int32) (x6 : Int32) (o : (Int32 × Int32 × Int32 × Tli × Tfo) ⊕ (Int32 × Int32 × Tli × Tfo)) (h : jX5_holds_41_134 cn bk li fo x1 x2 x3 x4 x5 x6 = some o) (k0 : ∀ a : Int32 × Int32 × Int32 × Tli × Tfo, o = .inl a → Wg X 41 [some (.ref 0), some (.int x1), some (.int x2), some (.int x3), some (.int a.1), some (.int a.2.1), some (.int a.2.2.1), none] [] (mkH cn bk st r0 r1 r2 r3 r4 a.2.2.2.1 a.2.2.2.2 tx co ke rf cp lk fl em tm rd)) (e0 : ∀ a : Int32 × Int32 × Tli × Tfo, o = .inr a → Wg X 140 [none, none, none, some (.int x3), some (.int a.1), some (.int a.2.1), none, none] [] (mkH cn bk st r0 r1 r2 r3 r4 a.2.2.1 a.2.2.2 tx co ke rf cp lk fl em tm rd)) : Wg X 134 [some (.ref 0), some (.int x1), some (.int x2), some (.int x3), some (.int x4), some (.int x5), some (.int x6), none] [] (mkH cn bk st r0 r1 r2 r3 r4 li fo tx co ke rf cp lk fl em tm rd) := by
  unfold jX5_holds_41_134 at h
  refine wg_iinc (v := (x6 + (1 : Int32))) (lv' := [some (.ref 0), some (.int x1), some (.int x2), some (.int x3), some (.int x4), some (.int x5), some (.int (x6 + (1 : Int32))), none]) C dX5_holds_134 rfl rfl rfl ?_
  refine wg_goto (tgt := 41) C dX5_holds_137 (by decide) ?_
  have hk := k0 _ (Option.some.inj h).symm
  exact hk
set_option maxRecDepth 100000 in
set_option maxHeartbeats 4000000 in
theorem sjX5_holds_41_131 (X : CX) (C : Ok X RX5 cX5_holds wsX5_holds rX5_holds) (cn : Tcn) (bk : Tbk) (st : Tst) (r0 : Tbk) (r1 : Tbk) (r2 : Tbk) (r3 : Tbk) (r4 : Tbk) (li : Tli) (fo : Tfo) (tx : Ttx) (co : Tco) (ke : Tke) (rf : (Nat → Int32)) (cp : Int32) (lk : Tlk) (fl : Tfl) (em : Int32) (tm : Ttm) (rd : Trd) (x1 : Int32) (x2 : Int32) (x3 : Int32) (x4 : Int32) (x6 : Int32) (y0 : Int32) (y1 : Int32) (o : (Int32 × Int32 × Int32 × Tli × Tfo) ⊕ (Int32 × Int32 × Tli × Tfo)) (h : jX5_holds_41_131 cn bk li fo x1 x2 x3 x4 x6 y0 y1 = some o) (k0 : ∀ a : Int32 × Int32 × Int32 × Tli × Tfo, o = .inl a → Wg X 41 [some (.ref 0), some (.int x1), some (.int x2), some (.int x3), some (.int a.1), some (.int a.2.1), some (.int a.2.2.1), none] [] (mkH cn bk st r0 r1 r2 r3 r4 a.2.2.2.1 a.2.2.2.2 tx co ke rf cp lk fl em tm rd)) (e0 : ∀ a : Int32 × Int32 × Tli × Tfo, o = .inr a → Wg X 140 [none, none, none, some (.int x3), some (.int a.1), some (.int a.2.1), none, none] [] (mkH cn bk st r0 r1 r2 r3 r4 a.2.2.1 a.2.2.2 tx co ke rf cp lk fl em tm rd)) : Wg X 131 [some (.ref 0), some (.int x1), some (.int x2), some (.int x3), some (.int x4), none, some (.int x6), none] [.int y1, .int y0] (mkH cn bk st r0 r1 r2 r3 r4 li fo tx co ke rf cp lk fl em tm rd) := by
  unfold jX5_holds_41_131 at h
  refine wg_iadd C dX5_holds_131 ?_
  refine wg_istore (lv' := [some (.ref 0), some (.int x1), some (.int x2), some (.int x3), some (.int x4), some (.int (y0 + y1)), some (.int x6), none]) C dX5_holds_132 (Nat.le_of_ble_eq_true rfl) rfl ?_
  exact sjX5_holds_41_134 X C cn bk st r0 r1 r2 r3 r4 li fo tx co ke rf cp lk fl em tm rd x1 x2 x3 x4 (y0 + y1) x6 _ h k0 e0
set_option maxRecDepth 100000 in
set_option maxHeartbeats 4000000 in
theorem sjX5_holds_41_130 (X : CX) (C : Ok X RX5 cX5_holds wsX5_holds rX5_holds) (cn : Tcn) (bk : Tbk) (st : Tst) (r0 : Tbk) (r1 : Tbk) (r2 : Tbk) (r3 : Tbk) (r4 : Tbk) (li : Tli) (fo : Tfo) (tx : Ttx) (co : Tco) (ke : Tke) (rf : (Nat → Int32)) (cp : Int32) (lk : Tlk) (fl : Tfl) (em : Int32) (tm : Ttm) (rd : Trd) (x1 : Int32) (x2 : Int32) (x3 : Int32) (x4 : Int32) (x6 : Int32) (y0 : Int32) (o : (Int32 × Int32 × Int32 × Tli × Tfo) ⊕ (Int32 × Int32 × Tli × Tfo)) (h : jX5_holds_41_130 cn bk li fo x1 x2 x3 x4 x6 y0 = some o) (k0 : ∀ a : Int32 × Int32 × Int32 × Tli × Tfo, o = .inl a → Wg X 41 [some (.ref 0), some (.int x1), some (.int x2), some (.int x3), some (.int a.1), some (.int a.2.1), some (.int a.2.2.1), none] [] (mkH cn bk st r0 r1 r2 r3 r4 a.2.2.2.1 a.2.2.2.2 tx co ke rf cp lk fl em tm rd)) (e0 : ∀ a : Int32 × Int32 × Tli × Tfo, o = .inr a → Wg X 140 [none, none, none, some (.int x3), some (.int a.1), some (.int a.2.1), none, none] [] (mkH cn bk st r0 r1 r2 r3 r4 a.2.2.1 a.2.2.2 tx co ke rf cp lk fl em tm rd)) : Wg X 130 [some (.ref 0), some (.int x1), some (.int x2), some (.int x3), some (.int x4), none, some (.int x6), none] [.int y0] (mkH cn bk st r0 r1 r2 r3 r4 li fo tx co ke rf cp lk fl em tm rd) := by
  unfold jX5_holds_41_130 at h
  refine wg_iconst (v := 0) C dX5_holds_130 (by decide) ?_
  exact sjX5_holds_41_131 X C cn bk st r0 r1 r2 r3 r4 li fo tx co ke rf cp lk fl em tm rd x1 x2 x3 x4 x6 y0 (0 : Int32) _ h k0 e0
set_option maxRecDepth 100000 in
set_option maxHeartbeats 4000000 in
theorem sbX5_holds_41 (X : CX) (C : Ok X RX5 cX5_holds wsX5_holds rX5_holds) (cn : Tcn) (bk : Tbk) (st : Tst) (r0 : Tbk) (r1 : Tbk) (r2 : Tbk) (r3 : Tbk) (r4 : Tbk) (li : Tli) (fo : Tfo) (tx : Ttx) (co : Tco) (ke : Tke) (rf : (Nat → Int32)) (cp : Int32) (lk : Tlk) (fl : Tfl) (em : Int32) (tm : Ttm) (rd : Trd) (x1 : Int32) (x2 : Int32) (x3 : Int32) (z : Int32 × Int32 × Int32 × Tli × Tfo) (o : (Int32 × Int32 × Int32 × Tli × Tfo) ⊕ (Int32 × Int32 × Tli × Tfo)) (h : bX5_holds_41 cn bk x1 x2 x3 z = some o) (k0 : ∀ a : Int32 × Int32 × Int32 × Tli × Tfo, o = .inl a → Wg X 41 [some (.ref 0), some (.int x1), some (.int x2), some (.int x3), some (.int a.1), some (.int a.2.1), some (.int a.2.2.1), none] [] (mkH cn bk st r0 r1 r2 r3 r4 a.2.2.2.1 a.2.2.2.2 tx co ke rf cp lk fl em tm rd)) (e0 : ∀ a : Int32 × Int32 × Tli × Tfo, o = .inr a → Wg X 140 [none, none, none, some (.int x3), some (.int a.1), some (.int a.2.1), none, none] [] (mkH cn bk st r0 r1 r2 r3 r4 a.2.2.1 a.2.2.2 tx co ke rf cp lk fl em tm rd)) : Wg X 41 [some (.ref 0), some (.int x1), some (.int x2), some (.int x3), some (.int z.1), some (.int z.2.1), some (.int z.2.2.1), none] [] (mkH cn bk st r0 r1 r2 r3 r4 z.2.2.2.1 z.2.2.2.2 tx co ke rf cp lk fl em tm rd) := by
  unfold bX5_holds_41 at h
  refine wg_iload C dX5_holds_41 rfl ?_
  refine wg_iconst (v := 1) C dX5_holds_43 (by decide) ?_
  refine wg_iadd C dX5_holds_44 ?_
  refine wg_aload_n C dX5_holds_45 rfl ?_
  refine wg_get (v := .ref 1) C fgX5_holds_10 rfl rfl dX5_holds_46 ?_
  obtain ⟨q8, e8q, h⟩ := bnd h
  refine wg_callV (n := 0) (As := []) (st := [.int (z.2.2.1 + (1 : Int32))]) (st' := [.int q8, .int (z.2.2.1 + (1 : Int32))]) C (sX0_days cn bk st r0 r1 r2 r3 r4 z.2.2.2.1 z.2.2.2.2 tx co ke rf cp lk fl em tm rd  q8 e8q) gX5_holds_X0_days rfl (by decide +kernel) ⟨⟨rfl, rfl⟩, Nat.le_of_ble_eq_true rfl, Nat.le_of_ble_eq_true rfl⟩ rfl rfl rfl rfl (Nat.le_of_ble_eq_true rfl) dX5_holds_49 rfl ?_
  refine wg_icmp_ge (tgt := 140) C dX5_holds_52 (by decide) (fun c9 => ?_) (fun c9 => ?_)
  · replace h := ifP c9 h
    refine wg_drop (lv' := [none, none, none, some (.int x3), some (.int z.1), some (.int z.2.1), none, none]) [0, 1, 2, 6] rfl ?_
    have hk := e0 _ (Option.some.inj h).symm
    exact hk
  · replace h := ifN c9 h
    refine wg_aload_n C dX5_holds_55 rfl ?_
    refine wg_get (v := .ref 1) C fgX5_holds_10 rfl rfl dX5_holds_56 ?_
    refine wg_iload C dX5_holds_59 rfl ?_
    refine wg_iconst (v := 1) C dX5_holds_61 (by decide) ?_
    refine wg_iadd C dX5_holds_62 ?_
    refine wg_iload_n C dX5_holds_63 rfl ?_
    obtain ⟨q10, e10q, h⟩ := bnd h
    refine wg_callV (n := 2) (As := [.int (z.2.2.1 + (1 : Int32)), .int x1]) (st := []) (st' := [.int q10]) C (sX0_member cn bk st r0 r1 r2 r3 r4 z.2.2.2.1 z.2.2.2.2 tx co ke rf cp lk fl em tm rd (z.2.2.1 + (1 : Int32)) x1 q10 e10q) gX5_holds_X0_member rfl (by decide +kernel) ⟨⟨rfl, rfl⟩, Nat.le_of_ble_eq_true rfl, Nat.le_of_ble_eq_true rfl⟩ rfl rfl rfl rfl (Nat.le_of_ble_eq_true rfl) dX5_holds_64 rfl ?_
    refine wg_istore (lv' := [some (.ref 0), some (.int x1), some (.int x2), some (.int x3), some (.int z.1), some (.int z.2.1), some (.int z.2.2.1), some (.int q10)]) C dX5_holds_67 (Nat.le_of_ble_eq_true rfl) rfl ?_
    refine wg_aload_n C dX5_holds_69 rfl ?_
    refine wg_iload C dX5_holds_70 rfl ?_
    refine wg_iload_n C dX5_holds_72 rfl ?_
    obtain ⟨q11, e11q, h⟩ := bnd h
    refine wg_callV (n := 2) (As := [.int z.2.2.1, .int x1]) (st := []) (st' := []) C (sX5_gatherFollowers cn bk st r0 r1 r2 r3 r4 z.2.2.2.1 z.2.2.2.2 tx co ke rf cp lk fl em tm rd z.2.2.1 x1 q11 e11q) gX5_holds_X5_gatherFollowers rfl (by decide +kernel) ⟨⟨rfl, rfl⟩, Nat.le_of_ble_eq_true rfl, Nat.le_of_ble_eq_true rfl⟩ rfl rfl rfl rfl (Nat.le_of_ble_eq_true rfl) dX5_holds_73 rfl ?_
    refine wg_iload C dX5_holds_76 rfl ?_
    refine wg_sipush (v := -10000) C dX5_holds_78 (by decide) ?_
    refine wg_icmp_eq (tgt := 134) C dX5_holds_81 (by decide) (fun c12 => ?_) (fun c12 => ?_)
    · replace h := ifP c12 h
      refine wg_drop (lv' := [some (.ref 0), some (.int x1), some (.int x2), some (.int x3), some (.int z.1), some (.int z.2.1), some (.int z.2.2.1), none]) [7] rfl ?_
      exact sjX5_holds_41_134 X C cn bk st r0 r1 r2 r3 r4 q11.1 q11.2 tx co ke rf cp lk fl em tm rd x1 x2 x3 z.1 z.2.1 z.2.2.1 _ h k0 e0
    · replace h := ifN c12 h
      refine wg_aload_n C dX5_holds_84 rfl ?_
      refine wg_get (v := .ref 29) C fgX5_holds_33 rfl rfl dX5_holds_85 ?_
      refine wg_iload_n C dX5_holds_88 rfl ?_
      obtain ⟨q13, e13q, h⟩ := bnd h
      refine wg_callV (n := 1) (As := [.int x2]) (st := []) (st' := [.int q13]) C (sX1_spanSize cn bk st r0 r1 r2 r3 r4 q11.1 q11.2 tx co ke rf cp lk fl em tm rd x2 q13 e13q) gX5_holds_X1_spanSize rfl (by decide +kernel) ⟨⟨rfl, rfl⟩, Nat.le_of_ble_eq_true rfl, Nat.le_of_ble_eq_true rfl⟩ rfl rfl rfl rfl (Nat.le_of_ble_eq_true rfl) dX5_holds_89 rfl ?_
      refine wg_if_le (tgt := 134) C dX5_holds_92 (by decide) (fun c14 => ?_) (fun c14 => ?_)
      · replace h := ifP c14 h
        refine wg_drop (lv' := [some (.ref 0), some (.int x1), some (.int x2), some (.int x3), some (.int z.1), some (.int z.2.1), some (.int z.2.2.1), none]) [7] rfl ?_
        exact sjX5_holds_41_134 X C cn bk st r0 r1 r2 r3 r4 q11.1 q11.2 tx co ke rf cp lk fl em tm rd x1 x2 x3 z.1 z.2.1 z.2.2.1 _ h k0 e0
      · replace h := ifN c14 h
        refine wg_iinc (v := (z.1 + (1 : Int32))) (lv' := [some (.ref 0), some (.int x1), some (.int x2), some (.int x3), some (.int (z.1 + (1 : Int32))), some (.int z.2.1), some (.int z.2.2.1), some (.int q10)]) C dX5_holds_95 rfl rfl rfl ?_
        refine wg_iload C dX5_holds_98 rfl ?_
        refine wg_aload_n C dX5_holds_100 rfl ?_
        refine wg_get (v := .ref 29) C fgX5_holds_33 rfl rfl dX5_holds_101 ?_
        refine wg_iload_n C dX5_holds_104 rfl ?_
        obtain ⟨q15, e15q, h⟩ := bnd h
        refine wg_callV (n := 1) (As := [.int x2]) (st := [.int z.2.1]) (st' := [.int q15, .int z.2.1]) C (sX1_least cn bk st r0 r1 r2 r3 r4 q11.1 q11.2 tx co ke rf cp lk fl em tm rd x2 q15 e15q) gX5_holds_X1_least rfl (by decide +kernel) ⟨⟨rfl, rfl⟩, Nat.le_of_ble_eq_true rfl, Nat.le_of_ble_eq_true rfl⟩ rfl rfl rfl rfl (Nat.le_of_ble_eq_true rfl) dX5_holds_105 rfl ?_
        refine wg_iload C dX5_holds_108 rfl ?_
        refine wg_icmp_gt (tgt := 130) C dX5_holds_110 (by decide) (fun c16 => ?_) (fun c16 => ?_)
        · replace h := ifP c16 h
          refine wg_drop (lv' := [some (.ref 0), some (.int x1), some (.int x2), some (.int x3), some (.int (z.1 + (1 : Int32))), none, some (.int z.2.2.1), none]) [5, 7] rfl ?_
          exact sjX5_holds_41_130 X C cn bk st r0 r1 r2 r3 r4 q11.1 q11.2 tx co ke rf cp lk fl em tm rd x1 x2 x3 (z.1 + (1 : Int32)) z.2.2.1 z.2.1 _ h k0 e0
        · replace h := ifN c16 h
          refine wg_iload C dX5_holds_113 rfl ?_
          refine wg_aload_n C dX5_holds_115 rfl ?_
          refine wg_get (v := .ref 29) C fgX5_holds_33 rfl rfl dX5_holds_116 ?_
          refine wg_iload_n C dX5_holds_119 rfl ?_
          obtain ⟨q17, e17q, h⟩ := bnd h
          refine wg_callV (n := 1) (As := [.int x2]) (st := [.int q10, .int z.2.1]) (st' := [.int q17, .int q10, .int z.2.1]) C (sX1_greatest cn bk st r0 r1 r2 r3 r4 q11.1 q11.2 tx co ke rf cp lk fl em tm rd x2 q17 e17q) gX5_holds_X1_greatest rfl (by decide +kernel) ⟨⟨rfl, rfl⟩, Nat.le_of_ble_eq_true rfl, Nat.le_of_ble_eq_true rfl⟩ rfl rfl rfl rfl (Nat.le_of_ble_eq_true rfl) dX5_holds_120 rfl ?_
          refine wg_icmp_gt (tgt := 130) C dX5_holds_123 (by decide) (fun c18 => ?_) (fun c18 => ?_)
          · replace h := ifP c18 h
            refine wg_drop (lv' := [some (.ref 0), some (.int x1), some (.int x2), some (.int x3), some (.int (z.1 + (1 : Int32))), none, some (.int z.2.2.1), none]) [5, 7] rfl ?_
            exact sjX5_holds_41_130 X C cn bk st r0 r1 r2 r3 r4 q11.1 q11.2 tx co ke rf cp lk fl em tm rd x1 x2 x3 (z.1 + (1 : Int32)) z.2.2.1 z.2.1 _ h k0 e0
          · replace h := ifN c18 h
            refine wg_iconst (v := 1) C dX5_holds_126 (by decide) ?_
            refine wg_goto (tgt := 131) C dX5_holds_127 (by decide) ?_
            refine wg_drop (lv' := [some (.ref 0), some (.int x1), some (.int x2), some (.int x3), some (.int (z.1 + (1 : Int32))), none, some (.int z.2.2.1), none]) [5, 7] rfl ?_
            exact sjX5_holds_41_131 X C cn bk st r0 r1 r2 r3 r4 q11.1 q11.2 tx co ke rf cp lk fl em tm rd x1 x2 x3 (z.1 + (1 : Int32)) z.2.2.1 z.2.1 (1 : Int32) _ h k0 e0
set_option maxRecDepth 100000 in
set_option maxHeartbeats 4000000 in
theorem slX5_holds_41 (X : CX) (C : Ok X RX5 cX5_holds wsX5_holds rX5_holds) (cn : Tcn) (bk : Tbk) (st : Tst) (r0 : Tbk) (r1 : Tbk) (r2 : Tbk) (r3 : Tbk) (r4 : Tbk) (li : Tli) (fo : Tfo) (tx : Ttx) (co : Tco) (ke : Tke) (rf : (Nat → Int32)) (cp : Int32) (lk : Tlk) (fl : Tfl) (em : Int32) (tm : Ttm) (rd : Trd) (x1 : Int32) (x2 : Int32) (x3 : Int32) (o : (Int32 × Int32 × Tli × Tfo)) (e0 : ∀ a : Int32 × Int32 × Tli × Tfo, o = a → Wg X 140 [none, none, none, some (.int x3), some (.int a.1), some (.int a.2.1), none, none] [] (mkH cn bk st r0 r1 r2 r3 r4 a.2.2.1 a.2.2.2 tx co ke rf cp lk fl em tm rd)) : ∀ (n : Nat) (z : Int32 × Int32 × Int32 × Tli × Tfo), lpF (bX5_holds_41 cn bk x1 x2 x3) n z = some o → Wg X 41 [some (.ref 0), some (.int x1), some (.int x2), some (.int x3), some (.int z.1), some (.int z.2.1), some (.int z.2.2.1), none] [] (mkH cn bk st r0 r1 r2 r3 r4 z.2.2.2.1 z.2.2.2.2 tx co ke rf cp lk fl em tm rd) := by
  intro n
  induction n with
  | zero => intro z h; cases h
  | succ n ih =>
    intro z h
    obtain ⟨r, hB, h⟩ := bnd h
    refine sbX5_holds_41 X C cn bk st r0 r1 r2 r3 r4 li fo tx co ke rf cp lk fl em tm rd x1 x2 x3 z r hB (fun a e => ih a (by subst e; exact h)) (fun a e => e0 a (by subst e; exact (Option.some.inj h).symm))
set_option maxRecDepth 100000 in
set_option maxHeartbeats 4000000 in
theorem sjX5_holds_175 (X : CX) (C : Ok X RX5 cX5_holds wsX5_holds rX5_holds) (cn : Tcn) (bk : Tbk) (st : Tst) (r0 : Tbk) (r1 : Tbk) (r2 : Tbk) (r3 : Tbk) (r4 : Tbk) (li : Tli) (fo : Tfo) (tx : Ttx) (co : Tco) (ke : Tke) (rf : (Nat → Int32)) (cp : Int32) (lk : Tlk) (fl : Tfl) (em : Int32) (tm : Ttm) (rd : Trd) (y0 : Int32) (o : Int32 × Tcn × Tli × Tfo) (h : jX5_holds_175 cn bk li fo y0 = some o) (hT : Rt X (some .int) (some (.int o.1)) (mkH o.2.1 bk st r0 r1 r2 r3 r4 o.2.2.1 o.2.2.2 tx co ke rf cp lk fl em tm rd)) : Wg X 175 [none, none, none, none, none, none, none, none] [.int y0] (mkH cn bk st r0 r1 r2 r3 r4 li fo tx co ke rf cp lk fl em tm rd) := by
  unfold jX5_holds_175 at h
  obtain rfl := Option.some.inj h
  exact wg_iret C hT dX5_holds_175
set_option maxRecDepth 100000 in
set_option maxHeartbeats 4000000 in
theorem sjX5_holds_163 (X : CX) (C : Ok X RX5 cX5_holds wsX5_holds rX5_holds) (cn : Tcn) (bk : Tbk) (st : Tst) (r0 : Tbk) (r1 : Tbk) (r2 : Tbk) (r3 : Tbk) (r4 : Tbk) (li : Tli) (fo : Tfo) (tx : Ttx) (co : Tco) (ke : Tke) (rf : (Nat → Int32)) (cp : Int32) (lk : Tlk) (fl : Tfl) (em : Int32) (tm : Ttm) (rd : Trd) (y0 : Int32) (o : Int32 × Tcn × Tli × Tfo) (h : jX5_holds_163 cn bk li fo y0 = some o) (hT : Rt X (some .int) (some (.int o.1)) (mkH o.2.1 bk st r0 r1 r2 r3 r4 o.2.2.1 o.2.2.2 tx co ke rf cp lk fl em tm rd)) : Wg X 163 [none, none, none, none, none, none, none, none] [.int y0] (mkH cn bk st r0 r1 r2 r3 r4 li fo tx co ke rf cp lk fl em tm rd) := by
  unfold jX5_holds_163 at h
  obtain rfl := Option.some.inj h
  exact wg_iret C hT dX5_holds_163
set_option maxRecDepth 100000 in
set_option maxHeartbeats 4000000 in
theorem sX5_holds (cn : Tcn) (bk : Tbk) (st : Tst) (r0 : Tbk) (r1 : Tbk) (r2 : Tbk) (r3 : Tbk) (r4 : Tbk) (li : Tli) (fo : Tfo) (tx : Ttx) (co : Tco) (ke : Tke) (rf : (Nat → Int32)) (cp : Int32) (lk : Tlk) (fl : Tfl) (em : Int32) (tm : Ttm) (rd : Trd) (x1 : Int32) (x2 : Int32) (x3 : Int32) (o : Int32 × Tcn × Tli × Tfo) (h : fX5_holds cn bk li fo x1 x2 x3 = some o) : Sp yX5_holds wsX5_holds rX5_holds [.ref 0, .int x1, .int x2, .int x3] (mkH cn bk st r0 r1 r2 r3 r4 li fo tx co ke rf cp lk fl em tm rd) (some (.int o.1)) (mkH o.2.1 bk st r0 r1 r2 r3 r4 o.2.2.1 o.2.2.2 tx co ke rf cp lk fl em tm rd) := by
  refine Sp.of (lv := [some (.ref 0), some (.int x1), some (.int x2), some (.int x3), none, none, none, none]) RX5 (by decide +kernel) rfl (Nat.le_of_ble_eq_true rfl) rfl ?_
  intro X C hT
  unfold fX5_holds at h
  refine wg_iload_n C dX5_holds_0 rfl ?_
  obtain ⟨q1, e1q, h⟩ := bnd h
  refine wg_callT (n := 1) (As := [.int x1]) (st := []) (st' := [.int q1]) C (sX5_isMember cn bk st r0 r1 r2 r3 r4 li fo tx co ke rf cp lk fl em tm rd x1 q1 e1q) gX5_holds_X5_isMember rfl (by decide +kernel) ⟨⟨rfl, rfl⟩, Nat.le_of_ble_eq_true rfl, Nat.le_of_ble_eq_true rfl⟩ rfl rfl (Nat.le_of_ble_eq_true rfl) dX5_holds_1 rfl ?_
  refine wg_if_eq (tgt := 25) C dX5_holds_4 (by decide) (fun c2 => ?_) (fun c2 => ?_)
  · replace h := ifP c2 h
    refine wg_drop (lv' := [some (.ref 0), none, none, none, none, none, none, none]) [1, 2, 3] rfl ?_
    exact sjX5_holds_25 X C cn bk st r0 r1 r2 r3 r4 li fo tx co ke rf cp lk fl em tm rd  _ h hT
  · replace h := ifN c2 h
    refine wg_iload_n C dX5_holds_7 rfl ?_
    refine wg_iconst (v := 0) C dX5_holds_8 (by decide) ?_
    refine wg_iconst (v := 5) C dX5_holds_9 (by decide) ?_
    obtain ⟨q4, e4q, h⟩ := bnd h
    refine wg_callT (n := 3) (As := [.int x2, .int (0 : Int32), .int (5 : Int32)]) (st := []) (st' := [.int q4]) C (sX5_isWithin cn bk st r0 r1 r2 r3 r4 li fo tx co ke rf cp lk fl em tm rd x2 (0 : Int32) (5 : Int32) q4 e4q) gX5_holds_X5_isWithin rfl (by decide +kernel) ⟨⟨rfl, rfl⟩, Nat.le_of_ble_eq_true rfl, Nat.le_of_ble_eq_true rfl⟩ rfl rfl (Nat.le_of_ble_eq_true rfl) dX5_holds_10 rfl ?_
    refine wg_if_eq (tgt := 25) C dX5_holds_13 (by decide) (fun c5 => ?_) (fun c5 => ?_)
    · replace h := ifP c5 h
      refine wg_drop (lv' := [some (.ref 0), none, none, none, none, none, none, none]) [1, 2, 3] rfl ?_
      exact sjX5_holds_25 X C cn bk st r0 r1 r2 r3 r4 li fo tx co ke rf cp lk fl em tm rd  _ h hT
    · replace h := ifN c5 h
      refine wg_iload_n C dX5_holds_16 rfl ?_
      refine wg_iconst (v := 0) C dX5_holds_17 (by decide) ?_
      refine wg_iconst (v := 2) C dX5_holds_18 (by decide) ?_
      obtain ⟨q6, e6q, h⟩ := bnd h
      refine wg_callT (n := 3) (As := [.int x3, .int (0 : Int32), .int (2 : Int32)]) (st := []) (st' := [.int q6]) C (sX5_isWithin cn bk st r0 r1 r2 r3 r4 li fo tx co ke rf cp lk fl em tm rd x3 (0 : Int32) (2 : Int32) q6 e6q) gX5_holds_X5_isWithin rfl (by decide +kernel) ⟨⟨rfl, rfl⟩, Nat.le_of_ble_eq_true rfl, Nat.le_of_ble_eq_true rfl⟩ rfl rfl (Nat.le_of_ble_eq_true rfl) dX5_holds_19 rfl ?_
      refine wg_if_ne (tgt := 32) C dX5_holds_22 (by decide) (fun c7 => ?_) (fun c7 => ?_)
      · replace h := ifP c7 h
        refine wg_iconst (v := 0) C dX5_holds_32 (by decide) ?_
        refine wg_istore (lv' := [some (.ref 0), some (.int x1), some (.int x2), some (.int x3), some (.int (0 : Int32)), none, none, none]) C dX5_holds_33 (Nat.le_of_ble_eq_true rfl) rfl ?_
        refine wg_iconst (v := 0) C dX5_holds_35 (by decide) ?_
        refine wg_istore (lv' := [some (.ref 0), some (.int x1), some (.int x2), some (.int x3), some (.int (0 : Int32)), some (.int (0 : Int32)), none, none]) C dX5_holds_36 (Nat.le_of_ble_eq_true rfl) rfl ?_
        refine wg_iconst (v := 0) C dX5_holds_38 (by decide) ?_
        refine wg_istore (lv' := [some (.ref 0), some (.int x1), some (.int x2), some (.int x3), some (.int (0 : Int32)), some (.int (0 : Int32)), some (.int (0 : Int32)), none]) C dX5_holds_39 (Nat.le_of_ble_eq_true rfl) rfl ?_
        obtain ⟨t19, hL19, h⟩ := bnd h
        refine slX5_holds_41 X C cn bk st r0 r1 r2 r3 r4 li fo tx co ke rf cp lk fl em tm rd x1 x2 x3 t19 (fun a e => ?_) FU ((0 : Int32), (0 : Int32), (0 : Int32), li, fo) hL19
        subst e
        refine wg_iload_n C dX5_holds_140 rfl ?_
        refine wg_iconst (v := 2) C dX5_holds_141 (by decide) ?_
        refine wg_icmp_ne (tgt := 164) C dX5_holds_142 (by decide) (fun c20 => ?_) (fun c20 => ?_)
        · replace h := ifP c20 h
          refine wg_iload_n C dX5_holds_164 rfl ?_
          refine wg_if_ne (tgt := 173) C dX5_holds_165 (by decide) (fun c21 => ?_) (fun c21 => ?_)
          · replace h := ifP c21 h
            refine wg_iload C dX5_holds_173 rfl ?_
            refine wg_drop (lv' := [none, none, none, none, none, none, none, none]) [3, 4, 5] rfl ?_
            exact sjX5_holds_175 X C cn bk st r0 r1 r2 r3 r4 t19.2.2.1 t19.2.2.2 tx co ke rf cp lk fl em tm rd t19.2.1 _ h hT
          · replace h := ifN c21 h
            refine wg_iload C dX5_holds_168 rfl ?_
            refine wg_goto (tgt := 175) C dX5_holds_170 (by decide) ?_
            refine wg_drop (lv' := [none, none, none, none, none, none, none, none]) [3, 4, 5] rfl ?_
            exact sjX5_holds_175 X C cn bk st r0 r1 r2 r3 r4 t19.2.2.1 t19.2.2.2 tx co ke rf cp lk fl em tm rd t19.1 _ h hT
        · replace h := ifN c20 h
          refine wg_iload C dX5_holds_145 rfl ?_
          refine wg_if_ne (tgt := 154) C dX5_holds_147 (by decide) (fun c22 => ?_) (fun c22 => ?_)
          · replace h := ifP c22 h
            refine wg_iload C dX5_holds_154 rfl ?_
            refine wg_sipush (v := 1000) C dX5_holds_156 (by decide) ?_
            refine wg_imul C dX5_holds_159 ?_
            refine wg_iload C dX5_holds_160 rfl ?_
            obtain ⟨g23, h⟩ := gdP h
            refine wg_idiv C dX5_holds_162 (of_decide_eq_true g23) ?_
            refine wg_drop (lv' := [none, none, none, none, none, none, none, none]) [3, 4, 5] rfl ?_
            exact sjX5_holds_163 X C cn bk st r0 r1 r2 r3 r4 t19.2.2.1 t19.2.2.2 tx co ke rf cp lk fl em tm rd ((t19.2.1 * (1000 : Int32)) / t19.1) _ h hT
          · replace h := ifN c22 h
            refine wg_iconst (v := 0) C dX5_holds_150 (by decide) ?_
            refine wg_goto (tgt := 163) C dX5_holds_151 (by decide) ?_
            refine wg_drop (lv' := [none, none, none, none, none, none, none, none]) [3, 4, 5] rfl ?_
            exact sjX5_holds_163 X C cn bk st r0 r1 r2 r3 r4 t19.2.2.1 t19.2.2.2 tx co ke rf cp lk fl em tm rd (0 : Int32) _ h hT
      · replace h := ifN c7 h
        refine wg_drop (lv' := [some (.ref 0), none, none, none, none, none, none, none]) [1, 2, 3] rfl ?_
        exact sjX5_holds_25 X C cn bk st r0 r1 r2 r3 r4 li fo tx co ke rf cp lk fl em tm rd  _ h hT
