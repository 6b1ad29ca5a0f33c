abbrev rX5_meanError : Room := { frames := 4, cells := 0, slots := 0, locals := 92 }
theorem iwX5_meanError_5 : ∀ w ∈ wsX50, w ∈ wsX5_meanError := by decide +kernel
theorem fgX5_meanError_10 : FG wsX5_meanError RX5 10 5 0 := ⟨RX5, TX5, 8, rfl, by decide, by decide +kernel, iwX5_meanError_5⟩
theorem fgX5_meanError_26 : FG wsX5_meanError RX5 26 5 2 := ⟨RX5, TX5, 8, rfl, by decide, by decide +kernel, iwX5_meanError_5⟩
theorem fgX5_meanError_33 : FG wsX5_meanError RX5 33 5 3 := ⟨RX5, TX5, 8, rfl, by decide, by decide +kernel, iwX5_meanError_5⟩
set_option maxRecDepth 100000 in
set_option maxHeartbeats 4000000 in
theorem sjX5_meanError_8_109 (X : CX) (C : Ok X RX5 cX5_meanError wsX5_meanError rX5_meanError) (cn : Tcn) (bk : Tbk) (st : Tst) (r0 : Tbk) (r1 : Tbk) (r2 : Tbk) (r3 : Tbk) (r4 : Tbk) (li : Tli) (fo : Tfo) (tx : Ttx) (co : Tco) (ke : Tke) (rf : (Nat → Int32)) (cp : Int32) (lk : Tlk) (fl : Tfl) (em : Int32) (tm : Ttm) (rd : Trd) (x1 : Int32) (x2 : Int32) (x3 : UInt32) (x4 : Int32) (x5 : Int32) (o : (UInt32 × Int32 × Int32 × Tfo) ⊕ (UInt32 × Int32 × Tfo)) (h : jX5_meanError_8_109 bk li fo x1 x2 x3 x4 x5 = some o) (k0 : ∀ a : UInt32 × Int32 × Int32 × Tfo, o = .inl a → Wg X 8 [some (.ref 0), some (.int x1), some (.int x2), some (.float a.1), some (.int a.2.1), some (.int a.2.2.1), none, none] [] (mkH cn bk st r0 r1 r2 r3 r4 li a.2.2.2 tx co ke rf cp lk fl em tm rd)) (e0 : ∀ a : UInt32 × Int32 × Tfo, o = .inr a → Wg X 115 [none, none, none, some (.float a.1), some (.int a.2.1), none, none, none] [] (mkH cn bk st r0 r1 r2 r3 r4 li a.2.2 tx co ke rf cp lk fl em tm rd)) : Wg X 109 [some (.ref 0), some (.int x1), some (.int x2), some (.float x3), some (.int x4), some (.int x5), none, none] [] (mkH cn bk st r0 r1 r2 r3 r4 li fo tx co ke rf cp lk fl em tm rd) := by
  unfold jX5_meanError_8_109 at h
  refine wg_iinc (v := (x5 + (1 : Int32))) (lv' := [some (.ref 0), some (.int x1), some (.int x2), some (.float x3), some (.int x4), some (.int (x5 + (1 : Int32))), none, none]) C dX5_meanError_109 rfl rfl rfl ?_
  refine wg_goto (tgt := 8) C dX5_meanError_112 (by decide) ?_
  have hk := k0 _ (Option.some.inj h).symm
  exact hk
set_option maxRecDepth 100000 in
set_option maxHeartbeats 4000000 in
theorem sjX5_meanError_8_104 (X : CX) (C : Ok X RX5 cX5_meanError wsX5_meanError rX5_meanError) (cn : Tcn) (bk : Tbk) (st : Tst) (r0 : Tbk) (r1 : Tbk) (r2 : Tbk) (r3 : Tbk) (r4 : Tbk) (li : Tli) (fo : Tfo) (tx : Ttx) (co : Tco) (ke : Tke) (rf : (Nat → Int32)) (cp : Int32) (lk : Tlk) (fl : Tfl) (em : Int32) (tm : Ttm) (rd : Trd) (x1 : Int32) (x2 : Int32) (x4 : Int32) (x5 : Int32) (y0 : UInt32) (y1 : UInt32) (o : (UInt32 × Int32 × Int32 × Tfo) ⊕ (UInt32 × Int32 × Tfo)) (h : jX5_meanError_8_104 bk li fo x1 x2 x4 x5 y0 y1 = some o) (k0 : ∀ a : UInt32 × Int32 × Int32 × Tfo, o = .inl a → Wg X 8 [some (.ref 0), some (.int x1), some (.int x2), some (.float a.1), some (.int a.2.1), some (.int a.2.2.1), none, none] [] (mkH cn bk st r0 r1 r2 r3 r4 li a.2.2.2 tx co ke rf cp lk fl em tm rd)) (e0 : ∀ a : UInt32 × Int32 × Tfo, o = .inr a → Wg X 115 [none, none, none, some (.float a.1), some (.int a.2.1), none, none, none] [] (mkH cn bk st r0 r1 r2 r3 r4 li a.2.2 tx co ke rf cp lk fl em tm rd)) : Wg X 104 [some (.ref 0), some (.int x1), some (.int x2), none, some (.int x4), some (.int x5), none, none] [.float y1, .float y0] (mkH cn bk st r0 r1 r2 r3 r4 li fo tx co ke rf cp lk fl em tm rd) := by
  unfold jX5_meanError_8_104 at h
  obtain ⟨g12, h⟩ := gdP h
  refine wg_fadd C dX5_meanError_104 g12 ?_
  refine wg_fstore_n (lv' := [some (.ref 0), some (.int x1), some (.int x2), some (.float (FP.fadd y0 y1)), some (.int x4), some (.int x5), none, none]) C dX5_meanError_105 (Nat.le_of_ble_eq_true rfl) rfl ?_
  refine wg_iinc (v := (x4 + (1 : Int32))) (lv' := [some (.ref 0), some (.int x1), some (.int x2), some (.float (FP.fadd y0 y1)), some (.int (x4 + (1 : Int32))), some (.int x5), none, none]) C dX5_meanError_106 rfl rfl rfl ?_
  exact sjX5_meanError_8_109 X C cn bk st r0 r1 r2 r3 r4 li fo tx co ke rf cp lk fl em tm rd x1 x2 (FP.fadd y0 y1) (x4 + (1 : Int32)) x5 _ h k0 e0
set_option maxRecDepth 100000 in
set_option maxHeartbeats 4000000 in
theorem sbX5_meanError_8 (X : CX) (C : Ok X RX5 cX5_meanError wsX5_meanError rX5_meanError) (cn : Tcn) (bk : Tbk) (st : Tst) (r0 : Tbk) (r1 : Tbk) (r2 : Tbk) (r3 : Tbk) (r4 : Tbk) (li : Tli) (fo : Tfo) (tx : Ttx) (co : Tco) (ke : Tke) (rf : (Nat → Int32)) (cp : Int32) (lk : Tlk) (fl : Tfl) (em : Int32) (tm : Ttm) (rd : Trd) (x1 : Int32) (x2 : Int32) (z : UInt32 × Int32 × Int32 × Tfo) (o : (UInt32 × Int32 × Int32 × Tfo) ⊕ (UInt32 × Int32 × Tfo)) (h : bX5_meanError_8 bk li x1 x2 z = some o) (k0 : ∀ a : UInt32 × Int32 × Int32 × Tfo, o = .inl a → Wg X 8 [some (.ref 0), some (.int x1), some (.int x2), some (.float a.1), some (.int a.2.1), some (.int a.2.2.1), none, none] [] (mkH cn bk st r0 r1 r2 r3 r4 li a.2.2.2 tx co ke rf cp lk fl em tm rd)) (e0 : ∀ a : UInt32 × Int32 × Tfo, o = .inr a → Wg X 115 [none, none, none, some (.float a.1), some (.int a.2.1), none, none, none] [] (mkH cn bk st r0 r1 r2 r3 r4 li a.2.2 tx co ke rf cp lk fl em tm rd)) : Wg X 8 [some (.ref 0), some (.int x1), some (.int x2), some (.float z.1), some (.int z.2.1), some (.int z.2.2.1), none, none] [] (mkH cn bk st r0 r1 r2 r3 r4 li z.2.2.2 tx co ke rf cp lk fl em tm rd) := by
  unfold bX5_meanError_8 at h
  refine wg_iload C dX5_meanError_8 rfl ?_
  refine wg_iconst (v := 1) C dX5_meanError_10 (by decide) ?_
  refine wg_iadd C dX5_meanError_11 ?_
  refine wg_aload_n C dX5_meanError_12 rfl ?_
  refine wg_get (v := .ref 1) C fgX5_meanError_10 rfl rfl dX5_meanError_13 ?_
  obtain ⟨q1, e1q, h⟩ := bnd h
  refine wg_callV (n := 0) (As := []) (st := [.int (z.2.2.1 + (1 : Int32))]) (st' := [.int q1, .int (z.2.2.1 + (1 : Int32))]) C (sX0_days cn bk st r0 r1 r2 r3 r4 li z.2.2.2 tx co ke rf cp lk fl em tm rd  q1 e1q) gX5_meanError_X0_days rfl (by decide +kernel) ⟨⟨rfl, rfl⟩, Nat.le_of_ble_eq_true rfl, Nat.le_of_ble_eq_true rfl⟩ rfl rfl rfl rfl (Nat.le_of_ble_eq_true rfl) dX5_meanError_16 rfl ?_
  refine wg_icmp_ge (tgt := 115) C dX5_meanError_19 (by decide) (fun c2 => ?_) (fun c2 => ?_)
  · replace h := ifP c2 h
    refine wg_drop (lv' := [none, none, none, some (.float z.1), some (.int z.2.1), none, none, none]) [0, 1, 2, 5] rfl ?_
    have hk := e0 _ (Option.some.inj h).symm
    exact hk
  · replace h := ifN c2 h
    refine wg_aload_n C dX5_meanError_22 rfl ?_
    refine wg_get (v := .ref 1) C fgX5_meanError_10 rfl rfl dX5_meanError_23 ?_
    refine wg_iload C dX5_meanError_26 rfl ?_
    refine wg_iconst (v := 1) C dX5_meanError_28 (by decide) ?_
    refine wg_iadd C dX5_meanError_29 ?_
    refine wg_iload_n C dX5_meanError_30 rfl ?_
    obtain ⟨q3, e3q, h⟩ := bnd h
    refine wg_callV (n := 2) (As := [.int (z.2.2.1 + (1 : Int32)), .int x1]) (st := []) (st' := [.int q3]) C (sX0_member cn bk st r0 r1 r2 r3 r4 li z.2.2.2 tx co ke rf cp lk fl em tm rd (z.2.2.1 + (1 : Int32)) x1 q3 e3q) gX5_meanError_X0_member rfl (by decide +kernel) ⟨⟨rfl, rfl⟩, Nat.le_of_ble_eq_true rfl, Nat.le_of_ble_eq_true rfl⟩ rfl rfl rfl rfl (Nat.le_of_ble_eq_true rfl) dX5_meanError_31 rfl ?_
    refine wg_istore (lv' := [some (.ref 0), some (.int x1), some (.int x2), some (.float z.1), some (.int z.2.1), some (.int z.2.2.1), some (.int q3), none]) C dX5_meanError_34 (Nat.le_of_ble_eq_true rfl) rfl ?_
    refine wg_iload C dX5_meanError_36 rfl ?_
    refine wg_sipush (v := -10000) C dX5_meanError_38 (by decide) ?_
    refine wg_icmp_eq (tgt := 109) C dX5_meanError_41 (by decide) (fun c4 => ?_) (fun c4 => ?_)
    · replace h := ifP c4 h
      refine wg_drop (lv' := [some (.ref 0), some (.int x1), some (.int x2), some (.float z.1), some (.int z.2.1), some (.int z.2.2.1), none, none]) [6] rfl ?_
      exact sjX5_meanError_8_109 X C cn bk st r0 r1 r2 r3 r4 li z.2.2.2 tx co ke rf cp lk fl em tm rd x1 x2 z.1 z.2.1 z.2.2.1 _ h k0 e0
    · replace h := ifN c4 h
      refine wg_aload_n C dX5_meanError_44 rfl ?_
      refine wg_get (v := .ref 29) C fgX5_meanError_33 rfl rfl dX5_meanError_45 ?_
      refine wg_aload_n C dX5_meanError_48 rfl ?_
      refine wg_get (v := .ref 1) C fgX5_meanError_10 rfl rfl dX5_meanError_49 ?_
      refine wg_aload_n C dX5_meanError_52 rfl ?_
      refine wg_get (v := .ref 21) C fgX5_meanError_26 rfl rfl dX5_meanError_53 ?_
      refine wg_iload C dX5_meanError_56 rfl ?_
      refine wg_iload_n C dX5_meanError_58 rfl ?_
      refine wg_iload_n C dX5_meanError_59 rfl ?_
      obtain ⟨q5, e5q, h⟩ := bnd h
      refine wg_callV (n := 5) (As := [.ref 1, .ref 21, .int z.2.2.1, .int x1, .int x2]) (st := []) (st' := []) C (sX1_gather cn bk st r0 r1 r2 r3 r4 li z.2.2.2 tx co ke rf cp lk fl em tm rd z.2.2.1 x1 x2 q5 e5q) gX5_meanError_X1_gather rfl (by decide +kernel) ⟨⟨rfl, rfl⟩, Nat.le_of_ble_eq_true rfl, Nat.le_of_ble_eq_true rfl⟩ rfl rfl rfl rfl (Nat.le_of_ble_eq_true rfl) dX5_meanError_60 rfl ?_
      refine wg_aload_n C dX5_meanError_63 rfl ?_
      refine wg_get (v := .ref 29) C fgX5_meanError_33 rfl rfl dX5_meanError_64 ?_
      obtain ⟨q6, e6q, h⟩ := bnd h
      refine wg_callV (n := 0) (As := []) (st := []) (st' := [.int q6]) C (sX1_size cn bk st r0 r1 r2 r3 r4 li q5 tx co ke rf cp lk fl em tm rd  q6 e6q) gX5_meanError_X1_size rfl (by decide +kernel) ⟨⟨rfl, rfl⟩, Nat.le_of_ble_eq_true rfl, Nat.le_of_ble_eq_true rfl⟩ rfl rfl rfl rfl (Nat.le_of_ble_eq_true rfl) dX5_meanError_67 rfl ?_
      refine wg_if_le (tgt := 109) C dX5_meanError_70 (by decide) (fun c7 => ?_) (fun c7 => ?_)
      · replace h := ifP c7 h
        refine wg_drop (lv' := [some (.ref 0), some (.int x1), some (.int x2), some (.float z.1), some (.int z.2.1), some (.int z.2.2.1), none, none]) [6] rfl ?_
        exact sjX5_meanError_8_109 X C cn bk st r0 r1 r2 r3 r4 li q5 tx co ke rf cp lk fl em tm rd x1 x2 z.1 z.2.1 z.2.2.1 _ h k0 e0
      · replace h := ifN c7 h
        refine wg_aload_n C dX5_meanError_73 rfl ?_
        refine wg_get (v := .ref 29) C fgX5_meanError_33 rfl rfl dX5_meanError_74 ?_
        obtain ⟨q8, e8q, h⟩ := bnd h
        refine wg_callV (n := 0) (As := []) (st := []) (st' := [.float q8]) C (sX1_meanValue cn bk st r0 r1 r2 r3 r4 li q5 tx co ke rf cp lk fl em tm rd  q8 e8q) gX5_meanError_X1_meanValue rfl (by decide +kernel) ⟨⟨rfl, rfl⟩, Nat.le_of_ble_eq_true rfl, Nat.le_of_ble_eq_true rfl⟩ rfl rfl rfl rfl (Nat.le_of_ble_eq_true rfl) dX5_meanError_77 rfl ?_
        refine wg_iload C dX5_meanError_80 rfl ?_
        obtain ⟨q9, e9q, h⟩ := bnd h
        refine wg_callT (n := 1) (As := [.int q3]) (st := [.float q8]) (st' := [.float q9, .float q8]) C (sX5_valueOf cn bk st r0 r1 r2 r3 r4 li q5 tx co ke rf cp lk fl em tm rd q3 q9 e9q) gX5_meanError_X5_valueOf rfl (by decide +kernel) ⟨⟨rfl, rfl⟩, Nat.le_of_ble_eq_true rfl, Nat.le_of_ble_eq_true rfl⟩ rfl rfl (Nat.le_of_ble_eq_true rfl) dX5_meanError_82 rfl ?_
        obtain ⟨g10, h⟩ := gdP h
        refine wg_fsub C dX5_meanError_85 g10 ?_
        refine wg_fstore (lv' := [some (.ref 0), some (.int x1), some (.int x2), some (.float z.1), some (.int z.2.1), some (.int z.2.2.1), some (.int q3), some (.float (FP.fsub q8 q9))]) C dX5_meanError_86 (Nat.le_of_ble_eq_true rfl) rfl ?_
        refine wg_fload_n C dX5_meanError_88 rfl ?_
        refine wg_fload C dX5_meanError_89 rfl ?_
        refine wg_fconst0 C dX5_meanError_91 ?_
        refine wg_fcmp C dX5_meanError_92 ?_
        refine wg_if_ge (tgt := 102) C dX5_meanError_93 (by decide) (fun c11 => ?_) (fun c11 => ?_)
        · replace h := ifP c11 h
          refine wg_fload C dX5_meanError_102 rfl ?_
          refine wg_drop (lv' := [some (.ref 0), some (.int x1), some (.int x2), none, some (.int z.2.1), some (.int z.2.2.1), none, none]) [3, 6, 7] rfl ?_
          exact sjX5_meanError_8_104 X C cn bk st r0 r1 r2 r3 r4 li q5 tx co ke rf cp lk fl em tm rd x1 x2 z.2.1 z.2.2.1 z.1 (FP.fsub q8 q9) _ h k0 e0
        · replace h := ifN c11 h
          refine wg_fload C dX5_meanError_96 rfl ?_
          refine wg_fneg C dX5_meanError_98 ?_
          refine wg_goto (tgt := 104) C dX5_meanError_99 (by decide) ?_
          refine wg_drop (lv' := [some (.ref 0), some (.int x1), some (.int x2), none, some (.int z.2.1), some (.int z.2.2.1), none, none]) [3, 6, 7] rfl ?_
          exact sjX5_meanError_8_104 X C cn bk st r0 r1 r2 r3 r4 li q5 tx co ke rf cp lk fl em tm rd x1 x2 z.2.1 z.2.2.1 z.1 (FP.fneg (FP.fsub q8 q9)) _ h k0 e0
set_option maxRecDepth 100000 in
set_option maxHeartbeats 4000000 in
theorem slX5_meanError_8 (X : CX) (C : Ok X RX5 cX5_meanError wsX5_meanError rX5_meanError) (cn : Tcn) (bk : Tbk) (st : Tst) (r0 : Tbk) (r1 : Tbk) (r2 : Tbk) (r3 : Tbk) (r4 : Tbk) (li : Tli) (fo : Tfo) (tx : Ttx) (co : Tco) (ke : Tke) (rf : (Nat → Int32)) (cp : Int32) (lk : Tlk) (fl : Tfl) (em : Int32) (tm : Ttm) (rd : Trd) (x1 : Int32) (x2 : Int32) (o : (UInt32 × Int32 × Tfo)) (e0 : ∀ a : UInt32 × Int32 × Tfo, o = a → Wg X 115 [none, none, none, some (.float a.1), some (.int a.2.1), none, none, none] [] (mkH cn bk st r0 r1 r2 r3 r4 li a.2.2 tx co ke rf cp lk fl em tm rd)) : ∀ (n : Nat) (z : UInt32 × Int32 × Int32 × Tfo), lpF (bX5_meanError_8 bk li x1 x2) n z = some o → Wg X 8 [some (.ref 0), some (.int x1), some (.int x2), some (.float z.1), some (.int z.2.1), some (.int z.2.2.1), none, none] [] (mkH cn bk st r0 r1 r2 r3 r4 li z.2.2.2 tx co ke rf cp lk fl em tm rd) := by
  intro n
  induction n with
  | zero => intro z h; cases h
  | succ n ih =>
    intro z h
    obtain ⟨r, hB, h⟩ := bnd h
    refine sbX5_meanError_8 X C cn bk st r0 r1 r2 r3 r4 li fo tx co ke rf cp lk fl em tm rd x1 x2 z r hB (fun a e => ih a (by subst e; exact h)) (fun a e => e0 a (by subst e; exact (Option.some.inj h).symm))
set_option maxRecDepth 100000 in
set_option maxHeartbeats 4000000 in
theorem sjX5_meanError_130 (X : CX) (C : Ok X RX5 cX5_meanError wsX5_meanError rX5_meanError) (cn : Tcn) (bk : Tbk) (st : Tst) (r0 : Tbk) (r1 : Tbk) (r2 : Tbk) (r3 : Tbk) (r4 : Tbk) (li : Tli) (fo : Tfo) (tx : Ttx) (co : Tco) (ke : Tke) (rf : (Nat → Int32)) (cp : Int32) (lk : Tlk) (fl : Tfl) (em : Int32) (tm : Ttm) (rd : Trd) (y0 : UInt32) (o : UInt32 × Tfo) (h : jX5_meanError_130 bk li fo y0 = some o) (hT : Rt X (some .float) (some (.float o.1)) (mkH cn bk st r0 r1 r2 r3 r4 li o.2 tx co ke rf cp lk fl em tm rd)) : Wg X 130 [none, none, none, none, none, none, none, none] [.float y0] (mkH cn bk st r0 r1 r2 r3 r4 li fo tx co ke rf cp lk fl em tm rd) := by
  unfold jX5_meanError_130 at h
  obtain rfl := Option.some.inj h
  exact wg_fret C hT dX5_meanError_130
set_option maxRecDepth 100000 in
set_option maxHeartbeats 4000000 in
theorem sX5_meanError (cn : Tcn) (bk : Tbk) (st : Tst) (r0 : Tbk) (r1 : Tbk) (r2 : Tbk) (r3 : Tbk) (r4 : Tbk) (li : Tli) (fo : Tfo) (tx : Ttx) (co : Tco) (ke : Tke) (rf : (Nat → Int32)) (cp : Int32) (lk : Tlk) (fl : Tfl) (em : Int32) (tm : Ttm) (rd : Trd) (x1 : Int32) (x2 : Int32) (o : UInt32 × Tfo) (h : fX5_meanError bk li fo x1 x2 = some o) : Sp yX5_meanError wsX5_meanError rX5_meanError [.ref 0, .int x1, .int x2] (mkH cn bk st r0 r1 r2 r3 r4 li fo tx co ke rf cp lk fl em tm rd) (some (.float o.1)) (mkH cn bk st r0 r1 r2 r3 r4 li o.2 tx co ke rf cp lk fl em tm rd) := by
  refine Sp.of (lv := [some (.ref 0), some (.int x1), some (.int x2), none, none, none, none, none]) RX5 (by decide +kernel) rfl (Nat.le_of_ble_eq_true rfl) rfl ?_
  intro X C hT
  unfold fX5_meanError at h
  refine wg_fconst0 C dX5_meanError_0 ?_
  refine wg_fstore_n (lv' := [some (.ref 0), some (.int x1), some (.int x2), some (.float FP.fconst0), none, none, none, none]) C dX5_meanError_1 (Nat.le_of_ble_eq_true rfl) rfl ?_
  refine wg_iconst (v := 0) C dX5_meanError_2 (by decide) ?_
  refine wg_istore (lv' := [some (.ref 0), some (.int x1), some (.int x2), some (.float FP.fconst0), some (.int (0 : Int32)), none, none, none]) C dX5_meanError_3 (Nat.le_of_ble_eq_true rfl) rfl ?_
  refine wg_iconst (v := 0) C dX5_meanError_5 (by decide) ?_
  refine wg_istore (lv' := [some (.ref 0), some (.int x1), some (.int x2), some (.float FP.fconst0), some (.int (0 : Int32)), some (.int (0 : Int32)), none, none]) C dX5_meanError_6 (Nat.le_of_ble_eq_true rfl) rfl ?_
  obtain ⟨t13, hL13, h⟩ := bnd h
  refine slX5_meanError_8 X C cn bk st r0 r1 r2 r3 r4 li fo tx co ke rf cp lk fl em tm rd x1 x2 t13 (fun a e => ?_) FU (FP.fconst0, (0 : Int32), (0 : Int32), fo) hL13
  subst e
  refine wg_iload C dX5_meanError_115 rfl ?_
  refine wg_if_ne (tgt := 125) C dX5_meanError_117 (by decide) (fun c14 => ?_) (fun c14 => ?_)
  · replace h := ifP c14 h
    refine wg_fload_n C dX5_meanError_125 rfl ?_
    refine wg_iload C dX5_meanError_126 rfl ?_
    refine wg_i2f C dX5_meanError_128 ?_
    obtain ⟨g15, h⟩ := gdP h
    refine wg_fdiv C dX5_meanError_129 g15 ?_
    refine wg_drop (lv' := [none, none, none, none, none, none, none, none]) [3, 4] rfl ?_
    exact sjX5_meanError_130 X C cn bk st r0 r1 r2 r3 r4 li t13.2.2 tx co ke rf cp lk fl em tm rd (FP.fdiv t13.1 (FP.i2f t13.2.1)) _ h hT
  · replace h := ifN c14 h
    refine wg_ldcf (v := 3212836864) C (by decide +kernel) dX5_meanError_120 ?_
    refine wg_goto (tgt := 130) C dX5_meanError_122 (by decide) ?_
    refine wg_drop (lv' := [none, none, none, none, none, none, none, none]) [3, 4] rfl ?_
    exact sjX5_meanError_130 X C cn bk st r0 r1 r2 r3 r4 li t13.2.2 tx co ke rf cp lk fl em tm rd (3212836864 : UInt32) _ h hT
abbrev rX5_errs : Room := { frames := 5, cells := 0, slots := 0, locals := 121 }
theorem iwX5_errs_5 : ∀ w ∈ wsX50, w ∈ wsX5_errs := by decide +kernel
theorem fgX5_errs_10 : FG wsX5_errs RX5 10 5 0 := ⟨RX5, TX5, 8, rfl, by decide, by decide +kernel, iwX5_errs_5⟩
theorem fgX5_errs_26 : FG wsX5_errs RX5 26 5 2 := ⟨RX5, TX5, 8, rfl, by decide, by decide +kernel, iwX5_errs_5⟩
set_option maxRecDepth 100000 in
set_option maxHeartbeats 4000000 in
theorem sX5_errs (cn : Tcn) (bk : Tbk) (st : Tst) (r0 : Tbk) (r1 : Tbk) (r2 : Tbk) (r3 : Tbk) (r4 : Tbk) (li : Tli) (fo : Tfo) (tx : Ttx) (co : Tco) (ke : Tke) (rf : (Nat → Int32)) (cp : Int32) (lk : Tlk) (fl : Tfl) (em : Int32) (tm : Ttm) (rd : Trd) (x1 : Int32) (o : Int32 × Tcn × Tli × Tfo) (h : fX5_errs cn bk li fo x1 = some o) : Sp yX5_errs wsX5_errs rX5_errs [.ref 0, .int x1] (mkH cn bk st r0 r1 r2 r3 r4 li fo tx co ke rf cp lk fl em tm rd) (some (.int o.1)) (mkH o.2.1 bk st r0 r1 r2 r3 r4 o.2.2.1 o.2.2.2 tx co ke rf cp lk fl em tm rd) := by
  refine Sp.of (lv := [some (.ref 0), some (.int x1)]) RX5 (by decide +kernel) rfl (Nat.le_of_ble_eq_true rfl) rfl ?_
  intro X C hT
  unfold fX5_errs at h
  refine wg_iload_n C dX5_errs_0 rfl ?_
  obtain ⟨q1, e1q, h⟩ := bnd h
  refine wg_callT (n := 1) (As := [.int x1]) (st := []) (st' := [.int q1]) C (sX5_isMember cn bk st r0 r1 r2 r3 r4 li fo tx co ke rf cp lk fl em tm rd x1 q1 e1q) gX5_errs_X5_isMember rfl (by decide +kernel) ⟨⟨rfl, rfl⟩, Nat.le_of_ble_eq_true rfl, Nat.le_of_ble_eq_true rfl⟩ rfl rfl (Nat.le_of_ble_eq_true rfl) dX5_errs_1 rfl ?_
  refine wg_if_ne (tgt := 14) C dX5_errs_4 (by decide) (fun c2 => ?_) (fun c2 => ?_)
  · replace h := ifP c2 h
    refine wg_aload_n C dX5_errs_14 rfl ?_
    refine wg_get (v := .ref 21) C fgX5_errs_26 rfl rfl dX5_errs_15 ?_
    refine wg_aload_n C dX5_errs_18 rfl ?_
    refine wg_get (v := .ref 1) C fgX5_errs_10 rfl rfl dX5_errs_19 ?_
    refine wg_iconst (v := -1) C dX5_errs_22 (by decide) ?_
    obtain ⟨q3, e3q, h⟩ := bnd h
    refine wg_callV (n := 2) (As := [.ref 1, .int (-1 : Int32)]) (st := []) (st' := []) C (sX2_learn cn bk st r0 r1 r2 r3 r4 li fo tx co ke rf cp lk fl em tm rd (-1 : Int32) q3 e3q) gX5_errs_X2_learn rfl (by decide +kernel) ⟨⟨rfl, rfl⟩, Nat.le_of_ble_eq_true rfl, Nat.le_of_ble_eq_true rfl⟩ rfl rfl rfl rfl (Nat.le_of_ble_eq_true rfl) dX5_errs_23 rfl ?_
    refine wg_aload_n C dX5_errs_26 rfl ?_
    refine wg_iload_n C dX5_errs_27 rfl ?_
    refine wg_aload_n C dX5_errs_28 rfl ?_
    refine wg_get (v := .ref 1) C fgX5_errs_10 rfl rfl dX5_errs_29 ?_
    obtain ⟨q4, e4q, h⟩ := bnd h
    refine wg_callV (n := 0) (As := []) (st := [.int x1, .ref 0]) (st' := [.int q4, .int x1, .ref 0]) C (sX0_few cn bk st r0 r1 r2 r3 r4 q3 fo tx co ke rf cp lk fl em tm rd  q4 e4q) gX5_errs_X0_few rfl (by decide +kernel) ⟨⟨rfl, rfl⟩, Nat.le_of_ble_eq_true rfl, Nat.le_of_ble_eq_true rfl⟩ rfl rfl rfl rfl (Nat.le_of_ble_eq_true rfl) dX5_errs_32 rfl ?_
    obtain ⟨q5, e5q, h⟩ := bnd h
    refine wg_callV (n := 2) (As := [.int x1, .int q4]) (st := []) (st' := [.float q5.1]) C (sX5_meanError cn bk st r0 r1 r2 r3 r4 q3 fo tx co ke rf cp lk fl em tm rd x1 q4 q5 e5q) gX5_errs_X5_meanError rfl (by decide +kernel) ⟨⟨rfl, rfl⟩, Nat.le_of_ble_eq_true rfl, Nat.le_of_ble_eq_true rfl⟩ rfl rfl rfl rfl (Nat.le_of_ble_eq_true rfl) dX5_errs_35 rfl ?_
    obtain ⟨q6, e6q, h⟩ := bnd h
    refine wg_callT (n := 1) (As := [.float q5.1]) (st := []) (st' := [.int q6]) C (sX5_bitsOrNone cn bk st r0 r1 r2 r3 r4 q3 q5.2 tx co ke rf cp lk fl em tm rd q5.1 q6 e6q) gX5_errs_X5_bitsOrNone rfl (by decide +kernel) ⟨⟨rfl, rfl⟩, Nat.le_of_ble_eq_true rfl, Nat.le_of_ble_eq_true rfl⟩ rfl rfl (Nat.le_of_ble_eq_true rfl) dX5_errs_38 rfl ?_
    obtain rfl := Option.some.inj h
    exact wg_iret C hT dX5_errs_41
  · replace h := ifN c2 h
    refine wg_aload_n C dX5_errs_7 rfl ?_
    refine wg_bipush (v := -2) C dX5_errs_8 (by decide) ?_
    obtain ⟨q7, e7q, h⟩ := bnd h
    refine wg_callV (n := 1) (As := [.int (-2 : Int32)]) (st := []) (st' := [.int q7.1]) C (sX5_refuseBad cn bk st r0 r1 r2 r3 r4 li fo tx co ke rf cp lk fl em tm rd (-2 : Int32) q7 e7q) gX5_errs_X5_refuseBad rfl (by decide +kernel) ⟨⟨rfl, rfl⟩, Nat.le_of_ble_eq_true rfl, Nat.le_of_ble_eq_true rfl⟩ rfl rfl rfl rfl (Nat.le_of_ble_eq_true rfl) dX5_errs_10 rfl ?_
    obtain rfl := Option.some.inj h
    exact wg_iret C hT dX5_errs_13
abbrev rX5_best : Room := { frames := 5, cells := 0, slots := 0, locals := 121 }
theorem iwX5_best_5 : ∀ w ∈ wsX50, w ∈ wsX5_best := by decide +kernel
theorem fgX5_best_10 : FG wsX5_best RX5 10 5 0 := ⟨RX5, TX5, 8, rfl, by decide, by decide +kernel, iwX5_best_5⟩
theorem fgX5_best_26 : FG wsX5_best RX5 26 5 2 := ⟨RX5, TX5, 8, rfl, by decide, by decide +kernel, iwX5_best_5⟩
set_option maxRecDepth 100000 in
set_option maxHeartbeats 4000000 in
theorem sjX5_best_16 (X : CX) (C : Ok X RX5 cX5_best wsX5_best rX5_best) (cn : Tcn) (bk : Tbk) (st : Tst) (r0 : Tbk) (r1 : Tbk) (r2 : Tbk) (r3 : Tbk) (r4 : Tbk) (li : Tli) (fo : Tfo) (tx : Ttx) (co : Tco) (ke : Tke) (rf : (Nat → Int32)) (cp : Int32) (lk : Tlk) (fl : Tfl) (em : Int32) (tm : Ttm) (rd : Trd)  (o : Int32 × Tcn × Tli × Tfo) (h : jX5_best_16 cn bk li fo  = some o) (hT : Rt X (some .int) (some (.int o.1)) (mkH o.2.1 bk st r0 r1 r2 r3 r4 o.2.2.1 o.2.2.2 tx co ke rf cp lk fl em tm rd)) : Wg X 16 [some (.ref 0), none, none, none, none, none, none] [] (mkH cn bk st r0 r1 r2 r3 r4 li fo tx co ke rf cp lk fl em tm rd) := by
  unfold jX5_best_16 at h
  refine wg_aload_n C dX5_best_16 rfl ?_
  refine wg_bipush (v := -2) C dX5_best_17 (by decide) ?_
  obtain ⟨q3, e3q, h⟩ := bnd h
  refine wg_callV (n := 1) (As := [.int (-2 : Int32)]) (st := []) (st' := [.int q3.1]) C (sX5_refuseBad cn bk st r0 r1 r2 r3 r4 li fo tx co ke rf cp lk fl em tm rd (-2 : Int32) q3 e3q) gX5_best_X5_refuseBad rfl (by decide +kernel) ⟨⟨rfl, rfl⟩, Nat.le_of_ble_eq_true rfl, Nat.le_of_ble_eq_true rfl⟩ rfl rfl rfl rfl (Nat.le_of_ble_eq_true rfl) dX5_best_19 rfl ?_
  obtain rfl := Option.some.inj h
  exact wg_iret C hT dX5_best_22
set_option maxRecDepth 100000 in
set_option maxHeartbeats 4000000 in
theorem sjX5_best_44_77 (X : CX) (C : Ok X RX5 cX5_best wsX5_best rX5_best) (cn : Tcn) (bk : Tbk) (st : Tst) (r0 : Tbk) (r1 : Tbk) (r2 : Tbk) (r3 : Tbk) (r4 : Tbk) (li : Tli) (fo : Tfo) (tx : Ttx) (co : Tco) (ke : Tke) (rf : (Nat → Int32)) (cp : Int32) (lk : Tlk) (fl : Tfl) (em : Int32) (tm : Ttm) (rd : Trd) (x1 : Int32) (x2 : Int32) (x3 : Int32) (x4 : UInt32) (x5 : Int32) (o : (Int32 × UInt32 × Int32 × Tfo) ⊕ (Int32 × UInt32 × Tfo)) (h : jX5_best_44_77 cn bk li fo x1 x2 x3 x4 x5 = some o) (k0 : ∀ a : Int32 × UInt32 × Int32 × Tfo, o = .inl a → Wg X 44 [some (.ref 0), some (.int x1), some (.int x2), some (.int a.1), some (.float a.2.1), some (.int a.2.2.1), none] [] (mkH cn bk st r0 r1 r2 r3 r4 li a.2.2.2 tx co ke rf cp lk fl em tm rd)) (e0 : ∀ a : Int32 × UInt32 × Tfo, o = .inr a → Wg X 83 [none, none, some (.int x2), some (.int a.1), some (.float a.2.1), none, none] [] (mkH cn bk st r0 r1 r2 r3 r4 li a.2.2 tx co ke rf cp lk fl em tm rd)) : Wg X 77 [some (.ref 0), some (.int x1), some (.int x2), some (.int x3), some (.float x4), some (.int x5), none] [] (mkH cn bk st r0 r1 r2 r3 r4 li fo tx co ke rf cp lk fl em tm rd) := by
  unfold jX5_best_44_77 at h
  refine wg_iinc (v := (x5 + (1 : Int32))) (lv' := [some (.ref 0), some (.int x1), some (.int x2), some (.int x3), some (.float x4), some (.int (x5 + (1 : Int32))), none]) C dX5_best_77 rfl rfl rfl ?_
  refine wg_goto (tgt := 44) C dX5_best_80 (by decide) ?_
  have hk := k0 _ (Option.some.inj h).symm
  exact hk
set_option maxRecDepth 100000 in
set_option maxHeartbeats 4000000 in
theorem sbX5_best_44 (X : CX) (C : Ok X RX5 cX5_best wsX5_best rX5_best) (cn : Tcn) (bk : Tbk) (st : Tst) (r0 : Tbk) (r1 : Tbk) (r2 : Tbk) (r3 : Tbk) (r4 : Tbk) (li : Tli) (fo : Tfo) (tx : Ttx) (co : Tco) (ke : Tke) (rf : (Nat → Int32)) (cp : Int32) (lk : Tlk) (fl : Tfl) (em : Int32) (tm : Ttm) (rd : Trd) (x1 : Int32) (x2 : Int32) (z : Int32 × UInt32 × Int32 × Tfo) (o : (Int32 × UInt32 × Int32 × Tfo) ⊕ (Int32 × UInt32 × Tfo)) (h : bX5_best_44 cn bk li x1 x2 z = some o) (k0 : ∀ a : Int32 × UInt32 × Int32 × Tfo, o = .inl a → Wg X 44 [some (.ref 0), some (.int x1), some (.int x2), some (.int a.1), some (.float a.2.1), some (.int a.2.2.1), none] [] (mkH cn bk st r0 r1 r2 r3 r4 li a.2.2.2 tx co ke rf cp lk fl em tm rd)) (e0 : ∀ a : Int32 × UInt32 × Tfo, o = .inr a → Wg X 83 [none, none, some (.int x2), some (.int a.1), some (.float a.2.1), none, none] [] (mkH cn bk st r0 r1 r2 r3 r4 li a.2.2 tx co ke rf cp lk fl em tm rd)) : Wg X 44 [some (.ref 0), some (.int x1), some (.int x2), some (.int z.1), some (.float z.2.1), some (.int z.2.2.1), none] [] (mkH cn bk st r0 r1 r2 r3 r4 li z.2.2.2 tx co ke rf cp lk fl em tm rd) := by
  unfold bX5_best_44 at h
  refine wg_iload C dX5_best_44 rfl ?_
  refine wg_bipush (v := 12) C dX5_best_46 (by decide) ?_
  refine wg_icmp_gt (tgt := 83) C dX5_best_48 (by decide) (fun c7 => ?_) (fun c7 => ?_)
  · replace h := ifP c7 h
    refine wg_drop (lv' := [none, none, some (.int x2), some (.int z.1), some (.float z.2.1), none, none]) [0, 1, 5] rfl ?_
    have hk := e0 _ (Option.some.inj h).symm
    exact hk
  · replace h := ifN c7 h
    refine wg_aload_n C dX5_best_51 rfl ?_
    refine wg_iload_n C dX5_best_52 rfl ?_
    refine wg_iload C dX5_best_53 rfl ?_
    obtain ⟨q8, e8q, h⟩ := bnd h
    refine wg_callV (n := 2) (As := [.int x1, .int z.2.2.1]) (st := []) (st' := [.float q8.1]) C (sX5_meanError cn bk st r0 r1 r2 r3 r4 li z.2.2.2 tx co ke rf cp lk fl em tm rd x1 z.2.2.1 q8 e8q) gX5_best_X5_meanError rfl (by decide +kernel) ⟨⟨rfl, rfl⟩, Nat.le_of_ble_eq_true rfl, Nat.le_of_ble_eq_true rfl⟩ rfl rfl rfl rfl (Nat.le_of_ble_eq_true rfl) dX5_best_55 rfl ?_
    refine wg_fstore (lv' := [some (.ref 0), some (.int x1), some (.int x2), some (.int z.1), some (.float z.2.1), some (.int z.2.2.1), some (.float q8.1)]) C dX5_best_58 (Nat.le_of_ble_eq_true rfl) rfl ?_
    refine wg_fload C dX5_best_60 rfl ?_
    refine wg_fload C dX5_best_62 rfl ?_
    obtain ⟨q9, e9q, h⟩ := bnd h
    refine wg_callT (n := 2) (As := [.float q8.1, .float z.2.1]) (st := []) (st' := [.int q9]) C (sX5_isLess cn bk st r0 r1 r2 r3 r4 li q8.2 tx co ke rf cp lk fl em tm rd q8.1 z.2.1 q9 e9q) gX5_best_X5_isLess rfl (by decide +kernel) ⟨⟨rfl, rfl⟩, Nat.le_of_ble_eq_true rfl, Nat.le_of_ble_eq_true rfl⟩ rfl rfl (Nat.le_of_ble_eq_true rfl) dX5_best_64 rfl ?_
    refine wg_if_eq (tgt := 77) C dX5_best_67 (by decide) (fun c10 => ?_) (fun c10 => ?_)
    · replace h := ifP c10 h
      refine wg_drop (lv' := [some (.ref 0), some (.int x1), some (.int x2), some (.int z.1), some (.float z.2.1), some (.int z.2.2.1), none]) [6] rfl ?_
      exact sjX5_best_44_77 X C cn bk st r0 r1 r2 r3 r4 li q8.2 tx co ke rf cp lk fl em tm rd x1 x2 z.1 z.2.1 z.2.2.1 _ h k0 e0
    · replace h := ifN c10 h
      refine wg_fload C dX5_best_70 rfl ?_
      refine wg_fstore (lv' := [some (.ref 0), some (.int x1), some (.int x2), some (.int z.1), some (.float q8.1), some (.int z.2.2.1), some (.float q8.1)]) C dX5_best_72 (Nat.le_of_ble_eq_true rfl) rfl ?_
      refine wg_iload C dX5_best_74 rfl ?_
      refine wg_istore_n (lv' := [some (.ref 0), some (.int x1), some (.int x2), some (.int z.2.2.1), some (.float q8.1), some (.int z.2.2.1), some (.float q8.1)]) C dX5_best_76 (Nat.le_of_ble_eq_true rfl) rfl ?_
      refine wg_drop (lv' := [some (.ref 0), some (.int x1), some (.int x2), some (.int z.2.2.1), some (.float q8.1), some (.int z.2.2.1), none]) [6] rfl ?_
      exact sjX5_best_44_77 X C cn bk st r0 r1 r2 r3 r4 li q8.2 tx co ke rf cp lk fl em tm rd x1 x2 z.2.2.1 q8.1 z.2.2.1 _ h k0 e0
set_option maxRecDepth 100000 in
set_option maxHeartbeats 4000000 in
theorem slX5_best_44 (X : CX) (C : Ok X RX5 cX5_best wsX5_best rX5_best) (cn : Tcn) (bk : Tbk) (st : Tst) (r0 : Tbk) (r1 : Tbk) (r2 : Tbk) (r3 : Tbk) (r4 : Tbk) (li : Tli) (fo : Tfo) (tx : Ttx) (co : Tco) (ke : Tke) (rf : (Nat → Int32)) (cp : Int32) (lk : Tlk) (fl : Tfl) (em : Int32) (tm : Ttm) (rd : Trd) (x1 : Int32) (x2 : Int32) (o : (Int32 × UInt32 × Tfo)) (e0 : ∀ a : Int32 × UInt32 × Tfo, o = a → Wg X 83 [none, none, some (.int x2), some (.int a.1), some (.float a.2.1), none, none] [] (mkH cn bk st r0 r1 r2 r3 r4 li a.2.2 tx co ke rf cp lk fl em tm rd)) : ∀ (n : Nat) (z : Int32 × UInt32 × Int32 × Tfo), lpF (bX5_best_44 cn bk li x1 x2) n z = some o → Wg X 44 [some (.ref 0), some (.int x1), some (.int x2), some (.int z.1), some (.float z.2.1), some (.int z.2.2.1), none] [] (mkH cn bk st r0 r1 r2 r3 r4 li z.2.2.2 tx co ke rf cp lk fl em tm rd) := by
  intro n
  induction n with
  | zero => intro z h; cases h
  | succ n ih =>
    intro z h
    obtain ⟨r, hB, h⟩ := bnd h
    refine sbX5_best_44 X C cn bk st r0 r1 r2 r3 r4 li fo tx co ke rf cp lk fl em tm rd x1 x2 z r hB (fun a e => ih a (by subst e; exact h)) (fun a e => e0 a (by subst e; exact (Option.some.inj h).symm))
set_option maxRecDepth 100000 in
set_option maxHeartbeats 4000000 in
theorem sjX5_best_96 (X : CX) (C : Ok X RX5 cX5_best wsX5_best rX5_best) (cn : Tcn) (bk : Tbk) (st : Tst) (r0 : Tbk) (r1 : Tbk) (r2 : Tbk) (r3 : Tbk) (r4 : Tbk) (li : Tli) (fo : Tfo) (tx : Ttx) (co : Tco) (ke : Tke) (rf : (Nat → Int32)) (cp : Int32) (lk : Tlk) (fl : Tfl) (em : Int32) (tm : Ttm) (rd : Trd) (y0 : Int32) (o : Int32 × Tcn × Tli × Tfo) (h : jX5_best_96 cn bk li fo y0 = some o) (hT : Rt X (some .int) (some (.int o.1)) (mkH o.2.1 bk st r0 r1 r2 r3 r4 o.2.2.1 o.2.2.2 tx co ke rf cp lk fl em tm rd)) : Wg X 96 [none, none, none, none, none, none, none] [.int y0] (mkH cn bk st r0 r1 r2 r3 r4 li fo tx co ke rf cp lk fl em tm rd) := by
  unfold jX5_best_96 at h
  obtain rfl := Option.some.inj h
  exact wg_iret C hT dX5_best_96
set_option maxRecDepth 100000 in
set_option maxHeartbeats 4000000 in
theorem sX5_best (cn : Tcn) (bk : Tbk) (st : Tst) (r0 : Tbk) (r1 : Tbk) (r2 : Tbk) (r3 : Tbk) (r4 : Tbk) (li : Tli) (fo : Tfo) (tx : Ttx) (co : Tco) (ke : Tke) (rf : (Nat → Int32)) (cp : Int32) (lk : Tlk) (fl : Tfl) (em : Int32) (tm : Ttm) (rd : Trd) (x1 : Int32) (x2 : Int32) (o : Int32 × Tcn × Tli × Tfo) (h : fX5_best cn bk li fo x1 x2 = some o) : Sp yX5_best wsX5_best rX5_best [.ref 0, .int x1, .int x2] (mkH cn bk st r0 r1 r2 r3 r4 li fo tx co ke rf cp lk fl em tm rd) (some (.int o.1)) (mkH o.2.1 bk st r0 r1 r2 r3 r4 o.2.2.1 o.2.2.2 tx co ke rf cp lk fl em tm rd) := by
  refine Sp.of (lv := [some (.ref 0), some (.int x1), some (.int x2), none, none, none, none]) RX5 (by decide +kernel) rfl (Nat.le_of_ble_eq_true rfl) rfl ?_
  intro X C hT
  unfold fX5_best at h
  refine wg_iload_n C dX5_best_0 rfl ?_
  obtain ⟨q1, e1q, h⟩ := bnd h
  refine wg_callT (n := 1) (As := [.int x1]) (st := []) (st' := [.int q1]) C (sX5_isMember cn bk st r0 r1 r2 r3 r4 li fo tx co ke rf cp lk fl em tm rd x1 q1 e1q) gX5_best_X5_isMember rfl (by decide +kernel) ⟨⟨rfl, rfl⟩, Nat.le_of_ble_eq_true rfl, Nat.le_of_ble_eq_true rfl⟩ rfl rfl (Nat.le_of_ble_eq_true rfl) dX5_best_1 rfl ?_
  refine wg_if_eq (tgt := 16) C dX5_best_4 (by decide) (fun c2 => ?_) (fun c2 => ?_)
  · replace h := ifP c2 h
    refine wg_drop (lv' := [some (.ref 0), none, none, none, none, none, none]) [1, 2] rfl ?_
    exact sjX5_best_16 X C cn bk st r0 r1 r2 r3 r4 li fo tx co ke rf cp lk fl em tm rd  _ h hT
  · replace h := ifN c2 h
    refine wg_iload_n C dX5_best_7 rfl ?_
    refine wg_iconst (v := 0) C dX5_best_8 (by decide) ?_
    refine wg_iconst (v := 1) C dX5_best_9 (by decide) ?_
    obtain ⟨q4, e4q, h⟩ := bnd h
    refine wg_callT (n := 3) (As := [.int x2, .int (0 : Int32), .int (1 : Int32)]) (st := []) (st' := [.int q4]) C (sX5_isWithin cn bk st r0 r1 r2 r3 r4 li fo tx co ke rf cp lk fl em tm rd x2 (0 : Int32) (1 : Int32) q4 e4q) gX5_best_X5_isWithin rfl (by decide +kernel) ⟨⟨rfl, rfl⟩, Nat.le_of_ble_eq_true rfl, Nat.le_of_ble_eq_true rfl⟩ rfl rfl (Nat.le_of_ble_eq_true rfl) dX5_best_10 rfl ?_
    refine wg_if_ne (tgt := 23) C dX5_best_13 (by decide) (fun c5 => ?_) (fun c5 => ?_)
    · replace h := ifP c5 h
      refine wg_aload_n C dX5_best_23 rfl ?_
      refine wg_get (v := .ref 21) C fgX5_best_26 rfl rfl dX5_best_24 ?_
      refine wg_aload_n C dX5_best_27 rfl ?_
      refine wg_get (v := .ref 1) C fgX5_best_10 rfl rfl dX5_best_28 ?_
      refine wg_iconst (v := -1) C dX5_best_31 (by decide) ?_
      obtain ⟨q6, e6q, h⟩ := bnd h
      refine wg_callV (n := 2) (As := [.ref 1, .int (-1 : Int32)]) (st := []) (st' := []) C (sX2_learn cn bk st r0 r1 r2 r3 r4 li fo tx co ke rf cp lk fl em tm rd (-1 : Int32) q6 e6q) gX5_best_X2_learn rfl (by decide +kernel) ⟨⟨rfl, rfl⟩, Nat.le_of_ble_eq_true rfl, Nat.le_of_ble_eq_true rfl⟩ rfl rfl rfl rfl (Nat.le_of_ble_eq_true rfl) dX5_best_32 rfl ?_
      refine wg_iconst (v := -1) C dX5_best_35 (by decide) ?_
      refine wg_istore_n (lv' := [some (.ref 0), some (.int x1), some (.int x2), some (.int (-1 : Int32)), none, none, none]) C dX5_best_36 (Nat.le_of_ble_eq_true rfl) rfl ?_
      refine wg_ldcf (v := 3212836864) C (by decide +kernel) dX5_best_37 ?_
      refine wg_fstore (lv' := [some (.ref 0), some (.int x1), some (.int x2), some (.int (-1 : Int32)), some (.float (3212836864 : UInt32)), none, none]) C dX5_best_39 (Nat.le_of_ble_eq_true rfl) rfl ?_
      refine wg_iconst (v := 1) C dX5_best_41 (by decide) ?_
      refine wg_istore (lv' := [some (.ref 0), some (.int x1), some (.int x2), some (.int (-1 : Int32)), some (.float (3212836864 : UInt32)), some (.int (1 : Int32)), none]) C dX5_best_42 (Nat.le_of_ble_eq_true rfl) rfl ?_
      obtain ⟨t11, hL11, h⟩ := bnd h
      refine slX5_best_44 X C cn bk st r0 r1 r2 r3 r4 q6 fo tx co ke rf cp lk fl em tm rd x1 x2 t11 (fun a e => ?_) FU ((-1 : Int32), (3212836864 : UInt32), (1 : Int32), fo) hL11
      subst e
      refine wg_iload_n C dX5_best_83 rfl ?_
      refine wg_if_ne (tgt := 91) C dX5_best_84 (by decide) (fun c12 => ?_) (fun c12 => ?_)
      · replace h := ifP c12 h
        refine wg_fload C dX5_best_91 rfl ?_
        obtain ⟨q13, e13q, h⟩ := bnd h
        refine wg_callT (n := 1) (As := [.float t11.2.1]) (st := []) (st' := [.int q13]) C (sX5_bitsOrNone cn bk st r0 r1 r2 r3 r4 q6 t11.2.2 tx co ke rf cp lk fl em tm rd t11.2.1 q13 e13q) gX5_best_X5_bitsOrNone rfl (by decide +kernel) ⟨⟨rfl, rfl⟩, Nat.le_of_ble_eq_true rfl, Nat.le_of_ble_eq_true rfl⟩ rfl rfl (Nat.le_of_ble_eq_true rfl) dX5_best_93 rfl ?_
        refine wg_drop (lv' := [none, none, none, none, none, none, none]) [2, 3, 4] rfl ?_
        exact sjX5_best_96 X C cn bk st r0 r1 r2 r3 r4 q6 t11.2.2 tx co ke rf cp lk fl em tm rd q13 _ h hT
      · replace h := ifN c12 h
        refine wg_iload_n C dX5_best_87 rfl ?_
        refine wg_goto (tgt := 96) C dX5_best_88 (by decide) ?_
        refine wg_drop (lv' := [none, none, none, none, none, none, none]) [2, 3, 4] rfl ?_
        exact sjX5_best_96 X C cn bk st r0 r1 r2 r3 r4 q6 t11.2.2 tx co ke rf cp lk fl em tm rd t11.1 _ h hT
    · replace h := ifN c5 h
      refine wg_drop (lv' := [some (.ref 0), none, none, none, none, none, none]) [1, 2] rfl ?_
      exact sjX5_best_16 X C cn bk st r0 r1 r2 r3 r4 li fo tx co ke rf cp lk fl em tm rd  _ h hT
abbrev rX5_spare : Room := { frames := 5, cells := 0, slots := 0, locals := 121 }
theorem iwX5_spare_5 : ∀ w ∈ wsX50, w ∈ wsX5_spare := by decide +kernel
theorem fgX5_spare_10 : FG wsX5_spare RX5 10 5 0 := ⟨RX5, TX5, 8, rfl, by decide, by decide +kernel, iwX5_spare_5⟩
theorem fgX5_spare_26 : FG wsX5_spare RX5 26 5 2 := ⟨RX5, TX5, 8, rfl, by decide, by decide +kernel, iwX5_spare_5⟩
set_option maxRecDepth 100000 in
set_option maxHeartbeats 4000000 in
theorem sjX5_spare_22_70 (X : CX) (C : Ok X RX5 cX5_spare wsX5_spare rX5_spare) (cn : Tcn) (bk : Tbk) (st : Tst) (r0 : Tbk) (r1 : Tbk) (r2 : Tbk) (r3 : Tbk) (r4 : Tbk) (li : Tli) (fo : Tfo) (tx : Ttx) (co : Tco) (ke : Tke) (rf : (Nat → Int32)) (cp : Int32) (lk : Tlk) (fl : Tfl) (em : Int32) (tm : Ttm) (rd : Trd) (x1 : Int32) (x2 : Int32) (x3 : UInt32) (x4 : Int32) (o : (Int32 × UInt32 × Int32 × Tli × Tfo) ⊕ (Int32 × Tli × Tfo)) (h : jX5_spare_22_70 cn bk li fo x1 x2 x3 x4 = some o) (k0 : ∀ a : Int32 × UInt32 × Int32 × Tli × Tfo, o = .inl a → Wg X 22 [some (.ref 0), some (.int x1), some (.int a.1), some (.float a.2.1), some (.int a.2.2.1), none] [] (mkH cn bk st r0 r1 r2 r3 r4 a.2.2.2.1 a.2.2.2.2 tx co ke rf cp lk fl em tm rd)) (e0 : ∀ a : Int32 × Tli × Tfo, o = .inr a → Wg X 76 [none, none, some (.int a.1), none, none, none] [] (mkH cn bk st r0 r1 r2 r3 r4 a.2.1 a.2.2 tx co ke rf cp lk fl em tm rd)) : Wg X 70 [some (.ref 0), some (.int x1), some (.int x2), some (.float x3), some (.int x4), none] [] (mkH cn bk st r0 r1 r2 r3 r4 li fo tx co ke rf cp lk fl em tm rd) := by
  unfold jX5_spare_22_70 at h
  refine wg_iinc (v := (x4 + (1 : Int32))) (lv' := [some (.ref 0), some (.int x1), some (.int x2), some (.float x3), some (.int (x4 + (1 : Int32))), none]) C dX5_spare_70 rfl rfl rfl ?_
  refine wg_goto (tgt := 22) C dX5_spare_73 (by decide) ?_
  have hk := k0 _ (Option.some.inj h).symm
  exact hk
set_option maxRecDepth 100000 in
set_option maxHeartbeats 4000000 in
theorem sbX5_spare_22 (X : CX) (C : Ok X RX5 cX5_spare wsX5_spare rX5_spare) (cn : Tcn) (bk : Tbk) (st : Tst) (r0 : Tbk) (r1 : Tbk) (r2 : Tbk) (r3 : Tbk) (r4 : Tbk) (li : Tli) (fo : Tfo) (tx : Ttx) (co : Tco) (ke : Tke) (rf : (Nat → Int32)) (cp : Int32) (lk : Tlk) (fl : Tfl) (em : Int32) (tm : Ttm) (rd : Trd) (x1 : Int32) (z : Int32 × UInt32 × Int32 × Tli × Tfo) (o : (Int32 × UInt32 × Int32 × Tli × Tfo) ⊕ (Int32 × Tli × Tfo)) (h : bX5_spare_22 cn bk x1 z = some o) (k0 : ∀ a : Int32 × UInt32 × Int32 × Tli × Tfo, o = .inl a → Wg X 22 [some (.ref 0), some (.int x1), some (.int a.1), some (.float a.2.1), some (.int a.2.2.1), none] [] (mkH cn bk st r0 r1 r2 r3 r4 a.2.2.2.1 a.2.2.2.2 tx co ke rf cp lk fl em tm rd)) (e0 : ∀ a : Int32 × Tli × Tfo, o = .inr a → Wg X 76 [none, none, some (.int a.1), none, none, none] [] (mkH cn bk st r0 r1 r2 r3 r4 a.2.1 a.2.2 tx co ke rf cp lk fl em tm rd)) : Wg X 22 [some (.ref 0), some (.int x1), some (.int z.1), some (.float z.2.1), some (.int z.2.2.1), none] [] (mkH cn bk st r0 r1 r2 r3 r4 z.2.2.2.1 z.2.2.2.2 tx co ke rf cp lk fl em tm rd) := by
  unfold bX5_spare_22 at h
  refine wg_iload C dX5_spare_22 rfl ?_
  refine wg_iconst (v := 4) C dX5_spare_24 (by decide) ?_
  refine wg_icmp_ge (tgt := 76) C dX5_spare_25 (by decide) (fun c3 => ?_) (fun c3 => ?_)
  · replace h := ifP c3 h
    refine wg_drop (lv' := [none, none, some (.int z.1), none, none, none]) [0, 1, 3, 4] rfl ?_
    have hk := e0 _ (Option.some.inj h).symm
    exact hk
  · replace h := ifN c3 h
    refine wg_aload_n C dX5_spare_28 rfl ?_
    refine wg_get (v := .ref 21) C fgX5_spare_26 rfl rfl dX5_spare_29 ?_
    refine wg_aload_n C dX5_spare_32 rfl ?_
    refine wg_get (v := .ref 1) C fgX5_spare_10 rfl rfl dX5_spare_33 ?_
    refine wg_iload C dX5_spare_36 rfl ?_
    obtain ⟨q4, e4q, h⟩ := bnd h
    refine wg_callV (n := 2) (As := [.ref 1, .int z.2.2.1]) (st := []) (st' := []) C (sX2_learn cn bk st r0 r1 r2 r3 r4 z.2.2.2.1 z.2.2.2.2 tx co ke rf cp lk fl em tm rd z.2.2.1 q4 e4q) gX5_spare_X2_learn rfl (by decide +kernel) ⟨⟨rfl, rfl⟩, Nat.le_of_ble_eq_true rfl, Nat.le_of_ble_eq_true rfl⟩ rfl rfl rfl rfl (Nat.le_of_ble_eq_true rfl) dX5_spare_38 rfl ?_
    refine wg_aload_n C dX5_spare_41 rfl ?_
    refine wg_iload_n C dX5_spare_42 rfl ?_
    refine wg_aload_n C dX5_spare_43 rfl ?_
    refine wg_get (v := .ref 1) C fgX5_spare_10 rfl rfl dX5_spare_44 ?_
    obtain ⟨q5, e5q, h⟩ := bnd h
    refine wg_callV (n := 0) (As := []) (st := [.int x1, .ref 0]) (st' := [.int q5, .int x1, .ref 0]) C (sX0_few cn bk st r0 r1 r2 r3 r4 q4 z.2.2.2.2 tx co ke rf cp lk fl em tm rd  q5 e5q) gX5_spare_X0_few rfl (by decide +kernel) ⟨⟨rfl, rfl⟩, Nat.le_of_ble_eq_true rfl, Nat.le_of_ble_eq_true rfl⟩ rfl rfl rfl rfl (Nat.le_of_ble_eq_true rfl) dX5_spare_47 rfl ?_
    obtain ⟨q6, e6q, h⟩ := bnd h
    refine wg_callV (n := 2) (As := [.int x1, .int q5]) (st := []) (st' := [.float q6.1]) C (sX5_meanError cn bk st r0 r1 r2 r3 r4 q4 z.2.2.2.2 tx co ke rf cp lk fl em tm rd x1 q5 q6 e6q) gX5_spare_X5_meanError rfl (by decide +kernel) ⟨⟨rfl, rfl⟩, Nat.le_of_ble_eq_true rfl, Nat.le_of_ble_eq_true rfl⟩ rfl rfl rfl rfl (Nat.le_of_ble_eq_true rfl) dX5_spare_50 rfl ?_
    refine wg_fstore (lv' := [some (.ref 0), some (.int x1), some (.int z.1), some (.float z.2.1), some (.int z.2.2.1), some (.float q6.1)]) C dX5_spare_53 (Nat.le_of_ble_eq_true rfl) rfl ?_
    refine wg_fload C dX5_spare_55 rfl ?_
    refine wg_fload_n C dX5_spare_57 rfl ?_
    obtain ⟨q7, e7q, h⟩ := bnd h
    refine wg_callT (n := 2) (As := [.float q6.1, .float z.2.1]) (st := []) (st' := [.int q7]) C (sX5_isLess cn bk st r0 r1 r2 r3 r4 q4 q6.2 tx co ke rf cp lk fl em tm rd q6.1 z.2.1 q7 e7q) gX5_spare_X5_isLess rfl (by decide +kernel) ⟨⟨rfl, rfl⟩, Nat.le_of_ble_eq_true rfl, Nat.le_of_ble_eq_true rfl⟩ rfl rfl (Nat.le_of_ble_eq_true rfl) dX5_spare_58 rfl ?_
    refine wg_if_eq (tgt := 70) C dX5_spare_61 (by decide) (fun c8 => ?_) (fun c8 => ?_)
    · replace h := ifP c8 h
      refine wg_drop (lv' := [some (.ref 0), some (.int x1), some (.int z.1), some (.float z.2.1), some (.int z.2.2.1), none]) [5] rfl ?_
      exact sjX5_spare_22_70 X C cn bk st r0 r1 r2 r3 r4 q4 q6.2 tx co ke rf cp lk fl em tm rd x1 z.1 z.2.1 z.2.2.1 _ h k0 e0
    · replace h := ifN c8 h
      refine wg_fload C dX5_spare_64 rfl ?_
      refine wg_fstore_n (lv' := [some (.ref 0), some (.int x1), some (.int z.1), some (.float q6.1), some (.int z.2.2.1), some (.float q6.1)]) C dX5_spare_66 (Nat.le_of_ble_eq_true rfl) rfl ?_
      refine wg_iload C dX5_spare_67 rfl ?_
      refine wg_istore_n (lv' := [some (.ref 0), some (.int x1), some (.int z.2.2.1), some (.float q6.1), some (.int z.2.2.1), some (.float q6.1)]) C dX5_spare_69 (Nat.le_of_ble_eq_true rfl) rfl ?_
      refine wg_drop (lv' := [some (.ref 0), some (.int x1), some (.int z.2.2.1), some (.float q6.1), some (.int z.2.2.1), none]) [5] rfl ?_
      exact sjX5_spare_22_70 X C cn bk st r0 r1 r2 r3 r4 q4 q6.2 tx co ke rf cp lk fl em tm rd x1 z.2.2.1 q6.1 z.2.2.1 _ h k0 e0
set_option maxRecDepth 100000 in
set_option maxHeartbeats 4000000 in
theorem slX5_spare_22 (X : CX) (C : Ok X RX5 cX5_spare wsX5_spare rX5_spare) (cn : Tcn) (bk : Tbk) (st : Tst) (r0 : Tbk) (r1 : Tbk) (r2 : Tbk) (r3 : Tbk) (r4 : Tbk) (li : Tli) (fo : Tfo) (tx : Ttx) (co : Tco) (ke : Tke) (rf : (Nat → Int32)) (cp : Int32) (lk : Tlk) (fl : Tfl) (em : Int32) (tm : Ttm) (rd : Trd) (x1 : Int32) (o : (Int32 × Tli × Tfo)) (e0 : ∀ a : Int32 × Tli × Tfo, o = a → Wg X 76 [none, none, some (.int a.1), none, none, none] [] (mkH cn bk st r0 r1 r2 r3 r4 a.2.1 a.2.2 tx co ke rf cp lk fl em tm rd)) : ∀ (n : Nat) (z : Int32 × UInt32 × Int32 × Tli × Tfo), lpF (bX5_spare_22 cn bk x1) n z = some o → Wg X 22 [some (.ref 0), some (.int x1), some (.int z.1), some (.float z.2.1), some (.int z.2.2.1), none] [] (mkH cn bk st r0 r1 r2 r3 r4 z.2.2.2.1 z.2.2.2.2 tx co ke rf cp lk fl em tm rd) := by
  intro n
  induction n with
  | zero => intro z h; cases h
  | succ n ih =>
    intro z h
    obtain ⟨r, hB, h⟩ := bnd h
    refine sbX5_spare_22 X C cn bk st r0 r1 r2 r3 r4 li fo tx co ke rf cp lk fl em tm rd x1 z r hB (fun a e => ih a (by subst e; exact h)) (fun a e => e0 a (by subst e; exact (Option.some.inj h).symm))
set_option maxRecDepth 100000 in
set_option maxHeartbeats 4000000 in
theorem sX5_spare (cn : Tcn) (bk : Tbk) (st : Tst) (r0 : Tbk) (r1 : Tbk) (r2 : Tbk) (r3 : Tbk) (r4 : Tbk) (li : Tli) (fo : Tfo) (tx : Ttx) (co : Tco) (ke : Tke) (rf : (Nat → Int32)) (cp : Int32) (lk : Tlk) (fl : Tfl) (em : Int32) (tm : Ttm) (rd : Trd) (x1 : Int32) (o : Int32 × Tcn × Tli × Tfo) (h : fX5_spare cn bk li fo x1 = some o) : Sp yX5_spare wsX5_spare rX5_spare [.ref 0, .int x1] (mkH cn bk st r0 r1 r2 r3 r4 li fo tx co ke rf cp lk fl em tm rd) (some (.int o.1)) (mkH o.2.1 bk st r0 r1 r2 r3 r4 o.2.2.1 o.2.2.2 tx co ke rf cp lk fl em tm rd) := by
  refine Sp.of (lv := [some (.ref 0), some (.int x1), none, none, none, none]) RX5 (by decide +kernel) rfl (Nat.le_of_ble_eq_true rfl) rfl ?_
  intro X C hT
  unfold fX5_spare at h
  refine wg_iload_n C dX5_spare_0 rfl ?_
  obtain ⟨q1, e1q, h⟩ := bnd h
  refine wg_callT (n := 1) (As := [.int x1]) (st := []) (st' := [.int q1]) C (sX5_isMember cn bk st r0 r1 r2 r3 r4 li fo tx co ke rf cp lk fl em tm rd x1 q1 e1q) gX5_spare_X5_isMember rfl (by decide +kernel) ⟨⟨rfl, rfl⟩, Nat.le_of_ble_eq_true rfl, Nat.le_of_ble_eq_true rfl⟩ rfl rfl (Nat.le_of_ble_eq_true rfl) dX5_spare_1 rfl ?_
  refine wg_if_ne (tgt := 14) C dX5_spare_4 (by decide) (fun c2 => ?_) (fun c2 => ?_)
  · replace h := ifP c2 h
    refine wg_iconst (v := -1) C dX5_spare_14 (by decide) ?_
    refine wg_istore_n (lv' := [some (.ref 0), some (.int x1), some (.int (-1 : Int32)), none, none, none]) C dX5_spare_15 (Nat.le_of_ble_eq_true rfl) rfl ?_
    refine wg_ldcf (v := 3212836864) C (by decide +kernel) dX5_spare_16 ?_
    refine wg_fstore_n (lv' := [some (.ref 0), some (.int x1), some (.int (-1 : Int32)), some (.float (3212836864 : UInt32)), none, none]) C dX5_spare_18 (Nat.le_of_ble_eq_true rfl) rfl ?_
    refine wg_iconst (v := 0) C dX5_spare_19 (by decide) ?_
    refine wg_istore (lv' := [some (.ref 0), some (.int x1), some (.int (-1 : Int32)), some (.float (3212836864 : UInt32)), some (.int (0 : Int32)), none]) C dX5_spare_20 (Nat.le_of_ble_eq_true rfl) rfl ?_
    obtain ⟨t9, hL9, h⟩ := bnd h
    refine slX5_spare_22 X C cn bk st r0 r1 r2 r3 r4 li fo tx co ke rf cp lk fl em tm rd x1 t9 (fun a e => ?_) FU ((-1 : Int32), (3212836864 : UInt32), (0 : Int32), li, fo) hL9
    subst e
    refine wg_iload_n C dX5_spare_76 rfl ?_
    obtain rfl := Option.some.inj h
    exact wg_iret C hT dX5_spare_77
  · replace h := ifN c2 h
    refine wg_aload_n C dX5_spare_7 rfl ?_
    refine wg_bipush (v := -2) C dX5_spare_8 (by decide) ?_
    obtain ⟨q10, e10q, h⟩ := bnd h
    refine wg_callV (n := 1) (As := [.int (-2 : Int32)]) (st := []) (st' := [.int q10.1]) C (sX5_refuseBad cn bk st r0 r1 r2 r3 r4 li fo tx co ke rf cp lk fl em tm rd (-2 : Int32) q10 e10q) gX5_spare_X5_refuseBad rfl (by decide +kernel) ⟨⟨rfl, rfl⟩, Nat.le_of_ble_eq_true rfl, Nat.le_of_ble_eq_true rfl⟩ rfl rfl rfl rfl (Nat.le_of_ble_eq_true rfl) dX5_spare_10 rfl ?_
    obtain rfl := Option.some.inj h
    exact wg_iret C hT dX5_spare_13
abbrev rX4_length : Room := { frames := 0, cells := 0, slots := 0, locals := 0 }
theorem iwX4_length_4 : ∀ w ∈ wsX40, w ∈ wsX4_length := by decide +kernel
theorem fgX4_length_18 : FG wsX4_length RX4 18 4 2 := ⟨RX4, TX4, 5, rfl, by decide, by decide +kernel, iwX4_length_4⟩
set_option maxRecDepth 100000 in
set_option maxHeartbeats 4000000 in
theorem sX4_length (cn : Tcn) (bk : Tbk) (st : Tst) (r0 : Tbk) (r1 : Tbk) (r2 : Tbk) (r3 : Tbk) (r4 : Tbk) (li : Tli) (fo : Tfo) (tx : Ttx) (co : Tco) (ke : Tke) (rf : (Nat → Int32)) (cp : Int32) (lk : Tlk) (fl : Tfl) (em : Int32) (tm : Ttm) (rd : Trd)  (o : Int32) (h : fX4_length tx  = some o) : Sp yX4_length wsX4_length rX4_length [.ref 33] (mkH cn bk st r0 r1 r2 r3 r4 li fo tx co ke rf cp lk fl em tm rd) (some (.int o)) (mkH cn bk st r0 r1 r2 r3 r4 li fo tx co ke rf cp lk fl em tm rd) := by
  refine Sp.of (lv := [some (.ref 33)]) RX4 (by decide +kernel) rfl (Nat.le_of_ble_eq_true rfl) rfl ?_
  intro X C hT
  unfold fX4_length at h
  refine wg_aload_n C dX4_length_0 rfl ?_
  refine wg_get (v := .int tx.2.2.1) C fgX4_length_18 rfl rfl dX4_length_1 ?_
  obtain rfl := Option.some.inj h
  exact wg_iret C hT dX4_length_4
abbrev rX4_append : Room := { frames := 0, cells := 0, slots := 0, locals := 0 }
theorem iwX4_append_4 : ∀ w ∈ wsX40, w ∈ wsX4_append := by decide +kernel
theorem fgX4_append_9 : FG wsX4_append RX4 9 4 0 := ⟨RX4, TX4, 5, rfl, by decide, by decide +kernel, iwX4_append_4⟩
theorem fgX4_append_18 : FG wsX4_append RX4 18 4 2 := ⟨RX4, TX4, 5, rfl, by decide, by decide +kernel, iwX4_append_4⟩
theorem fwX4_append_18 : FW wsX4_append RX4 18 4 2 .int := ⟨RX4, TX4, 5, tyX4, rfl, by decide, by decide +kernel, iwX4_append_4, tyX4_ok, nmX4, rfl, by decide +kernel⟩
set_option maxRecDepth 100000 in
set_option maxHeartbeats 4000000 in
theorem sjX4_append_29 (X : CX) (C : Ok X RX4 cX4_append wsX4_append rX4_append) (cn : Tcn) (bk : Tbk) (st : Tst) (r0 : Tbk) (r1 : Tbk) (r2 : Tbk) (r3 : Tbk) (r4 : Tbk) (li : Tli) (fo : Tfo) (tx : Ttx) (co : Tco) (ke : Tke) (rf : (Nat → Int32)) (cp : Int32) (lk : Tlk) (fl : Tfl) (em : Int32) (tm : Ttm) (rd : Trd)  (o : Int32 × Ttx) (h : jX4_append_29 tx  = some o) (hT : Rt X (some .int) (some (.int o.1)) (mkH cn bk st r0 r1 r2 r3 r4 li fo o.2 co ke rf cp lk fl em tm rd)) : Wg X 29 [some (.ref 33), none] [] (mkH cn bk st r0 r1 r2 r3 r4 li fo tx co ke rf cp lk fl em tm rd) := by
  unfold jX4_append_29 at h
  refine wg_aload_n C dX4_append_29 rfl ?_
  refine wg_get (v := .int tx.2.2.1) C fgX4_append_18 rfl rfl dX4_append_30 ?_
  obtain rfl := Option.some.inj h
  exact wg_iret C hT dX4_append_33
set_option maxRecDepth 100000 in
set_option maxHeartbeats 4000000 in
theorem sX4_append (cn : Tcn) (bk : Tbk) (st : Tst) (r0 : Tbk) (r1 : Tbk) (r2 : Tbk) (r3 : Tbk) (r4 : Tbk) (li : Tli) (fo : Tfo) (tx : Ttx) (co : Tco) (ke : Tke) (rf : (Nat → Int32)) (cp : Int32) (lk : Tlk) (fl : Tfl) (em : Int32) (tm : Ttm) (rd : Trd) (x1 : Int32) (o : Int32 × Ttx) (h : fX4_append tx x1 = some o) : Sp yX4_append wsX4_append rX4_append [.ref 33, .int x1] (mkH cn bk st r0 r1 r2 r3 r4 li fo tx co ke rf cp lk fl em tm rd) (some (.int o.1)) (mkH cn bk st r0 r1 r2 r3 r4 li fo o.2 co ke rf cp lk fl em tm rd) := by
  refine Sp.of (lv := [some (.ref 33), some (.int x1)]) RX4 (by decide +kernel) rfl (Nat.le_of_ble_eq_true rfl) rfl ?_
  intro X C hT
  unfold fX4_append at h
  refine wg_aload_n C dX4_append_0 rfl ?_
  refine wg_get (v := .int tx.2.2.1) C fgX4_append_18 rfl rfl dX4_append_1 ?_
  refine wg_bipush (v := 120) C dX4_append_4 (by decide) ?_
  refine wg_icmp_ge (tgt := 29) C dX4_append_6 (by decide) (fun c1 => ?_) (fun c1 => ?_)
  · replace h := ifP c1 h
    refine wg_drop (lv' := [some (.ref 33), none]) [1] rfl ?_
    exact sjX4_append_29 X C cn bk st r0 r1 r2 r3 r4 li fo tx co ke rf cp lk fl em tm rd  _ h hT
  · replace h := ifN c1 h
    refine wg_aload_n C dX4_append_9 rfl ?_
    refine wg_get (v := .ref 34) C fgX4_append_9 rfl rfl dX4_append_10 ?_
    refine wg_aload_n C dX4_append_13 rfl ?_
    refine wg_get (v := .int tx.2.2.1) C fgX4_append_18 rfl rfl dX4_append_14 ?_
    refine wg_iload_n C dX4_append_17 rfl ?_
    obtain ⟨g2, h⟩ := gdP h
    refine wg_iast (f := tx.1) (n := 120) (hp' := (mkH cn bk st r0 r1 r2 r3 r4 li fo ((upd tx.1 (tx.2.2.1).toNatClampNeg x1), tx.2.1, tx.2.2.1, tx.2.2.2.1, tx.2.2.2.2) co ke rf cp lk fl em tm rd)) C rfl g2 rfl dX4_append_18 ?_
    refine wg_aload_n C dX4_append_19 rfl ?_
    refine wg_dup C dX4_append_20 rfl ?_
    refine wg_get (v := .int tx.2.2.1) C fgX4_append_18 rfl rfl dX4_append_21 ?_
    refine wg_iconst (v := 1) C dX4_append_24 (by decide) ?_
    refine wg_iadd C dX4_append_25 ?_
    refine wg_put (hp' := (mkH cn bk st r0 r1 r2 r3 r4 li fo ((upd tx.1 (tx.2.2.1).toNatClampNeg x1), tx.2.1, (tx.2.2.1 + (1 : Int32)), tx.2.2.2.1, tx.2.2.2.2) co ke rf cp lk fl em tm rd)) C fwX4_append_18 rfl (Nat.le_of_ble_eq_true rfl) rfl rfl rfl dX4_append_26 ?_
    refine wg_drop (lv' := [some (.ref 33), none]) [1] rfl ?_
    exact sjX4_append_29 X C cn bk st r0 r1 r2 r3 r4 li fo ((upd tx.1 (tx.2.2.1).toNatClampNeg x1), tx.2.1, (tx.2.2.1 + (1 : Int32)), tx.2.2.2.1, tx.2.2.2.2) co ke rf cp lk fl em tm rd  _ h hT
abbrev rX5_type : Room := { frames := 1, cells := 0, slots := 0, locals := 22 }
theorem iwX5_type_5 : ∀ w ∈ wsX50, w ∈ wsX5_type := by decide +kernel
theorem fgX5_type_40 : FG wsX5_type RX5 40 5 4 := ⟨RX5, TX5, 8, rfl, by decide, by decide +kernel, iwX5_type_5⟩
set_option maxRecDepth 100000 in
set_option maxHeartbeats 4000000 in
theorem sX5_type (cn : Tcn) (bk : Tbk) (st : Tst) (r0 : Tbk) (r1 : Tbk) (r2 : Tbk) (r3 : Tbk) (r4 : Tbk) (li : Tli) (fo : Tfo) (tx : Ttx) (co : Tco) (ke : Tke) (rf : (Nat → Int32)) (cp : Int32) (lk : Tlk) (fl : Tfl) (em : Int32) (tm : Ttm) (rd : Trd) (x1 : Int32) (o : Int32 × Tcn × Ttx) (h : fX5_type cn tx x1 = some o) : Sp yX5_type wsX5_type rX5_type [.ref 0, .int x1] (mkH cn bk st r0 r1 r2 r3 r4 li fo tx co ke rf cp lk fl em tm rd) (some (.int o.1)) (mkH o.2.1 bk st r0 r1 r2 r3 r4 li fo o.2.2 co ke rf cp lk fl em tm rd) := by
  refine Sp.of (lv := [some (.ref 0), some (.int x1)]) RX5 (by decide +kernel) rfl (Nat.le_of_ble_eq_true rfl) rfl ?_
  intro X C hT
  unfold fX5_type at h
  refine wg_iload_n C dX5_type_0 rfl ?_
  refine wg_iconst (v := 0) C dX5_type_1 (by decide) ?_
  refine wg_bipush (v := 127) C dX5_type_2 (by decide) ?_
  obtain ⟨q1, e1q, h⟩ := bnd h
  refine wg_callT (n := 3) (As := [.int x1, .int (0 : Int32), .int (127 : Int32)]) (st := []) (st' := [.int q1]) C (sX5_isWithin cn bk st r0 r1 r2 r3 r4 li fo tx co ke rf cp lk fl em tm rd x1 (0 : Int32) (127 : Int32) q1 e1q) gX5_type_X5_isWithin rfl (by decide +kernel) ⟨⟨rfl, rfl⟩, Nat.le_of_ble_eq_true rfl, Nat.le_of_ble_eq_true rfl⟩ rfl rfl (Nat.le_of_ble_eq_true rfl) dX5_type_4 rfl ?_
  refine wg_if_ne (tgt := 17) C dX5_type_7 (by decide) (fun c2 => ?_) (fun c2 => ?_)
  · replace h := ifP c2 h
    refine wg_aload_n C dX5_type_17 rfl ?_
    refine wg_get (v := .ref 33) C fgX5_type_40 rfl rfl dX5_type_18 ?_
    obtain ⟨q3, e3q, h⟩ := bnd h
    refine wg_callV (n := 0) (As := []) (st := []) (st' := [.int q3]) C (sX4_length cn bk st r0 r1 r2 r3 r4 li fo tx co ke rf cp lk fl em tm rd  q3 e3q) gX5_type_X4_length rfl (by decide +kernel) ⟨⟨rfl, rfl⟩, Nat.le_of_ble_eq_true rfl, Nat.le_of_ble_eq_true rfl⟩ rfl rfl rfl rfl (Nat.le_of_ble_eq_true rfl) dX5_type_21 rfl ?_
    refine wg_bipush (v := 120) C dX5_type_24 (by decide) ?_
    refine wg_icmp_lt (tgt := 34) C dX5_type_26 (by decide) (fun c4 => ?_) (fun c4 => ?_)
    · replace h := ifP c4 h
      refine wg_aload_n C dX5_type_34 rfl ?_
      refine wg_get (v := .ref 33) C fgX5_type_40 rfl rfl dX5_type_35 ?_
      refine wg_iload_n C dX5_type_38 rfl ?_
      obtain ⟨q5, e5q, h⟩ := bnd h
      refine wg_callV (n := 1) (As := [.int x1]) (st := []) (st' := [.int q5.1]) C (sX4_append cn bk st r0 r1 r2 r3 r4 li fo tx co ke rf cp lk fl em tm rd x1 q5 e5q) gX5_type_X4_append rfl (by decide +kernel) ⟨⟨rfl, rfl⟩, Nat.le_of_ble_eq_true rfl, Nat.le_of_ble_eq_true rfl⟩ rfl rfl rfl rfl (Nat.le_of_ble_eq_true rfl) dX5_type_39 rfl ?_
      obtain rfl := Option.some.inj h
      exact wg_iret C hT dX5_type_42
    · replace h := ifN c4 h
      refine wg_aload_n C dX5_type_29 rfl ?_
      obtain ⟨q6, e6q, h⟩ := bnd h
      refine wg_callV (n := 0) (As := []) (st := []) (st' := [.int q6.1]) C (sX5_refuseFull cn bk st r0 r1 r2 r3 r4 li fo tx co ke rf cp lk fl em tm rd  q6 e6q) gX5_type_X5_refuseFull rfl (by decide +kernel) ⟨⟨rfl, rfl⟩, Nat.le_of_ble_eq_true rfl, Nat.le_of_ble_eq_true rfl⟩ rfl rfl rfl rfl (Nat.le_of_ble_eq_true rfl) dX5_type_30 rfl ?_
      obtain rfl := Option.some.inj h
      exact wg_iret C hT dX5_type_33
  · replace h := ifN c2 h
    refine wg_aload_n C dX5_type_10 rfl ?_
    refine wg_bipush (v := -2) C dX5_type_11 (by decide) ?_
    obtain ⟨q7, e7q, h⟩ := bnd h
    refine wg_callV (n := 1) (As := [.int (-2 : Int32)]) (st := []) (st' := [.int q7.1]) C (sX5_refuseBad cn bk st r0 r1 r2 r3 r4 li fo tx co ke rf cp lk fl em tm rd (-2 : Int32) q7 e7q) gX5_type_X5_refuseBad rfl (by decide +kernel) ⟨⟨rfl, rfl⟩, Nat.le_of_ble_eq_true rfl, Nat.le_of_ble_eq_true rfl⟩ rfl rfl rfl rfl (Nat.le_of_ble_eq_true rfl) dX5_type_13 rfl ?_
    obtain rfl := Option.some.inj h
    exact wg_iret C hT dX5_type_16
abbrev rX4_wipe : Room := { frames := 0, cells := 0, slots := 0, locals := 0 }
theorem iwX4_wipe_4 : ∀ w ∈ wsX40, w ∈ wsX4_wipe := by decide +kernel
theorem fgX4_wipe_18 : FG wsX4_wipe RX4 18 4 2 := ⟨RX4, TX4, 5, rfl, by decide, by decide +kernel, iwX4_wipe_4⟩
theorem fwX4_wipe_18 : FW wsX4_wipe RX4 18 4 2 .int := ⟨RX4, TX4, 5, tyX4, rfl, by decide, by decide +kernel, iwX4_wipe_4, tyX4_ok, nmX4, rfl, by decide +kernel⟩
set_option maxRecDepth 100000 in
set_option maxHeartbeats 4000000 in
theorem sX4_wipe (cn : Tcn) (bk : Tbk) (st : Tst) (r0 : Tbk) (r1 : Tbk) (r2 : Tbk) (r3 : Tbk) (r4 : Tbk) (li : Tli) (fo : Tfo) (tx : Ttx) (co : Tco) (ke : Tke) (rf : (Nat → Int32)) (cp : Int32) (lk : Tlk) (fl : Tfl) (em : Int32) (tm : Ttm) (rd : Trd)  (o : Int32 × Ttx) (h : fX4_wipe tx  = some o) : Sp yX4_wipe wsX4_wipe rX4_wipe [.ref 33] (mkH cn bk st r0 r1 r2 r3 r4 li fo tx co ke rf cp lk fl em tm rd) (some (.int o.1)) (mkH cn bk st r0 r1 r2 r3 r4 li fo o.2 co ke rf cp lk fl em tm rd) := by
  refine Sp.of (lv := [some (.ref 33), none]) RX4 (by decide +kernel) rfl (Nat.le_of_ble_eq_true rfl) rfl ?_
  intro X C hT
  unfold fX4_wipe at h
  refine wg_aload_n C dX4_wipe_0 rfl ?_
  refine wg_get (v := .int tx.2.2.1) C fgX4_wipe_18 rfl rfl dX4_wipe_1 ?_
  refine wg_istore_n (lv' := [some (.ref 33), some (.int tx.2.2.1)]) C dX4_wipe_4 (Nat.le_of_ble_eq_true rfl) rfl ?_
  refine wg_aload_n C dX4_wipe_5 rfl ?_
  refine wg_iconst (v := 0) C dX4_wipe_6 (by decide) ?_
  refine wg_put (hp' := (mkH cn bk st r0 r1 r2 r3 r4 li fo (tx.1, tx.2.1, (0 : Int32), tx.2.2.2.1, tx.2.2.2.2) co ke rf cp lk fl em tm rd)) C fwX4_wipe_18 rfl (Nat.le_of_ble_eq_true rfl) rfl rfl rfl dX4_wipe_7 ?_
  refine wg_iload_n C dX4_wipe_10 rfl ?_
  obtain rfl := Option.some.inj h
  exact wg_iret C hT dX4_wipe_11
abbrev rX5_clear : Room := { frames := 1, cells := 0, slots := 0, locals := 21 }
theorem iwX5_clear_5 : ∀ w ∈ wsX50, w ∈ wsX5_clear := by decide +kernel
theorem fgX5_clear_40 : FG wsX5_clear RX5 40 5 4 := ⟨RX5, TX5, 8, rfl, by decide, by decide +kernel, iwX5_clear_5⟩
set_option maxRecDepth 100000 in
set_option maxHeartbeats 4000000 in
theorem sX5_clear (cn : Tcn) (bk : Tbk) (st : Tst) (r0 : Tbk) (r1 : Tbk) (r2 : Tbk) (r3 : Tbk) (r4 : Tbk) (li : Tli) (fo : Tfo) (tx : Ttx) (co : Tco) (ke : Tke) (rf : (Nat → Int32)) (cp : Int32) (lk : Tlk) (fl : Tfl) (em : Int32) (tm : Ttm) (rd : Trd)  (o : Int32 × Ttx) (h : fX5_clear tx  = some o) : Sp yX5_clear wsX5_clear rX5_clear [.ref 0] (mkH cn bk st r0 r1 r2 r3 r4 li fo tx co ke rf cp lk fl em tm rd) (some (.int o.1)) (mkH cn bk st r0 r1 r2 r3 r4 li fo o.2 co ke rf cp lk fl em tm rd) := by
  refine Sp.of (lv := [some (.ref 0)]) RX5 (by decide +kernel) rfl (Nat.le_of_ble_eq_true rfl) rfl ?_
  intro X C hT
  unfold fX5_clear at h
  refine wg_aload_n C dX5_clear_0 rfl ?_
  refine wg_get (v := .ref 33) C fgX5_clear_40 rfl rfl dX5_clear_1 ?_
  obtain ⟨q1, e1q, h⟩ := bnd h
  refine wg_callV (n := 0) (As := []) (st := []) (st' := [.int q1.1]) C (sX4_wipe cn bk st r0 r1 r2 r3 r4 li fo tx co ke rf cp lk fl em tm rd  q1 e1q) gX5_clear_X4_wipe rfl (by decide +kernel) ⟨⟨rfl, rfl⟩, Nat.le_of_ble_eq_true rfl, Nat.le_of_ble_eq_true rfl⟩ rfl rfl rfl rfl (Nat.le_of_ble_eq_true rfl) dX5_clear_4 rfl ?_
  obtain rfl := Option.some.inj h
  exact wg_iret C hT dX5_clear_7
abbrev rX4_here : Room := { frames := 0, cells := 0, slots := 0, locals := 0 }
theorem iwX4_here_4 : ∀ w ∈ wsX40, w ∈ wsX4_here := by decide +kernel
theorem fgX4_here_9 : FG wsX4_here RX4 9 4 0 := ⟨RX4, TX4, 5, rfl, by decide, by decide +kernel, iwX4_here_4⟩
theorem fgX4_here_18 : FG wsX4_here RX4 18 4 2 := ⟨RX4, TX4, 5, rfl, by decide, by decide +kernel, iwX4_here_4⟩
theorem fgX4_here_29 : FG wsX4_here RX4 29 4 3 := ⟨RX4, TX4, 5, rfl, by decide, by decide +kernel, iwX4_here_4⟩
set_option maxRecDepth 100000 in
set_option maxHeartbeats 4000000 in
theorem sjX4_here_31 (X : CX) (C : Ok X RX4 cX4_here wsX4_here rX4_here) (cn : Tcn) (bk : Tbk) (st : Tst) (r0 : Tbk) (r1 : Tbk) (r2 : Tbk) (r3 : Tbk) (r4 : Tbk) (li : Tli) (fo : Tfo) (tx : Ttx) (co : Tco) (ke : Tke) (rf : (Nat → Int32)) (cp : Int32) (lk : Tlk) (fl : Tfl) (em : Int32) (tm : Ttm) (rd : Trd) (y0 : Int32) (o : Int32) (h : jX4_here_31 tx y0 = some o) (hT : Rt X (some .int) (some (.int o)) (mkH cn bk st r0 r1 r2 r3 r4 li fo tx co ke rf cp lk fl em tm rd)) : Wg X 31 [none] [.int y0] (mkH cn bk st r0 r1 r2 r3 r4 li fo tx co ke rf cp lk fl em tm rd) := by
  unfold jX4_here_31 at h
  obtain rfl := Option.some.inj h
  exact wg_iret C hT dX4_here_31
set_option maxRecDepth 100000 in
set_option maxHeartbeats 4000000 in
theorem sjX4_here_30 (X : CX) (C : Ok X RX4 cX4_here wsX4_here rX4_here) (cn : Tcn) (bk : Tbk) (st : Tst) (r0 : Tbk) (r1 : Tbk) (r2 : Tbk) (r3 : Tbk) (r4 : Tbk) (li : Tli) (fo : Tfo) (tx : Ttx) (co : Tco) (ke : Tke) (rf : (Nat → Int32)) (cp : Int32) (lk : Tlk) (fl : Tfl) (em : Int32) (tm : Ttm) (rd : Trd)  (o : Int32) (h : jX4_here_30 tx  = some o) (hT : Rt X (some .int) (some (.int o)) (mkH cn bk st r0 r1 r2 r3 r4 li fo tx co ke rf cp lk fl em tm rd)) : Wg X 30 [none] [] (mkH cn bk st r0 r1 r2 r3 r4 li fo tx co ke rf cp lk fl em tm rd) := by
  unfold jX4_here_30 at h
  refine wg_iconst (v := -1) C dX4_here_30 (by decide) ?_
  exact sjX4_here_31 X C cn bk st r0 r1 r2 r3 r4 li fo tx co ke rf cp lk fl em tm rd (-1 : Int32) _ h hT
set_option maxRecDepth 100000 in
set_option maxHeartbeats 4000000 in
theorem sX4_here (cn : Tcn) (bk : Tbk) (st : Tst) (r0 : Tbk) (r1 : Tbk) (r2 : Tbk) (r3 : Tbk) (r4 : Tbk) (li : Tli) (fo : Tfo) (tx : Ttx) (co : Tco) (ke : Tke) (rf : (Nat → Int32)) (cp : Int32) (lk : Tlk) (fl : Tfl) (em : Int32) (tm : Ttm) (rd : Trd)  (o : Int32) (h : fX4_here tx  = some o) : Sp yX4_here wsX4_here rX4_here [.ref 33] (mkH cn bk st r0 r1 r2 r3 r4 li fo tx co ke rf cp lk fl em tm rd) (some (.int o)) (mkH cn bk st r0 r1 r2 r3 r4 li fo tx co ke rf cp lk fl em tm rd) := by
  refine Sp.of (lv := [some (.ref 33)]) RX4 (by decide +kernel) rfl (Nat.le_of_ble_eq_true rfl) rfl ?_
  intro X C hT
  unfold fX4_here at h
  refine wg_aload_n C dX4_here_0 rfl ?_
  refine wg_get (v := .int tx.2.2.2.1) C fgX4_here_29 rfl rfl dX4_here_1 ?_
  refine wg_if_lt (tgt := 30) C dX4_here_4 (by decide) (fun c1 => ?_) (fun c1 => ?_)
  · replace h := ifP c1 h
    refine wg_drop (lv' := [none]) [0] rfl ?_
    exact sjX4_here_30 X C cn bk st r0 r1 r2 r3 r4 li fo tx co ke rf cp lk fl em tm rd  _ h hT
  · replace h := ifN c1 h
    refine wg_aload_n C dX4_here_7 rfl ?_
    refine wg_get (v := .int tx.2.2.2.1) C fgX4_here_29 rfl rfl dX4_here_8 ?_
    refine wg_aload_n C dX4_here_11 rfl ?_
    refine wg_get (v := .int tx.2.2.1) C fgX4_here_18 rfl rfl dX4_here_12 ?_
    refine wg_icmp_ge (tgt := 30) C dX4_here_15 (by decide) (fun c2 => ?_) (fun c2 => ?_)
    · replace h := ifP c2 h
      refine wg_drop (lv' := [none]) [0] rfl ?_
      exact sjX4_here_30 X C cn bk st r0 r1 r2 r3 r4 li fo tx co ke rf cp lk fl em tm rd  _ h hT
    · replace h := ifN c2 h
      refine wg_aload_n C dX4_here_18 rfl ?_
      refine wg_get (v := .ref 34) C fgX4_here_9 rfl rfl dX4_here_19 ?_
      refine wg_aload_n C dX4_here_22 rfl ?_
      refine wg_get (v := .int tx.2.2.2.1) C fgX4_here_29 rfl rfl dX4_here_23 ?_
      obtain ⟨g3, h⟩ := gdP h
      refine wg_iald (f := tx.1) (n := 120) C rfl g3 dX4_here_26 ?_
      refine wg_goto (tgt := 31) C dX4_here_27 (by decide) ?_
      refine wg_drop (lv' := [none]) [0] rfl ?_
      exact sjX4_here_31 X C cn bk st r0 r1 r2 r3 r4 li fo tx co ke rf cp lk fl em tm rd (tx.1 (tx.2.2.2.1).toNatClampNeg) _ h hT
abbrev rX4_skipBlanks : Room := { frames := 1, cells := 0, slots := 0, locals := 20 }
theorem iwX4_skipBlanks_4 : ∀ w ∈ wsX40, w ∈ wsX4_skipBlanks := by decide +kernel
theorem fgX4_skipBlanks_18 : FG wsX4_skipBlanks RX4 18 4 2 := ⟨RX4, TX4, 5, rfl, by decide, by decide +kernel, iwX4_skipBlanks_4⟩
theorem fgX4_skipBlanks_29 : FG wsX4_skipBlanks RX4 29 4 3 := ⟨RX4, TX4, 5, rfl, by decide, by decide +kernel, iwX4_skipBlanks_4⟩
theorem fwX4_skipBlanks_29 : FW wsX4_skipBlanks RX4 29 4 3 .int := ⟨RX4, TX4, 5, tyX4, rfl, by decide, by decide +kernel, iwX4_skipBlanks_4, tyX4_ok, nmX4, rfl, by decide +kernel⟩
set_option maxRecDepth 100000 in
set_option maxHeartbeats 4000000 in
theorem sbX4_skipBlanks_0 (X : CX) (C : Ok X RX4 cX4_skipBlanks wsX4_skipBlanks rX4_skipBlanks) (cn : Tcn) (bk : Tbk) (st : Tst) (r0 : Tbk) (r1 : Tbk) (r2 : Tbk) (r3 : Tbk) (r4 : Tbk) (li : Tli) (fo : Tfo) (tx : Ttx) (co : Tco) (ke : Tke) (rf : (Nat → Int32)) (cp : Int32) (lk : Tlk) (fl : Tfl) (em : Int32) (tm : Ttm) (rd : Trd)  (z : Ttx) (o : (Ttx) ⊕ Ttx) (h : bX4_skipBlanks_0   z = some o) (k0 : ∀ a : Ttx, o = .inl a → Wg X 0 [some (.ref 33)] [] (mkH cn bk st r0 r1 r2 r3 r4 li fo a co ke rf cp lk fl em tm rd)) (e0 : ∀ a : Ttx, o = .inr a → Wg X 33 [none] [] (mkH cn bk st r0 r1 r2 r3 r4 li fo a co ke rf cp lk fl em tm rd)) : Wg X 0 [some (.ref 33)] [] (mkH cn bk st r0 r1 r2 r3 r4 li fo z co ke rf cp lk fl em tm rd) := by
  unfold bX4_skipBlanks_0 at h
  refine wg_aload_n C dX4_skipBlanks_0 rfl ?_
  refine wg_get (v := .int z.2.2.2.1) C fgX4_skipBlanks_29 rfl rfl dX4_skipBlanks_1 ?_
  refine wg_aload_n C dX4_skipBlanks_4 rfl ?_
  refine wg_get (v := .int z.2.2.1) C fgX4_skipBlanks_18 rfl rfl dX4_skipBlanks_5 ?_
  refine wg_icmp_ge (tgt := 33) C dX4_skipBlanks_8 (by decide) (fun c4 => ?_) (fun c4 => ?_)
  · replace h := ifP c4 h
    refine wg_drop (lv' := [none]) [0] rfl ?_
    have hk := e0 _ (Option.some.inj h).symm
    exact hk
  · replace h := ifN c4 h
    refine wg_aload_n C dX4_skipBlanks_11 rfl ?_
    obtain ⟨q5, e5q, h⟩ := bnd h
    refine wg_callV (n := 0) (As := []) (st := []) (st' := [.int q5]) C (sX4_here cn bk st r0 r1 r2 r3 r4 li fo z co ke rf cp lk fl em tm rd  q5 e5q) gX4_skipBlanks_X4_here rfl (by decide +kernel) ⟨⟨rfl, rfl⟩, Nat.le_of_ble_eq_true rfl, Nat.le_of_ble_eq_true rfl⟩ rfl rfl rfl rfl (Nat.le_of_ble_eq_true rfl) dX4_skipBlanks_12 rfl ?_
    refine wg_bipush (v := 32) C dX4_skipBlanks_15 (by decide) ?_
    refine wg_icmp_ne (tgt := 33) C dX4_skipBlanks_17 (by decide) (fun c6 => ?_) (fun c6 => ?_)
    · replace h := ifP c6 h
      refine wg_drop (lv' := [none]) [0] rfl ?_
      have hk := e0 _ (Option.some.inj h).symm
      exact hk
    · replace h := ifN c6 h
      refine wg_aload_n C dX4_skipBlanks_20 rfl ?_
      refine wg_dup C dX4_skipBlanks_21 rfl ?_
      refine wg_get (v := .int z.2.2.2.1) C fgX4_skipBlanks_29 rfl rfl dX4_skipBlanks_22 ?_
      refine wg_iconst (v := 1) C dX4_skipBlanks_25 (by decide) ?_
      refine wg_iadd C dX4_skipBlanks_26 ?_
      refine wg_put (hp' := (mkH cn bk st r0 r1 r2 r3 r4 li fo (z.1, z.2.1, z.2.2.1, (z.2.2.2.1 + (1 : Int32)), z.2.2.2.2) co ke rf cp lk fl em tm rd)) C fwX4_skipBlanks_29 rfl (Nat.le_of_ble_eq_true rfl) rfl rfl rfl dX4_skipBlanks_27 ?_
      refine wg_goto (tgt := 0) C dX4_skipBlanks_30 (by decide) ?_
      have hk := k0 _ (Option.some.inj h).symm
      exact hk
set_option maxRecDepth 100000 in
set_option maxHeartbeats 4000000 in
theorem slX4_skipBlanks_0 (X : CX) (C : Ok X RX4 cX4_skipBlanks wsX4_skipBlanks rX4_skipBlanks) (cn : Tcn) (bk : Tbk) (st : Tst) (r0 : Tbk) (r1 : Tbk) (r2 : Tbk) (r3 : Tbk) (r4 : Tbk) (li : Tli) (fo : Tfo) (tx : Ttx) (co : Tco) (ke : Tke) (rf : (Nat → Int32)) (cp : Int32) (lk : Tlk) (fl : Tfl) (em : Int32) (tm : Ttm) (rd : Trd)  (o : Ttx) (e0 : ∀ a : Ttx, o = a → Wg X 33 [none] [] (mkH cn bk st r0 r1 r2 r3 r4 li fo a co ke rf cp lk fl em tm rd)) : ∀ (n : Nat) (z : Ttx), lpF (bX4_skipBlanks_0  ) n z = some o → Wg X 0 [some (.ref 33)] [] (mkH cn bk st r0 r1 r2 r3 r4 li fo z co ke rf cp lk fl em tm rd) := by
  intro n
  induction n with
  | zero => intro z h; cases h
  | succ n ih =>
    intro z h
    obtain ⟨r, hB, h⟩ := bnd h
    refine sbX4_skipBlanks_0 X C cn bk st r0 r1 r2 r3 r4 li fo tx co ke rf cp lk fl em tm rd  z r hB (fun a e => ih a (by subst e; exact h)) (fun a e => e0 a (by subst e; exact (Option.some.inj h).symm))
set_option maxRecDepth 100000 in
set_option maxHeartbeats 4000000 in
theorem sX4_skipBlanks (cn : Tcn) (bk : Tbk) (st : Tst) (r0 : Tbk) (r1 : Tbk) (r2 : Tbk) (r3 : Tbk) (r4 : Tbk) (li : Tli) (fo : Tfo) (tx : Ttx) (co : Tco) (ke : Tke) (rf : (Nat → Int32)) (cp : Int32) (lk : Tlk) (fl : Tfl) (em : Int32) (tm : Ttm) (rd : Trd)  (o : Ttx) (h : fX4_skipBlanks tx  = some o) : Sp yX4_skipBlanks wsX4_skipBlanks rX4_skipBlanks [.ref 33] (mkH cn bk st r0 r1 r2 r3 r4 li fo tx co ke rf cp lk fl em tm rd) none (mkH cn bk st r0 r1 r2 r3 r4 li fo o co ke rf cp lk fl em tm rd) := by
  refine Sp.of (lv := [some (.ref 33)]) RX4 (by decide +kernel) rfl (Nat.le_of_ble_eq_true rfl) rfl ?_
  intro X C hT
  unfold fX4_skipBlanks at h
  refine wg_aload_n C dX4_skipBlanks_0 rfl ?_
  refine wg_get (v := .int tx.2.2.2.1) C fgX4_skipBlanks_29 rfl rfl dX4_skipBlanks_1 ?_
  refine wg_aload_n C dX4_skipBlanks_4 rfl ?_
  refine wg_get (v := .int tx.2.2.1) C fgX4_skipBlanks_18 rfl rfl dX4_skipBlanks_5 ?_
  refine wg_icmp_ge (tgt := 33) C dX4_skipBlanks_8 (by decide) (fun c1 => ?_) (fun c1 => ?_)
  · replace h := ifP c1 h
    obtain rfl := Option.some.inj h
    exact wg_vret C hT dX4_skipBlanks_33
  · replace h := ifN c1 h
    refine wg_aload_n C dX4_skipBlanks_11 rfl ?_
    obtain ⟨q2, e2q, h⟩ := bnd h
    refine wg_callV (n := 0) (As := []) (st := []) (st' := [.int q2]) C (sX4_here cn bk st r0 r1 r2 r3 r4 li fo tx co ke rf cp lk fl em tm rd  q2 e2q) gX4_skipBlanks_X4_here rfl (by decide +kernel) ⟨⟨rfl, rfl⟩, Nat.le_of_ble_eq_true rfl, Nat.le_of_ble_eq_true rfl⟩ rfl rfl rfl rfl (Nat.le_of_ble_eq_true rfl) dX4_skipBlanks_12 rfl ?_
    refine wg_bipush (v := 32) C dX4_skipBlanks_15 (by decide) ?_
    refine wg_icmp_ne (tgt := 33) C dX4_skipBlanks_17 (by decide) (fun c3 => ?_) (fun c3 => ?_)
    · replace h := ifP c3 h
      obtain rfl := Option.some.inj h
      exact wg_vret C hT dX4_skipBlanks_33
    · replace h := ifN c3 h
      refine wg_aload_n C dX4_skipBlanks_20 rfl ?_
      refine wg_dup C dX4_skipBlanks_21 rfl ?_
      refine wg_get (v := .int tx.2.2.2.1) C fgX4_skipBlanks_29 rfl rfl dX4_skipBlanks_22 ?_
      refine wg_iconst (v := 1) C dX4_skipBlanks_25 (by decide) ?_
      refine wg_iadd C dX4_skipBlanks_26 ?_
      refine wg_put (hp' := (mkH cn bk st r0 r1 r2 r3 r4 li fo (tx.1, tx.2.1, tx.2.2.1, (tx.2.2.2.1 + (1 : Int32)), tx.2.2.2.2) co ke rf cp lk fl em tm rd)) C fwX4_skipBlanks_29 rfl (Nat.le_of_ble_eq_true rfl) rfl rfl rfl dX4_skipBlanks_27 ?_
      refine wg_goto (tgt := 0) C dX4_skipBlanks_30 (by decide) ?_
      obtain ⟨t7, hL7, h⟩ := bnd h
      refine slX4_skipBlanks_0 X C cn bk st r0 r1 r2 r3 r4 li fo (tx.1, tx.2.1, tx.2.2.1, (tx.2.2.2.1 + (1 : Int32)), tx.2.2.2.2) co ke rf cp lk fl em tm rd  t7 (fun a e => ?_) FU (tx.1, tx.2.1, tx.2.2.1, (tx.2.2.2.1 + (1 : Int32)), tx.2.2.2.2) hL7
      subst e
      obtain rfl := Option.some.inj h
      exact wg_vret C hT dX4_skipBlanks_33
abbrev rX4_keepNote : Room := { frames := 0, cells := 0, slots := 0, locals := 0 }
theorem iwX4_keepNote_4 : ∀ w ∈ wsX40, w ∈ wsX4_keepNote := by decide +kernel
theorem fgX4_keepNote_15 : FG wsX4_keepNote RX4 15 4 1 := ⟨RX4, TX4, 5, rfl, by decide, by decide +kernel, iwX4_keepNote_4⟩
set_option maxRecDepth 100000 in
set_option maxHeartbeats 4000000 in
theorem sjX4_keepNote_20 (X : CX) (C : Ok X RX4 cX4_keepNote wsX4_keepNote rX4_keepNote) (cn : Tcn) (bk : Tbk) (st : Tst) (r0 : Tbk) (r1 : Tbk) (r2 : Tbk) (r3 : Tbk) (r4 : Tbk) (li : Tli) (fo : Tfo) (tx : Ttx) (co : Tco) (ke : Tke) (rf : (Nat → Int32)) (cp : Int32) (lk : Tlk) (fl : Tfl) (em : Int32) (tm : Ttm) (rd : Trd)  (o : Int32 × Ttx) (h : jX4_keepNote_20 tx  = some o) (hT : Rt X (some .int) (some (.int o.1)) (mkH cn bk st r0 r1 r2 r3 r4 li fo o.2 co ke rf cp lk fl em tm rd)) : Wg X 20 [none, none, none] [] (mkH cn bk st r0 r1 r2 r3 r4 li fo tx co ke rf cp lk fl em tm rd) := by
  unfold jX4_keepNote_20 at h
  refine wg_iconst (v := -1) C dX4_keepNote_20 (by decide) ?_
  obtain rfl := Option.some.inj h
  exact wg_iret C hT dX4_keepNote_21
set_option maxRecDepth 100000 in
set_option maxHeartbeats 4000000 in
theorem sX4_keepNote (cn : Tcn) (bk : Tbk) (st : Tst) (r0 : Tbk) (r1 : Tbk) (r2 : Tbk) (r3 : Tbk) (r4 : Tbk) (li : Tli) (fo : Tfo) (tx : Ttx) (co : Tco) (ke : Tke) (rf : (Nat → Int32)) (cp : Int32) (lk : Tlk) (fl : Tfl) (em : Int32) (tm : Ttm) (rd : Trd) (x1 : Int32) (x2 : Int32) (o : Int32 × Ttx) (h : fX4_keepNote tx x1 x2 = some o) : Sp yX4_keepNote wsX4_keepNote rX4_keepNote [.ref 33, .int x1, .int x2] (mkH cn bk st r0 r1 r2 r3 r4 li fo tx co ke rf cp lk fl em tm rd) (some (.int o.1)) (mkH cn bk st r0 r1 r2 r3 r4 li fo o.2 co ke rf cp lk fl em tm rd) := by
  refine Sp.of (lv := [some (.ref 33), some (.int x1), some (.int x2)]) RX4 (by decide +kernel) rfl (Nat.le_of_ble_eq_true rfl) rfl ?_
  intro X C hT
  unfold fX4_keepNote at h
  refine wg_iload_n C dX4_keepNote_0 rfl ?_
  refine wg_if_lt (tgt := 20) C dX4_keepNote_1 (by decide) (fun c1 => ?_) (fun c1 => ?_)
  · replace h := ifP c1 h
    refine wg_drop (lv' := [none, none, none]) [0, 1, 2] rfl ?_
    exact sjX4_keepNote_20 X C cn bk st r0 r1 r2 r3 r4 li fo tx co ke rf cp lk fl em tm rd  _ h hT
  · replace h := ifN c1 h
    refine wg_iload_n C dX4_keepNote_4 rfl ?_
    refine wg_aload_n C dX4_keepNote_5 rfl ?_
    refine wg_get (v := .ref 35) C fgX4_keepNote_15 rfl rfl dX4_keepNote_6 ?_
    refine wg_alen (v := 200) C rfl rfl rfl dX4_keepNote_9 ?_
    refine wg_icmp_ge (tgt := 20) C dX4_keepNote_10 (by decide) (fun c2 => ?_) (fun c2 => ?_)
    · replace h := ifP c2 h
      refine wg_drop (lv' := [none, none, none]) [0, 1, 2] rfl ?_
      exact sjX4_keepNote_20 X C cn bk st r0 r1 r2 r3 r4 li fo tx co ke rf cp lk fl em tm rd  _ h hT
    · replace h := ifN c2 h
      refine wg_aload_n C dX4_keepNote_13 rfl ?_
      refine wg_get (v := .ref 35) C fgX4_keepNote_15 rfl rfl dX4_keepNote_14 ?_
      refine wg_iload_n C dX4_keepNote_17 rfl ?_
      refine wg_iload_n C dX4_keepNote_18 rfl ?_
      obtain ⟨g3, h⟩ := gdP h
      refine wg_iast (f := tx.2.1) (n := 200) (hp' := (mkH cn bk st r0 r1 r2 r3 r4 li fo (tx.1, (upd tx.2.1 (x1).toNatClampNeg x2), tx.2.2.1, tx.2.2.2.1, tx.2.2.2.2) co ke rf cp lk fl em tm rd)) C rfl g3 rfl dX4_keepNote_19 ?_
      refine wg_drop (lv' := [none, none, none]) [0, 1, 2] rfl ?_
      exact sjX4_keepNote_20 X C cn bk st r0 r1 r2 r3 r4 li fo (tx.1, (upd tx.2.1 (x1).toNatClampNeg x2), tx.2.2.1, tx.2.2.2.1, tx.2.2.2.2) co ke rf cp lk fl em tm rd  _ h hT
abbrev rX4_parseNumber : Room := { frames := 1, cells := 0, slots := 0, locals := 22 }
theorem iwX4_parseNumber_4 : ∀ w ∈ wsX40, w ∈ wsX4_parseNumber := by decide +kernel
theorem fgX4_parseNumber_18 : FG wsX4_parseNumber RX4 18 4 2 := ⟨RX4, TX4, 5, rfl, by decide, by decide +kernel, iwX4_parseNumber_4⟩
theorem fgX4_parseNumber_29 : FG wsX4_parseNumber RX4 29 4 3 := ⟨RX4, TX4, 5, rfl, by decide, by decide +kernel, iwX4_parseNumber_4⟩
theorem fwX4_parseNumber_29 : FW wsX4_parseNumber RX4 29 4 3 .int := ⟨RX4, TX4, 5, tyX4, rfl, by decide, by decide +kernel, iwX4_parseNumber_4, tyX4_ok, nmX4, rfl, by decide +kernel⟩
set_option maxRecDepth 100000 in
set_option maxHeartbeats 4000000 in
theorem sbX4_parseNumber_40 (X : CX) (C : Ok X RX4 cX4_parseNumber wsX4_parseNumber rX4_parseNumber) (cn : Tcn) (bk : Tbk) (st : Tst) (r0 : Tbk) (r1 : Tbk) (r2 : Tbk) (r3 : Tbk) (r4 : Tbk) (li : Tli) (fo : Tfo) (tx : Ttx) (co : Tco) (ke : Tke) (rf : (Nat → Int32)) (cp : Int32) (lk : Tlk) (fl : Tfl) (em : Int32) (tm : Ttm) (rd : Trd) (x1 : Int32) (x2 : Int32) (x3 : Int32) (z : Int32 × Int32 × Ttx) (o : (Int32 × Int32 × Ttx) ⊕ (Int32 × Int32 × Ttx)) (h : bX4_parseNumber_40  x1 x2 x3 z = some o) (k0 : ∀ a : Int32 × Int32 × Ttx, o = .inl a → Wg X 40 [some (.ref 33), some (.int x1), some (.int x2), some (.int x3), some (.int a.1), some (.int a.2.1)] [] (mkH cn bk st r0 r1 r2 r3 r4 li fo a.2.2 co ke rf cp lk fl em tm rd)) (e0 : ∀ a : Int32 × Int32 × Ttx, o = .inr a → Wg X 96 [some (.ref 33), some (.int x1), some (.int x2), some (.int x3), some (.int a.1), some (.int a.2.1)] [] (mkH cn bk st r0 r1 r2 r3 r4 li fo a.2.2 co ke rf cp lk fl em tm rd)) : Wg X 40 [some (.ref 33), some (.int x1), some (.int x2), some (.int x3), some (.int z.1), some (.int z.2.1)] [] (mkH cn bk st r0 r1 r2 r3 r4 li fo z.2.2 co ke rf cp lk fl em tm rd) := by
  unfold bX4_parseNumber_40 at h
  refine wg_aload_n C dX4_parseNumber_40 rfl ?_
  refine wg_get (v := .int z.2.2.2.2.2.1) C fgX4_parseNumber_29 rfl rfl dX4_parseNumber_41 ?_
  refine wg_aload_n C dX4_parseNumber_44 rfl ?_
  refine wg_get (v := .int z.2.2.2.2.1) C fgX4_parseNumber_18 rfl rfl dX4_parseNumber_45 ?_
  refine wg_icmp_ge (tgt := 96) C dX4_parseNumber_48 (by decide) (fun c4 => ?_) (fun c4 => ?_)
  · replace h := ifP c4 h
    have hk := e0 _ (Option.some.inj h).symm
    exact hk
  · replace h := ifN c4 h
    refine wg_aload_n C dX4_parseNumber_51 rfl ?_
    obtain ⟨q5, e5q, h⟩ := bnd h
    refine wg_callV (n := 0) (As := []) (st := []) (st' := [.int q5]) C (sX4_here cn bk st r0 r1 r2 r3 r4 li fo z.2.2 co ke rf cp lk fl em tm rd  q5 e5q) gX4_parseNumber_X4_here rfl (by decide +kernel) ⟨⟨rfl, rfl⟩, Nat.le_of_ble_eq_true rfl, Nat.le_of_ble_eq_true rfl⟩ rfl rfl rfl rfl (Nat.le_of_ble_eq_true rfl) dX4_parseNumber_52 rfl ?_
    refine wg_bipush (v := 48) C dX4_parseNumber_55 (by decide) ?_
    refine wg_bipush (v := 57) C dX4_parseNumber_57 (by decide) ?_
    obtain ⟨q6, e6q, h⟩ := bnd h
    refine wg_callN (n := 3) (As := [.int q5, .int (48 : Int32), .int (57 : Int32)]) (st := []) (st' := [.int q6]) C (sX5_isWithin cn bk st r0 r1 r2 r3 r4 li fo z.2.2 co ke rf cp lk fl em tm rd q5 (48 : Int32) (57 : Int32) q6 e6q) (fun U h => h.2.2.2.1) gX4_parseNumber_X5_isWithin_n56 ⟨by decide +kernel, by decide +kernel⟩ rfl (by decide +kernel) ⟨⟨rfl, rfl⟩, Nat.le_of_ble_eq_true rfl, Nat.le_of_ble_eq_true rfl⟩ rfl rfl (Nat.le_of_ble_eq_true rfl) dX4_parseNumber_59 rfl ?_
    refine wg_if_eq (tgt := 96) C dX4_parseNumber_62 (by decide) (fun c7 => ?_) (fun c7 => ?_)
    · replace h := ifP c7 h
      have hk := e0 _ (Option.some.inj h).symm
      exact hk
    · replace h := ifN c7 h
      refine wg_iload C dX4_parseNumber_65 rfl ?_
      refine wg_bipush (v := 10) C dX4_parseNumber_67 (by decide) ?_
      refine wg_imul C dX4_parseNumber_69 ?_
      refine wg_aload_n C dX4_parseNumber_70 rfl ?_
      obtain ⟨q8, e8q, h⟩ := bnd h
      refine wg_callV (n := 0) (As := []) (st := [.int (z.2.1 * (10 : Int32))]) (st' := [.int q8, .int (z.2.1 * (10 : Int32))]) C (sX4_here cn bk st r0 r1 r2 r3 r4 li fo z.2.2 co ke rf cp lk fl em tm rd  q8 e8q) gX4_parseNumber_X4_here rfl (by decide +kernel) ⟨⟨rfl, rfl⟩, Nat.le_of_ble_eq_true rfl, Nat.le_of_ble_eq_true rfl⟩ rfl rfl rfl rfl (Nat.le_of_ble_eq_true rfl) dX4_parseNumber_71 rfl ?_
      refine wg_iadd C dX4_parseNumber_74 ?_
      refine wg_bipush (v := 48) C dX4_parseNumber_75 (by decide) ?_
      refine wg_isub C dX4_parseNumber_77 ?_
      refine wg_istore (lv' := [some (.ref 33), some (.int x1), some (.int x2), some (.int x3), some (.int z.1), some (.int (((z.2.1 * (10 : Int32)) + q8) - (48 : Int32)))]) C dX4_parseNumber_78 (Nat.le_of_ble_eq_true rfl) rfl ?_
      refine wg_iinc (v := (z.1 + (1 : Int32))) (lv' := [some (.ref 33), some (.int x1), some (.int x2), some (.int x3), some (.int (z.1 + (1 : Int32))), some (.int (((z.2.1 * (10 : Int32)) + q8) - (48 : Int32)))]) C dX4_parseNumber_80 rfl rfl rfl ?_
      refine wg_aload_n C dX4_parseNumber_83 rfl ?_
      refine wg_dup C dX4_parseNumber_84 rfl ?_
      refine wg_get (v := .int z.2.2.2.2.2.1) C fgX4_parseNumber_29 rfl rfl dX4_parseNumber_85 ?_
      refine wg_iconst (v := 1) C dX4_parseNumber_88 (by decide) ?_
      refine wg_iadd C dX4_parseNumber_89 ?_
      refine wg_put (hp' := (mkH cn bk st r0 r1 r2 r3 r4 li fo (z.2.2.1, z.2.2.2.1, z.2.2.2.2.1, (z.2.2.2.2.2.1 + (1 : Int32)), z.2.2.2.2.2.2) co ke rf cp lk fl em tm rd)) C fwX4_parseNumber_29 rfl (Nat.le_of_ble_eq_true rfl) rfl rfl rfl dX4_parseNumber_90 ?_
      refine wg_goto (tgt := 40) C dX4_parseNumber_93 (by decide) ?_
      have hk := k0 _ (Option.some.inj h).symm
      exact hk
set_option maxRecDepth 100000 in
set_option maxHeartbeats 4000000 in
theorem slX4_parseNumber_40 (X : CX) (C : Ok X RX4 cX4_parseNumber wsX4_parseNumber rX4_parseNumber) (cn : Tcn) (bk : Tbk) (st : Tst) (r0 : Tbk) (r1 : Tbk) (r2 : Tbk) (r3 : Tbk) (r4 : Tbk) (li : Tli) (fo : Tfo) (tx : Ttx) (co : Tco) (ke : Tke) (rf : (Nat → Int32)) (cp : Int32) (lk : Tlk) (fl : Tfl) (em : Int32) (tm : Ttm) (rd : Trd) (x1 : Int32) (x2 : Int32) (x3 : Int32) (o : (Int32 × Int32 × Ttx)) (e0 : ∀ a : Int32 × Int32 × Ttx, o = a → Wg X 96 [some (.ref 33), some (.int x1), some (.int x2), some (.int x3), some (.int a.1), some (.int a.2.1)] [] (mkH cn bk st r0 r1 r2 r3 r4 li fo a.2.2 co ke rf cp lk fl em tm rd)) : ∀ (n : Nat) (z : Int32 × Int32 × Ttx), lpF (bX4_parseNumber_40  x1 x2 x3) n z = some o → Wg X 40 [some (.ref 33), some (.int x1), some (.int x2), some (.int x3), some (.int z.1), some (.int z.2.1)] [] (mkH cn bk st r0 r1 r2 r3 r4 li fo z.2.2 co ke rf cp lk fl em tm rd) := by
  intro n
  induction n with
  | zero => intro z h; cases h
  | succ n ih =>
    intro z h
    obtain ⟨r, hB, h⟩ := bnd h
    refine sbX4_parseNumber_40 X C cn bk st r0 r1 r2 r3 r4 li fo tx co ke rf cp lk fl em tm rd x1 x2 x3 z r hB (fun a e => ih a (by subst e; exact h)) (fun a e => e0 a (by subst e; exact (Option.some.inj h).symm))
set_option maxRecDepth 100000 in
set_option maxHeartbeats 4000000 in
theorem sjX4_parseNumber_122 (X : CX) (C : Ok X RX4 cX4_parseNumber wsX4_parseNumber rX4_parseNumber) (cn : Tcn) (bk : Tbk) (st : Tst) (r0 : Tbk) (r1 : Tbk) (r2 : Tbk) (r3 : Tbk) (r4 : Tbk) (li : Tli) (fo : Tfo) (tx : Ttx) (co : Tco) (ke : Tke) (rf : (Nat → Int32)) (cp : Int32) (lk : Tlk) (fl : Tfl) (em : Int32) (tm : Ttm) (rd : Trd) (y1 : Int32) (y2 : Int32) (o : Int32 × Ttx) (h : jX4_parseNumber_122 tx y1 y2 = some o) (hT : Rt X (some .int) (some (.int o.1)) (mkH cn bk st r0 r1 r2 r3 r4 li fo o.2 co ke rf cp lk fl em tm rd)) : Wg X 122 [none, none, none, none, none, none] [.int y2, .int y1, .ref 33] (mkH cn bk st r0 r1 r2 r3 r4 li fo tx co ke rf cp lk fl em tm rd) := by
  unfold jX4_parseNumber_122 at h
  obtain ⟨q13, e13q, h⟩ := bnd h
  refine wg_callV (n := 2) (As := [.int y1, .int y2]) (st := []) (st' := [.int q13.1]) C (sX4_keepNote cn bk st r0 r1 r2 r3 r4 li fo tx co ke rf cp lk fl em tm rd y1 y2 q13 e13q) gX4_parseNumber_X4_keepNote rfl (by decide +kernel) ⟨⟨rfl, rfl⟩, Nat.le_of_ble_eq_true rfl, Nat.le_of_ble_eq_true rfl⟩ rfl rfl rfl rfl (Nat.le_of_ble_eq_true rfl) dX4_parseNumber_122 rfl ?_
  obtain rfl := Option.some.inj h
  exact wg_iret C hT dX4_parseNumber_125
set_option maxRecDepth 100000 in
set_option maxHeartbeats 4000000 in
theorem sjX4_parseNumber_34 (X : CX) (C : Ok X RX4 cX4_parseNumber wsX4_parseNumber rX4_parseNumber) (cn : Tcn) (bk : Tbk) (st : Tst) (r0 : Tbk) (r1 : Tbk) (r2 : Tbk) (r3 : Tbk) (r4 : Tbk) (li : Tli) (fo : Tfo) (tx : Ttx) (co : Tco) (ke : Tke) (rf : (Nat → Int32)) (cp : Int32) (lk : Tlk) (fl : Tfl) (em : Int32) (tm : Ttm) (rd : Trd) (x1 : Int32) (x2 : Int32) (x3 : Int32) (o : Int32 × Ttx) (h : jX4_parseNumber_34 tx x1 x2 x3 = some o) (hT : Rt X (some .int) (some (.int o.1)) (mkH cn bk st r0 r1 r2 r3 r4 li fo o.2 co ke rf cp lk fl em tm rd)) : Wg X 34 [some (.ref 33), some (.int x1), some (.int x2), some (.int x3), none, none] [] (mkH cn bk st r0 r1 r2 r3 r4 li fo tx co ke rf cp lk fl em tm rd) := by
  unfold jX4_parseNumber_34 at h
  refine wg_iconst (v := 0) C dX4_parseNumber_34 (by decide) ?_
  refine wg_istore (lv' := [some (.ref 33), some (.int x1), some (.int x2), some (.int x3), some (.int (0 : Int32)), none]) C dX4_parseNumber_35 (Nat.le_of_ble_eq_true rfl) rfl ?_
  refine wg_iconst (v := 0) C dX4_parseNumber_37 (by decide) ?_
  refine wg_istore (lv' := [some (.ref 33), some (.int x1), some (.int x2), some (.int x3), some (.int (0 : Int32)), some (.int (0 : Int32))]) C dX4_parseNumber_38 (Nat.le_of_ble_eq_true rfl) rfl ?_
  obtain ⟨t9, hL9, h⟩ := bnd h
  refine slX4_parseNumber_40 X C cn bk st r0 r1 r2 r3 r4 li fo tx co ke rf cp lk fl em tm rd x1 x2 x3 t9 (fun a e => ?_) FU ((0 : Int32), (0 : Int32), tx) hL9
  subst e
  refine wg_iload C dX4_parseNumber_96 rfl ?_
  refine wg_iconst (v := 1) C dX4_parseNumber_98 (by decide) ?_
  refine wg_iconst (v := 3) C dX4_parseNumber_99 (by decide) ?_
  obtain ⟨q10, e10q, h⟩ := bnd h
  refine wg_callN (n := 3) (As := [.int t9.1, .int (1 : Int32), .int (3 : Int32)]) (st := []) (st' := [.int q10]) C (sX5_isWithin cn bk st r0 r1 r2 r3 r4 li fo t9.2.2 co ke rf cp lk fl em tm rd t9.1 (1 : Int32) (3 : Int32) q10 e10q) (fun U h => h.2.2.2.1) gX4_parseNumber_X5_isWithin_n56 ⟨by decide +kernel, by decide +kernel⟩ rfl (by decide +kernel) ⟨⟨rfl, rfl⟩, Nat.le_of_ble_eq_true rfl, Nat.le_of_ble_eq_true rfl⟩ rfl rfl (Nat.le_of_ble_eq_true rfl) dX4_parseNumber_100 rfl ?_
  refine wg_if_ne (tgt := 108) C dX4_parseNumber_103 (by decide) (fun c11 => ?_) (fun c11 => ?_)
  · replace h := ifP c11 h
    refine wg_aload_n C dX4_parseNumber_108 rfl ?_
    refine wg_iload_n C dX4_parseNumber_109 rfl ?_
    refine wg_iload_n C dX4_parseNumber_110 rfl ?_
    refine wg_if_eq (tgt := 120) C dX4_parseNumber_111 (by decide) (fun c12 => ?_) (fun c12 => ?_)
    · replace h := ifP c12 h
      refine wg_iload C dX4_parseNumber_120 rfl ?_
      refine wg_drop (lv' := [none, none, none, none, none, none]) [0, 1, 2, 3, 4, 5] rfl ?_
      exact sjX4_parseNumber_122 X C cn bk st r0 r1 r2 r3 r4 li fo t9.2.2 co ke rf cp lk fl em tm rd x1 t9.2.1 _ h hT
    · replace h := ifN c12 h
      refine wg_iload C dX4_parseNumber_114 rfl ?_
      refine wg_ineg C dX4_parseNumber_116 ?_
      refine wg_goto (tgt := 122) C dX4_parseNumber_117 (by decide) ?_
      refine wg_drop (lv' := [none, none, none, none, none, none]) [0, 1, 2, 3, 4, 5] rfl ?_
      exact sjX4_parseNumber_122 X C cn bk st r0 r1 r2 r3 r4 li fo t9.2.2 co ke rf cp lk fl em tm rd x1 (-t9.2.1) _ h hT
  · replace h := ifN c11 h
    refine wg_iload_n C dX4_parseNumber_106 rfl ?_
    obtain rfl := Option.some.inj h
    exact wg_iret C hT dX4_parseNumber_107
set_option maxRecDepth 100000 in
set_option maxHeartbeats 4000000 in
theorem sjX4_parseNumber_19 (X : CX) (C : Ok X RX4 cX4_parseNumber wsX4_parseNumber rX4_parseNumber) (cn : Tcn) (bk : Tbk) (st : Tst) (r0 : Tbk) (r1 : Tbk) (r2 : Tbk) (r3 : Tbk) (r4 : Tbk) (li : Tli) (fo : Tfo) (tx : Ttx) (co : Tco) (ke : Tke) (rf : (Nat → Int32)) (cp : Int32) (lk : Tlk) (fl : Tfl) (em : Int32) (tm : Ttm) (rd : Trd) (x1 : Int32) (x2 : Int32) (y0 : Int32) (o : Int32 × Ttx) (h : jX4_parseNumber_19 tx x1 x2 y0 = some o) (hT : Rt X (some .int) (some (.int o.1)) (mkH cn bk st r0 r1 r2 r3 r4 li fo o.2 co ke rf cp lk fl em tm rd)) : Wg X 19 [some (.ref 33), some (.int x1), some (.int x2), none, none, none] [.int y0] (mkH cn bk st r0 r1 r2 r3 r4 li fo tx co ke rf cp lk fl em tm rd) := by
  unfold jX4_parseNumber_19 at h
  refine wg_istore_n (lv' := [some (.ref 33), some (.int x1), some (.int x2), some (.int y0), none, none]) C dX4_parseNumber_19 (Nat.le_of_ble_eq_true rfl) rfl ?_
  refine wg_iload_n C dX4_parseNumber_20 rfl ?_
  refine wg_if_eq (tgt := 34) C dX4_parseNumber_21 (by decide) (fun c3 => ?_) (fun c3 => ?_)
  · replace h := ifP c3 h
    exact sjX4_parseNumber_34 X C cn bk st r0 r1 r2 r3 r4 li fo tx co ke rf cp lk fl em tm rd x1 x2 y0 _ h hT
  · replace h := ifN c3 h
    refine wg_aload_n C dX4_parseNumber_24 rfl ?_
    refine wg_dup C dX4_parseNumber_25 rfl ?_
    refine wg_get (v := .int tx.2.2.2.1) C fgX4_parseNumber_29 rfl rfl dX4_parseNumber_26 ?_
    refine wg_iconst (v := 1) C dX4_parseNumber_29 (by decide) ?_
    refine wg_iadd C dX4_parseNumber_30 ?_
    refine wg_put (hp' := (mkH cn bk st r0 r1 r2 r3 r4 li fo (tx.1, tx.2.1, tx.2.2.1, (tx.2.2.2.1 + (1 : Int32)), tx.2.2.2.2) co ke rf cp lk fl em tm rd)) C fwX4_parseNumber_29 rfl (Nat.le_of_ble_eq_true rfl) rfl rfl rfl dX4_parseNumber_31 ?_
    exact sjX4_parseNumber_34 X C cn bk st r0 r1 r2 r3 r4 li fo (tx.1, tx.2.1, tx.2.2.1, (tx.2.2.2.1 + (1 : Int32)), tx.2.2.2.2) co ke rf cp lk fl em tm rd x1 x2 y0 _ h hT
set_option maxRecDepth 100000 in
set_option maxHeartbeats 4000000 in
theorem sX4_parseNumber (cn : Tcn) (bk : Tbk) (st : Tst) (r0 : Tbk) (r1 : Tbk) (r2 : Tbk) (r3 : Tbk) (r4 : Tbk) (li : Tli) (fo : Tfo) (tx : Ttx) (co : Tco) (ke : Tke) (rf : (Nat → Int32)) (cp : Int32) (lk : Tlk) (fl : Tfl) (em : Int32) (tm : Ttm) (rd : Trd) (x1 : Int32) (o : Int32 × Ttx) (h : fX4_parseNumber tx x1 = some o) : Sp yX4_parseNumber wsX4_parseNumber rX4_parseNumber [.ref 33, .int x1] (mkH cn bk st r0 r1 r2 r3 r4 li fo tx co ke rf cp lk fl em tm rd) (some (.int o.1)) (mkH cn bk st r0 r1 r2 r3 r4 li fo o.2 co ke rf cp lk fl em tm rd) := by
  refine Sp.of (lv := [some (.ref 33), some (.int x1), none, none, none, none]) RX4 (by decide +kernel) rfl (Nat.le_of_ble_eq_true rfl) rfl ?_
  intro X C hT
  unfold fX4_parseNumber at h
  refine wg_aload_n C dX4_parseNumber_0 rfl ?_
  refine wg_get (v := .int tx.2.2.2.1) C fgX4_parseNumber_29 rfl rfl dX4_parseNumber_1 ?_
  refine wg_istore_n (lv' := [some (.ref 33), some (.int x1), some (.int tx.2.2.2.1), none, none, none]) C dX4_parseNumber_4 (Nat.le_of_ble_eq_true rfl) rfl ?_
  refine wg_aload_n C dX4_parseNumber_5 rfl ?_
  obtain ⟨q1, e1q, h⟩ := bnd h
  refine wg_callV (n := 0) (As := []) (st := []) (st' := [.int q1]) C (sX4_here cn bk st r0 r1 r2 r3 r4 li fo tx co ke rf cp lk fl em tm rd  q1 e1q) gX4_parseNumber_X4_here rfl (by decide +kernel) ⟨⟨rfl, rfl⟩, Nat.le_of_ble_eq_true rfl, Nat.le_of_ble_eq_true rfl⟩ rfl rfl rfl rfl (Nat.le_of_ble_eq_true rfl) dX4_parseNumber_6 rfl ?_
  refine wg_bipush (v := 45) C dX4_parseNumber_9 (by decide) ?_
  refine wg_icmp_ne (tgt := 18) C dX4_parseNumber_11 (by decide) (fun c2 => ?_) (fun c2 => ?_)
  · replace h := ifP c2 h
    refine wg_iconst (v := 0) C dX4_parseNumber_18 (by decide) ?_
    exact sjX4_parseNumber_19 X C cn bk st r0 r1 r2 r3 r4 li fo tx co ke rf cp lk fl em tm rd x1 tx.2.2.2.1 (0 : Int32) _ h hT
  · replace h := ifN c2 h
    refine wg_iconst (v := 1) C dX4_parseNumber_14 (by decide) ?_
    refine wg_goto (tgt := 19) C dX4_parseNumber_15 (by decide) ?_
    exact sjX4_parseNumber_19 X C cn bk st r0 r1 r2 r3 r4 li fo tx co ke rf cp lk fl em tm rd x1 tx.2.2.2.1 (1 : Int32) _ h hT
abbrev rX4_parseMember : Room := { frames := 2, cells := 0, slots := 0, locals := 47 }
theorem iwX4_parseMember_4 : ∀ w ∈ wsX40, w ∈ wsX4_parseMember := by decide +kernel
theorem fgX4_parseMember_18 : FG wsX4_parseMember RX4 18 4 2 := ⟨RX4, TX4, 5, rfl, by decide, by decide +kernel, iwX4_parseMember_4⟩
theorem fgX4_parseMember_29 : FG wsX4_parseMember RX4 29 4 3 := ⟨RX4, TX4, 5, rfl, by decide, by decide +kernel, iwX4_parseMember_4⟩
theorem fwX4_parseMember_29 : FW wsX4_parseMember RX4 29 4 3 .int := ⟨RX4, TX4, 5, tyX4, rfl, by decide, by decide +kernel, iwX4_parseMember_4, tyX4_ok, nmX4, rfl, by decide +kernel⟩
set_option maxRecDepth 100000 in
set_option maxHeartbeats 4000000 in
theorem sjX4_parseMember_55 (X : CX) (C : Ok X RX4 cX4_parseMember wsX4_parseMember rX4_parseMember) (cn : Tcn) (bk : Tbk) (st : Tst) (r0 : Tbk) (r1 : Tbk) (r2 : Tbk) (r3 : Tbk) (r4 : Tbk) (li : Tli) (fo : Tfo) (tx : Ttx) (co : Tco) (ke : Tke) (rf : (Nat → Int32)) (cp : Int32) (lk : Tlk) (fl : Tfl) (em : Int32) (tm : Ttm) (rd : Trd) (y0 : Int32) (o : Int32 × Ttx) (h : jX4_parseMember_55 tx y0 = some o) (hT : Rt X (some .int) (some (.int o.1)) (mkH cn bk st r0 r1 r2 r3 r4 li fo o.2 co ke rf cp lk fl em tm rd)) : Wg X 55 [none, none] [.int y0] (mkH cn bk st r0 r1 r2 r3 r4 li fo tx co ke rf cp lk fl em tm rd) := by
  unfold jX4_parseMember_55 at h
  obtain rfl := Option.some.inj h
  exact wg_iret C hT dX4_parseMember_55
set_option maxRecDepth 100000 in
set_option maxHeartbeats 4000000 in
theorem sX4_parseMember (cn : Tcn) (bk : Tbk) (st : Tst) (r0 : Tbk) (r1 : Tbk) (r2 : Tbk) (r3 : Tbk) (r4 : Tbk) (li : Tli) (fo : Tfo) (tx : Ttx) (co : Tco) (ke : Tke) (rf : (Nat → Int32)) (cp : Int32) (lk : Tlk) (fl : Tfl) (em : Int32) (tm : Ttm) (rd : Trd) (x1 : Int32) (o : Int32 × Ttx) (h : fX4_parseMember tx x1 = some o) : Sp yX4_parseMember wsX4_parseMember rX4_parseMember [.ref 33, .int x1] (mkH cn bk st r0 r1 r2 r3 r4 li fo tx co ke rf cp lk fl em tm rd) (some (.int o.1)) (mkH cn bk st r0 r1 r2 r3 r4 li fo o.2 co ke rf cp lk fl em tm rd) := by
  refine Sp.of (lv := [some (.ref 33), some (.int x1)]) RX4 (by decide +kernel) rfl (Nat.le_of_ble_eq_true rfl) rfl ?_
  intro X C hT
  unfold fX4_parseMember at h
  refine wg_aload_n C dX4_parseMember_0 rfl ?_
  obtain ⟨q1, e1q, h⟩ := bnd h
  refine wg_callV (n := 0) (As := []) (st := []) (st' := []) C (sX4_skipBlanks cn bk st r0 r1 r2 r3 r4 li fo tx co ke rf cp lk fl em tm rd  q1 e1q) gX4_parseMember_X4_skipBlanks rfl (by decide +kernel) ⟨⟨rfl, rfl⟩, Nat.le_of_ble_eq_true rfl, Nat.le_of_ble_eq_true rfl⟩ rfl rfl rfl rfl (Nat.le_of_ble_eq_true rfl) dX4_parseMember_1 rfl ?_
  refine wg_aload_n C dX4_parseMember_4 rfl ?_
  obtain ⟨q2, e2q, h⟩ := bnd h
  refine wg_callV (n := 0) (As := []) (st := []) (st' := [.int q2]) C (sX4_here cn bk st r0 r1 r2 r3 r4 li fo q1 co ke rf cp lk fl em tm rd  q2 e2q) gX4_parseMember_X4_here rfl (by decide +kernel) ⟨⟨rfl, rfl⟩, Nat.le_of_ble_eq_true rfl, Nat.le_of_ble_eq_true rfl⟩ rfl rfl rfl rfl (Nat.le_of_ble_eq_true rfl) dX4_parseMember_5 rfl ?_
  refine wg_bipush (v := 46) C dX4_parseMember_8 (by decide) ?_
  refine wg_icmp_ne (tgt := 32) C dX4_parseMember_10 (by decide) (fun c3 => ?_) (fun c3 => ?_)
  · replace h := ifP c3 h
    refine wg_aload_n C dX4_parseMember_32 rfl ?_
    refine wg_get (v := .int q1.2.2.2.1) C fgX4_parseMember_29 rfl rfl dX4_parseMember_33 ?_
    refine wg_aload_n C dX4_parseMember_36 rfl ?_
    refine wg_get (v := .int q1.2.2.1) C fgX4_parseMember_18 rfl rfl dX4_parseMember_37 ?_
    refine wg_icmp_ge (tgt := 51) C dX4_parseMember_40 (by decide) (fun c4 => ?_) (fun c4 => ?_)
    · replace h := ifP c4 h
      refine wg_aload_n C dX4_parseMember_51 rfl ?_
      refine wg_get (v := .int q1.2.2.1) C fgX4_parseMember_18 rfl rfl dX4_parseMember_52 ?_
      refine wg_drop (lv' := [none, none]) [0, 1] rfl ?_
      exact sjX4_parseMember_55 X C cn bk st r0 r1 r2 r3 r4 li fo q1 co ke rf cp lk fl em tm rd q1.2.2.1 _ h hT
    · replace h := ifN c4 h
      refine wg_aload_n C dX4_parseMember_43 rfl ?_
      refine wg_iload_n C dX4_parseMember_44 rfl ?_
      obtain ⟨q5, e5q, h⟩ := bnd h
      refine wg_callV (n := 1) (As := [.int x1]) (st := []) (st' := [.int q5.1]) C (sX4_parseNumber cn bk st r0 r1 r2 r3 r4 li fo q1 co ke rf cp lk fl em tm rd x1 q5 e5q) gX4_parseMember_X4_parseNumber rfl (by decide +kernel) ⟨⟨rfl, rfl⟩, Nat.le_of_ble_eq_true rfl, Nat.le_of_ble_eq_true rfl⟩ rfl rfl rfl rfl (Nat.le_of_ble_eq_true rfl) dX4_parseMember_45 rfl ?_
      refine wg_goto (tgt := 55) C dX4_parseMember_48 (by decide) ?_
      refine wg_drop (lv' := [none, none]) [0, 1] rfl ?_
      exact sjX4_parseMember_55 X C cn bk st r0 r1 r2 r3 r4 li fo q5.2 co ke rf cp lk fl em tm rd q5.1 _ h hT
  · replace h := ifN c3 h
    refine wg_aload_n C dX4_parseMember_13 rfl ?_
    refine wg_dup C dX4_parseMember_14 rfl ?_
    refine wg_get (v := .int q1.2.2.2.1) C fgX4_parseMember_29 rfl rfl dX4_parseMember_15 ?_
    refine wg_iconst (v := 1) C dX4_parseMember_18 (by decide) ?_
    refine wg_iadd C dX4_parseMember_19 ?_
    refine wg_put (hp' := (mkH cn bk st r0 r1 r2 r3 r4 li fo (q1.1, q1.2.1, q1.2.2.1, (q1.2.2.2.1 + (1 : Int32)), q1.2.2.2.2) co ke rf cp lk fl em tm rd)) C fwX4_parseMember_29 rfl (Nat.le_of_ble_eq_true rfl) rfl rfl rfl dX4_parseMember_20 ?_
    refine wg_aload_n C dX4_parseMember_23 rfl ?_
    refine wg_iload_n C dX4_parseMember_24 rfl ?_
    refine wg_sipush (v := -10000) C dX4_parseMember_25 (by decide) ?_
    obtain ⟨q6, e6q, h⟩ := bnd h
    refine wg_callV (n := 2) (As := [.int x1, .int (-10000 : Int32)]) (st := []) (st' := [.int q6.1]) C (sX4_keepNote cn bk st r0 r1 r2 r3 r4 li fo (q1.1, q1.2.1, q1.2.2.1, (q1.2.2.2.1 + (1 : Int32)), q1.2.2.2.2) co ke rf cp lk fl em tm rd x1 (-10000 : Int32) q6 e6q) gX4_parseMember_X4_keepNote rfl (by decide +kernel) ⟨⟨rfl, rfl⟩, Nat.le_of_ble_eq_true rfl, Nat.le_of_ble_eq_true rfl⟩ rfl rfl rfl rfl (Nat.le_of_ble_eq_true rfl) dX4_parseMember_28 rfl ?_
    obtain rfl := Option.some.inj h
    exact wg_iret C hT dX4_parseMember_31
abbrev rX4_parseMark : Room := { frames := 2, cells := 0, slots := 0, locals := 40 }
theorem iwX4_parseMark_4 : ∀ w ∈ wsX40, w ∈ wsX4_parseMark := by decide +kernel
theorem fgX4_parseMark_29 : FG wsX4_parseMark RX4 29 4 3 := ⟨RX4, TX4, 5, rfl, by decide, by decide +kernel, iwX4_parseMark_4⟩
theorem fwX4_parseMark_29 : FW wsX4_parseMark RX4 29 4 3 .int := ⟨RX4, TX4, 5, tyX4, rfl, by decide, by decide +kernel, iwX4_parseMark_4, tyX4_ok, nmX4, rfl, by decide +kernel⟩
set_option maxRecDepth 100000 in
set_option maxHeartbeats 4000000 in
theorem sX4_parseMark (cn : Tcn) (bk : Tbk) (st : Tst) (r0 : Tbk) (r1 : Tbk) (r2 : Tbk) (r3 : Tbk) (r4 : Tbk) (li : Tli) (fo : Tfo) (tx : Ttx) (co : Tco) (ke : Tke) (rf : (Nat → Int32)) (cp : Int32) (lk : Tlk) (fl : Tfl) (em : Int32) (tm : Ttm) (rd : Trd) (x1 : Int32) (o : Int32 × Ttx) (h : fX4_parseMark tx x1 = some o) : Sp yX4_parseMark wsX4_parseMark rX4_parseMark [.ref 33, .int x1] (mkH cn bk st r0 r1 r2 r3 r4 li fo tx co ke rf cp lk fl em tm rd) (some (.int o.1)) (mkH cn bk st r0 r1 r2 r3 r4 li fo o.2 co ke rf cp lk fl em tm rd) := by
  refine Sp.of (lv := [some (.ref 33), some (.int x1)]) RX4 (by decide +kernel) rfl (Nat.le_of_ble_eq_true rfl) rfl ?_
  intro X C hT
  unfold fX4_parseMark at h
  refine wg_aload_n C dX4_parseMark_0 rfl ?_
  obtain ⟨q1, e1q, h⟩ := bnd h
  refine wg_callV (n := 0) (As := []) (st := []) (st' := []) C (sX4_skipBlanks cn bk st r0 r1 r2 r3 r4 li fo tx co ke rf cp lk fl em tm rd  q1 e1q) gX4_parseMark_X4_skipBlanks rfl (by decide +kernel) ⟨⟨rfl, rfl⟩, Nat.le_of_ble_eq_true rfl, Nat.le_of_ble_eq_true rfl⟩ rfl rfl rfl rfl (Nat.le_of_ble_eq_true rfl) dX4_parseMark_1 rfl ?_
  refine wg_aload_n C dX4_parseMark_4 rfl ?_
  obtain ⟨q2, e2q, h⟩ := bnd h
  refine wg_callV (n := 0) (As := []) (st := []) (st' := [.int q2]) C (sX4_here cn bk st r0 r1 r2 r3 r4 li fo q1 co ke rf cp lk fl em tm rd  q2 e2q) gX4_parseMark_X4_here rfl (by decide +kernel) ⟨⟨rfl, rfl⟩, Nat.le_of_ble_eq_true rfl, Nat.le_of_ble_eq_true rfl⟩ rfl rfl rfl rfl (Nat.le_of_ble_eq_true rfl) dX4_parseMark_5 rfl ?_
  refine wg_iload_n C dX4_parseMark_8 rfl ?_
  refine wg_icmp_eq (tgt := 17) C dX4_parseMark_9 (by decide) (fun c3 => ?_) (fun c3 => ?_)
  · replace h := ifP c3 h
    refine wg_aload_n C dX4_parseMark_17 rfl ?_
    refine wg_dup C dX4_parseMark_18 rfl ?_
    refine wg_get (v := .int q1.2.2.2.1) C fgX4_parseMark_29 rfl rfl dX4_parseMark_19 ?_
    refine wg_iconst (v := 1) C dX4_parseMark_22 (by decide) ?_
    refine wg_iadd C dX4_parseMark_23 ?_
    refine wg_put (hp' := (mkH cn bk st r0 r1 r2 r3 r4 li fo (q1.1, q1.2.1, q1.2.2.1, (q1.2.2.2.1 + (1 : Int32)), q1.2.2.2.2) co ke rf cp lk fl em tm rd)) C fwX4_parseMark_29 rfl (Nat.le_of_ble_eq_true rfl) rfl rfl rfl dX4_parseMark_24 ?_
    refine wg_iconst (v := -1) C dX4_parseMark_27 (by decide) ?_
    obtain rfl := Option.some.inj h
    exact wg_iret C hT dX4_parseMark_28
  · replace h := ifN c3 h
    refine wg_aload_n C dX4_parseMark_12 rfl ?_
    refine wg_get (v := .int q1.2.2.2.1) C fgX4_parseMark_29 rfl rfl dX4_parseMark_13 ?_
    obtain rfl := Option.some.inj h
    exact wg_iret C hT dX4_parseMark_16
abbrev rX4_parseDay : Room := { frames := 3, cells := 0, slots := 0, locals := 68 }
set_option maxRecDepth 100000 in
set_option maxHeartbeats 4000000 in
theorem sjX4_parseDay_4_46 (X : CX) (C : Ok X RX4 cX4_parseDay wsX4_parseDay rX4_parseDay) (cn : Tcn) (bk : Tbk) (st : Tst) (r0 : Tbk) (r1 : Tbk) (r2 : Tbk) (r3 : Tbk) (r4 : Tbk) (li : Tli) (fo : Tfo) (tx : Ttx) (co : Tco) (ke : Tke) (rf : (Nat → Int32)) (cp : Int32) (lk : Tlk) (fl : Tfl) (em : Int32) (tm : Ttm) (rd : Trd) (x1 : Int32) (x2 : Int32) (x3 : Int32) (o : (Int32 × Int32 × Ttx) ⊕ (Int32 × Ttx)) (h : jX4_parseDay_4_46 tx x1 x2 x3 = some o) (k0 : ∀ a : Int32 × Int32 × Ttx, o = .inl a → Wg X 4 [some (.ref 33), some (.int x1), some (.int a.1), some (.int a.2.1)] [] (mkH cn bk st r0 r1 r2 r3 r4 li fo a.2.2 co ke rf cp lk fl em tm rd)) (e0 : ∀ a : Int32 × Ttx, o = .inr a → Wg X 52 [none, none, some (.int a.1), none] [] (mkH cn bk st r0 r1 r2 r3 r4 li fo a.2 co ke rf cp lk fl em tm rd)) : Wg X 46 [some (.ref 33), some (.int x1), some (.int x2), some (.int x3)] [] (mkH cn bk st r0 r1 r2 r3 r4 li fo tx co ke rf cp lk fl em tm rd) := by
  unfold jX4_parseDay_4_46 at h
  refine wg_iinc (v := (x3 + (1 : Int32))) (lv' := [some (.ref 33), some (.int x1), some (.int x2), some (.int (x3 + (1 : Int32)))]) C dX4_parseDay_46 rfl rfl rfl ?_
  refine wg_goto (tgt := 4) C dX4_parseDay_49 (by decide) ?_
  have hk := k0 _ (Option.some.inj h).symm
  exact hk
set_option maxRecDepth 100000 in
set_option maxHeartbeats 4000000 in
theorem sjX4_parseDay_4_42 (X : CX) (C : Ok X RX4 cX4_parseDay wsX4_parseDay rX4_parseDay) (cn : Tcn) (bk : Tbk) (st : Tst) (r0 : Tbk) (r1 : Tbk) (r2 : Tbk) (r3 : Tbk) (r4 : Tbk) (li : Tli) (fo : Tfo) (tx : Ttx) (co : Tco) (ke : Tke) (rf : (Nat → Int32)) (cp : Int32) (lk : Tlk) (fl : Tfl) (em : Int32) (tm : Ttm) (rd : Trd) (x1 : Int32) (x3 : Int32) (y1 : Int32) (o : (Int32 × Int32 × Ttx) ⊕ (Int32 × Ttx)) (h : jX4_parseDay_4_42 tx x1 x3 y1 = some o) (k0 : ∀ a : Int32 × Int32 × Ttx, o = .inl a → Wg X 4 [some (.ref 33), some (.int x1), some (.int a.1), some (.int a.2.1)] [] (mkH cn bk st r0 r1 r2 r3 r4 li fo a.2.2 co ke rf cp lk fl em tm rd)) (e0 : ∀ a : Int32 × Ttx, o = .inr a → Wg X 52 [none, none, some (.int a.1), none] [] (mkH cn bk st r0 r1 r2 r3 r4 li fo a.2 co ke rf cp lk fl em tm rd)) : Wg X 42 [some (.ref 33), some (.int x1), none, some (.int x3)] [.int y1, .ref 33] (mkH cn bk st r0 r1 r2 r3 r4 li fo tx co ke rf cp lk fl em tm rd) := by
  unfold jX4_parseDay_4_42 at h
  obtain ⟨q6, e6q, h⟩ := bnd h
  refine wg_callV (n := 1) (As := [.int y1]) (st := []) (st' := [.int q6.1]) C (sX4_parseMark cn bk st r0 r1 r2 r3 r4 li fo tx co ke rf cp lk fl em tm rd y1 q6 e6q) gX4_parseDay_X4_parseMark rfl (by decide +kernel) ⟨⟨rfl, rfl⟩, Nat.le_of_ble_eq_true rfl, Nat.le_of_ble_eq_true rfl⟩ rfl rfl rfl rfl (Nat.le_of_ble_eq_true rfl) dX4_parseDay_42 rfl ?_
  refine wg_istore_n (lv' := [some (.ref 33), some (.int x1), some (.int q6.1), some (.int x3)]) C dX4_parseDay_45 (Nat.le_of_ble_eq_true rfl) rfl ?_
  exact sjX4_parseDay_4_46 X C cn bk st r0 r1 r2 r3 r4 li fo q6.2 co ke rf cp lk fl em tm rd x1 q6.1 x3 _ h k0 e0
set_option maxRecDepth 100000 in
set_option maxHeartbeats 4000000 in
theorem sbX4_parseDay_4 (X : CX) (C : Ok X RX4 cX4_parseDay wsX4_parseDay rX4_parseDay) (cn : Tcn) (bk : Tbk) (st : Tst) (r0 : Tbk) (r1 : Tbk) (r2 : Tbk) (r3 : Tbk) (r4 : Tbk) (li : Tli) (fo : Tfo) (tx : Ttx) (co : Tco) (ke : Tke) (rf : (Nat → Int32)) (cp : Int32) (lk : Tlk) (fl : Tfl) (em : Int32) (tm : Ttm) (rd : Trd) (x1 : Int32) (z : Int32 × Int32 × Ttx) (o : (Int32 × Int32 × Ttx) ⊕ (Int32 × Ttx)) (h : bX4_parseDay_4  x1 z = some o) (k0 : ∀ a : Int32 × Int32 × Ttx, o = .inl a → Wg X 4 [some (.ref 33), some (.int x1), some (.int a.1), some (.int a.2.1)] [] (mkH cn bk st r0 r1 r2 r3 r4 li fo a.2.2 co ke rf cp lk fl em tm rd)) (e0 : ∀ a : Int32 × Ttx, o = .inr a → Wg X 52 [none, none, some (.int a.1), none] [] (mkH cn bk st r0 r1 r2 r3 r4 li fo a.2 co ke rf cp lk fl em tm rd)) : Wg X 4 [some (.ref 33), some (.int x1), some (.int z.1), some (.int z.2.1)] [] (mkH cn bk st r0 r1 r2 r3 r4 li fo z.2.2 co ke rf cp lk fl em tm rd) := by
  unfold bX4_parseDay_4 at h
  refine wg_iload_n C dX4_parseDay_4 rfl ?_
  refine wg_iconst (v := 4) C dX4_parseDay_5 (by decide) ?_
  refine wg_icmp_ge (tgt := 52) C dX4_parseDay_6 (by decide) (fun c1 => ?_) (fun c1 => ?_)
  · replace h := ifP c1 h
    refine wg_drop (lv' := [none, none, some (.int z.1), none]) [0, 1, 3] rfl ?_
    have hk := e0 _ (Option.some.inj h).symm
    exact hk
  · replace h := ifN c1 h
    refine wg_iload_n C dX4_parseDay_9 rfl ?_
    refine wg_iconst (v := -1) C dX4_parseDay_10 (by decide) ?_
    refine wg_icmp_ne (tgt := 52) C dX4_parseDay_11 (by decide) (fun c2 => ?_) (fun c2 => ?_)
    · replace h := ifP c2 h
      refine wg_drop (lv' := [none, none, some (.int z.1), none]) [0, 1, 3] rfl ?_
      have hk := e0 _ (Option.some.inj h).symm
      exact hk
    · replace h := ifN c2 h
      refine wg_aload_n C dX4_parseDay_14 rfl ?_
      refine wg_iload_n C dX4_parseDay_15 rfl ?_
      refine wg_iconst (v := 4) C dX4_parseDay_16 (by decide) ?_
      refine wg_imul C dX4_parseDay_17 ?_
      refine wg_iload_n C dX4_parseDay_18 rfl ?_
      refine wg_iadd C dX4_parseDay_19 ?_
      obtain ⟨q3, e3q, h⟩ := bnd h
      refine wg_callV (n := 1) (As := [.int ((x1 * (4 : Int32)) + z.2.1)]) (st := []) (st' := [.int q3.1]) C (sX4_parseMember cn bk st r0 r1 r2 r3 r4 li fo z.2.2 co ke rf cp lk fl em tm rd ((x1 * (4 : Int32)) + z.2.1) q3 e3q) gX4_parseDay_X4_parseMember rfl (by decide +kernel) ⟨⟨rfl, rfl⟩, Nat.le_of_ble_eq_true rfl, Nat.le_of_ble_eq_true rfl⟩ rfl rfl rfl rfl (Nat.le_of_ble_eq_true rfl) dX4_parseDay_20 rfl ?_
      refine wg_istore_n (lv' := [some (.ref 33), some (.int x1), some (.int q3.1), some (.int z.2.1)]) C dX4_parseDay_23 (Nat.le_of_ble_eq_true rfl) rfl ?_
      refine wg_iload_n C dX4_parseDay_24 rfl ?_
      refine wg_iconst (v := -1) C dX4_parseDay_25 (by decide) ?_
      refine wg_icmp_ne (tgt := 46) C dX4_parseDay_26 (by decide) (fun c4 => ?_) (fun c4 => ?_)
      · replace h := ifP c4 h
        exact sjX4_parseDay_4_46 X C cn bk st r0 r1 r2 r3 r4 li fo q3.2 co ke rf cp lk fl em tm rd x1 q3.1 z.2.1 _ h k0 e0
      · replace h := ifN c4 h
        refine wg_aload_n C dX4_parseDay_29 rfl ?_
        refine wg_iload_n C dX4_parseDay_30 rfl ?_
        refine wg_iconst (v := 3) C dX4_parseDay_31 (by decide) ?_
        refine wg_icmp_ge (tgt := 40) C dX4_parseDay_32 (by decide) (fun c5 => ?_) (fun c5 => ?_)
        · replace h := ifP c5 h
          refine wg_bipush (v := 59) C dX4_parseDay_40 (by decide) ?_
          refine wg_drop (lv' := [some (.ref 33), some (.int x1), none, some (.int z.2.1)]) [2] rfl ?_
          exact sjX4_parseDay_4_42 X C cn bk st r0 r1 r2 r3 r4 li fo q3.2 co ke rf cp lk fl em tm rd x1 z.2.1 (59 : Int32) _ h k0 e0
        · replace h := ifN c5 h
          refine wg_bipush (v := 44) C dX4_parseDay_35 (by decide) ?_
          refine wg_goto (tgt := 42) C dX4_parseDay_37 (by decide) ?_
          refine wg_drop (lv' := [some (.ref 33), some (.int x1), none, some (.int z.2.1)]) [2] rfl ?_
          exact sjX4_parseDay_4_42 X C cn bk st r0 r1 r2 r3 r4 li fo q3.2 co ke rf cp lk fl em tm rd x1 z.2.1 (44 : Int32) _ h k0 e0
set_option maxRecDepth 100000 in
set_option maxHeartbeats 4000000 in
theorem slX4_parseDay_4 (X : CX) (C : Ok X RX4 cX4_parseDay wsX4_parseDay rX4_parseDay) (cn : Tcn) (bk : Tbk) (st : Tst) (r0 : Tbk) (r1 : Tbk) (r2 : Tbk) (r3 : Tbk) (r4 : Tbk) (li : Tli) (fo : Tfo) (tx : Ttx) (co : Tco) (ke : Tke) (rf : (Nat → Int32)) (cp : Int32) (lk : Tlk) (fl : Tfl) (em : Int32) (tm : Ttm) (rd : Trd) (x1 : Int32) (o : (Int32 × Ttx)) (e0 : ∀ a : Int32 × Ttx, o = a → Wg X 52 [none, none, some (.int a.1), none] [] (mkH cn bk st r0 r1 r2 r3 r4 li fo a.2 co ke rf cp lk fl em tm rd)) : ∀ (n : Nat) (z : Int32 × Int32 × Ttx), lpF (bX4_parseDay_4  x1) n z = some o → Wg X 4 [some (.ref 33), some (.int x1), some (.int z.1), some (.int z.2.1)] [] (mkH cn bk st r0 r1 r2 r3 r4 li fo z.2.2 co ke rf cp lk fl em tm rd) := by
  intro n
  induction n with
  | zero => intro z h; cases h
  | succ n ih =>
    intro z h
    obtain ⟨r, hB, h⟩ := bnd h
    refine sbX4_parseDay_4 X C cn bk st r0 r1 r2 r3 r4 li fo tx co ke rf cp lk fl em tm rd x1 z r hB (fun a e => ih a (by subst e; exact h)) (fun a e => e0 a (by subst e; exact (Option.some.inj h).symm))
set_option maxRecDepth 100000 in
set_option maxHeartbeats 4000000 in
theorem sX4_parseDay (cn : Tcn) (bk : Tbk) (st : Tst) (r0 : Tbk) (r1 : Tbk) (r2 : Tbk) (r3 : Tbk) (r4 : Tbk) (li : Tli) (fo : Tfo) (tx : Ttx) (co : Tco) (ke : Tke) (rf : (Nat → Int32)) (cp : Int32) (lk : Tlk) (fl : Tfl) (em : Int32) (tm : Ttm) (rd : Trd) (x1 : Int32) (o : Int32 × Ttx) (h : fX4_parseDay tx x1 = some o) : Sp yX4_parseDay wsX4_parseDay rX4_parseDay [.ref 33, .int x1] (mkH cn bk st r0 r1 r2 r3 r4 li fo tx co ke rf cp lk fl em tm rd) (some (.int o.1)) (mkH cn bk st r0 r1 r2 r3 r4 li fo o.2 co ke rf cp lk fl em tm rd) := by
  refine Sp.of (lv := [some (.ref 33), some (.int x1), none, none]) RX4 (by decide +kernel) rfl (Nat.le_of_ble_eq_true rfl) rfl ?_
  intro X C hT
  unfold fX4_parseDay at h
  refine wg_iconst (v := -1) C dX4_parseDay_0 (by decide) ?_
  refine wg_istore_n (lv' := [some (.ref 33), some (.int x1), some (.int (-1 : Int32)), none]) C dX4_parseDay_1 (Nat.le_of_ble_eq_true rfl) rfl ?_
  refine wg_iconst (v := 0) C dX4_parseDay_2 (by decide) ?_
  refine wg_istore_n (lv' := [some (.ref 33), some (.int x1), some (.int (-1 : Int32)), some (.int (0 : Int32))]) C dX4_parseDay_3 (Nat.le_of_ble_eq_true rfl) rfl ?_
  obtain ⟨t7, hL7, h⟩ := bnd h
  refine slX4_parseDay_4 X C cn bk st r0 r1 r2 r3 r4 li fo tx co ke rf cp lk fl em tm rd x1 t7 (fun a e => ?_) FU ((-1 : Int32), (0 : Int32), tx) hL7
  subst e
  refine wg_iload_n C dX4_parseDay_52 rfl ?_
  obtain rfl := Option.some.inj h
  exact wg_iret C hT dX4_parseDay_53
abbrev rX4_parse : Room := { frames := 4, cells := 0, slots := 0, locals := 91 }
theorem iwX4_parse_4 : ∀ w ∈ wsX40, w ∈ wsX4_parse := by decide +kernel
theorem fgX4_parse_18 : FG wsX4_parse RX4 18 4 2 := ⟨RX4, TX4, 5, rfl, by decide, by decide +kernel, iwX4_parse_4⟩
theorem fgX4_parse_22 : FG wsX4_parse RX4 22 4 4 := ⟨RX4, TX4, 5, rfl, by decide, by decide +kernel, iwX4_parse_4⟩
theorem fwX4_parse_22 : FW wsX4_parse RX4 22 4 4 .int := ⟨RX4, TX4, 5, tyX4, rfl, by decide, by decide +kernel, iwX4_parse_4, tyX4_ok, nmX4, rfl, by decide +kernel⟩
theorem fgX4_parse_29 : FG wsX4_parse RX4 29 4 3 := ⟨RX4, TX4, 5, rfl, by decide, by decide +kernel, iwX4_parse_4⟩
theorem fwX4_parse_29 : FW wsX4_parse RX4 29 4 3 .int := ⟨RX4, TX4, 5, tyX4, rfl, by decide, by decide +kernel, iwX4_parse_4, tyX4_ok, nmX4, rfl, by decide +kernel⟩
set_option maxRecDepth 100000 in
set_option maxHeartbeats 4000000 in
theorem sjX4_parse_36_110 (X : CX) (C : Ok X RX4 cX4_parse wsX4_parse rX4_parse) (cn : Tcn) (bk : Tbk) (st : Tst) (r0 : Tbk) (r1 : Tbk) (r2 : Tbk) (r3 : Tbk) (r4 : Tbk) (li : Tli) (fo : Tfo) (tx : Ttx) (co : Tco) (ke : Tke) (rf : (Nat → Int32)) (cp : Int32) (lk : Tlk) (fl : Tfl) (em : Int32) (tm : Ttm) (rd : Trd) (x1 : Int32) (x2 : Int32) (x3 : Int32) (o : (Int32 × Int32 × Ttx) ⊕ (Int32 × Ttx)) (h : jX4_parse_36_110 tx x1 x2 x3 = some o) (k0 : ∀ a : Int32 × Int32 × Ttx, o = .inl a → Wg X 36 [some (.ref 33), some (.int x1), some (.int a.1), some (.int a.2.1)] [] (mkH cn bk st r0 r1 r2 r3 r4 li fo a.2.2 co ke rf cp lk fl em tm rd)) (e0 : ∀ a : Int32 × Ttx, o = .inr a → Wg X 116 [none, none, some (.int a.1), none] [] (mkH cn bk st r0 r1 r2 r3 r4 li fo a.2 co ke rf cp lk fl em tm rd)) : Wg X 110 [some (.ref 33), some (.int x1), some (.int x2), some (.int x3)] [] (mkH cn bk st r0 r1 r2 r3 r4 li fo tx co ke rf cp lk fl em tm rd) := by
  unfold jX4_parse_36_110 at h
  refine wg_iinc (v := (x3 + (1 : Int32))) (lv' := [some (.ref 33), some (.int x1), some (.int x2), some (.int (x3 + (1 : Int32)))]) C dX4_parse_110 rfl rfl rfl ?_
  refine wg_goto (tgt := 36) C dX4_parse_113 (by decide) ?_
  have hk := k0 _ (Option.some.inj h).symm
  exact hk
set_option maxRecDepth 100000 in
set_option maxHeartbeats 4000000 in
theorem sjX4_parse_36_90 (X : CX) (C : Ok X RX4 cX4_parse wsX4_parse rX4_parse) (cn : Tcn) (bk : Tbk) (st : Tst) (r0 : Tbk) (r1 : Tbk) (r2 : Tbk) (r3 : Tbk) (r4 : Tbk) (li : Tli) (fo : Tfo) (tx : Ttx) (co : Tco) (ke : Tke) (rf : (Nat → Int32)) (cp : Int32) (lk : Tlk) (fl : Tfl) (em : Int32) (tm : Ttm) (rd : Trd) (x1 : Int32) (x3 : Int32) (y0 : Int32) (o : (Int32 × Int32 × Ttx) ⊕ (Int32 × Ttx)) (h : jX4_parse_36_90 tx x1 x3 y0 = some o) (k0 : ∀ a : Int32 × Int32 × Ttx, o = .inl a → Wg X 36 [some (.ref 33), some (.int x1), some (.int a.1), some (.int a.2.1)] [] (mkH cn bk st r0 r1 r2 r3 r4 li fo a.2.2 co ke rf cp lk fl em tm rd)) (e0 : ∀ a : Int32 × Ttx, o = .inr a → Wg X 116 [none, none, some (.int a.1), none] [] (mkH cn bk st r0 r1 r2 r3 r4 li fo a.2 co ke rf cp lk fl em tm rd)) : Wg X 90 [some (.ref 33), some (.int x1), none, some (.int x3)] [.int y0] (mkH cn bk st r0 r1 r2 r3 r4 li fo tx co ke rf cp lk fl em tm rd) := by
  unfold jX4_parse_36_90 at h
  refine wg_istore_n (lv' := [some (.ref 33), some (.int x1), some (.int y0), some (.int x3)]) C dX4_parse_90 (Nat.le_of_ble_eq_true rfl) rfl ?_
  refine wg_iload_n C dX4_parse_91 rfl ?_
  refine wg_iconst (v := -1) C dX4_parse_92 (by decide) ?_
  refine wg_icmp_ne (tgt := 110) C dX4_parse_93 (by decide) (fun c7 => ?_) (fun c7 => ?_)
  · replace h := ifP c7 h
    exact sjX4_parse_36_110 X C cn bk st r0 r1 r2 r3 r4 li fo tx co ke rf cp lk fl em tm rd x1 y0 x3 _ h k0 e0
  · replace h := ifN c7 h
    refine wg_aload_n C dX4_parse_96 rfl ?_
    refine wg_dup C dX4_parse_97 rfl ?_
    refine wg_get (v := .int tx.2.2.2.2) C fgX4_parse_22 rfl rfl dX4_parse_98 ?_
    refine wg_iconst (v := 1) C dX4_parse_101 (by decide) ?_
    refine wg_iadd C dX4_parse_102 ?_
    refine wg_put (hp' := (mkH cn bk st r0 r1 r2 r3 r4 li fo (tx.1, tx.2.1, tx.2.2.1, tx.2.2.2.1, (tx.2.2.2.2 + (1 : Int32))) co ke rf cp lk fl em tm rd)) C fwX4_parse_22 rfl (Nat.le_of_ble_eq_true rfl) rfl rfl rfl dX4_parse_103 ?_
    refine wg_aload_n C dX4_parse_106 rfl ?_
    obtain ⟨q8, e8q, h⟩ := bnd h
    refine wg_callV (n := 0) (As := []) (st := []) (st' := []) C (sX4_skipBlanks cn bk st r0 r1 r2 r3 r4 li fo (tx.1, tx.2.1, tx.2.2.1, tx.2.2.2.1, (tx.2.2.2.2 + (1 : Int32))) co ke rf cp lk fl em tm rd  q8 e8q) gX4_parse_X4_skipBlanks rfl (by decide +kernel) ⟨⟨rfl, rfl⟩, Nat.le_of_ble_eq_true rfl, Nat.le_of_ble_eq_true rfl⟩ rfl rfl rfl rfl (Nat.le_of_ble_eq_true rfl) dX4_parse_107 rfl ?_
    exact sjX4_parse_36_110 X C cn bk st r0 r1 r2 r3 r4 li fo q8 co ke rf cp lk fl em tm rd x1 y0 x3 _ h k0 e0
set_option maxRecDepth 100000 in
set_option maxHeartbeats 4000000 in
theorem sjX4_parse_36_86 (X : CX) (C : Ok X RX4 cX4_parse wsX4_parse rX4_parse) (cn : Tcn) (bk : Tbk) (st : Tst) (r0 : Tbk) (r1 : Tbk) (r2 : Tbk) (r3 : Tbk) (r4 : Tbk) (li : Tli) (fo : Tfo) (tx : Ttx) (co : Tco) (ke : Tke) (rf : (Nat → Int32)) (cp : Int32) (lk : Tlk) (fl : Tfl) (em : Int32) (tm : Ttm) (rd : Trd) (x1 : Int32) (x3 : Int32) (o : (Int32 × Int32 × Ttx) ⊕ (Int32 × Ttx)) (h : jX4_parse_36_86 tx x1 x3 = some o) (k0 : ∀ a : Int32 × Int32 × Ttx, o = .inl a → Wg X 36 [some (.ref 33), some (.int x1), some (.int a.1), some (.int a.2.1)] [] (mkH cn bk st r0 r1 r2 r3 r4 li fo a.2.2 co ke rf cp lk fl em tm rd)) (e0 : ∀ a : Int32 × Ttx, o = .inr a → Wg X 116 [none, none, some (.int a.1), none] [] (mkH cn bk st r0 r1 r2 r3 r4 li fo a.2 co ke rf cp lk fl em tm rd)) : Wg X 86 [some (.ref 33), some (.int x1), none, some (.int x3)] [] (mkH cn bk st r0 r1 r2 r3 r4 li fo tx co ke rf cp lk fl em tm rd) := by
  unfold jX4_parse_36_86 at h
  refine wg_aload_n C dX4_parse_86 rfl ?_
  refine wg_get (v := .int tx.2.2.2.1) C fgX4_parse_29 rfl rfl dX4_parse_87 ?_
  exact sjX4_parse_36_90 X C cn bk st r0 r1 r2 r3 r4 li fo tx co ke rf cp lk fl em tm rd x1 x3 tx.2.2.2.1 _ h k0 e0
set_option maxRecDepth 100000 in
set_option maxHeartbeats 4000000 in
theorem sbX4_parse_36 (X : CX) (C : Ok X RX4 cX4_parse wsX4_parse rX4_parse) (cn : Tcn) (bk : Tbk) (st : Tst) (r0 : Tbk) (r1 : Tbk) (r2 : Tbk) (r3 : Tbk) (r4 : Tbk) (li : Tli) (fo : Tfo) (tx : Ttx) (co : Tco) (ke : Tke) (rf : (Nat → Int32)) (cp : Int32) (lk : Tlk) (fl : Tfl) (em : Int32) (tm : Ttm) (rd : Trd) (x1 : Int32) (z : Int32 × Int32 × Ttx) (o : (Int32 × Int32 × Ttx) ⊕ (Int32 × Ttx)) (h : bX4_parse_36  x1 z = some o) (k0 : ∀ a : Int32 × Int32 × Ttx, o = .inl a → Wg X 36 [some (.ref 33), some (.int x1), some (.int a.1), some (.int a.2.1)] [] (mkH cn bk st r0 r1 r2 r3 r4 li fo a.2.2 co ke rf cp lk fl em tm rd)) (e0 : ∀ a : Int32 × Ttx, o = .inr a → Wg X 116 [none, none, some (.int a.1), none] [] (mkH cn bk st r0 r1 r2 r3 r4 li fo a.2 co ke rf cp lk fl em tm rd)) : Wg X 36 [some (.ref 33), some (.int x1), some (.int z.1), some (.int z.2.1)] [] (mkH cn bk st r0 r1 r2 r3 r4 li fo z.2.2 co ke rf cp lk fl em tm rd) := by
  unfold bX4_parse_36 at h
  refine wg_iload_n C dX4_parse_36 rfl ?_
  refine wg_bipush (v := 120) C dX4_parse_37 (by decide) ?_
  refine wg_icmp_ge (tgt := 116) C dX4_parse_39 (by decide) (fun c3 => ?_) (fun c3 => ?_)
  · replace h := ifP c3 h
    refine wg_drop (lv' := [none, none, some (.int z.1), none]) [0, 1, 3] rfl ?_
    have hk := e0 _ (Option.some.inj h).symm
    exact hk
  · replace h := ifN c3 h
    refine wg_aload_n C dX4_parse_42 rfl ?_
    refine wg_get (v := .int z.2.2.2.2.2.1) C fgX4_parse_29 rfl rfl dX4_parse_43 ?_
    refine wg_aload_n C dX4_parse_46 rfl ?_
    refine wg_get (v := .int z.2.2.2.2.1) C fgX4_parse_18 rfl rfl dX4_parse_47 ?_
    refine wg_icmp_ge (tgt := 116) C dX4_parse_50 (by decide) (fun c4 => ?_) (fun c4 => ?_)
    · replace h := ifP c4 h
      refine wg_drop (lv' := [none, none, some (.int z.1), none]) [0, 1, 3] rfl ?_
      have hk := e0 _ (Option.some.inj h).symm
      exact hk
    · replace h := ifN c4 h
      refine wg_iload_n C dX4_parse_53 rfl ?_
      refine wg_iconst (v := -1) C dX4_parse_54 (by decide) ?_
      refine wg_icmp_ne (tgt := 116) C dX4_parse_55 (by decide) (fun c5 => ?_) (fun c5 => ?_)
      · replace h := ifP c5 h
        refine wg_drop (lv' := [none, none, some (.int z.1), none]) [0, 1, 3] rfl ?_
        have hk := e0 _ (Option.some.inj h).symm
        exact hk
      · replace h := ifN c5 h
        refine wg_aload_n C dX4_parse_58 rfl ?_
        refine wg_get (v := .int z.2.2.2.2.2.2) C fgX4_parse_22 rfl rfl dX4_parse_59 ?_
        refine wg_iload_n C dX4_parse_62 rfl ?_
        refine wg_icmp_ge (tgt := 86) C dX4_parse_63 (by decide) (fun c6 => ?_) (fun c6 => ?_)
        · replace h := ifP c6 h
          refine wg_drop (lv' := [some (.ref 33), some (.int x1), none, some (.int z.2.1)]) [2] rfl ?_
          exact sjX4_parse_36_86 X C cn bk st r0 r1 r2 r3 r4 li fo z.2.2 co ke rf cp lk fl em tm rd x1 z.2.1 _ h k0 e0
        · replace h := ifN c6 h
          refine wg_aload_n C dX4_parse_66 rfl ?_
          refine wg_get (v := .int z.2.2.2.2.2.2) C fgX4_parse_22 rfl rfl dX4_parse_67 ?_
          refine wg_bipush (v := 50) C dX4_parse_70 (by decide) ?_
          refine wg_icmp_ge (tgt := 86) C dX4_parse_72 (by decide) (fun c9 => ?_) (fun c9 => ?_)
          · replace h := ifP c9 h
            refine wg_drop (lv' := [some (.ref 33), some (.int x1), none, some (.int z.2.1)]) [2] rfl ?_
            exact sjX4_parse_36_86 X C cn bk st r0 r1 r2 r3 r4 li fo z.2.2 co ke rf cp lk fl em tm rd x1 z.2.1 _ h k0 e0
          · replace h := ifN c9 h
            refine wg_aload_n C dX4_parse_75 rfl ?_
            refine wg_aload_n C dX4_parse_76 rfl ?_
            refine wg_get (v := .int z.2.2.2.2.2.2) C fgX4_parse_22 rfl rfl dX4_parse_77 ?_
            obtain ⟨q10, e10q, h⟩ := bnd h
            refine wg_callV (n := 1) (As := [.int z.2.2.2.2.2.2]) (st := []) (st' := [.int q10.1]) C (sX4_parseDay cn bk st r0 r1 r2 r3 r4 li fo z.2.2 co ke rf cp lk fl em tm rd z.2.2.2.2.2.2 q10 e10q) gX4_parse_X4_parseDay rfl (by decide +kernel) ⟨⟨rfl, rfl⟩, Nat.le_of_ble_eq_true rfl, Nat.le_of_ble_eq_true rfl⟩ rfl rfl rfl rfl (Nat.le_of_ble_eq_true rfl) dX4_parse_80 rfl ?_
            refine wg_goto (tgt := 90) C dX4_parse_83 (by decide) ?_
            refine wg_drop (lv' := [some (.ref 33), some (.int x1), none, some (.int z.2.1)]) [2] rfl ?_
            exact sjX4_parse_36_90 X C cn bk st r0 r1 r2 r3 r4 li fo q10.2 co ke rf cp lk fl em tm rd x1 z.2.1 q10.1 _ h k0 e0
set_option maxRecDepth 100000 in
set_option maxHeartbeats 4000000 in
theorem slX4_parse_36 (X : CX) (C : Ok X RX4 cX4_parse wsX4_parse rX4_parse) (cn : Tcn) (bk : Tbk) (st : Tst) (r0 : Tbk) (r1 : Tbk) (r2 : Tbk) (r3 : Tbk) (r4 : Tbk) (li : Tli) (fo : Tfo) (tx : Ttx) (co : Tco) (ke : Tke) (rf : (Nat → Int32)) (cp : Int32) (lk : Tlk) (fl : Tfl) (em : Int32) (tm : Ttm) (rd : Trd) (x1 : Int32) (o : (Int32 × Ttx)) (e0 : ∀ a : Int32 × Ttx, o = a → Wg X 116 [none, none, some (.int a.1), none] [] (mkH cn bk st r0 r1 r2 r3 r4 li fo a.2 co ke rf cp lk fl em tm rd)) : ∀ (n : Nat) (z : Int32 × Int32 × Ttx), lpF (bX4_parse_36  x1) n z = some o → Wg X 36 [some (.ref 33), some (.int x1), some (.int z.1), some (.int z.2.1)] [] (mkH cn bk st r0 r1 r2 r3 r4 li fo z.2.2 co ke rf cp lk fl em tm rd) := by
  intro n
  induction n with
  | zero => intro z h; cases h
  | succ n ih =>
    intro z h
    obtain ⟨r, hB, h⟩ := bnd h
    refine sbX4_parse_36 X C cn bk st r0 r1 r2 r3 r4 li fo tx co ke rf cp lk fl em tm rd x1 z r hB (fun a e => ih a (by subst e; exact h)) (fun a e => e0 a (by subst e; exact (Option.some.inj h).symm))
set_option maxRecDepth 100000 in
set_option maxHeartbeats 4000000 in
theorem sjX4_parse_33 (X : CX) (C : Ok X RX4 cX4_parse wsX4_parse rX4_parse) (cn : Tcn) (bk : Tbk) (st : Tst) (r0 : Tbk) (r1 : Tbk) (r2 : Tbk) (r3 : Tbk) (r4 : Tbk) (li : Tli) (fo : Tfo) (tx : Ttx) (co : Tco) (ke : Tke) (rf : (Nat → Int32)) (cp : Int32) (lk : Tlk) (fl : Tfl) (em : Int32) (tm : Ttm) (rd : Trd) (x1 : Int32) (y0 : Int32) (o : Int32 × Ttx) (h : jX4_parse_33 tx x1 y0 = some o) (hT : Rt X (some .int) (some (.int o.1)) (mkH cn bk st r0 r1 r2 r3 r4 li fo o.2 co ke rf cp lk fl em tm rd)) : Wg X 33 [some (.ref 33), some (.int x1), none, none] [.int y0] (mkH cn bk st r0 r1 r2 r3 r4 li fo tx co ke rf cp lk fl em tm rd) := by
  unfold jX4_parse_33 at h
  refine wg_istore_n (lv' := [some (.ref 33), some (.int x1), some (.int y0), none]) C dX4_parse_33 (Nat.le_of_ble_eq_true rfl) rfl ?_
  refine wg_iconst (v := 0) C dX4_parse_34 (by decide) ?_
  refine wg_istore_n (lv' := [some (.ref 33), some (.int x1), some (.int y0), some (.int (0 : Int32))]) C dX4_parse_35 (Nat.le_of_ble_eq_true rfl) rfl ?_
  obtain ⟨t11, hL11, h⟩ := bnd h
  refine slX4_parse_36 X C cn bk st r0 r1 r2 r3 r4 li fo tx co ke rf cp lk fl em tm rd x1 t11 (fun a e => ?_) FU (y0, (0 : Int32), tx) hL11
  subst e
  refine wg_iload_n C dX4_parse_116 rfl ?_
  obtain rfl := Option.some.inj h
  exact wg_iret C hT dX4_parse_117
set_option maxRecDepth 100000 in
set_option maxHeartbeats 4000000 in
theorem sX4_parse (cn : Tcn) (bk : Tbk) (st : Tst) (r0 : Tbk) (r1 : Tbk) (r2 : Tbk) (r3 : Tbk) (r4 : Tbk) (li : Tli) (fo : Tfo) (tx : Ttx) (co : Tco) (ke : Tke) (rf : (Nat → Int32)) (cp : Int32) (lk : Tlk) (fl : Tfl) (em : Int32) (tm : Ttm) (rd : Trd) (x1 : Int32) (o : Int32 × Ttx) (h : fX4_parse tx x1 = some o) : Sp yX4_parse wsX4_parse rX4_parse [.ref 33, .int x1] (mkH cn bk st r0 r1 r2 r3 r4 li fo tx co ke rf cp lk fl em tm rd) (some (.int o.1)) (mkH cn bk st r0 r1 r2 r3 r4 li fo o.2 co ke rf cp lk fl em tm rd) := by
  refine Sp.of (lv := [some (.ref 33), some (.int x1), none, none]) RX4 (by decide +kernel) rfl (Nat.le_of_ble_eq_true rfl) rfl ?_
  intro X C hT
  unfold fX4_parse at h
  refine wg_aload_n C dX4_parse_0 rfl ?_
  refine wg_iconst (v := 0) C dX4_parse_1 (by decide) ?_
  refine wg_put (hp' := (mkH cn bk st r0 r1 r2 r3 r4 li fo (tx.1, tx.2.1, tx.2.2.1, (0 : Int32), tx.2.2.2.2) co ke rf cp lk fl em tm rd)) C fwX4_parse_29 rfl (Nat.le_of_ble_eq_true rfl) rfl rfl rfl dX4_parse_2 ?_
  refine wg_aload_n C dX4_parse_5 rfl ?_
  refine wg_iconst (v := 0) C dX4_parse_6 (by decide) ?_
  refine wg_put (hp' := (mkH cn bk st r0 r1 r2 r3 r4 li fo (tx.1, tx.2.1, tx.2.2.1, (0 : Int32), (0 : Int32)) co ke rf cp lk fl em tm rd)) C fwX4_parse_22 rfl (Nat.le_of_ble_eq_true rfl) rfl rfl rfl dX4_parse_7 ?_
  refine wg_aload_n C dX4_parse_10 rfl ?_
  obtain ⟨q1, e1q, h⟩ := bnd h
  refine wg_callV (n := 0) (As := []) (st := []) (st' := []) C (sX4_skipBlanks cn bk st r0 r1 r2 r3 r4 li fo (tx.1, tx.2.1, tx.2.2.1, (0 : Int32), (0 : Int32)) co ke rf cp lk fl em tm rd  q1 e1q) gX4_parse_X4_skipBlanks rfl (by decide +kernel) ⟨⟨rfl, rfl⟩, Nat.le_of_ble_eq_true rfl, Nat.le_of_ble_eq_true rfl⟩ rfl rfl rfl rfl (Nat.le_of_ble_eq_true rfl) dX4_parse_11 rfl ?_
  refine wg_aload_n C dX4_parse_14 rfl ?_
  refine wg_get (v := .int q1.2.2.2.1) C fgX4_parse_29 rfl rfl dX4_parse_15 ?_
  refine wg_aload_n C dX4_parse_18 rfl ?_
  refine wg_get (v := .int q1.2.2.1) C fgX4_parse_18 rfl rfl dX4_parse_19 ?_
  refine wg_icmp_ge (tgt := 29) C dX4_parse_22 (by decide) (fun c2 => ?_) (fun c2 => ?_)
  · replace h := ifP c2 h
    refine wg_aload_n C dX4_parse_29 rfl ?_
    refine wg_get (v := .int q1.2.2.1) C fgX4_parse_18 rfl rfl dX4_parse_30 ?_
    exact sjX4_parse_33 X C cn bk st r0 r1 r2 r3 r4 li fo q1 co ke rf cp lk fl em tm rd x1 q1.2.2.1 _ h hT
  · replace h := ifN c2 h
    refine wg_iconst (v := -1) C dX4_parse_25 (by decide) ?_
    refine wg_goto (tgt := 33) C dX4_parse_26 (by decide) ?_
    exact sjX4_parse_33 X C cn bk st r0 r1 r2 r3 r4 li fo q1 co ke rf cp lk fl em tm rd x1 (-1 : Int32) _ h hT
abbrev rX4_daysTold : Room := { frames := 0, cells := 0, slots := 0, locals := 0 }
theorem iwX4_daysTold_4 : ∀ w ∈ wsX40, w ∈ wsX4_daysTold := by decide +kernel
theorem fgX4_daysTold_22 : FG wsX4_daysTold RX4 22 4 4 := ⟨RX4, TX4, 5, rfl, by decide, by decide +kernel, iwX4_daysTold_4⟩
set_option maxRecDepth 100000 in
set_option maxHeartbeats 4000000 in
theorem sX4_daysTold (cn : Tcn) (bk : Tbk) (st : Tst) (r0 : Tbk) (r1 : Tbk) (r2 : Tbk) (r3 : Tbk) (r4 : Tbk) (li : Tli) (fo : Tfo) (tx : Ttx) (co : Tco) (ke : Tke) (rf : (Nat → Int32)) (cp : Int32) (lk : Tlk) (fl : Tfl) (em : Int32) (tm : Ttm) (rd : Trd)  (o : Int32) (h : fX4_daysTold tx  = some o) : Sp yX4_daysTold wsX4_daysTold rX4_daysTold [.ref 33] (mkH cn bk st r0 r1 r2 r3 r4 li fo tx co ke rf cp lk fl em tm rd) (some (.int o)) (mkH cn bk st r0 r1 r2 r3 r4 li fo tx co ke rf cp lk fl em tm rd) := by
  refine Sp.of (lv := [some (.ref 33)]) RX4 (by decide +kernel) rfl (Nat.le_of_ble_eq_true rfl) rfl ?_
  intro X C hT
  unfold fX4_daysTold at h
  refine wg_aload_n C dX4_daysTold_0 rfl ?_
  refine wg_get (v := .int tx.2.2.2.2) C fgX4_daysTold_22 rfl rfl dX4_daysTold_1 ?_
  obtain rfl := Option.some.inj h
  exact wg_iret C hT dX4_daysTold_4
abbrev rX4_note : Room := { frames := 2, cells := 0, slots := 0, locals := 42 }
theorem iwX4_note_4 : ∀ w ∈ wsX40, w ∈ wsX4_note := by decide +kernel
theorem fgX4_note_15 : FG wsX4_note RX4 15 4 1 := ⟨RX4, TX4, 5, rfl, by decide, by decide +kernel, iwX4_note_4⟩
theorem fgX4_note_22 : FG wsX4_note RX4 22 4 4 := ⟨RX4, TX4, 5, rfl, by decide, by decide +kernel, iwX4_note_4⟩
set_option maxRecDepth 100000 in
set_option maxHeartbeats 4000000 in
theorem sjX4_note_35 (X : CX) (C : Ok X RX4 cX4_note wsX4_note rX4_note) (cn : Tcn) (bk : Tbk) (st : Tst) (r0 : Tbk) (r1 : Tbk) (r2 : Tbk) (r3 : Tbk) (r4 : Tbk) (li : Tli) (fo : Tfo) (tx : Ttx) (co : Tco) (ke : Tke) (rf : (Nat → Int32)) (cp : Int32) (lk : Tlk) (fl : Tfl) (em : Int32) (tm : Ttm) (rd : Trd) (y0 : Int32) (o : Int32) (h : jX4_note_35 tx y0 = some o) (hT : Rt X (some .int) (some (.int o)) (mkH cn bk st r0 r1 r2 r3 r4 li fo tx co ke rf cp lk fl em tm rd)) : Wg X 35 [none, none, none] [.int y0] (mkH cn bk st r0 r1 r2 r3 r4 li fo tx co ke rf cp lk fl em tm rd) := by
  unfold jX4_note_35 at h
  obtain rfl := Option.some.inj h
  exact wg_iret C hT dX4_note_35
set_option maxRecDepth 100000 in
set_option maxHeartbeats 4000000 in
theorem sjX4_note_32 (X : CX) (C : Ok X RX4 cX4_note wsX4_note rX4_note) (cn : Tcn) (bk : Tbk) (st : Tst) (r0 : Tbk) (r1 : Tbk) (r2 : Tbk) (r3 : Tbk) (r4 : Tbk) (li : Tli) (fo : Tfo) (tx : Ttx) (co : Tco) (ke : Tke) (rf : (Nat → Int32)) (cp : Int32) (lk : Tlk) (fl : Tfl) (em : Int32) (tm : Ttm) (rd : Trd)  (o : Int32) (h : jX4_note_32 tx  = some o) (hT : Rt X (some .int) (some (.int o)) (mkH cn bk st r0 r1 r2 r3 r4 li fo tx co ke rf cp lk fl em tm rd)) : Wg X 32 [none, none, none] [] (mkH cn bk st r0 r1 r2 r3 r4 li fo tx co ke rf cp lk fl em tm rd) := by
  unfold jX4_note_32 at h
  refine wg_sipush (v := -10000) C dX4_note_32 (by decide) ?_
  exact sjX4_note_35 X C cn bk st r0 r1 r2 r3 r4 li fo tx co ke rf cp lk fl em tm rd (-10000 : Int32) _ h hT
set_option maxRecDepth 100000 in
set_option maxHeartbeats 4000000 in
theorem sX4_note (cn : Tcn) (bk : Tbk) (st : Tst) (r0 : Tbk) (r1 : Tbk) (r2 : Tbk) (r3 : Tbk) (r4 : Tbk) (li : Tli) (fo : Tfo) (tx : Ttx) (co : Tco) (ke : Tke) (rf : (Nat → Int32)) (cp : Int32) (lk : Tlk) (fl : Tfl) (em : Int32) (tm : Ttm) (rd : Trd) (x1 : Int32) (x2 : Int32) (o : Int32) (h : fX4_note tx x1 x2 = some o) : Sp yX4_note wsX4_note rX4_note [.ref 33, .int x1, .int x2] (mkH cn bk st r0 r1 r2 r3 r4 li fo tx co ke rf cp lk fl em tm rd) (some (.int o)) (mkH cn bk st r0 r1 r2 r3 r4 li fo tx co ke rf cp lk fl em tm rd) := by
  refine Sp.of (lv := [some (.ref 33), some (.int x1), some (.int x2)]) RX4 (by decide +kernel) rfl (Nat.le_of_ble_eq_true rfl) rfl ?_
  intro X C hT
  unfold fX4_note at h
  refine wg_iload_n C dX4_note_0 rfl ?_
  refine wg_if_lt (tgt := 32) C dX4_note_1 (by decide) (fun c1 => ?_) (fun c1 => ?_)
  · replace h := ifP c1 h
    refine wg_drop (lv' := [none, none, none]) [0, 1, 2] rfl ?_
    exact sjX4_note_32 X C cn bk st r0 r1 r2 r3 r4 li fo tx co ke rf cp lk fl em tm rd  _ h hT
  · replace h := ifN c1 h
    refine wg_iload_n C dX4_note_4 rfl ?_
    refine wg_aload_n C dX4_note_5 rfl ?_
    refine wg_get (v := .int tx.2.2.2.2) C fgX4_note_22 rfl rfl dX4_note_6 ?_
    refine wg_icmp_ge (tgt := 32) C dX4_note_9 (by decide) (fun c2 => ?_) (fun c2 => ?_)
    · replace h := ifP c2 h
      refine wg_drop (lv' := [none, none, none]) [0, 1, 2] rfl ?_
      exact sjX4_note_32 X C cn bk st r0 r1 r2 r3 r4 li fo tx co ke rf cp lk fl em tm rd  _ h hT
    · replace h := ifN c2 h
      refine wg_iload_n C dX4_note_12 rfl ?_
      obtain ⟨q3, e3q, h⟩ := bnd h
      refine wg_callN (n := 1) (As := [.int x2]) (st := []) (st' := [.int q3]) C (sX5_isMember cn bk st r0 r1 r2 r3 r4 li fo tx co ke rf cp lk fl em tm rd x2 q3 e3q) (fun U h => h.2.2.2.2) gX4_note_X5_isMember_n25 ⟨by decide +kernel, by decide +kernel⟩ rfl (by decide +kernel) ⟨⟨rfl, rfl⟩, Nat.le_of_ble_eq_true rfl, Nat.le_of_ble_eq_true rfl⟩ rfl rfl (Nat.le_of_ble_eq_true rfl) dX4_note_13 rfl ?_
      refine wg_if_eq (tgt := 32) C dX4_note_16 (by decide) (fun c4 => ?_) (fun c4 => ?_)
      · replace h := ifP c4 h
        refine wg_drop (lv' := [none, none, none]) [0, 1, 2] rfl ?_
        exact sjX4_note_32 X C cn bk st r0 r1 r2 r3 r4 li fo tx co ke rf cp lk fl em tm rd  _ h hT
      · replace h := ifN c4 h
        refine wg_aload_n C dX4_note_19 rfl ?_
        refine wg_get (v := .ref 35) C fgX4_note_15 rfl rfl dX4_note_20 ?_
        refine wg_iload_n C dX4_note_23 rfl ?_
        refine wg_iconst (v := 4) C dX4_note_24 (by decide) ?_
        refine wg_imul C dX4_note_25 ?_
        refine wg_iload_n C dX4_note_26 rfl ?_
        refine wg_iadd C dX4_note_27 ?_
        obtain ⟨g5, h⟩ := gdP h
        refine wg_iald (f := tx.2.1) (n := 200) C rfl g5 dX4_note_28 ?_
        refine wg_goto (tgt := 35) C dX4_note_29 (by decide) ?_
        refine wg_drop (lv' := [none, none, none]) [0, 1, 2] rfl ?_
        exact sjX4_note_35 X C cn bk st r0 r1 r2 r3 r4 li fo tx co ke rf cp lk fl em tm rd (tx.2.1 (((x1 * (4 : Int32)) + x2)).toNatClampNeg) _ h hT
abbrev rX5_reads : Room := { frames := 5, cells := 0, slots := 0, locals := 114 }
theorem iwX5_reads_5 : ∀ w ∈ wsX50, w ∈ wsX5_reads := by decide +kernel
theorem fgX5_reads_10 : FG wsX5_reads RX5 10 5 0 := ⟨RX5, TX5, 8, rfl, by decide, by decide +kernel, iwX5_reads_5⟩
theorem fgX5_reads_40 : FG wsX5_reads RX5 40 5 4 := ⟨RX5, TX5, 8, rfl, by decide, by decide +kernel, iwX5_reads_5⟩
set_option maxRecDepth 100000 in
set_option maxHeartbeats 4000000 in
theorem sbX5_reads_34 (X : CX) (C : Ok X RX5 cX5_reads wsX5_reads rX5_reads) (cn : Tcn) (bk : Tbk) (st : Tst) (r0 : Tbk) (r1 : Tbk) (r2 : Tbk) (r3 : Tbk) (r4 : Tbk) (li : Tli) (fo : Tfo) (tx : Ttx) (co : Tco) (ke : Tke) (rf : (Nat → Int32)) (cp : Int32) (lk : Tlk) (fl : Tfl) (em : Int32) (tm : Ttm) (rd : Trd)  (z : Int32 × Tbk) (o : (Int32 × Tbk) ⊕ Tbk) (h : bX5_reads_34 st r0 r1 r2 r3 r4 li tx  z = some o) (k0 : ∀ a : Int32 × Tbk, o = .inl a → Wg X 34 [some (.ref 0), none, some (.int a.1)] [] (mkH cn a.2 st r0 r1 r2 r3 r4 li fo tx co ke rf cp lk fl em tm rd)) (e0 : ∀ a : Tbk, o = .inr a → Wg X 95 [some (.ref 0), none, none] [] (mkH cn a st r0 r1 r2 r3 r4 li fo tx co ke rf cp lk fl em tm rd)) : Wg X 34 [some (.ref 0), none, some (.int z.1)] [] (mkH cn z.2 st r0 r1 r2 r3 r4 li fo tx co ke rf cp lk fl em tm rd) := by
  unfold bX5_reads_34 at h
  refine wg_iload_n C dX5_reads_34 rfl ?_
  refine wg_aload_n C dX5_reads_35 rfl ?_
  refine wg_get (v := .ref 33) C fgX5_reads_40 rfl rfl dX5_reads_36 ?_
  obtain ⟨q5, e5q, h⟩ := bnd h
  refine wg_callV (n := 0) (As := []) (st := [.int z.1]) (st' := [.int q5, .int z.1]) C (sX4_daysTold cn z.2 st r0 r1 r2 r3 r4 li fo tx co ke rf cp lk fl em tm rd  q5 e5q) gX5_reads_X4_daysTold rfl (by decide +kernel) ⟨⟨rfl, rfl⟩, Nat.le_of_ble_eq_true rfl, Nat.le_of_ble_eq_true rfl⟩ rfl rfl rfl rfl (Nat.le_of_ble_eq_true rfl) dX5_reads_39 rfl ?_
  refine wg_icmp_ge (tgt := 95) C dX5_reads_42 (by decide) (fun c6 => ?_) (fun c6 => ?_)
  · replace h := ifP c6 h
    refine wg_drop (lv' := [some (.ref 0), none, none]) [2] rfl ?_
    have hk := e0 _ (Option.some.inj h).symm
    exact hk
  · replace h := ifN c6 h
    refine wg_aload_n C dX5_reads_45 rfl ?_
    refine wg_get (v := .ref 1) C fgX5_reads_10 rfl rfl dX5_reads_46 ?_
    refine wg_aload_n C dX5_reads_49 rfl ?_
    refine wg_get (v := .ref 33) C fgX5_reads_40 rfl rfl dX5_reads_50 ?_
    refine wg_iload_n C dX5_reads_53 rfl ?_
    refine wg_iconst (v := 0) C dX5_reads_54 (by decide) ?_
    obtain ⟨q7, e7q, h⟩ := bnd h
    refine wg_callV (n := 2) (As := [.int z.1, .int (0 : Int32)]) (st := [.ref 1]) (st' := [.int q7, .ref 1]) C (sX4_note cn z.2 st r0 r1 r2 r3 r4 li fo tx co ke rf cp lk fl em tm rd z.1 (0 : Int32) q7 e7q) gX5_reads_X4_note rfl (by decide +kernel) ⟨⟨rfl, rfl⟩, Nat.le_of_ble_eq_true rfl, Nat.le_of_ble_eq_true rfl⟩ rfl rfl rfl rfl (Nat.le_of_ble_eq_true rfl) dX5_reads_55 rfl ?_
    refine wg_aload_n C dX5_reads_58 rfl ?_
    refine wg_get (v := .ref 33) C fgX5_reads_40 rfl rfl dX5_reads_59 ?_
    refine wg_iload_n C dX5_reads_62 rfl ?_
    refine wg_iconst (v := 1) C dX5_reads_63 (by decide) ?_
    obtain ⟨q8, e8q, h⟩ := bnd h
    refine wg_callV (n := 2) (As := [.int z.1, .int (1 : Int32)]) (st := [.int q7, .ref 1]) (st' := [.int q8, .int q7, .ref 1]) C (sX4_note cn z.2 st r0 r1 r2 r3 r4 li fo tx co ke rf cp lk fl em tm rd z.1 (1 : Int32) q8 e8q) gX5_reads_X4_note rfl (by decide +kernel) ⟨⟨rfl, rfl⟩, Nat.le_of_ble_eq_true rfl, Nat.le_of_ble_eq_true rfl⟩ rfl rfl rfl rfl (Nat.le_of_ble_eq_true rfl) dX5_reads_64 rfl ?_
    refine wg_aload_n C dX5_reads_67 rfl ?_
    refine wg_get (v := .ref 33) C fgX5_reads_40 rfl rfl dX5_reads_68 ?_
    refine wg_iload_n C dX5_reads_71 rfl ?_
    refine wg_iconst (v := 2) C dX5_reads_72 (by decide) ?_
    obtain ⟨q9, e9q, h⟩ := bnd h
    refine wg_callV (n := 2) (As := [.int z.1, .int (2 : Int32)]) (st := [.int q8, .int q7, .ref 1]) (st' := [.int q9, .int q8, .int q7, .ref 1]) C (sX4_note cn z.2 st r0 r1 r2 r3 r4 li fo tx co ke rf cp lk fl em tm rd z.1 (2 : Int32) q9 e9q) gX5_reads_X4_note rfl (by decide +kernel) ⟨⟨rfl, rfl⟩, Nat.le_of_ble_eq_true rfl, Nat.le_of_ble_eq_true rfl⟩ rfl rfl rfl rfl (Nat.le_of_ble_eq_true rfl) dX5_reads_73 rfl ?_
    refine wg_aload_n C dX5_reads_76 rfl ?_
    refine wg_get (v := .ref 33) C fgX5_reads_40 rfl rfl dX5_reads_77 ?_
    refine wg_iload_n C dX5_reads_80 rfl ?_
    refine wg_iconst (v := 3) C dX5_reads_81 (by decide) ?_
    obtain ⟨q10, e10q, h⟩ := bnd h
    refine wg_callV (n := 2) (As := [.int z.1, .int (3 : Int32)]) (st := [.int q9, .int q8, .int q7, .ref 1]) (st' := [.int q10, .int q9, .int q8, .int q7, .ref 1]) C (sX4_note cn z.2 st r0 r1 r2 r3 r4 li fo tx co ke rf cp lk fl em tm rd z.1 (3 : Int32) q10 e10q) gX5_reads_X4_note rfl (by decide +kernel) ⟨⟨rfl, rfl⟩, Nat.le_of_ble_eq_true rfl, Nat.le_of_ble_eq_true rfl⟩ rfl rfl rfl rfl (Nat.le_of_ble_eq_true rfl) dX5_reads_82 rfl ?_
    obtain ⟨q11, e11q, h⟩ := bnd h
    refine wg_callV (n := 4) (As := [.int q7, .int q8, .int q9, .int q10]) (st := []) (st' := [.int q11.1]) C (sX0_append cn z.2 st r0 r1 r2 r3 r4 li fo tx co ke rf cp lk fl em tm rd q7 q8 q9 q10 q11 e11q) gX5_reads_X0_append rfl (by decide +kernel) ⟨⟨rfl, rfl⟩, Nat.le_of_ble_eq_true rfl, Nat.le_of_ble_eq_true rfl⟩ rfl rfl rfl rfl (Nat.le_of_ble_eq_true rfl) dX5_reads_85 rfl ?_
    refine wg_pop C dX5_reads_88 rfl ?_
    refine wg_iinc (v := (z.1 + (1 : Int32))) (lv' := [some (.ref 0), none, some (.int (z.1 + (1 : Int32)))]) C dX5_reads_89 rfl rfl rfl ?_
    refine wg_goto (tgt := 34) C dX5_reads_92 (by decide) ?_
    have hk := k0 _ (Option.some.inj h).symm
    exact hk
set_option maxRecDepth 100000 in
set_option maxHeartbeats 4000000 in
theorem slX5_reads_34 (X : CX) (C : Ok X RX5 cX5_reads wsX5_reads rX5_reads) (cn : Tcn) (bk : Tbk) (st : Tst) (r0 : Tbk) (r1 : Tbk) (r2 : Tbk) (r3 : Tbk) (r4 : Tbk) (li : Tli) (fo : Tfo) (tx : Ttx) (co : Tco) (ke : Tke) (rf : (Nat → Int32)) (cp : Int32) (lk : Tlk) (fl : Tfl) (em : Int32) (tm : Ttm) (rd : Trd)  (o : Tbk) (e0 : ∀ a : Tbk, o = a → Wg X 95 [some (.ref 0), none, none] [] (mkH cn a st r0 r1 r2 r3 r4 li fo tx co ke rf cp lk fl em tm rd)) : ∀ (n : Nat) (z : Int32 × Tbk), lpF (bX5_reads_34 st r0 r1 r2 r3 r4 li tx ) n z = some o → Wg X 34 [some (.ref 0), none, some (.int z.1)] [] (mkH cn z.2 st r0 r1 r2 r3 r4 li fo tx co ke rf cp lk fl em tm rd) := by
  intro n
  induction n with
  | zero => intro z h; cases h
  | succ n ih =>
    intro z h
    obtain ⟨r, hB, h⟩ := bnd h
    refine sbX5_reads_34 X C cn bk st r0 r1 r2 r3 r4 li fo tx co ke rf cp lk fl em tm rd  z r hB (fun a e => ih a (by subst e; exact h)) (fun a e => e0 a (by subst e; exact (Option.some.inj h).symm))
set_option maxRecDepth 100000 in
set_option maxHeartbeats 4000000 in
theorem sX5_reads (cn : Tcn) (bk : Tbk) (st : Tst) (r0 : Tbk) (r1 : Tbk) (r2 : Tbk) (r3 : Tbk) (r4 : Tbk) (li : Tli) (fo : Tfo) (tx : Ttx) (co : Tco) (ke : Tke) (rf : (Nat → Int32)) (cp : Int32) (lk : Tlk) (fl : Tfl) (em : Int32) (tm : Ttm) (rd : Trd)  (o : Int32 × Tbk × Tst × Tbk × Tbk × Tbk × Tbk × Tbk × Tli × Ttx) (h : fX5_reads bk st r0 r1 r2 r3 r4 li tx  = some o) : Sp yX5_reads wsX5_reads rX5_reads [.ref 0] (mkH cn bk st r0 r1 r2 r3 r4 li fo tx co ke rf cp lk fl em tm rd) (some (.int o.1)) (mkH cn o.2.1 o.2.2.1 o.2.2.2.1 o.2.2.2.2.1 o.2.2.2.2.2.1 o.2.2.2.2.2.2.1 o.2.2.2.2.2.2.2.1 o.2.2.2.2.2.2.2.2.1 fo o.2.2.2.2.2.2.2.2.2 co ke rf cp lk fl em tm rd) := by
  refine Sp.of (lv := [some (.ref 0), none, none]) RX5 (by decide +kernel) rfl (Nat.le_of_ble_eq_true rfl) rfl ?_
  intro X C hT
  unfold fX5_reads at h
  refine wg_aload_n C dX5_reads_0 rfl ?_
  refine wg_get (v := .ref 33) C fgX5_reads_40 rfl rfl dX5_reads_1 ?_
  refine wg_bipush (v := 50) C dX5_reads_4 (by decide) ?_
  refine wg_aload_n C dX5_reads_6 rfl ?_
  refine wg_get (v := .ref 1) C fgX5_reads_10 rfl rfl dX5_reads_7 ?_
  obtain ⟨q1, e1q, h⟩ := bnd h
  refine wg_callV (n := 0) (As := []) (st := [.int (50 : Int32), .ref 33]) (st' := [.int q1, .int (50 : Int32), .ref 33]) C (sX0_days cn bk st r0 r1 r2 r3 r4 li fo tx co ke rf cp lk fl em tm rd  q1 e1q) gX5_reads_X0_days rfl (by decide +kernel) ⟨⟨rfl, rfl⟩, Nat.le_of_ble_eq_true rfl, Nat.le_of_ble_eq_true rfl⟩ rfl rfl rfl rfl (Nat.le_of_ble_eq_true rfl) dX5_reads_10 rfl ?_
  refine wg_isub C dX5_reads_13 ?_
  obtain ⟨q2, e2q, h⟩ := bnd h
  refine wg_callV (n := 1) (As := [.int ((50 : Int32) - q1)]) (st := []) (st' := [.int q2.1]) C (sX4_parse cn bk st r0 r1 r2 r3 r4 li fo tx co ke rf cp lk fl em tm rd ((50 : Int32) - q1) q2 e2q) gX5_reads_X4_parse rfl (by decide +kernel) ⟨⟨rfl, rfl⟩, Nat.le_of_ble_eq_true rfl, Nat.le_of_ble_eq_true rfl⟩ rfl rfl rfl rfl (Nat.le_of_ble_eq_true rfl) dX5_reads_14 rfl ?_
  refine wg_istore_n (lv' := [some (.ref 0), some (.int q2.1), none]) C dX5_reads_17 (Nat.le_of_ble_eq_true rfl) rfl ?_
  refine wg_iload_n C dX5_reads_18 rfl ?_
  refine wg_iconst (v := -1) C dX5_reads_19 (by decide) ?_
  refine wg_icmp_eq (tgt := 28) C dX5_reads_20 (by decide) (fun c3 => ?_) (fun c3 => ?_)
  · replace h := ifP c3 h
    refine wg_aload_n C dX5_reads_28 rfl ?_
    obtain ⟨q4, e4q, h⟩ := bnd h
    refine wg_callV (n := 0) (As := []) (st := []) (st' := []) C (sX5_keepState cn bk st r0 r1 r2 r3 r4 li fo q2.2 co ke rf cp lk fl em tm rd  q4 e4q) gX5_reads_X5_keepState rfl (by decide +kernel) ⟨⟨rfl, rfl⟩, Nat.le_of_ble_eq_true rfl, Nat.le_of_ble_eq_true rfl⟩ rfl rfl rfl rfl (Nat.le_of_ble_eq_true rfl) dX5_reads_29 rfl ?_
    refine wg_iconst (v := 0) C dX5_reads_32 (by decide) ?_
    refine wg_istore_n (lv' := [some (.ref 0), some (.int q2.1), some (.int (0 : Int32))]) C dX5_reads_33 (Nat.le_of_ble_eq_true rfl) rfl ?_
    refine wg_drop (lv' := [some (.ref 0), none, some (.int (0 : Int32))]) [1] rfl ?_
    obtain ⟨t12, hL12, h⟩ := bnd h
    refine slX5_reads_34 X C cn bk q4.1 q4.2.1 q4.2.2.1 q4.2.2.2.1 q4.2.2.2.2.1 q4.2.2.2.2.2.1 q4.2.2.2.2.2.2 fo q2.2 co ke rf cp lk fl em tm rd  t12 (fun a e => ?_) FU ((0 : Int32), bk) hL12
    subst e
    refine wg_aload_n C dX5_reads_95 rfl ?_
    refine wg_get (v := .ref 33) C fgX5_reads_40 rfl rfl dX5_reads_96 ?_
    obtain ⟨q13, e13q, h⟩ := bnd h
    refine wg_callV (n := 0) (As := []) (st := []) (st' := [.int q13]) C (sX4_daysTold cn t12 q4.1 q4.2.1 q4.2.2.1 q4.2.2.2.1 q4.2.2.2.2.1 q4.2.2.2.2.2.1 q4.2.2.2.2.2.2 fo q2.2 co ke rf cp lk fl em tm rd  q13 e13q) gX5_reads_X4_daysTold rfl (by decide +kernel) ⟨⟨rfl, rfl⟩, Nat.le_of_ble_eq_true rfl, Nat.le_of_ble_eq_true rfl⟩ rfl rfl rfl rfl (Nat.le_of_ble_eq_true rfl) dX5_reads_99 rfl ?_
    obtain rfl := Option.some.inj h
    exact wg_iret C hT dX5_reads_102
  · replace h := ifN c3 h
    refine wg_bipush (v := -10) C dX5_reads_23 (by decide) ?_
    refine wg_iload_n C dX5_reads_25 rfl ?_
    refine wg_isub C dX5_reads_26 ?_
    obtain rfl := Option.some.inj h
    exact wg_iret C hT dX5_reads_27
abbrev rX3_count : Room := { frames := 0, cells := 0, slots := 0, locals := 0 }
theorem iwX3_count_3 : ∀ w ∈ wsX30, w ∈ wsX3_count := by decide +kernel
theorem fgX3_count_18 : FG wsX3_count RX3 18 3 2 := ⟨RX3, TX3, 3, rfl, by decide, by decide +kernel, iwX3_count_3⟩
set_option maxRecDepth 100000 in
set_option maxHeartbeats 4000000 in
theorem sX3_count (cn : Tcn) (bk : Tbk) (st : Tst) (r0 : Tbk) (r1 : Tbk) (r2 : Tbk) (r3 : Tbk) (r4 : Tbk) (li : Tli) (fo : Tfo) (tx : Ttx) (co : Tco) (ke : Tke) (rf : (Nat → Int32)) (cp : Int32) (lk : Tlk) (fl : Tfl) (em : Int32) (tm : Ttm) (rd : Trd)  (o : Int32) (h : fX3_count st  = some o) : Sp yX3_count wsX3_count rX3_count [.ref 4] (mkH cn bk st r0 r1 r2 r3 r4 li fo tx co ke rf cp lk fl em tm rd) (some (.int o)) (mkH cn bk st r0 r1 r2 r3 r4 li fo tx co ke rf cp lk fl em tm rd) := by
  refine Sp.of (lv := [some (.ref 4)]) RX3 (by decide +kernel) rfl (Nat.le_of_ble_eq_true rfl) rfl ?_
  intro X C hT
  unfold fX3_count at h
  refine wg_aload_n C dX3_count_0 rfl ?_
  refine wg_get (v := .int st.2) C fgX3_count_18 rfl rfl dX3_count_1 ?_
  obtain rfl := Option.some.inj h
  exact wg_iret C hT dX3_count_4
abbrev rX0_copyFrom_1_6 : Room := { frames := 1, cells := 0, slots := 0, locals := 40 }
theorem iwX0_copyFrom_1_6_0 : ∀ w ∈ wsX00, w ∈ wsX0_copyFrom := by decide +kernel
theorem fgX0_copyFrom_1_6_9 : FG wsX0_copyFrom RX0 9 0 0 := ⟨RX0, TX0, 5, rfl, by decide, by decide +kernel, iwX0_copyFrom_1_6_0⟩
theorem fgX0_copyFrom_1_6_15 : FG wsX0_copyFrom RX0 15 0 1 := ⟨RX0, TX0, 5, rfl, by decide, by decide +kernel, iwX0_copyFrom_1_6_0⟩
theorem fgX0_copyFrom_1_6_24 : FG wsX0_copyFrom RX0 24 0 4 := ⟨RX0, TX0, 5, rfl, by decide, by decide +kernel, iwX0_copyFrom_1_6_0⟩
theorem fwX0_copyFrom_1_6_24 : FW wsX0_copyFrom RX0 24 0 4 .int := ⟨RX0, TX0, 5, tyX0, rfl, by decide, by decide +kernel, iwX0_copyFrom_1_6_0, tyX0_ok, nmX0, rfl, by decide +kernel⟩
theorem fgX0_copyFrom_1_6_28 : FG wsX0_copyFrom RX0 28 0 2 := ⟨RX0, TX0, 5, rfl, by decide, by decide +kernel, iwX0_copyFrom_1_6_0⟩
theorem fwX0_copyFrom_1_6_28 : FW wsX0_copyFrom RX0 28 0 2 .int := ⟨RX0, TX0, 5, tyX0, rfl, by decide, by decide +kernel, iwX0_copyFrom_1_6_0, tyX0_ok, nmX0, rfl, by decide +kernel⟩
theorem fgX0_copyFrom_1_6_31 : FG wsX0_copyFrom RX0 31 0 3 := ⟨RX0, TX0, 5, rfl, by decide, by decide +kernel, iwX0_copyFrom_1_6_0⟩
theorem fwX0_copyFrom_1_6_31 : FW wsX0_copyFrom RX0 31 0 3 .int := ⟨RX0, TX0, 5, tyX0, rfl, by decide, by decide +kernel, iwX0_copyFrom_1_6_0, tyX0_ok, nmX0, rfl, by decide +kernel⟩
set_option maxRecDepth 100000 in
set_option maxHeartbeats 4000000 in
theorem sX0_copyFrom_1_6 (cn : Tcn) (bk : Tbk) (st : Tst) (r0 : Tbk) (r1 : Tbk) (r2 : Tbk) (r3 : Tbk) (r4 : Tbk) (li : Tli) (fo : Tfo) (tx : Ttx) (co : Tco) (ke : Tke) (rf : (Nat → Int32)) (cp : Int32) (lk : Tlk) (fl : Tfl) (em : Int32) (tm : Ttm) (rd : Trd)  (o : Tbk) (h : fX0_copyFrom_1_6 bk r0  = some o) : Sp yX0_copyFrom wsX0_copyFrom rX0_copyFrom_1_6 [.ref 1, .ref 6] (mkH cn bk st r0 r1 r2 r3 r4 li fo tx co ke rf cp lk fl em tm rd) none (mkH cn o st r0 r1 r2 r3 r4 li fo tx co ke rf cp lk fl em tm rd) := by
  refine Sp.of (lv := [some (.ref 1), some (.ref 6)]) RX0 (by decide +kernel) rfl (Nat.le_of_ble_eq_true rfl) rfl ?_
  intro X C hT
  unfold fX0_copyFrom_1_6 at h
  refine wg_aload_n C dX0_copyFrom_0 rfl ?_
  refine wg_get (v := .ref 7) C fgX0_copyFrom_1_6_9 rfl rfl dX0_copyFrom_1 ?_
  refine wg_iconst (v := 0) C dX0_copyFrom_4 (by decide) ?_
  refine wg_aload_n C dX0_copyFrom_5 rfl ?_
  refine wg_get (v := .ref 2) C fgX0_copyFrom_1_6_9 rfl rfl dX0_copyFrom_6 ?_
  refine wg_iconst (v := 0) C dX0_copyFrom_9 (by decide) ?_
  refine wg_aload_n C dX0_copyFrom_10 rfl ?_
  refine wg_get (v := .ref 2) C fgX0_copyFrom_1_6_9 rfl rfl dX0_copyFrom_11 ?_
  refine wg_alen (v := 200) C rfl rfl rfl dX0_copyFrom_14 ?_
  refine wg_copy (hp' := (mkH cn ((va_cpy r0.1 bk.1 ((0 : Int32)).toNatClampNeg ((0 : Int32)).toNatClampNeg ((200 : Int32)).toNatClampNeg), bk.2.1, bk.2.2.1, bk.2.2.2.1, bk.2.2.2.2) st r0 r1 r2 r3 r4 li fo tx co ke rf cp lk fl em tm rd)) C ⟨by decide +kernel, by decide +kernel, by decide +kernel, by decide +kernel⟩ rfl rfl (by decide) (by decide) (by decide) (by decide) (by decide) ⟨Nat.le_of_ble_eq_true rfl, by decide +kernel⟩ rfl dX0_copyFrom_15 ?_
  refine wg_aload_n C dX0_copyFrom_18 rfl ?_
  refine wg_get (v := .ref 8) C fgX0_copyFrom_1_6_15 rfl rfl dX0_copyFrom_19 ?_
  refine wg_iconst (v := 0) C dX0_copyFrom_22 (by decide) ?_
  refine wg_aload_n C dX0_copyFrom_23 rfl ?_
  refine wg_get (v := .ref 3) C fgX0_copyFrom_1_6_15 rfl rfl dX0_copyFrom_24 ?_
  refine wg_iconst (v := 0) C dX0_copyFrom_27 (by decide) ?_
  refine wg_aload_n C dX0_copyFrom_28 rfl ?_
  refine wg_get (v := .ref 3) C fgX0_copyFrom_1_6_15 rfl rfl dX0_copyFrom_29 ?_
  refine wg_alen (v := 4) C rfl rfl rfl dX0_copyFrom_32 ?_
  refine wg_copy (hp' := (mkH cn ((va_cpy r0.1 bk.1 ((0 : Int32)).toNatClampNeg ((0 : Int32)).toNatClampNeg ((200 : Int32)).toNatClampNeg), (va_cpy r0.2.1 bk.2.1 ((0 : Int32)).toNatClampNeg ((0 : Int32)).toNatClampNeg ((4 : Int32)).toNatClampNeg), bk.2.2.1, bk.2.2.2.1, bk.2.2.2.2) st r0 r1 r2 r3 r4 li fo tx co ke rf cp lk fl em tm rd)) C ⟨by decide +kernel, by decide +kernel, by decide +kernel, by decide +kernel⟩ rfl rfl (by decide) (by decide) (by decide) (by decide) (by decide) ⟨Nat.le_of_ble_eq_true rfl, by decide +kernel⟩ rfl dX0_copyFrom_33 ?_
  refine wg_aload_n C dX0_copyFrom_36 rfl ?_
  refine wg_aload_n C dX0_copyFrom_37 rfl ?_
  refine wg_get (v := .int r0.2.2.1) C fgX0_copyFrom_1_6_28 rfl rfl dX0_copyFrom_38 ?_
  refine wg_put (hp' := (mkH cn ((va_cpy r0.1 bk.1 ((0 : Int32)).toNatClampNeg ((0 : Int32)).toNatClampNeg ((200 : Int32)).toNatClampNeg), (va_cpy r0.2.1 bk.2.1 ((0 : Int32)).toNatClampNeg ((0 : Int32)).toNatClampNeg ((4 : Int32)).toNatClampNeg), r0.2.2.1, bk.2.2.2.1, bk.2.2.2.2) st r0 r1 r2 r3 r4 li fo tx co ke rf cp lk fl em tm rd)) C fwX0_copyFrom_1_6_28 rfl (Nat.le_of_ble_eq_true rfl) rfl rfl rfl dX0_copyFrom_41 ?_
  refine wg_aload_n C dX0_copyFrom_44 rfl ?_
  refine wg_aload_n C dX0_copyFrom_45 rfl ?_
  refine wg_get (v := .int r0.2.2.2.1) C fgX0_copyFrom_1_6_31 rfl rfl dX0_copyFrom_46 ?_
  refine wg_put (hp' := (mkH cn ((va_cpy r0.1 bk.1 ((0 : Int32)).toNatClampNeg ((0 : Int32)).toNatClampNeg ((200 : Int32)).toNatClampNeg), (va_cpy r0.2.1 bk.2.1 ((0 : Int32)).toNatClampNeg ((0 : Int32)).toNatClampNeg ((4 : Int32)).toNatClampNeg), r0.2.2.1, r0.2.2.2.1, bk.2.2.2.2) st r0 r1 r2 r3 r4 li fo tx co ke rf cp lk fl em tm rd)) C fwX0_copyFrom_1_6_31 rfl (Nat.le_of_ble_eq_true rfl) rfl rfl rfl dX0_copyFrom_49 ?_
  refine wg_aload_n C dX0_copyFrom_52 rfl ?_
  refine wg_aload_n C dX0_copyFrom_53 rfl ?_
  refine wg_get (v := .int r0.2.2.2.2) C fgX0_copyFrom_1_6_24 rfl rfl dX0_copyFrom_54 ?_
  refine wg_put (hp' := (mkH cn ((va_cpy r0.1 bk.1 ((0 : Int32)).toNatClampNeg ((0 : Int32)).toNatClampNeg ((200 : Int32)).toNatClampNeg), (va_cpy r0.2.1 bk.2.1 ((0 : Int32)).toNatClampNeg ((0 : Int32)).toNatClampNeg ((4 : Int32)).toNatClampNeg), r0.2.2.1, r0.2.2.2.1, r0.2.2.2.2) st r0 r1 r2 r3 r4 li fo tx co ke rf cp lk fl em tm rd)) C fwX0_copyFrom_1_6_24 rfl (Nat.le_of_ble_eq_true rfl) rfl rfl rfl dX0_copyFrom_57 ?_
  obtain rfl := Option.some.inj h
  exact wg_vret C hT dX0_copyFrom_60
abbrev rX0_copyFrom_1_9 : Room := { frames := 1, cells := 0, slots := 0, locals := 40 }
theorem iwX0_copyFrom_1_9_0 : ∀ w ∈ wsX00, w ∈ wsX0_copyFrom := by decide +kernel
theorem fgX0_copyFrom_1_9_9 : FG wsX0_copyFrom RX0 9 0 0 := ⟨RX0, TX0, 5, rfl, by decide, by decide +kernel, iwX0_copyFrom_1_9_0⟩
theorem fgX0_copyFrom_1_9_15 : FG wsX0_copyFrom RX0 15 0 1 := ⟨RX0, TX0, 5, rfl, by decide, by decide +kernel, iwX0_copyFrom_1_9_0⟩
theorem fgX0_copyFrom_1_9_24 : FG wsX0_copyFrom RX0 24 0 4 := ⟨RX0, TX0, 5, rfl, by decide, by decide +kernel, iwX0_copyFrom_1_9_0⟩
theorem fwX0_copyFrom_1_9_24 : FW wsX0_copyFrom RX0 24 0 4 .int := ⟨RX0, TX0, 5, tyX0, rfl, by decide, by decide +kernel, iwX0_copyFrom_1_9_0, tyX0_ok, nmX0, rfl, by decide +kernel⟩
theorem fgX0_copyFrom_1_9_28 : FG wsX0_copyFrom RX0 28 0 2 := ⟨RX0, TX0, 5, rfl, by decide, by decide +kernel, iwX0_copyFrom_1_9_0⟩
theorem fwX0_copyFrom_1_9_28 : FW wsX0_copyFrom RX0 28 0 2 .int := ⟨RX0, TX0, 5, tyX0, rfl, by decide, by decide +kernel, iwX0_copyFrom_1_9_0, tyX0_ok, nmX0, rfl, by decide +kernel⟩
theorem fgX0_copyFrom_1_9_31 : FG wsX0_copyFrom RX0 31 0 3 := ⟨RX0, TX0, 5, rfl, by decide, by decide +kernel, iwX0_copyFrom_1_9_0⟩
theorem fwX0_copyFrom_1_9_31 : FW wsX0_copyFrom RX0 31 0 3 .int := ⟨RX0, TX0, 5, tyX0, rfl, by decide, by decide +kernel, iwX0_copyFrom_1_9_0, tyX0_ok, nmX0, rfl, by decide +kernel⟩
set_option maxRecDepth 100000 in
set_option maxHeartbeats 4000000 in
theorem sX0_copyFrom_1_9 (cn : Tcn) (bk : Tbk) (st : Tst) (r0 : Tbk) (r1 : Tbk) (r2 : Tbk) (r3 : Tbk) (r4 : Tbk) (li : Tli) (fo : Tfo) (tx : Ttx) (co : Tco) (ke : Tke) (rf : (Nat → Int32)) (cp : Int32) (lk : Tlk) (fl : Tfl) (em : Int32) (tm : Ttm) (rd : Trd)  (o : Tbk) (h : fX0_copyFrom_1_9 bk r1  = some o) : Sp yX0_copyFrom wsX0_copyFrom rX0_copyFrom_1_9 [.ref 1, .ref 9] (mkH cn bk st r0 r1 r2 r3 r4 li fo tx co ke rf cp lk fl em tm rd) none (mkH cn o st r0 r1 r2 r3 r4 li fo tx co ke rf cp lk fl em tm rd) := by
  refine Sp.of (lv := [some (.ref 1), some (.ref 9)]) RX0 (by decide +kernel) rfl (Nat.le_of_ble_eq_true rfl) rfl ?_
  intro X C hT
  unfold fX0_copyFrom_1_9 at h
  refine wg_aload_n C dX0_copyFrom_0 rfl ?_
  refine wg_get (v := .ref 10) C fgX0_copyFrom_1_9_9 rfl rfl dX0_copyFrom_1 ?_
  refine wg_iconst (v := 0) C dX0_copyFrom_4 (by decide) ?_
  refine wg_aload_n C dX0_copyFrom_5 rfl ?_
  refine wg_get (v := .ref 2) C fgX0_copyFrom_1_9_9 rfl rfl dX0_copyFrom_6 ?_
  refine wg_iconst (v := 0) C dX0_copyFrom_9 (by decide) ?_
  refine wg_aload_n C dX0_copyFrom_10 rfl ?_
  refine wg_get (v := .ref 2) C fgX0_copyFrom_1_9_9 rfl rfl dX0_copyFrom_11 ?_
  refine wg_alen (v := 200) C rfl rfl rfl dX0_copyFrom_14 ?_
  refine wg_copy (hp' := (mkH cn ((va_cpy r1.1 bk.1 ((0 : Int32)).toNatClampNeg ((0 : Int32)).toNatClampNeg ((200 : Int32)).toNatClampNeg), bk.2.1, bk.2.2.1, bk.2.2.2.1, bk.2.2.2.2) st r0 r1 r2 r3 r4 li fo tx co ke rf cp lk fl em tm rd)) C ⟨by decide +kernel, by decide +kernel, by decide +kernel, by decide +kernel⟩ rfl rfl (by decide) (by decide) (by decide) (by decide) (by decide) ⟨Nat.le_of_ble_eq_true rfl, by decide +kernel⟩ rfl dX0_copyFrom_15 ?_
  refine wg_aload_n C dX0_copyFrom_18 rfl ?_
  refine wg_get (v := .ref 11) C fgX0_copyFrom_1_9_15 rfl rfl dX0_copyFrom_19 ?_
  refine wg_iconst (v := 0) C dX0_copyFrom_22 (by decide) ?_
  refine wg_aload_n C dX0_copyFrom_23 rfl ?_
  refine wg_get (v := .ref 3) C fgX0_copyFrom_1_9_15 rfl rfl dX0_copyFrom_24 ?_
  refine wg_iconst (v := 0) C dX0_copyFrom_27 (by decide) ?_
  refine wg_aload_n C dX0_copyFrom_28 rfl ?_
  refine wg_get (v := .ref 3) C fgX0_copyFrom_1_9_15 rfl rfl dX0_copyFrom_29 ?_
  refine wg_alen (v := 4) C rfl rfl rfl dX0_copyFrom_32 ?_
  refine wg_copy (hp' := (mkH cn ((va_cpy r1.1 bk.1 ((0 : Int32)).toNatClampNeg ((0 : Int32)).toNatClampNeg ((200 : Int32)).toNatClampNeg), (va_cpy r1.2.1 bk.2.1 ((0 : Int32)).toNatClampNeg ((0 : Int32)).toNatClampNeg ((4 : Int32)).toNatClampNeg), bk.2.2.1, bk.2.2.2.1, bk.2.2.2.2) st r0 r1 r2 r3 r4 li fo tx co ke rf cp lk fl em tm rd)) C ⟨by decide +kernel, by decide +kernel, by decide +kernel, by decide +kernel⟩ rfl rfl (by decide) (by decide) (by decide) (by decide) (by decide) ⟨Nat.le_of_ble_eq_true rfl, by decide +kernel⟩ rfl dX0_copyFrom_33 ?_
  refine wg_aload_n C dX0_copyFrom_36 rfl ?_
  refine wg_aload_n C dX0_copyFrom_37 rfl ?_
  refine wg_get (v := .int r1.2.2.1) C fgX0_copyFrom_1_9_28 rfl rfl dX0_copyFrom_38 ?_
  refine wg_put (hp' := (mkH cn ((va_cpy r1.1 bk.1 ((0 : Int32)).toNatClampNeg ((0 : Int32)).toNatClampNeg ((200 : Int32)).toNatClampNeg), (va_cpy r1.2.1 bk.2.1 ((0 : Int32)).toNatClampNeg ((0 : Int32)).toNatClampNeg ((4 : Int32)).toNatClampNeg), r1.2.2.1, bk.2.2.2.1, bk.2.2.2.2) st r0 r1 r2 r3 r4 li fo tx co ke rf cp lk fl em tm rd)) C fwX0_copyFrom_1_9_28 rfl (Nat.le_of_ble_eq_true rfl) rfl rfl rfl dX0_copyFrom_41 ?_
  refine wg_aload_n C dX0_copyFrom_44 rfl ?_
  refine wg_aload_n C dX0_copyFrom_45 rfl ?_
  refine wg_get (v := .int r1.2.2.2.1) C fgX0_copyFrom_1_9_31 rfl rfl dX0_copyFrom_46 ?_
  refine wg_put (hp' := (mkH cn ((va_cpy r1.1 bk.1 ((0 : Int32)).toNatClampNeg ((0 : Int32)).toNatClampNeg ((200 : Int32)).toNatClampNeg), (va_cpy r1.2.1 bk.2.1 ((0 : Int32)).toNatClampNeg ((0 : Int32)).toNatClampNeg ((4 : Int32)).toNatClampNeg), r1.2.2.1, r1.2.2.2.1, bk.2.2.2.2) st r0 r1 r2 r3 r4 li fo tx co ke rf cp lk fl em tm rd)) C fwX0_copyFrom_1_9_31 rfl (Nat.le_of_ble_eq_true rfl) rfl rfl rfl dX0_copyFrom_49 ?_
  refine wg_aload_n C dX0_copyFrom_52 rfl ?_
  refine wg_aload_n C dX0_copyFrom_53 rfl ?_
  refine wg_get (v := .int r1.2.2.2.2) C fgX0_copyFrom_1_9_24 rfl rfl dX0_copyFrom_54 ?_
  refine wg_put (hp' := (mkH cn ((va_cpy r1.1 bk.1 ((0 : Int32)).toNatClampNeg ((0 : Int32)).toNatClampNeg ((200 : Int32)).toNatClampNeg), (va_cpy r1.2.1 bk.2.1 ((0 : Int32)).toNatClampNeg ((0 : Int32)).toNatClampNeg ((4 : Int32)).toNatClampNeg), r1.2.2.1, r1.2.2.2.1, r1.2.2.2.2) st r0 r1 r2 r3 r4 li fo tx co ke rf cp lk fl em tm rd)) C fwX0_copyFrom_1_9_24 rfl (Nat.le_of_ble_eq_true rfl) rfl rfl rfl dX0_copyFrom_57 ?_
  obtain rfl := Option.some.inj h
  exact wg_vret C hT dX0_copyFrom_60
