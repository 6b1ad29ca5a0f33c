section
-- ===== PART A: goes FIRST, ahead of the names: the tables' words, and 'selects' of the private methods out of them =====
/-- a private method of a class that the tables say can be made, by its rows of tables_1 -/
def lw_okq (q : MethodName × Nat) : Prop := (q.1.cls ≠ "java/lang/invoke/MethodHandle" ∧ q.1.cls ≠ "java/lang/invoke/VarHandle") ∧ Cond.instantiable q.1.cls q.2 ∈ tables_1 ∧ Cond.privateMethod q.1 ∈ tables_1 ∧ Cond.instanceMethod q.1 ∈ tables_1
theorem lw_p0 : lw_okq (⟨"AnalogDays", "refuseBad", "(I)I"⟩, 8) := ⟨⟨by decide +kernel, by decide +kernel⟩, List.mem_of_getElem? (i := 15) (by decide +kernel), List.mem_of_getElem? (i := 180) (by decide +kernel), List.mem_of_getElem? (i := 181) (by decide +kernel)⟩
theorem lw_p1 : lw_okq (⟨"AnalogDays", "refuseFull", "()I"⟩, 8) := ⟨⟨by decide +kernel, by decide +kernel⟩, List.mem_of_getElem? (i := 15) (by decide +kernel), List.mem_of_getElem? (i := 188) (by decide +kernel), List.mem_of_getElem? (i := 189) (by decide +kernel)⟩
theorem lw_p2 : lw_okq (⟨"AnalogDays", "keepState", "()V"⟩, 8) := ⟨⟨by decide +kernel, by decide +kernel⟩, List.mem_of_getElem? (i := 15) (by decide +kernel), List.mem_of_getElem? (i := 192) (by decide +kernel), List.mem_of_getElem? (i := 193) (by decide +kernel)⟩
theorem lw_p3 : lw_okq (⟨"AnalogDays$Book", "lastNoted", "(II)I"⟩, 5) := ⟨⟨by decide +kernel, by decide +kernel⟩, List.mem_of_getElem? (i := 23) (by decide +kernel), List.mem_of_getElem? (i := 260) (by decide +kernel), List.mem_of_getElem? (i := 261) (by decide +kernel)⟩
theorem lw_p4 : lw_okq (⟨"AnalogDays$Likeness", "takeNotes", "(LAnalogDays$Book;)V"⟩, 9) := ⟨⟨by decide +kernel, by decide +kernel⟩, List.mem_of_getElem? (i := 68) (by decide +kernel), List.mem_of_getElem? (i := 302) (by decide +kernel), List.mem_of_getElem? (i := 303) (by decide +kernel)⟩
theorem lw_p5 : lw_okq (⟨"AnalogDays$Likeness", "measure", "(II)F"⟩, 9) := ⟨⟨by decide +kernel, by decide +kernel⟩, List.mem_of_getElem? (i := 68) (by decide +kernel), List.mem_of_getElem? (i := 313) (by decide +kernel), List.mem_of_getElem? (i := 314) (by decide +kernel)⟩
theorem lw_p6 : lw_okq (⟨"AnalogDays$Likeness", "rank", "(II)V"⟩, 9) := ⟨⟨by decide +kernel, by decide +kernel⟩, List.mem_of_getElem? (i := 68) (by decide +kernel), List.mem_of_getElem? (i := 322) (by decide +kernel), List.mem_of_getElem? (i := 323) (by decide +kernel)⟩
theorem lw_p7 : lw_okq (⟨"AnalogDays$Likeness", "enter", "(IIFI)I"⟩, 9) := ⟨⟨by decide +kernel, by decide +kernel⟩, List.mem_of_getElem? (i := 68) (by decide +kernel), List.mem_of_getElem? (i := 329) (by decide +kernel), List.mem_of_getElem? (i := 330) (by decide +kernel)⟩
theorem lw_p8 : lw_okq (⟨"AnalogDays$Likeness", "has", "(I)Z"⟩, 9) := ⟨⟨by decide +kernel, by decide +kernel⟩, List.mem_of_getElem? (i := 68) (by decide +kernel), List.mem_of_getElem? (i := 337) (by decide +kernel), List.mem_of_getElem? (i := 338) (by decide +kernel)⟩
theorem lw_p9 : lw_okq (⟨"AnalogDays", "gatherFollowers", "(II)V"⟩, 8) := ⟨⟨by decide +kernel, by decide +kernel⟩, List.mem_of_getElem? (i := 15) (by decide +kernel), List.mem_of_getElem? (i := 400) (by decide +kernel), List.mem_of_getElem? (i := 401) (by decide +kernel)⟩
theorem lw_p10 : lw_okq (⟨"AnalogDays$Followers", "add", "(IF)V"⟩, 4) := ⟨⟨by decide +kernel, by decide +kernel⟩, List.mem_of_getElem? (i := 104) (by decide +kernel), List.mem_of_getElem? (i := 412) (by decide +kernel), List.mem_of_getElem? (i := 413) (by decide +kernel)⟩
theorem lw_p11 : lw_okq (⟨"AnalogDays", "meanError", "(II)F"⟩, 8) := ⟨⟨by decide +kernel, by decide +kernel⟩, List.mem_of_getElem? (i := 15) (by decide +kernel), List.mem_of_getElem? (i := 466) (by decide +kernel), List.mem_of_getElem? (i := 467) (by decide +kernel)⟩
theorem lw_p12 : lw_okq (⟨"AnalogDays$Text", "skipBlanks", "()V"⟩, 5) := ⟨⟨by decide +kernel, by decide +kernel⟩, List.mem_of_getElem? (i := 123) (by decide +kernel), List.mem_of_getElem? (i := 507) (by decide +kernel), List.mem_of_getElem? (i := 508) (by decide +kernel)⟩
theorem lw_p13 : lw_okq (⟨"AnalogDays$Text", "here", "()I"⟩, 5) := ⟨⟨by decide +kernel, by decide +kernel⟩, List.mem_of_getElem? (i := 123) (by decide +kernel), List.mem_of_getElem? (i := 511) (by decide +kernel), List.mem_of_getElem? (i := 512) (by decide +kernel)⟩
theorem lw_p14 : lw_okq (⟨"AnalogDays$Text", "parseDay", "(I)I"⟩, 5) := ⟨⟨by decide +kernel, by decide +kernel⟩, List.mem_of_getElem? (i := 123) (by decide +kernel), List.mem_of_getElem? (i := 515) (by decide +kernel), List.mem_of_getElem? (i := 516) (by decide +kernel)⟩
theorem lw_p15 : lw_okq (⟨"AnalogDays$Text", "parseMember", "(I)I"⟩, 5) := ⟨⟨by decide +kernel, by decide +kernel⟩, List.mem_of_getElem? (i := 123) (by decide +kernel), List.mem_of_getElem? (i := 519) (by decide +kernel), List.mem_of_getElem? (i := 520) (by decide +kernel)⟩
def lw_privs_1 : List (MethodName × Nat) := [(⟨"AnalogDays", "refuseBad", "(I)I"⟩, 8), (⟨"AnalogDays", "refuseFull", "()I"⟩, 8), (⟨"AnalogDays", "keepState", "()V"⟩, 8), (⟨"AnalogDays$Book", "lastNoted", "(II)I"⟩, 5), (⟨"AnalogDays$Likeness", "takeNotes", "(LAnalogDays$Book;)V"⟩, 9), (⟨"AnalogDays$Likeness", "measure", "(II)F"⟩, 9), (⟨"AnalogDays$Likeness", "rank", "(II)V"⟩, 9), (⟨"AnalogDays$Likeness", "enter", "(IIFI)I"⟩, 9), (⟨"AnalogDays$Likeness", "has", "(I)Z"⟩, 9), (⟨"AnalogDays", "gatherFollowers", "(II)V"⟩, 8), (⟨"AnalogDays$Followers", "add", "(IF)V"⟩, 4), (⟨"AnalogDays", "meanError", "(II)F"⟩, 8), (⟨"AnalogDays$Text", "skipBlanks", "()V"⟩, 5), (⟨"AnalogDays$Text", "here", "()I"⟩, 5), (⟨"AnalogDays$Text", "parseDay", "(I)I"⟩, 5), (⟨"AnalogDays$Text", "parseMember", "(I)I"⟩, 5)]
theorem lw_r1 : ∀ q ∈ lw_privs_1, lw_okq q := List.forall_mem_cons.mpr ⟨lw_p0, List.forall_mem_cons.mpr ⟨lw_p1, List.forall_mem_cons.mpr ⟨lw_p2, List.forall_mem_cons.mpr ⟨lw_p3, List.forall_mem_cons.mpr ⟨lw_p4, List.forall_mem_cons.mpr ⟨lw_p5, List.forall_mem_cons.mpr ⟨lw_p6, List.forall_mem_cons.mpr ⟨lw_p7, List.forall_mem_cons.mpr ⟨lw_p8, List.forall_mem_cons.mpr ⟨lw_p9, List.forall_mem_cons.mpr ⟨lw_p10, List.forall_mem_cons.mpr ⟨lw_p11, List.forall_mem_cons.mpr ⟨lw_p12, List.forall_mem_cons.mpr ⟨lw_p13, List.forall_mem_cons.mpr ⟨lw_p14, List.forall_mem_cons.mpr ⟨lw_p15, fun _ h => absurd h List.not_mem_nil⟩⟩⟩⟩⟩⟩⟩⟩⟩⟩⟩⟩⟩⟩⟩⟩
theorem lw_p16 : lw_okq (⟨"AnalogDays$Text", "keepNote", "(II)I"⟩, 5) := ⟨⟨by decide +kernel, by decide +kernel⟩, List.mem_of_getElem? (i := 123) (by decide +kernel), List.mem_of_getElem? (i := 523) (by decide +kernel), List.mem_of_getElem? (i := 524) (by decide +kernel)⟩
theorem lw_p17 : lw_okq (⟨"AnalogDays$Text", "parseNumber", "(I)I"⟩, 5) := ⟨⟨by decide +kernel, by decide +kernel⟩, List.mem_of_getElem? (i := 123) (by decide +kernel), List.mem_of_getElem? (i := 527) (by decide +kernel), List.mem_of_getElem? (i := 528) (by decide +kernel)⟩
theorem lw_p18 : lw_okq (⟨"AnalogDays$Text", "parseMark", "(I)I"⟩, 5) := ⟨⟨by decide +kernel, by decide +kernel⟩, List.mem_of_getElem? (i := 123) (by decide +kernel), List.mem_of_getElem? (i := 532) (by decide +kernel), List.mem_of_getElem? (i := 533) (by decide +kernel)⟩
theorem lw_p19 : lw_okq (⟨"AnalogDaysModel", "bad", "()I"⟩, 21) := ⟨⟨by decide +kernel, by decide +kernel⟩, List.mem_of_getElem? (i := 571) (by decide +kernel), List.mem_of_getElem? (i := 655) (by decide +kernel), List.mem_of_getElem? (i := 656) (by decide +kernel)⟩
theorem lw_p20 : lw_okq (⟨"AnalogDaysModel", "full", "()I"⟩, 21) := ⟨⟨by decide +kernel, by decide +kernel⟩, List.mem_of_getElem? (i := 571) (by decide +kernel), List.mem_of_getElem? (i := 659) (by decide +kernel), List.mem_of_getElem? (i := 660) (by decide +kernel)⟩
theorem lw_p21 : lw_okq (⟨"AnalogDaysModel", "leavesState", "()V"⟩, 21) := ⟨⟨by decide +kernel, by decide +kernel⟩, List.mem_of_getElem? (i := 571) (by decide +kernel), List.mem_of_getElem? (i := 663) (by decide +kernel), List.mem_of_getElem? (i := 664) (by decide +kernel)⟩
theorem lw_p22 : lw_okq (⟨"AnalogDaysModel", "comes", "(IIII)V"⟩, 21) := ⟨⟨by decide +kernel, by decide +kernel⟩, List.mem_of_getElem? (i := 571) (by decide +kernel), List.mem_of_getElem? (i := 667) (by decide +kernel), List.mem_of_getElem? (i := 668) (by decide +kernel)⟩
theorem lw_p23 : lw_okq (⟨"AnalogDaysModel", "isDay", "(I)Z"⟩, 21) := ⟨⟨by decide +kernel, by decide +kernel⟩, List.mem_of_getElem? (i := 571) (by decide +kernel), List.mem_of_getElem? (i := 675) (by decide +kernel), List.mem_of_getElem? (i := 676) (by decide +kernel)⟩
theorem lw_p24 : lw_okq (⟨"AnalogDaysModel", "badly", "()I"⟩, 21) := ⟨⟨by decide +kernel, by decide +kernel⟩, List.mem_of_getElem? (i := 571) (by decide +kernel), List.mem_of_getElem? (i := 682) (by decide +kernel), List.mem_of_getElem? (i := 683) (by decide +kernel)⟩
theorem lw_p25 : lw_okq (⟨"AnalogDaysModel", "before", "(I)I"⟩, 21) := ⟨⟨by decide +kernel, by decide +kernel⟩, List.mem_of_getElem? (i := 571) (by decide +kernel), List.mem_of_getElem? (i := 696) (by decide +kernel), List.mem_of_getElem? (i := 697) (by decide +kernel)⟩
theorem lw_p26 : lw_okq (⟨"AnalogDaysModel", "distanceOf", "(II)F"⟩, 21) := ⟨⟨by decide +kernel, by decide +kernel⟩, List.mem_of_getElem? (i := 571) (by decide +kernel), List.mem_of_getElem? (i := 718) (by decide +kernel), List.mem_of_getElem? (i := 719) (by decide +kernel)⟩
theorem lw_p27 : lw_okq (⟨"AnalogDaysModel", "setNearest", "(I)V"⟩, 21) := ⟨⟨by decide +kernel, by decide +kernel⟩, List.mem_of_getElem? (i := 571) (by decide +kernel), List.mem_of_getElem? (i := 744) (by decide +kernel), List.mem_of_getElem? (i := 745) (by decide +kernel)⟩
theorem lw_p28 : lw_okq (⟨"AnalogDaysModel", "setLike", "(I)V"⟩, 21) := ⟨⟨by decide +kernel, by decide +kernel⟩, List.mem_of_getElem? (i := 571) (by decide +kernel), List.mem_of_getElem? (i := 748) (by decide +kernel), List.mem_of_getElem? (i := 749) (by decide +kernel)⟩
theorem lw_p29 : lw_okq (⟨"AnalogDaysModel", "mayBeLike", "(II)Z"⟩, 21) := ⟨⟨by decide +kernel, by decide +kernel⟩, List.mem_of_getElem? (i := 571) (by decide +kernel), List.mem_of_getElem? (i := 752) (by decide +kernel), List.mem_of_getElem? (i := 753) (by decide +kernel)⟩
theorem lw_p30 : lw_okq (⟨"AnalogDaysModel", "setFollowers", "(II)V"⟩, 21) := ⟨⟨by decide +kernel, by decide +kernel⟩, List.mem_of_getElem? (i := 571) (by decide +kernel), List.mem_of_getElem? (i := 776) (by decide +kernel), List.mem_of_getElem? (i := 777) (by decide +kernel)⟩
theorem lw_p31 : lw_okq (⟨"AnalogDaysModel", "meanNow", "()F"⟩, 21) := ⟨⟨by decide +kernel, by decide +kernel⟩, List.mem_of_getElem? (i := 571) (by decide +kernel), List.mem_of_getElem? (i := 784) (by decide +kernel), List.mem_of_getElem? (i := 785) (by decide +kernel)⟩
def lw_privs_2 : List (MethodName × Nat) := [(⟨"AnalogDays$Text", "keepNote", "(II)I"⟩, 5), (⟨"AnalogDays$Text", "parseNumber", "(I)I"⟩, 5), (⟨"AnalogDays$Text", "parseMark", "(I)I"⟩, 5), (⟨"AnalogDaysModel", "bad", "()I"⟩, 21), (⟨"AnalogDaysModel", "full", "()I"⟩, 21), (⟨"AnalogDaysModel", "leavesState", "()V"⟩, 21), (⟨"AnalogDaysModel", "comes", "(IIII)V"⟩, 21), (⟨"AnalogDaysModel", "isDay", "(I)Z"⟩, 21), (⟨"AnalogDaysModel", "badly", "()I"⟩, 21), (⟨"AnalogDaysModel", "before", "(I)I"⟩, 21), (⟨"AnalogDaysModel", "distanceOf", "(II)F"⟩, 21), (⟨"AnalogDaysModel", "setNearest", "(I)V"⟩, 21), (⟨"AnalogDaysModel", "setLike", "(I)V"⟩, 21), (⟨"AnalogDaysModel", "mayBeLike", "(II)Z"⟩, 21), (⟨"AnalogDaysModel", "setFollowers", "(II)V"⟩, 21), (⟨"AnalogDaysModel", "meanNow", "()F"⟩, 21)]
theorem lw_r2 : ∀ q ∈ lw_privs_2, lw_okq q := List.forall_mem_cons.mpr ⟨lw_p16, List.forall_mem_cons.mpr ⟨lw_p17, List.forall_mem_cons.mpr ⟨lw_p18, List.forall_mem_cons.mpr ⟨lw_p19, List.forall_mem_cons.mpr ⟨lw_p20, List.forall_mem_cons.mpr ⟨lw_p21, List.forall_mem_cons.mpr ⟨lw_p22, List.forall_mem_cons.mpr ⟨lw_p23, List.forall_mem_cons.mpr ⟨lw_p24, List.forall_mem_cons.mpr ⟨lw_p25, List.forall_mem_cons.mpr ⟨lw_p26, List.forall_mem_cons.mpr ⟨lw_p27, List.forall_mem_cons.mpr ⟨lw_p28, List.forall_mem_cons.mpr ⟨lw_p29, List.forall_mem_cons.mpr ⟨lw_p30, List.forall_mem_cons.mpr ⟨lw_p31, fun _ h => absurd h List.not_mem_nil⟩⟩⟩⟩⟩⟩⟩⟩⟩⟩⟩⟩⟩⟩⟩⟩
theorem lw_p32 : lw_okq (⟨"AnalogDaysModel", "errsTold", "(I)I"⟩, 21) := ⟨⟨by decide +kernel, by decide +kernel⟩, List.mem_of_getElem? (i := 571) (by decide +kernel), List.mem_of_getElem? (i := 811) (by decide +kernel), List.mem_of_getElem? (i := 812) (by decide +kernel)⟩
theorem lw_p33 : lw_okq (⟨"AnalogDaysModel", "errsOf", "(I)F"⟩, 21) := ⟨⟨by decide +kernel, by decide +kernel⟩, List.mem_of_getElem? (i := 571) (by decide +kernel), List.mem_of_getElem? (i := 815) (by decide +kernel), List.mem_of_getElem? (i := 816) (by decide +kernel)⟩
theorem lw_p34 : lw_okq (⟨"AnalogDaysModel", "goesThrough", "(Z)I"⟩, 21) := ⟨⟨by decide +kernel, by decide +kernel⟩, List.mem_of_getElem? (i := 571) (by decide +kernel), List.mem_of_getElem? (i := 839) (by decide +kernel), List.mem_of_getElem? (i := 840) (by decide +kernel)⟩
theorem lw_p35 : lw_okq (⟨"AnalogDaysModel", "skips", "()V"⟩, 21) := ⟨⟨by decide +kernel, by decide +kernel⟩, List.mem_of_getElem? (i := 571) (by decide +kernel), List.mem_of_getElem? (i := 843) (by decide +kernel), List.mem_of_getElem? (i := 844) (by decide +kernel)⟩
theorem lw_p36 : lw_okq (⟨"AnalogDaysModel", "here", "()I"⟩, 21) := ⟨⟨by decide +kernel, by decide +kernel⟩, List.mem_of_getElem? (i := 571) (by decide +kernel), List.mem_of_getElem? (i := 847) (by decide +kernel), List.mem_of_getElem? (i := 848) (by decide +kernel)⟩
theorem lw_p37 : lw_okq (⟨"AnalogDaysModel", "readsDay", "(Z)Z"⟩, 21) := ⟨⟨by decide +kernel, by decide +kernel⟩, List.mem_of_getElem? (i := 571) (by decide +kernel), List.mem_of_getElem? (i := 851) (by decide +kernel), List.mem_of_getElem? (i := 852) (by decide +kernel)⟩
theorem lw_p38 : lw_okq (⟨"AnalogDaysModel", "readsMember", "(I)Z"⟩, 21) := ⟨⟨by decide +kernel, by decide +kernel⟩, List.mem_of_getElem? (i := 571) (by decide +kernel), List.mem_of_getElem? (i := 855) (by decide +kernel), List.mem_of_getElem? (i := 856) (by decide +kernel)⟩
theorem lw_p39 : lw_okq (⟨"AnalogDaysModel", "toldBy", "(I)I"⟩, 21) := ⟨⟨by decide +kernel, by decide +kernel⟩, List.mem_of_getElem? (i := 571) (by decide +kernel), List.mem_of_getElem? (i := 863) (by decide +kernel), List.mem_of_getElem? (i := 864) (by decide +kernel)⟩
def lw_privs_3 : List (MethodName × Nat) := [(⟨"AnalogDaysModel", "errsTold", "(I)I"⟩, 21), (⟨"AnalogDaysModel", "errsOf", "(I)F"⟩, 21), (⟨"AnalogDaysModel", "goesThrough", "(Z)I"⟩, 21), (⟨"AnalogDaysModel", "skips", "()V"⟩, 21), (⟨"AnalogDaysModel", "here", "()I"⟩, 21), (⟨"AnalogDaysModel", "readsDay", "(Z)Z"⟩, 21), (⟨"AnalogDaysModel", "readsMember", "(I)Z"⟩, 21), (⟨"AnalogDaysModel", "toldBy", "(I)I"⟩, 21)]
theorem lw_r3 : ∀ q ∈ lw_privs_3, lw_okq q := List.forall_mem_cons.mpr ⟨lw_p32, List.forall_mem_cons.mpr ⟨lw_p33, List.forall_mem_cons.mpr ⟨lw_p34, List.forall_mem_cons.mpr ⟨lw_p35, List.forall_mem_cons.mpr ⟨lw_p36, List.forall_mem_cons.mpr ⟨lw_p37, List.forall_mem_cons.mpr ⟨lw_p38, List.forall_mem_cons.mpr ⟨lw_p39, fun _ h => absurd h List.not_mem_nil⟩⟩⟩⟩⟩⟩⟩⟩
def lw_privs : List (MethodName × Nat) := lw_privs_1 ++ (lw_privs_2 ++ (lw_privs_3))
def lw_tbl : List Cond := k2_sels lw_privs ++ tables_1
theorem lw_privs_ok : ∀ q ∈ lw_privs, lw_okq q := by
  show ∀ q ∈ lw_privs_1 ++ (lw_privs_2 ++ (lw_privs_3)), lw_okq q
  exact List.forall_mem_append.mpr ⟨lw_r1, List.forall_mem_append.mpr ⟨lw_r2, lw_r3⟩⟩
/-- the streams that the claim lets the run draw from -/
abbrev lw_cs : List Choice := [Jvm.Choice.named "NaN.bits"]
theorem lw_bits : nanBits ∈ lw_cs := by first | decide | exact List.mem_cons_self | simp [lw_cs, nanBits]
end
section
/-! ===== BEGIN words of one list among another's, by their places ===== -/
theorem goodIn_r {big : List Cond} (ws : List Cond) (ps : List Nat) (hp : ws = ps.filterMap (fun i => big[i]?)) (h : ws.all goodWord = true) : GoodIn big ws := by
  intro w hw
  have h1 := List.all_eq_true.mp h w hw
  rw [hp] at hw
  obtain ⟨i, -, hi⟩ := List.mem_filterMap.mp hw
  have hm : w ∈ big := by first | exact List.mem_of_getElem? hi | exact List.getElem?_mem hi
  exact ⟨hm, good_of_word h1⟩
theorem goodIn_app {big a b : List Cond} (ha : GoodIn big a) (hb : GoodIn big b) : GoodIn big (a ++ b) := fun w h => (List.mem_append.mp h).elim (ha w) (hb w)
theorem goodIn_ca {big a b : List Cond} {c : Cond} (ha : GoodIn big (c :: a)) (hb : GoodIn big b) : GoodIn big (c :: (a ++ b)) := fun w h => (List.mem_cons.mp h).elim (fun e => ha w (List.mem_cons.mpr (Or.inl e))) (fun h => (List.mem_append.mp h).elim (fun h => ha w (List.mem_cons.mpr (Or.inr h))) (hb w))
theorem goodIn_sub {big ws : List Cond} (hm : ∀ w ∈ ws, w ∈ big) (h : ws.all goodWord = true) : GoodIn big ws := fun w hw => ⟨hm w hw, good_of_word (List.all_eq_true.mp h w hw)⟩
/-! ===== END ===== -/

/-! ===== BEGIN printed: names, fields, word lists, decode rows ===== -/
def RX0 : String := "AnalogDays$Book"
def TX0 : u_T := fun k => match k with
  | 0 => ("AnalogDays$Book", "notes", "[I", true)
  | 1 => ("AnalogDays$Book", "weights", "[I", true)
  | 2 => ("AnalogDays$Book", "days", "I", false)
  | 3 => ("AnalogDays$Book", "gap", "I", false)
  | _ => ("AnalogDays$Book", "few", "I", false)
def tyX0 : Nat → FieldType := fun k => match k with
  | 0 => .array .int
  | 1 => .array .int
  | 2 => .int
  | 3 => .int
  | _ => .int
abbrev wsX00 : List Cond := u_ws RX0 TX0 5
theorem nmX0 : ∀ a, a < 5 → ∀ b, b < 5 → a ≠ b → (TX0 a).2.1 ≠ (TX0 b).2.1 := by decide +kernel
theorem tyX0_ok : ∀ k, k < 5 → parseFieldDescriptor (TX0 k).2.2.1 = some (tyX0 k) := by decide +kernel
abbrev cX0_init : ByteArray := prog_2_method_1_code
def yX0_init : MethodName := ⟨RX0, "<init>", "()V"⟩
abbrev cX0_days : ByteArray := prog_2_method_2_code
def yX0_days : MethodName := ⟨RX0, "days", "()I"⟩
abbrev cX0_gap : ByteArray := prog_2_method_3_code
def yX0_gap : MethodName := ⟨RX0, "gap", "()I"⟩
abbrev cX0_few : ByteArray := prog_2_method_4_code
def yX0_few : MethodName := ⟨RX0, "few", "()I"⟩
abbrev cX0_has : ByteArray := prog_2_method_5_code
def yX0_has : MethodName := ⟨RX0, "has", "(I)Z"⟩
abbrev cX0_member : ByteArray := prog_2_method_6_code
def yX0_member : MethodName := ⟨RX0, "member", "(II)I"⟩
abbrev cX0_put : ByteArray := prog_2_method_7_code
def yX0_put : MethodName := ⟨RX0, "put", "(III)V"⟩
abbrev cX0_append : ByteArray := prog_2_method_8_code
def yX0_append : MethodName := ⟨RX0, "append", "(IIII)I"⟩
abbrev cX0_removeAll : ByteArray := prog_2_method_9_code
def yX0_removeAll : MethodName := ⟨RX0, "removeAll", "()V"⟩
abbrev cX0_rule : ByteArray := prog_2_method_10_code
def yX0_rule : MethodName := ⟨RX0, "rule", "(I)I"⟩
abbrev cX0_setRule : ByteArray := prog_2_method_11_code
def yX0_setRule : MethodName := ⟨RX0, "setRule", "(II)V"⟩
abbrev cX0_copyFrom : ByteArray := prog_2_method_12_code
def yX0_copyFrom : MethodName := ⟨RX0, "copyFrom", "(LAnalogDays$Book;)V"⟩
abbrev cX0_fillByChance : ByteArray := prog_2_method_13_code
def yX0_fillByChance : MethodName := ⟨RX0, "fillByChance", "(II)I"⟩
abbrev cX0_lastNoted : ByteArray := prog_2_method_14_code
def yX0_lastNoted : MethodName := ⟨RX0, "lastNoted", "(II)I"⟩
def RX1 : String := "AnalogDays$Followers"
def TX1 : u_T := fun k => match k with
  | 0 => ("AnalogDays$Followers", "tenths", "[I", true)
  | 1 => ("AnalogDays$Followers", "distances", "[F", true)
  | 2 => ("AnalogDays$Followers", "sorted", "[I", true)
  | _ => ("AnalogDays$Followers", "size", "I", false)
def tyX1 : Nat → FieldType := fun k => match k with
  | 0 => .array .int
  | 1 => .array .float
  | 2 => .array .int
  | _ => .int
abbrev wsX10 : List Cond := u_ws RX1 TX1 4
theorem nmX1 : ∀ a, a < 4 → ∀ b, b < 4 → a ≠ b → (TX1 a).2.1 ≠ (TX1 b).2.1 := by decide +kernel
theorem tyX1_ok : ∀ k, k < 4 → parseFieldDescriptor (TX1 k).2.2.1 = some (tyX1 k) := by decide +kernel
abbrev cX1_init : ByteArray := prog_3_method_1_code
def yX1_init : MethodName := ⟨RX1, "<init>", "()V"⟩
abbrev cX1_gather : ByteArray := prog_3_method_2_code
def yX1_gather : MethodName := ⟨RX1, "gather", "(LAnalogDays$Book;LAnalogDays$Likeness;III)V"⟩
abbrev cX1_size : ByteArray := prog_3_method_3_code
def yX1_size : MethodName := ⟨RX1, "size", "()I"⟩
abbrev cX1_spanSize : ByteArray := prog_3_method_4_code
def yX1_spanSize : MethodName := ⟨RX1, "spanSize", "(I)I"⟩
abbrev cX1_least : ByteArray := prog_3_method_5_code
def yX1_least : MethodName := ⟨RX1, "least", "(I)I"⟩
abbrev cX1_greatest : ByteArray := prog_3_method_6_code
def yX1_greatest : MethodName := ⟨RX1, "greatest", "(I)I"⟩
abbrev cX1_meanValue : ByteArray := prog_3_method_7_code
def yX1_meanValue : MethodName := ⟨RX1, "meanValue", "()F"⟩
abbrev cX1_spreadOfValues : ByteArray := prog_3_method_8_code
def yX1_spreadOfValues : MethodName := ⟨RX1, "spreadOfValues", "()D"⟩
abbrev cX1_add : ByteArray := prog_3_method_9_code
def yX1_add : MethodName := ⟨RX1, "add", "(IF)V"⟩
def RX2 : String := "AnalogDays$Likeness"
def TX2 : u_T := fun k => match k with
  | 0 => ("AnalogDays$Likeness", "values", "[F", true)
  | 1 => ("AnalogDays$Likeness", "noted", "[Z", true)
  | 2 => ("AnalogDays$Likeness", "weights", "[F", true)
  | 3 => ("AnalogDays$Likeness", "distances", "[F", true)
  | 4 => ("AnalogDays$Likeness", "nearDays", "[I", true)
  | 5 => ("AnalogDays$Likeness", "nearCounts", "[I", true)
  | 6 => ("AnalogDays$Likeness", "likeCounts", "[I", true)
  | 7 => ("AnalogDays$Likeness", "days", "I", false)
  | _ => ("AnalogDays$Likeness", "learnt", "I", false)
def tyX2 : Nat → FieldType := fun k => match k with
  | 0 => .array .float
  | 1 => .array .boolean
  | 2 => .array .float
  | 3 => .array .float
  | 4 => .array .int
  | 5 => .array .int
  | 6 => .array .int
  | 7 => .int
  | _ => .int
abbrev wsX20 : List Cond := u_ws RX2 TX2 9
theorem nmX2 : ∀ a, a < 9 → ∀ b, b < 9 → a ≠ b → (TX2 a).2.1 ≠ (TX2 b).2.1 := by decide +kernel
theorem tyX2_ok : ∀ k, k < 9 → parseFieldDescriptor (TX2 k).2.2.1 = some (tyX2 k) := by decide +kernel
abbrev cX2_init : ByteArray := prog_4_method_1_code
def yX2_init : MethodName := ⟨RX2, "<init>", "()V"⟩
abbrev cX2_forget : ByteArray := prog_4_method_2_code
def yX2_forget : MethodName := ⟨RX2, "forget", "()V"⟩
abbrev cX2_learn : ByteArray := prog_4_method_3_code
def yX2_learn : MethodName := ⟨RX2, "learn", "(LAnalogDays$Book;I)V"⟩
abbrev cX2_between : ByteArray := prog_4_method_4_code
def yX2_between : MethodName := ⟨RX2, "between", "(II)F"⟩
abbrev cX2_likeOnes : ByteArray := prog_4_method_5_code
def yX2_likeOnes : MethodName := ⟨RX2, "likeOnes", "(I)I"⟩
abbrev cX2_nearOnes : ByteArray := prog_4_method_6_code
def yX2_nearOnes : MethodName := ⟨RX2, "nearOnes", "(II)I"⟩
abbrev cX2_near : ByteArray := prog_4_method_7_code
def yX2_near : MethodName := ⟨RX2, "near", "(II)I"⟩
abbrev cX2_isNear : ByteArray := prog_4_method_8_code
def yX2_isNear : MethodName := ⟨RX2, "isNear", "(III)Z"⟩
abbrev cX2_has : ByteArray := prog_4_method_9_code
def yX2_has : MethodName := ⟨RX2, "has", "(I)Z"⟩
abbrev cX2_takeNotes : ByteArray := prog_4_method_10_code
def yX2_takeNotes : MethodName := ⟨RX2, "takeNotes", "(LAnalogDays$Book;)V"⟩
abbrev cX2_measure : ByteArray := prog_4_method_11_code
def yX2_measure : MethodName := ⟨RX2, "measure", "(II)F"⟩
abbrev cX2_rank : ByteArray := prog_4_method_12_code
def yX2_rank : MethodName := ⟨RX2, "rank", "(II)V"⟩
abbrev cX2_enter : ByteArray := prog_4_method_13_code
def yX2_enter : MethodName := ⟨RX2, "enter", "(IIFI)I"⟩
def RX3 : String := "AnalogDays$States"
def TX3 : u_T := fun k => match k with
  | 0 => ("AnalogDays$States", "ring", "[LAnalogDays$Book;", true)
  | 1 => ("AnalogDays$States", "newest", "I", false)
  | _ => ("AnalogDays$States", "count", "I", false)
def tyX3 : Nat → FieldType := fun k => match k with
  | 0 => .array (.object "AnalogDays$Book")
  | 1 => .int
  | _ => .int
abbrev wsX30 : List Cond := u_ws RX3 TX3 3
theorem nmX3 : ∀ a, a < 3 → ∀ b, b < 3 → a ≠ b → (TX3 a).2.1 ≠ (TX3 b).2.1 := by decide +kernel
theorem tyX3_ok : ∀ k, k < 3 → parseFieldDescriptor (TX3 k).2.2.1 = some (tyX3 k) := by decide +kernel
abbrev cX3_init : ByteArray := prog_5_method_1_code
def yX3_init : MethodName := ⟨RX3, "<init>", "()V"⟩
abbrev cX3_count : ByteArray := prog_5_method_2_code
def yX3_count : MethodName := ⟨RX3, "count", "()I"⟩
abbrev cX3_push : ByteArray := prog_5_method_3_code
def yX3_push : MethodName := ⟨RX3, "push", "(LAnalogDays$Book;)V"⟩
abbrev cX3_pop : ByteArray := prog_5_method_4_code
def yX3_pop : MethodName := ⟨RX3, "pop", "(LAnalogDays$Book;)V"⟩
def RX4 : String := "AnalogDays$Text"
def TX4 : u_T := fun k => match k with
  | 0 => ("AnalogDays$Text", "bytes", "[I", true)
  | 1 => ("AnalogDays$Text", "notes", "[I", true)
  | 2 => ("AnalogDays$Text", "length", "I", false)
  | 3 => ("AnalogDays$Text", "place", "I", false)
  | _ => ("AnalogDays$Text", "days", "I", false)
def tyX4 : Nat → FieldType := fun k => match k with
  | 0 => .array .int
  | 1 => .array .int
  | 2 => .int
  | 3 => .int
  | _ => .int
abbrev wsX40 : List Cond := u_ws RX4 TX4 5
theorem nmX4 : ∀ a, a < 5 → ∀ b, b < 5 → a ≠ b → (TX4 a).2.1 ≠ (TX4 b).2.1 := by decide +kernel
theorem tyX4_ok : ∀ k, k < 5 → parseFieldDescriptor (TX4 k).2.2.1 = some (tyX4 k) := by decide +kernel
abbrev cX4_init : ByteArray := prog_6_method_1_code
def yX4_init : MethodName := ⟨RX4, "<init>", "()V"⟩
abbrev cX4_length : ByteArray := prog_6_method_2_code
def yX4_length : MethodName := ⟨RX4, "length", "()I"⟩
abbrev cX4_append : ByteArray := prog_6_method_3_code
def yX4_append : MethodName := ⟨RX4, "append", "(I)I"⟩
abbrev cX4_wipe : ByteArray := prog_6_method_4_code
def yX4_wipe : MethodName := ⟨RX4, "wipe", "()I"⟩
abbrev cX4_daysTold : ByteArray := prog_6_method_5_code
def yX4_daysTold : MethodName := ⟨RX4, "daysTold", "()I"⟩
abbrev cX4_note : ByteArray := prog_6_method_6_code
def yX4_note : MethodName := ⟨RX4, "note", "(II)I"⟩
abbrev cX4_parse : ByteArray := prog_6_method_7_code
def yX4_parse : MethodName := ⟨RX4, "parse", "(I)I"⟩
abbrev cX4_parseDay : ByteArray := prog_6_method_8_code
def yX4_parseDay : MethodName := ⟨RX4, "parseDay", "(I)I"⟩
abbrev cX4_parseMember : ByteArray := prog_6_method_9_code
def yX4_parseMember : MethodName := ⟨RX4, "parseMember", "(I)I"⟩
abbrev cX4_parseMark : ByteArray := prog_6_method_10_code
def yX4_parseMark : MethodName := ⟨RX4, "parseMark", "(I)I"⟩
abbrev cX4_parseNumber : ByteArray := prog_6_method_11_code
def yX4_parseNumber : MethodName := ⟨RX4, "parseNumber", "(I)I"⟩
abbrev cX4_keepNote : ByteArray := prog_6_method_12_code
def yX4_keepNote : MethodName := ⟨RX4, "keepNote", "(II)I"⟩
abbrev cX4_skipBlanks : ByteArray := prog_6_method_13_code
def yX4_skipBlanks : MethodName := ⟨RX4, "skipBlanks", "()V"⟩
abbrev cX4_here : ByteArray := prog_6_method_14_code
def yX4_here : MethodName := ⟨RX4, "here", "()I"⟩
def RX5 : String := "AnalogDays"
def TX5 : u_T := fun k => match k with
  | 0 => ("AnalogDays", "book", "LAnalogDays$Book;", true)
  | 1 => ("AnalogDays", "states", "LAnalogDays$States;", true)
  | 2 => ("AnalogDays", "likeness", "LAnalogDays$Likeness;", true)
  | 3 => ("AnalogDays", "followers", "LAnalogDays$Followers;", true)
  | 4 => ("AnalogDays", "text", "LAnalogDays$Text;", true)
  | 5 => ("AnalogDays", "timesBad", "I", false)
  | 6 => ("AnalogDays", "timesNo", "I", false)
  | _ => ("AnalogDays", "timesFull", "I", false)
def tyX5 : Nat → FieldType := fun k => match k with
  | 0 => .object "AnalogDays$Book"
  | 1 => .object "AnalogDays$States"
  | 2 => .object "AnalogDays$Likeness"
  | 3 => .object "AnalogDays$Followers"
  | 4 => .object "AnalogDays$Text"
  | 5 => .int
  | 6 => .int
  | _ => .int
abbrev wsX50 : List Cond := u_ws RX5 TX5 8
theorem nmX5 : ∀ a, a < 8 → ∀ b, b < 8 → a ≠ b → (TX5 a).2.1 ≠ (TX5 b).2.1 := by decide +kernel
theorem tyX5_ok : ∀ k, k < 8 → parseFieldDescriptor (TX5 k).2.2.1 = some (tyX5 k) := by decide +kernel
abbrev cX5_init : ByteArray := prog_1_method_1_code
def yX5_init : MethodName := ⟨RX5, "<init>", "()V"⟩
abbrev cX5_day : ByteArray := prog_1_method_2_code
def yX5_day : MethodName := ⟨RX5, "day", "(IIII)I"⟩
abbrev cX5_sets : ByteArray := prog_1_method_3_code
def yX5_sets : MethodName := ⟨RX5, "sets", "(III)I"⟩
abbrev cX5_draw : ByteArray := prog_1_method_4_code
def yX5_draw : MethodName := ⟨RX5, "draw", "(II)I"⟩
abbrev cX5_empties : ByteArray := prog_1_method_5_code
def yX5_empties : MethodName := ⟨RX5, "empties", "()I"⟩
abbrev cX5_rules : ByteArray := prog_1_method_6_code
def yX5_rules : MethodName := ⟨RX5, "rules", "(II)I"⟩
abbrev cX5_at : ByteArray := prog_1_method_7_code
def yX5_at : MethodName := ⟨RX5, "at", "(II)I"⟩
abbrev cX5_distance : ByteArray := prog_1_method_8_code
def yX5_distance : MethodName := ⟨RX5, "distance", "(II)I"⟩
abbrev cX5_nearest : ByteArray := prog_1_method_9_code
def yX5_nearest : MethodName := ⟨RX5, "nearest", "(III)I"⟩
abbrev cX5_likes : ByteArray := prog_1_method_10_code
def yX5_likes : MethodName := ⟨RX5, "likes", "(I)I"⟩
abbrev cX5_serves : ByteArray := prog_1_method_11_code
def yX5_serves : MethodName := ⟨RX5, "serves", "(I)I"⟩
abbrev cX5_twins : ByteArray := prog_1_method_12_code
def yX5_twins : MethodName := ⟨RX5, "twins", "(I)I"⟩
abbrev cX5_strangers : ByteArray := prog_1_method_13_code
def yX5_strangers : MethodName := ⟨RX5, "strangers", "(I)I"⟩
abbrev cX5_follows : ByteArray := prog_1_method_14_code
def yX5_follows : MethodName := ⟨RX5, "follows", "(IIII)I"⟩
abbrev cX5_mean : ByteArray := prog_1_method_15_code
def yX5_mean : MethodName := ⟨RX5, "mean", "(II)I"⟩
abbrev cX5_spread : ByteArray := prog_1_method_16_code
def yX5_spread : MethodName := ⟨RX5, "spread", "(II)J"⟩
abbrev cX5_holds : ByteArray := prog_1_method_17_code
def yX5_holds : MethodName := ⟨RX5, "holds", "(III)I"⟩
abbrev cX5_errs : ByteArray := prog_1_method_18_code
def yX5_errs : MethodName := ⟨RX5, "errs", "(I)I"⟩
abbrev cX5_best : ByteArray := prog_1_method_19_code
def yX5_best : MethodName := ⟨RX5, "best", "(II)I"⟩
abbrev cX5_spare : ByteArray := prog_1_method_20_code
def yX5_spare : MethodName := ⟨RX5, "spare", "(I)I"⟩
abbrev cX5_type : ByteArray := prog_1_method_21_code
def yX5_type : MethodName := ⟨RX5, "type", "(I)I"⟩
abbrev cX5_clear : ByteArray := prog_1_method_22_code
def yX5_clear : MethodName := ⟨RX5, "clear", "()I"⟩
abbrev cX5_reads : ByteArray := prog_1_method_23_code
def yX5_reads : MethodName := ⟨RX5, "reads", "()I"⟩
abbrev cX5_back : ByteArray := prog_1_method_24_code
def yX5_back : MethodName := ⟨RX5, "back", "()I"⟩
abbrev cX5_told : ByteArray := prog_1_method_25_code
def yX5_told : MethodName := ⟨RX5, "told", "(I)I"⟩
abbrev cX5_digest : ByteArray := prog_1_method_26_code
def yX5_digest : MethodName := ⟨RX5, "digest", "()J"⟩
abbrev cX5_refuseBad : ByteArray := prog_1_method_27_code
def yX5_refuseBad : MethodName := ⟨RX5, "refuseBad", "(I)I"⟩
abbrev cX5_refuseFull : ByteArray := prog_1_method_28_code
def yX5_refuseFull : MethodName := ⟨RX5, "refuseFull", "()I"⟩
abbrev cX5_keepState : ByteArray := prog_1_method_29_code
def yX5_keepState : MethodName := ⟨RX5, "keepState", "()V"⟩
abbrev cX5_gatherFollowers : ByteArray := prog_1_method_30_code
def yX5_gatherFollowers : MethodName := ⟨RX5, "gatherFollowers", "(II)V"⟩
abbrev cX5_meanError : ByteArray := prog_1_method_31_code
def yX5_meanError : MethodName := ⟨RX5, "meanError", "(II)F"⟩
abbrev cX5_isWithin : ByteArray := prog_1_method_32_code
def yX5_isWithin : MethodName := ⟨RX5, "isWithin", "(III)Z"⟩
abbrev cX5_isMember : ByteArray := prog_1_method_33_code
def yX5_isMember : MethodName := ⟨RX5, "isMember", "(I)Z"⟩
abbrev cX5_isNote : ByteArray := prog_1_method_34_code
def yX5_isNote : MethodName := ⟨RX5, "isNote", "(I)Z"⟩
abbrev cX5_isRule : ByteArray := prog_1_method_35_code
def yX5_isRule : MethodName := ⟨RX5, "isRule", "(II)Z"⟩
abbrev cX5_isLess : ByteArray := prog_1_method_36_code
def yX5_isLess : MethodName := ⟨RX5, "isLess", "(FF)Z"⟩
abbrev cX5_valueOf : ByteArray := prog_1_method_37_code
def yX5_valueOf : MethodName := ⟨RX5, "valueOf", "(I)F"⟩
abbrev cX5_bitsOrNone : ByteArray := prog_1_method_38_code
def yX5_bitsOrNone : MethodName := ⟨RX5, "bitsOrNone", "(F)I"⟩
abbrev cX5_floatBits : ByteArray := prog_1_method_39_code
def yX5_floatBits : MethodName := ⟨RX5, "floatBits", "(F)I"⟩
abbrev cX5_doubleBits : ByteArray := prog_1_method_40_code
def yX5_doubleBits : MethodName := ⟨RX5, "doubleBits", "(D)J"⟩
def RX6 : String := "AnalogDaysModel"
def TX6 : u_T := fun k => match k with
  | 0 => ("AnalogDaysModel", "refused", "[I", true)
  | 1 => ("AnalogDaysModel", "many", "I", false)
  | 2 => ("AnalogDaysModel", "rules", "[I", true)
  | 3 => ("AnalogDaysModel", "days", "[I", true)
  | 4 => ("AnalogDaysModel", "states", "I", false)
  | 5 => ("AnalogDaysModel", "kept", "[I", true)
  | 6 => ("AnalogDaysModel", "compared", "Z", false)
  | 7 => ("AnalogDaysModel", "near", "I", false)
  | 8 => ("AnalogDaysModel", "nearest", "[I", true)
  | 9 => ("AnalogDaysModel", "nearBy", "[F", true)
  | 10 => ("AnalogDaysModel", "followers", "I", false)
  | 11 => ("AnalogDaysModel", "follower", "[I", true)
  | 12 => ("AnalogDaysModel", "followedBy", "[F", true)
  | 13 => ("AnalogDaysModel", "sorted", "[I", true)
  | 14 => ("AnalogDaysModel", "errMany", "I", false)
  | 15 => ("AnalogDaysModel", "text", "[I", true)
  | 16 => ("AnalogDaysModel", "size", "I", false)
  | 17 => ("AnalogDaysModel", "readAt", "I", false)
  | 18 => ("AnalogDaysModel", "tokenAt", "I", false)
  | 19 => ("AnalogDaysModel", "readMany", "I", false)
  | _ => ("AnalogDaysModel", "read", "[I", true)
def tyX6 : Nat → FieldType := fun k => match k with
  | 0 => .array .int
  | 1 => .int
  | 2 => .array .int
  | 3 => .array .int
  | 4 => .int
  | 5 => .array .int
  | 6 => .boolean
  | 7 => .int
  | 8 => .array .int
  | 9 => .array .float
  | 10 => .int
  | 11 => .array .int
  | 12 => .array .float
  | 13 => .array .int
  | 14 => .int
  | 15 => .array .int
  | 16 => .int
  | 17 => .int
  | 18 => .int
  | 19 => .int
  | _ => .array .int
abbrev wsX60 : List Cond := u_ws RX6 TX6 21
theorem nmX6 : ∀ a, a < 21 → ∀ b, b < 21 → a ≠ b → (TX6 a).2.1 ≠ (TX6 b).2.1 := by decide +kernel
theorem tyX6_ok : ∀ k, k < 21 → parseFieldDescriptor (TX6 k).2.2.1 = some (tyX6 k) := by decide +kernel
abbrev cX6_bad : ByteArray := prog_8_method_1_code
def yX6_bad : MethodName := ⟨RX6, "bad", "()I"⟩
abbrev cX6_badly : ByteArray := prog_8_method_2_code
def yX6_badly : MethodName := ⟨RX6, "badly", "()I"⟩
abbrev cX6_full : ByteArray := prog_8_method_3_code
def yX6_full : MethodName := ⟨RX6, "full", "()I"⟩
abbrev cX6_in : ByteArray := prog_8_method_4_code
def yX6_in : MethodName := ⟨RX6, "in", "(III)Z"⟩
abbrev cX6_init : ByteArray := prog_8_method_5_code
def yX6_init : MethodName := ⟨RX6, "<init>", "()V"⟩
abbrev cX6_isNoted : ByteArray := prog_8_method_6_code
def yX6_isNoted : MethodName := ⟨RX6, "isNoted", "(I)Z"⟩
abbrev cX6_may : ByteArray := prog_8_method_7_code
def yX6_may : MethodName := ⟨RX6, "may", "(I)Z"⟩
abbrev cX6_isDay : ByteArray := prog_8_method_8_code
def yX6_isDay : MethodName := ⟨RX6, "isDay", "(I)Z"⟩
abbrev cX6_isMember : ByteArray := prog_8_method_9_code
def yX6_isMember : MethodName := ⟨RX6, "isMember", "(I)Z"⟩
abbrev cX6_leavesState : ByteArray := prog_8_method_10_code
def yX6_leavesState : MethodName := ⟨RX6, "leavesState", "()V"⟩
abbrev cX6_back : ByteArray := prog_8_method_11_code
def yX6_back : MethodName := ⟨RX6, "back", "()I"⟩
abbrev cX6_comes : ByteArray := prog_8_method_12_code
def yX6_comes : MethodName := ⟨RX6, "comes", "(IIII)V"⟩
abbrev cX6_day : ByteArray := prog_8_method_13_code
def yX6_day : MethodName := ⟨RX6, "day", "(IIII)I"⟩
abbrev cX6_sets : ByteArray := prog_8_method_14_code
def yX6_sets : MethodName := ⟨RX6, "sets", "(III)I"⟩
abbrev cX6_draw : ByteArray := prog_8_method_15_code
def yX6_draw : MethodName := ⟨RX6, "draw", "(II)I"⟩
abbrev cX6_before : ByteArray := prog_8_method_16_code
def yX6_before : MethodName := ⟨RX6, "before", "(I)I"⟩
abbrev cX6_empties : ByteArray := prog_8_method_17_code
def yX6_empties : MethodName := ⟨RX6, "empties", "()I"⟩
abbrev cX6_rules : ByteArray := prog_8_method_18_code
def yX6_rules : MethodName := ⟨RX6, "rules", "(II)I"⟩
abbrev cX6_at : ByteArray := prog_8_method_19_code
def yX6_at : MethodName := ⟨RX6, "at", "(II)I"⟩
abbrev cX6_value : ByteArray := prog_8_method_20_code
def yX6_value : MethodName := ⟨RX6, "value", "(I)F"⟩
abbrev cX6_distanceOf : ByteArray := prog_8_method_21_code
def yX6_distanceOf : MethodName := ⟨RX6, "distanceOf", "(II)F"⟩
abbrev cX6_distance : ByteArray := prog_8_method_22_code
def yX6_distance : MethodName := ⟨RX6, "distance", "(II)I"⟩
abbrev cX6_mayBeLike : ByteArray := prog_8_method_23_code
def yX6_mayBeLike : MethodName := ⟨RX6, "mayBeLike", "(II)Z"⟩
abbrev cX6_setLike : ByteArray := prog_8_method_24_code
def yX6_setLike : MethodName := ⟨RX6, "setLike", "(I)V"⟩
abbrev cX6_setNearest : ByteArray := prog_8_method_25_code
def yX6_setNearest : MethodName := ⟨RX6, "setNearest", "(I)V"⟩
abbrev cX6_nearest : ByteArray := prog_8_method_26_code
def yX6_nearest : MethodName := ⟨RX6, "nearest", "(III)I"⟩
abbrev cX6_likes : ByteArray := prog_8_method_27_code
def yX6_likes : MethodName := ⟨RX6, "likes", "(I)I"⟩
abbrev cX6_serves : ByteArray := prog_8_method_28_code
def yX6_serves : MethodName := ⟨RX6, "serves", "(I)I"⟩
abbrev cX6_twins : ByteArray := prog_8_method_29_code
def yX6_twins : MethodName := ⟨RX6, "twins", "(I)I"⟩
abbrev cX6_strangers : ByteArray := prog_8_method_30_code
def yX6_strangers : MethodName := ⟨RX6, "strangers", "(I)I"⟩
abbrev cX6_setFollowers : ByteArray := prog_8_method_31_code
def yX6_setFollowers : MethodName := ⟨RX6, "setFollowers", "(II)V"⟩
abbrev cX6_follows : ByteArray := prog_8_method_32_code
def yX6_follows : MethodName := ⟨RX6, "follows", "(IIII)I"⟩
abbrev cX6_meanNow : ByteArray := prog_8_method_33_code
def yX6_meanNow : MethodName := ⟨RX6, "meanNow", "()F"⟩
abbrev cX6_mean : ByteArray := prog_8_method_34_code
def yX6_mean : MethodName := ⟨RX6, "mean", "(II)I"⟩
abbrev cX6_spread : ByteArray := prog_8_method_35_code
def yX6_spread : MethodName := ⟨RX6, "spread", "(II)J"⟩
abbrev cX6_holds : ByteArray := prog_8_method_36_code
def yX6_holds : MethodName := ⟨RX6, "holds", "(III)I"⟩
abbrev cX6_errsOf : ByteArray := prog_8_method_37_code
def yX6_errsOf : MethodName := ⟨RX6, "errsOf", "(I)F"⟩
abbrev cX6_errsTold : ByteArray := prog_8_method_38_code
def yX6_errsTold : MethodName := ⟨RX6, "errsTold", "(I)I"⟩
abbrev cX6_errs : ByteArray := prog_8_method_39_code
def yX6_errs : MethodName := ⟨RX6, "errs", "(I)I"⟩
abbrev cX6_best : ByteArray := prog_8_method_40_code
def yX6_best : MethodName := ⟨RX6, "best", "(II)I"⟩
abbrev cX6_spare : ByteArray := prog_8_method_41_code
def yX6_spare : MethodName := ⟨RX6, "spare", "(I)I"⟩
abbrev cX6_type : ByteArray := prog_8_method_42_code
def yX6_type : MethodName := ⟨RX6, "type", "(I)I"⟩
abbrev cX6_clear : ByteArray := prog_8_method_43_code
def yX6_clear : MethodName := ⟨RX6, "clear", "()I"⟩
abbrev cX6_here : ByteArray := prog_8_method_44_code
def yX6_here : MethodName := ⟨RX6, "here", "()I"⟩
abbrev cX6_skips : ByteArray := prog_8_method_45_code
def yX6_skips : MethodName := ⟨RX6, "skips", "()V"⟩
abbrev cX6_readsMember : ByteArray := prog_8_method_46_code
def yX6_readsMember : MethodName := ⟨RX6, "readsMember", "(I)Z"⟩
abbrev cX6_readsDay : ByteArray := prog_8_method_47_code
def yX6_readsDay : MethodName := ⟨RX6, "readsDay", "(Z)Z"⟩
abbrev cX6_goesThrough : ByteArray := prog_8_method_48_code
def yX6_goesThrough : MethodName := ⟨RX6, "goesThrough", "(Z)I"⟩
abbrev cX6_reads : ByteArray := prog_8_method_49_code
def yX6_reads : MethodName := ⟨RX6, "reads", "()I"⟩
abbrev cX6_toldBy : ByteArray := prog_8_method_50_code
def yX6_toldBy : MethodName := ⟨RX6, "toldBy", "(I)I"⟩
abbrev cX6_told : ByteArray := prog_8_method_51_code
def yX6_told : MethodName := ⟨RX6, "told", "(I)I"⟩
abbrev cX6_digest : ByteArray := prog_8_method_52_code
def yX6_digest : MethodName := ⟨RX6, "digest", "()J"⟩
def RJx145de : String := "java/io/Serializable"
def TJx145de : u_T := fun k => match k with
  | _ => ("", "", "", false)
def tyJx145de : Nat → FieldType := fun k => match k with
  | _ => .int
abbrev wsJx145de0 : List Cond := u_ws RJx145de TJx145de 0
theorem nmJx145de : ∀ a, a < 0 → ∀ b, b < 0 → a ≠ b → (TJx145de a).2.1 ≠ (TJx145de b).2.1 := by decide +kernel
theorem tyJx145de_ok : ∀ k, k < 0 → parseFieldDescriptor (TJx145de k).2.2.1 = some (tyJx145de k) := by decide +kernel
def RJxb160c : String := "java/lang/Comparable"
def TJxb160c : u_T := fun k => match k with
  | _ => ("", "", "", false)
def tyJxb160c : Nat → FieldType := fun k => match k with
  | _ => .int
abbrev wsJxb160c0 : List Cond := u_ws RJxb160c TJxb160c 0
theorem nmJxb160c : ∀ a, a < 0 → ∀ b, b < 0 → a ≠ b → (TJxb160c a).2.1 ≠ (TJxb160c b).2.1 := by decide +kernel
theorem tyJxb160c_ok : ∀ k, k < 0 → parseFieldDescriptor (TJxb160c k).2.2.1 = some (tyJxb160c k) := by decide +kernel
def RJxe99ae : String := "java/lang/Double"
def TJxe99ae : u_T := fun k => match k with
  | _ => ("", "", "", false)
def tyJxe99ae : Nat → FieldType := fun k => match k with
  | _ => .int
abbrev wsJxe99ae0 : List Cond := u_ws RJxe99ae TJxe99ae 0
theorem nmJxe99ae : ∀ a, a < 0 → ∀ b, b < 0 → a ≠ b → (TJxe99ae a).2.1 ≠ (TJxe99ae b).2.1 := by decide +kernel
theorem tyJxe99ae_ok : ∀ k, k < 0 → parseFieldDescriptor (TJxe99ae k).2.2.1 = some (tyJxe99ae k) := by decide +kernel
abbrev cJxe99ae_isNaN_b9ae7 : ByteArray := prog_9_method_6_code
def yJxe99ae_isNaN_b9ae7 : MethodName := ⟨RJxe99ae, "isNaN", "(D)Z"⟩
abbrev cJxe99ae_doubleToLongBits_ccdee : ByteArray := prog_9_method_23_code
def yJxe99ae_doubleToLongBits_ccdee : MethodName := ⟨RJxe99ae, "doubleToLongBits", "(D)J"⟩
def RJxf58ca : String := "java/lang/Float"
def TJxf58ca : u_T := fun k => match k with
  | _ => ("", "", "", false)
def tyJxf58ca : Nat → FieldType := fun k => match k with
  | _ => .int
abbrev wsJxf58ca0 : List Cond := u_ws RJxf58ca TJxf58ca 0
theorem nmJxf58ca : ∀ a, a < 0 → ∀ b, b < 0 → a ≠ b → (TJxf58ca a).2.1 ≠ (TJxf58ca b).2.1 := by decide +kernel
theorem tyJxf58ca_ok : ∀ k, k < 0 → parseFieldDescriptor (TJxf58ca k).2.2.1 = some (tyJxf58ca k) := by decide +kernel
abbrev cJxf58ca_isNaN_12338 : ByteArray := prog_10_method_6_code
def yJxf58ca_isNaN_12338 : MethodName := ⟨RJxf58ca, "isNaN", "(F)Z"⟩
abbrev cJxf58ca_floatToIntBits_5c35a : ByteArray := prog_10_method_24_code
def yJxf58ca_floatToIntBits_5c35a : MethodName := ⟨RJxf58ca, "floatToIntBits", "(F)I"⟩
def RJ9 : String := "java/lang/Math"
def TJ9 : u_T := fun k => match k with
  | _ => ("", "", "", false)
def tyJ9 : Nat → FieldType := fun k => match k with
  | _ => .int
abbrev wsJ90 : List Cond := u_ws RJ9 TJ9 0
theorem nmJ9 : ∀ a, a < 0 → ∀ b, b < 0 → a ≠ b → (TJ9 a).2.1 ≠ (TJ9 b).2.1 := by decide +kernel
theorem tyJ9_ok : ∀ k, k < 0 → parseFieldDescriptor (TJ9 k).2.2.1 = some (tyJ9 k) := by decide +kernel
abbrev cJ9_abs_0f7a4 : ByteArray := prog_11_method_59_code
def yJ9_abs_0f7a4 : MethodName := ⟨RJ9, "abs", "(I)I"⟩
abbrev cJ9_max_7cf53 : ByteArray := prog_11_method_65_code
def yJ9_max_7cf53 : MethodName := ⟨RJ9, "max", "(II)I"⟩
abbrev cJ9_min_7cf53 : ByteArray := prog_11_method_69_code
def yJ9_min_7cf53 : MethodName := ⟨RJ9, "min", "(II)I"⟩
def RJxd2413 : String := "java/lang/Number"
def TJxd2413 : u_T := fun k => match k with
  | _ => ("", "", "", false)
def tyJxd2413 : Nat → FieldType := fun k => match k with
  | _ => .int
abbrev wsJxd24130 : List Cond := u_ws RJxd2413 TJxd2413 0
theorem nmJxd2413 : ∀ a, a < 0 → ∀ b, b < 0 → a ≠ b → (TJxd2413 a).2.1 ≠ (TJxd2413 b).2.1 := by decide +kernel
theorem tyJxd2413_ok : ∀ k, k < 0 → parseFieldDescriptor (TJxd2413 k).2.2.1 = some (tyJxd2413 k) := by decide +kernel
def RJ10 : String := "java/lang/System"
def TJ10 : u_T := fun k => match k with
  | _ => ("", "", "", false)
def tyJ10 : Nat → FieldType := fun k => match k with
  | _ => .int
abbrev wsJ100 : List Cond := u_ws RJ10 TJ10 0
theorem nmJ10 : ∀ a, a < 0 → ∀ b, b < 0 → a ≠ b → (TJ10 a).2.1 ≠ (TJ10 b).2.1 := by decide +kernel
theorem tyJ10_ok : ∀ k, k < 0 → parseFieldDescriptor (TJ10 k).2.2.1 = some (tyJ10 k) := by decide +kernel
def RJxfd54e : String := "java/lang/constant/Constable"
def TJxfd54e : u_T := fun k => match k with
  | _ => ("", "", "", false)
def tyJxfd54e : Nat → FieldType := fun k => match k with
  | _ => .int
abbrev wsJxfd54e0 : List Cond := u_ws RJxfd54e TJxfd54e 0
theorem nmJxfd54e : ∀ a, a < 0 → ∀ b, b < 0 → a ≠ b → (TJxfd54e a).2.1 ≠ (TJxfd54e b).2.1 := by decide +kernel
theorem tyJxfd54e_ok : ∀ k, k < 0 → parseFieldDescriptor (TJxfd54e k).2.2.1 = some (tyJxfd54e k) := by decide +kernel
def RJx3cf43 : String := "java/lang/constant/ConstantDesc"
def TJx3cf43 : u_T := fun k => match k with
  | _ => ("", "", "", false)
def tyJx3cf43 : Nat → FieldType := fun k => match k with
  | _ => .int
abbrev wsJx3cf430 : List Cond := u_ws RJx3cf43 TJx3cf43 0
theorem nmJx3cf43 : ∀ a, a < 0 → ∀ b, b < 0 → a ≠ b → (TJx3cf43 a).2.1 ≠ (TJx3cf43 b).2.1 := by decide +kernel
theorem tyJx3cf43_ok : ∀ k, k < 0 → parseFieldDescriptor (TJx3cf43 k).2.2.1 = some (tyJx3cf43 k) := by decide +kernel
def RJ7 : String := "java/util/Arrays"
def TJ7 : u_T := fun k => match k with
  | _ => ("", "", "", false)
def tyJ7 : Nat → FieldType := fun k => match k with
  | _ => .int
abbrev wsJ70 : List Cond := u_ws RJ7 TJ7 0
theorem nmJ7 : ∀ a, a < 0 → ∀ b, b < 0 → a ≠ b → (TJ7 a).2.1 ≠ (TJ7 b).2.1 := by decide +kernel
theorem tyJ7_ok : ∀ k, k < 0 → parseFieldDescriptor (TJ7 k).2.2.1 = some (tyJ7 k) := by decide +kernel
abbrev cJ7_fill_53178 : ByteArray := prog_14_method_103_code
def yJ7_fill_53178 : MethodName := ⟨RJ7, "fill", "([II)V"⟩
def RL : String := "AnalogDaysLaw"
abbrev cL_law : ByteArray := code
def yL_law : MethodName := ⟨RL, "law", "([I)Z"⟩
def wsJ7_fill_53178 : List Cond := .code yJ7_fill_53178 cJ7_fill_53178 4 none :: ([])
def wsX0_init : List Cond := .code yX0_init cX0_init 1 none :: ([.methodLink RX0 3 objectInit, .instanceMethod objectInit, .code objectInit ⟨#[0xb1]⟩ 1 none, .arrayClass .int, .fieldLink RX0 9 "AnalogDays$Book" "notes" "[I", .fieldLink RX0 15 "AnalogDays$Book" "weights" "[I", .fieldLink RX0 24 "AnalogDays$Book" "few" "I", .methodLink RX0 18 yJ7_fill_53178, .static yJ7_fill_53178, .initialized RJ7, .code yJ7_fill_53178 cJ7_fill_53178 4 none] ++ wsX00)
def wsX0_days : List Cond := .code yX0_days cX0_days 1 (some .int) :: ([.fieldLink RX0 28 "AnalogDays$Book" "days" "I"] ++ wsX00)
def wsX0_gap : List Cond := .code yX0_gap cX0_gap 1 (some .int) :: ([.fieldLink RX0 31 "AnalogDays$Book" "gap" "I"] ++ wsX00)
def wsX0_few : List Cond := .code yX0_few cX0_few 1 (some .int) :: ([.fieldLink RX0 24 "AnalogDays$Book" "few" "I"] ++ wsX00)
def wsX0_has : List Cond := .code yX0_has cX0_has 2 (some .boolean) :: ([.fieldLink RX0 28 "AnalogDays$Book" "days" "I"] ++ wsX00)
def wsX5_isWithin : List Cond := .code yX5_isWithin cX5_isWithin 3 (some .boolean) :: ([])
def wsX5_isMember : List Cond := .code yX5_isMember cX5_isMember 1 (some .boolean) :: ([.methodLink RX5 81 yX5_isWithin, .static yX5_isWithin, .initialized RX5, .code yX5_isWithin cX5_isWithin 3 (some .boolean)])
def wsX0_member : List Cond := .code yX0_member cX0_member 3 (some .int) :: ([.fieldLink RX0 9 "AnalogDays$Book" "notes" "[I", .methodLink RX0 34 yX0_has, .instanceMethod yX0_has, .selects RX0 yX0_has yX0_has, .initialized RX0, .code yX0_has cX0_has 2 (some .boolean), .fieldLink RX0 28 "AnalogDays$Book" "days" "I", .static yX5_isMember, .initialized RX5, .code yX5_isMember cX5_isMember 1 (some .boolean), .methodLink RX5 81 yX5_isWithin, .static yX5_isWithin, .code yX5_isWithin cX5_isWithin 3 (some .boolean)] ++ wsX00)
def wsX0_put : List Cond := .code yX0_put cX0_put 4 none :: ([.fieldLink RX0 9 "AnalogDays$Book" "notes" "[I", .methodLink RX0 34 yX0_has, .instanceMethod yX0_has, .selects RX0 yX0_has yX0_has, .initialized RX0, .code yX0_has cX0_has 2 (some .boolean), .fieldLink RX0 28 "AnalogDays$Book" "days" "I", .static yX5_isMember, .initialized RX5, .code yX5_isMember cX5_isMember 1 (some .boolean), .methodLink RX5 81 yX5_isWithin, .static yX5_isWithin, .code yX5_isWithin cX5_isWithin 3 (some .boolean)] ++ wsX00)
def wsX0_append : List Cond := .code yX0_append cX0_append 6 (some .int) :: ([.fieldLink RX0 28 "AnalogDays$Book" "days" "I", .methodLink RX0 41 yX0_put, .instanceMethod yX0_put, .selects RX0 yX0_put yX0_put, .initialized RX0, .code yX0_put cX0_put 4 none, .fieldLink RX0 9 "AnalogDays$Book" "notes" "[I", .methodLink RX0 34 yX0_has, .instanceMethod yX0_has, .selects RX0 yX0_has yX0_has, .code yX0_has cX0_has 2 (some .boolean), .static yX5_isMember, .initialized RX5, .code yX5_isMember cX5_isMember 1 (some .boolean), .methodLink RX5 81 yX5_isWithin, .static yX5_isWithin, .code yX5_isWithin cX5_isWithin 3 (some .boolean)] ++ wsX00)
def wsX0_removeAll : List Cond := .code yX0_removeAll cX0_removeAll 1 none :: ([.fieldLink RX0 28 "AnalogDays$Book" "days" "I"] ++ wsX00)
def wsX0_rule : List Cond := .code yX0_rule cX0_rule 2 (some .int) :: ([.fieldLink RX0 31 "AnalogDays$Book" "gap" "I", .fieldLink RX0 24 "AnalogDays$Book" "few" "I", .fieldLink RX0 15 "AnalogDays$Book" "weights" "[I", .static yX5_isMember, .initialized RX5, .code yX5_isMember cX5_isMember 1 (some .boolean), .methodLink RX5 81 yX5_isWithin, .static yX5_isWithin, .code yX5_isWithin cX5_isWithin 3 (some .boolean)] ++ wsX00)
def wsX0_setRule : List Cond := .code yX0_setRule cX0_setRule 3 none :: ([.fieldLink RX0 31 "AnalogDays$Book" "gap" "I", .fieldLink RX0 24 "AnalogDays$Book" "few" "I", .fieldLink RX0 15 "AnalogDays$Book" "weights" "[I", .static yX5_isMember, .initialized RX5, .code yX5_isMember cX5_isMember 1 (some .boolean), .methodLink RX5 81 yX5_isWithin, .static yX5_isWithin, .code yX5_isWithin cX5_isWithin 3 (some .boolean)] ++ wsX00)
def wsX0_copyFrom : List Cond := .code yX0_copyFrom cX0_copyFrom 2 none :: ([.fieldLink RX0 9 "AnalogDays$Book" "notes" "[I", .methodLink RX0 45 arraycopyName, .native arraycopyName, .static arraycopyName, .initialized "java/lang/System", .fieldLink RX0 15 "AnalogDays$Book" "weights" "[I", .fieldLink RX0 28 "AnalogDays$Book" "days" "I", .fieldLink RX0 31 "AnalogDays$Book" "gap" "I", .fieldLink RX0 24 "AnalogDays$Book" "few" "I"] ++ wsX00)
def wsX0_lastNoted : List Cond := .code yX0_lastNoted cX0_lastNoted 5 (some .int) :: ([.methodLink RX0 77 yX0_member, .instanceMethod yX0_member, .selects RX0 yX0_member yX0_member, .initialized RX0, .code yX0_member cX0_member 3 (some .int), .fieldLink RX0 9 "AnalogDays$Book" "notes" "[I", .methodLink RX0 34 yX0_has, .instanceMethod yX0_has, .selects RX0 yX0_has yX0_has, .code yX0_has cX0_has 2 (some .boolean), .fieldLink RX0 28 "AnalogDays$Book" "days" "I", .static yX5_isMember, .initialized RX5, .code yX5_isMember cX5_isMember 1 (some .boolean), .methodLink RX5 81 yX5_isWithin, .static yX5_isWithin, .code yX5_isWithin cX5_isWithin 3 (some .boolean)] ++ wsX00)
def wsX0_fillByChance_r1 : List Cond := [Cond.methodLink RX0 51 Lib.Math.min.name, Cond.static Lib.Math.min.name, Cond.initialized "java/lang/Math", Cond.code Lib.Math.min.name Lib.Math.min.code 2 (some .int), Cond.methodLink RX0 57 Lib.Math.max.name, Cond.static Lib.Math.max.name, Cond.code Lib.Math.max.name Lib.Math.max.code 2 (some .int), Cond.fieldLink RX0 28 "AnalogDays$Book" "days" "I", Cond.constantLong RX0 60 (1103515245), Cond.constantLong RX0 62 (12345), Cond.constantLong RX0 64 (2147483648), Cond.constantLong RX0 66 (65536), Cond.constantLong RX0 68 (16), Cond.constantLong RX0 70 (1024), Cond.constantLong RX0 72 (41), Cond.methodLink RX0 41 yX0_put, Cond.instanceMethod yX0_put, Cond.selects RX0 yX0_put yX0_put, Cond.initialized RX0, Cond.code yX0_put cX0_put 4 none, Cond.fieldLink RX0 9 "AnalogDays$Book" "notes" "[I", Cond.methodLink RX0 34 yX0_has, Cond.instanceMethod yX0_has, Cond.selects RX0 yX0_has yX0_has]
def wsX0_fillByChance_r2 : List Cond := [Cond.code yX0_has cX0_has 2 (some .boolean), Cond.static yX5_isMember, Cond.initialized RX5, Cond.code yX5_isMember cX5_isMember 1 (some .boolean), Cond.methodLink RX5 81 yX5_isWithin, Cond.static yX5_isWithin, Cond.code yX5_isWithin cX5_isWithin 3 (some .boolean), Cond.methodLink RX0 74 yX0_lastNoted, Cond.instanceMethod yX0_lastNoted, Cond.selects RX0 yX0_lastNoted yX0_lastNoted, Cond.code yX0_lastNoted cX0_lastNoted 5 (some .int), Cond.methodLink RX0 77 yX0_member, Cond.instanceMethod yX0_member, Cond.selects RX0 yX0_member yX0_member, Cond.code yX0_member cX0_member 3 (some .int)]
def wsX0_fillByChance : List Cond := .code yX0_fillByChance cX0_fillByChance 9 (some .int) :: ((wsX0_fillByChance_r1 ++ wsX0_fillByChance_r2) ++ wsX00)
def wsX1_init : List Cond := .code yX1_init cX1_init 1 none :: ([.methodLink RX1 3 objectInit, .instanceMethod objectInit, .code objectInit ⟨#[0xb1]⟩ 1 none, .arrayClass .int, .fieldLink RX1 9 "AnalogDays$Followers" "tenths" "[I", .arrayClass .float, .fieldLink RX1 15 "AnalogDays$Followers" "distances" "[F", .fieldLink RX1 19 "AnalogDays$Followers" "sorted" "[I"] ++ wsX10)
def wsX2_has : List Cond := .code yX2_has cX2_has 2 (some .boolean) :: ([.fieldLink RX2 51 "AnalogDays$Likeness" "days" "I"] ++ wsX20)
def wsX2_nearOnes : List Cond := .code yX2_nearOnes cX2_nearOnes 3 (some .int) :: ([.fieldLink RX2 29 "AnalogDays$Likeness" "nearCounts" "[I", .methodLink RX2 45 Lib.Math.min.name, .static Lib.Math.min.name, .initialized "java/lang/Math", .code Lib.Math.min.name Lib.Math.min.code 2 (some .int), .methodLink RX2 73 yX2_has, .instanceMethod yX2_has, .selects RX2 yX2_has yX2_has, .initialized RX2, .code yX2_has cX2_has 2 (some .boolean), .fieldLink RX2 51 "AnalogDays$Likeness" "days" "I"] ++ wsX20)
def wsX2_near : List Cond := .code yX2_near cX2_near 3 (some .int) :: ([.fieldLink RX2 29 "AnalogDays$Likeness" "nearCounts" "[I", .fieldLink RX2 25 "AnalogDays$Likeness" "nearDays" "[I", .methodLink RX2 73 yX2_has, .instanceMethod yX2_has, .selects RX2 yX2_has yX2_has, .initialized RX2, .code yX2_has cX2_has 2 (some .boolean), .fieldLink RX2 51 "AnalogDays$Likeness" "days" "I"] ++ wsX20)
def wsX2_between : List Cond := .code yX2_between cX2_between 3 (some .float) :: ([.fieldLink RX2 22 "AnalogDays$Likeness" "distances" "[F", .constantFloat RX2 77 (3212836864), .methodLink RX2 73 yX2_has, .instanceMethod yX2_has, .selects RX2 yX2_has yX2_has, .initialized RX2, .code yX2_has cX2_has 2 (some .boolean), .fieldLink RX2 51 "AnalogDays$Likeness" "days" "I"] ++ wsX20)
def wsX1_add : List Cond := .code yX1_add cX1_add 4 none :: ([.fieldLink RX1 22 "AnalogDays$Followers" "size" "I", .fieldLink RX1 9 "AnalogDays$Followers" "tenths" "[I", .fieldLink RX1 15 "AnalogDays$Followers" "distances" "[F", .fieldLink RX1 19 "AnalogDays$Followers" "sorted" "[I"] ++ wsX10)
def wsX1_gather_r1 : List Cond := [Cond.fieldLink RX1 22 "AnalogDays$Followers" "size" "I", Cond.methodLink RX1 26 yX2_nearOnes, Cond.instanceMethod yX2_nearOnes, Cond.selects RX2 yX2_nearOnes yX2_nearOnes, Cond.initialized RX2, Cond.code yX2_nearOnes cX2_nearOnes 3 (some .int), Cond.fieldLink RX2 29 "AnalogDays$Likeness" "nearCounts" "[I", Cond.methodLink RX2 45 Lib.Math.min.name, Cond.static Lib.Math.min.name, Cond.initialized "java/lang/Math", Cond.code Lib.Math.min.name Lib.Math.min.code 2 (some .int), Cond.methodLink RX2 73 yX2_has, Cond.instanceMethod yX2_has, Cond.selects RX2 yX2_has yX2_has, Cond.code yX2_has cX2_has 2 (some .boolean), Cond.fieldLink RX2 51 "AnalogDays$Likeness" "days" "I", Cond.methodLink RX1 32 yX2_near, Cond.instanceMethod yX2_near, Cond.selects RX2 yX2_near yX2_near, Cond.code yX2_near cX2_near 3 (some .int), Cond.fieldLink RX2 25 "AnalogDays$Likeness" "nearDays" "[I", Cond.methodLink RX1 35 yX0_member, Cond.instanceMethod yX0_member, Cond.selects RX0 yX0_member yX0_member]
def wsX1_gather_r2 : List Cond := [Cond.initialized RX0, Cond.code yX0_member cX0_member 3 (some .int), Cond.fieldLink RX0 9 "AnalogDays$Book" "notes" "[I", Cond.methodLink RX0 34 yX0_has, Cond.instanceMethod yX0_has, Cond.selects RX0 yX0_has yX0_has, Cond.code yX0_has cX0_has 2 (some .boolean), Cond.fieldLink RX0 28 "AnalogDays$Book" "days" "I", Cond.static yX5_isMember, Cond.initialized RX5, Cond.code yX5_isMember cX5_isMember 1 (some .boolean), Cond.methodLink RX5 81 yX5_isWithin, Cond.static yX5_isWithin, Cond.code yX5_isWithin cX5_isWithin 3 (some .boolean), Cond.methodLink RX1 40 yX2_between, Cond.instanceMethod yX2_between, Cond.selects RX2 yX2_between yX2_between, Cond.code yX2_between cX2_between 3 (some .float), Cond.fieldLink RX2 22 "AnalogDays$Likeness" "distances" "[F", Cond.constantFloat RX2 77 (3212836864), Cond.methodLink RX1 44 yX1_add, Cond.instanceMethod yX1_add, Cond.selects RX1 yX1_add yX1_add, Cond.initialized RX1]
def wsX1_gather_r3 : List Cond := [Cond.code yX1_add cX1_add 4 none, Cond.fieldLink RX1 9 "AnalogDays$Followers" "tenths" "[I", Cond.fieldLink RX1 15 "AnalogDays$Followers" "distances" "[F", Cond.fieldLink RX1 19 "AnalogDays$Followers" "sorted" "[I"]
def wsX1_gather : List Cond := .code yX1_gather cX1_gather 9 none :: ((wsX1_gather_r1 ++ (wsX1_gather_r2 ++ wsX1_gather_r3)) ++ wsX10 ++ wsX20 ++ wsX00)
def wsX1_size : List Cond := .code yX1_size cX1_size 1 (some .int) :: ([.fieldLink RX1 22 "AnalogDays$Followers" "size" "I"] ++ wsX10)
def wsX1_spanSize : List Cond := .code yX1_spanSize cX1_spanSize 2 (some .int) :: ([.fieldLink RX1 22 "AnalogDays$Followers" "size" "I", .methodLink RX1 48 Lib.Math.max.name, .static Lib.Math.max.name, .initialized "java/lang/Math", .code Lib.Math.max.name Lib.Math.max.code 2 (some .int)] ++ wsX10)
def wsX1_least : List Cond := .code yX1_least cX1_least 2 (some .int) :: ([.fieldLink RX1 19 "AnalogDays$Followers" "sorted" "[I", .methodLink RX1 53 yX1_spanSize, .instanceMethod yX1_spanSize, .selects RX1 yX1_spanSize yX1_spanSize, .initialized RX1, .code yX1_spanSize cX1_spanSize 2 (some .int), .fieldLink RX1 22 "AnalogDays$Followers" "size" "I", .methodLink RX1 48 Lib.Math.max.name, .static Lib.Math.max.name, .initialized "java/lang/Math", .code Lib.Math.max.name Lib.Math.max.code 2 (some .int)] ++ wsX10)
def wsX1_greatest : List Cond := .code yX1_greatest cX1_greatest 2 (some .int) :: ([.fieldLink RX1 19 "AnalogDays$Followers" "sorted" "[I", .fieldLink RX1 22 "AnalogDays$Followers" "size" "I", .methodLink RX1 53 yX1_spanSize, .instanceMethod yX1_spanSize, .selects RX1 yX1_spanSize yX1_spanSize, .initialized RX1, .code yX1_spanSize cX1_spanSize 2 (some .int), .methodLink RX1 48 Lib.Math.max.name, .static Lib.Math.max.name, .initialized "java/lang/Math", .code Lib.Math.max.name Lib.Math.max.code 2 (some .int)] ++ wsX10)
def wsX5_valueOf : List Cond := .code yX5_valueOf cX5_valueOf 1 (some .float) :: ([.constantFloat RX5 234 (1092616192)])
def wsX1_meanValue : List Cond := .code yX1_meanValue cX1_meanValue 4 (some .float) :: ([.fieldLink RX1 22 "AnalogDays$Followers" "size" "I", .fieldLink RX1 9 "AnalogDays$Followers" "tenths" "[I", .fieldLink RX1 15 "AnalogDays$Followers" "distances" "[F", .static yX5_valueOf, .initialized RX5, .code yX5_valueOf cX5_valueOf 1 (some .float), .constantFloat RX5 234 (1092616192)] ++ wsX10)
def wsX1_spreadOfValues : List Cond := .code yX1_spreadOfValues cX1_spreadOfValues 8 (some .double) :: ([.fieldLink RX1 22 "AnalogDays$Followers" "size" "I", .fieldLink RX1 9 "AnalogDays$Followers" "tenths" "[I", .static yX5_valueOf, .initialized RX5, .code yX5_valueOf cX5_valueOf 1 (some .float), .constantFloat RX5 234 (1092616192)] ++ wsX10)
def wsX2_init : List Cond := .code yX2_init cX2_init 1 none :: ([.methodLink RX2 3 objectInit, .instanceMethod objectInit, .code objectInit ⟨#[0xb1]⟩ 1 none, .arrayClass .float, .fieldLink RX2 9 "AnalogDays$Likeness" "values" "[F", .arrayClass .boolean, .fieldLink RX2 15 "AnalogDays$Likeness" "noted" "[Z", .fieldLink RX2 19 "AnalogDays$Likeness" "weights" "[F", .fieldLink RX2 22 "AnalogDays$Likeness" "distances" "[F", .arrayClass .int, .fieldLink RX2 25 "AnalogDays$Likeness" "nearDays" "[I", .fieldLink RX2 29 "AnalogDays$Likeness" "nearCounts" "[I", .fieldLink RX2 32 "AnalogDays$Likeness" "likeCounts" "[I", .fieldLink RX2 35 "AnalogDays$Likeness" "learnt" "I"] ++ wsX20)
def wsX2_forget : List Cond := .code yX2_forget cX2_forget 1 none :: ([.fieldLink RX2 35 "AnalogDays$Likeness" "learnt" "I"] ++ wsX20)
def wsX2_takeNotes : List Cond := .code yX2_takeNotes cX2_takeNotes 5 none :: ([.fieldLink RX2 51 "AnalogDays$Likeness" "days" "I", .fieldLink RX2 15 "AnalogDays$Likeness" "noted" "[Z", .fieldLink RX2 9 "AnalogDays$Likeness" "values" "[F", .methodLink RX2 84 yX0_member, .instanceMethod yX0_member, .selects RX0 yX0_member yX0_member, .initialized RX0, .code yX0_member cX0_member 3 (some .int), .fieldLink RX0 9 "AnalogDays$Book" "notes" "[I", .methodLink RX0 34 yX0_has, .instanceMethod yX0_has, .selects RX0 yX0_has yX0_has, .code yX0_has cX0_has 2 (some .boolean), .fieldLink RX0 28 "AnalogDays$Book" "days" "I", .static yX5_isMember, .initialized RX5, .code yX5_isMember cX5_isMember 1 (some .boolean), .methodLink RX5 81 yX5_isWithin, .static yX5_isWithin, .code yX5_isWithin cX5_isWithin 3 (some .boolean), .static yX5_valueOf, .code yX5_valueOf cX5_valueOf 1 (some .float), .constantFloat RX5 234 (1092616192)] ++ wsX20 ++ wsX00)
def wsX2_measure : List Cond := .code yX2_measure cX2_measure 9 (some .float) :: ([.fieldLink RX2 15 "AnalogDays$Likeness" "noted" "[Z", .fieldLink RX2 19 "AnalogDays$Likeness" "weights" "[F", .fieldLink RX2 9 "AnalogDays$Likeness" "values" "[F", .constantFloat RX2 77 (3212836864)] ++ wsX20)
def wsX2_enter : List Cond := .code yX2_enter cX2_enter 7 (some .int) :: ([.fieldLink RX2 25 "AnalogDays$Likeness" "nearDays" "[I", .methodLink RX2 45 Lib.Math.min.name, .static Lib.Math.min.name, .initialized "java/lang/Math", .code Lib.Math.min.name Lib.Math.min.code 2 (some .int), .methodLink RX2 98 yX2_between, .instanceMethod yX2_between, .selects RX2 yX2_between yX2_between, .initialized RX2, .code yX2_between cX2_between 3 (some .float), .fieldLink RX2 22 "AnalogDays$Likeness" "distances" "[F", .constantFloat RX2 77 (3212836864), .methodLink RX2 73 yX2_has, .instanceMethod yX2_has, .selects RX2 yX2_has yX2_has, .code yX2_has cX2_has 2 (some .boolean), .fieldLink RX2 51 "AnalogDays$Likeness" "days" "I"] ++ wsX20)
def wsX2_rank_r1 : List Cond := [Cond.fieldLink RX2 51 "AnalogDays$Likeness" "days" "I", Cond.methodLink RX2 91 Lib.Math.abs.name, Cond.static Lib.Math.abs.name, Cond.initialized "java/lang/Math", Cond.code Lib.Math.abs.name Lib.Math.abs.code 1 (some .int), Cond.fieldLink RX2 22 "AnalogDays$Likeness" "distances" "[F", Cond.fieldLink RX2 32 "AnalogDays$Likeness" "likeCounts" "[I", Cond.fieldLink RX2 29 "AnalogDays$Likeness" "nearCounts" "[I", Cond.methodLink RX2 94 yX2_enter, Cond.instanceMethod yX2_enter, Cond.selects RX2 yX2_enter yX2_enter, Cond.initialized RX2, Cond.code yX2_enter cX2_enter 7 (some .int), Cond.fieldLink RX2 25 "AnalogDays$Likeness" "nearDays" "[I", Cond.methodLink RX2 45 Lib.Math.min.name, Cond.static Lib.Math.min.name, Cond.code Lib.Math.min.name Lib.Math.min.code 2 (some .int), Cond.methodLink RX2 98 yX2_between, Cond.instanceMethod yX2_between, Cond.selects RX2 yX2_between yX2_between, Cond.code yX2_between cX2_between 3 (some .float), Cond.constantFloat RX2 77 (3212836864), Cond.methodLink RX2 73 yX2_has, Cond.instanceMethod yX2_has]
def wsX2_rank_r2 : List Cond := [Cond.selects RX2 yX2_has yX2_has, Cond.code yX2_has cX2_has 2 (some .boolean)]
def wsX2_rank : List Cond := .code yX2_rank cX2_rank 8 none :: ((wsX2_rank_r1 ++ wsX2_rank_r2) ++ wsX20)
def wsX2_learn_r1 : List Cond := [Cond.fieldLink RX2 35 "AnalogDays$Likeness" "learnt" "I", Cond.methodLink RX2 45 Lib.Math.min.name, Cond.static Lib.Math.min.name, Cond.initialized "java/lang/Math", Cond.code Lib.Math.min.name Lib.Math.min.code 2 (some .int), Cond.fieldLink RX2 51 "AnalogDays$Likeness" "days" "I", Cond.fieldLink RX2 19 "AnalogDays$Likeness" "weights" "[F", Cond.constantFloat RX2 61 (1090519040), Cond.fieldLink RX2 22 "AnalogDays$Likeness" "distances" "[F", Cond.methodLink RX2 39 yX0_days, Cond.instanceMethod yX0_days, Cond.selects RX0 yX0_days yX0_days, Cond.initialized RX0, Cond.code yX0_days cX0_days 1 (some .int), Cond.fieldLink RX0 28 "AnalogDays$Book" "days" "I", Cond.methodLink RX2 53 yX2_takeNotes, Cond.instanceMethod yX2_takeNotes, Cond.selects RX2 yX2_takeNotes yX2_takeNotes, Cond.initialized RX2, Cond.code yX2_takeNotes cX2_takeNotes 5 none, Cond.fieldLink RX2 15 "AnalogDays$Likeness" "noted" "[Z", Cond.fieldLink RX2 9 "AnalogDays$Likeness" "values" "[F", Cond.methodLink RX2 84 yX0_member, Cond.instanceMethod yX0_member]
def wsX2_learn_r2 : List Cond := [Cond.selects RX0 yX0_member yX0_member, Cond.code yX0_member cX0_member 3 (some .int), Cond.fieldLink RX0 9 "AnalogDays$Book" "notes" "[I", Cond.methodLink RX0 34 yX0_has, Cond.instanceMethod yX0_has, Cond.selects RX0 yX0_has yX0_has, Cond.code yX0_has cX0_has 2 (some .boolean), Cond.static yX5_isMember, Cond.initialized RX5, Cond.code yX5_isMember cX5_isMember 1 (some .boolean), Cond.methodLink RX5 81 yX5_isWithin, Cond.static yX5_isWithin, Cond.code yX5_isWithin cX5_isWithin 3 (some .boolean), Cond.static yX5_valueOf, Cond.code yX5_valueOf cX5_valueOf 1 (some .float), Cond.constantFloat RX5 234 (1092616192), Cond.methodLink RX2 57 yX0_rule, Cond.instanceMethod yX0_rule, Cond.selects RX0 yX0_rule yX0_rule, Cond.code yX0_rule cX0_rule 2 (some .int), Cond.fieldLink RX0 31 "AnalogDays$Book" "gap" "I", Cond.fieldLink RX0 24 "AnalogDays$Book" "few" "I", Cond.fieldLink RX0 15 "AnalogDays$Book" "weights" "[I", Cond.methodLink RX2 62 yX2_measure]
def wsX2_learn_r3 : List Cond := [Cond.instanceMethod yX2_measure, Cond.selects RX2 yX2_measure yX2_measure, Cond.code yX2_measure cX2_measure 9 (some .float), Cond.constantFloat RX2 77 (3212836864), Cond.methodLink RX2 66 yX0_gap, Cond.instanceMethod yX0_gap, Cond.selects RX0 yX0_gap yX0_gap, Cond.code yX0_gap cX0_gap 1 (some .int), Cond.methodLink RX2 69 yX2_rank, Cond.instanceMethod yX2_rank, Cond.selects RX2 yX2_rank yX2_rank, Cond.code yX2_rank cX2_rank 8 none, Cond.methodLink RX2 91 Lib.Math.abs.name, Cond.static Lib.Math.abs.name, Cond.code Lib.Math.abs.name Lib.Math.abs.code 1 (some .int), Cond.fieldLink RX2 32 "AnalogDays$Likeness" "likeCounts" "[I", Cond.fieldLink RX2 29 "AnalogDays$Likeness" "nearCounts" "[I", Cond.methodLink RX2 94 yX2_enter, Cond.instanceMethod yX2_enter, Cond.selects RX2 yX2_enter yX2_enter, Cond.code yX2_enter cX2_enter 7 (some .int), Cond.fieldLink RX2 25 "AnalogDays$Likeness" "nearDays" "[I", Cond.methodLink RX2 98 yX2_between, Cond.instanceMethod yX2_between]
def wsX2_learn_r4 : List Cond := [Cond.selects RX2 yX2_between yX2_between, Cond.code yX2_between cX2_between 3 (some .float), Cond.methodLink RX2 73 yX2_has, Cond.instanceMethod yX2_has, Cond.selects RX2 yX2_has yX2_has, Cond.code yX2_has cX2_has 2 (some .boolean)]
def wsX2_learn : List Cond := .code yX2_learn cX2_learn 6 none :: ((wsX2_learn_r1 ++ (wsX2_learn_r2 ++ (wsX2_learn_r3 ++ wsX2_learn_r4))) ++ wsX20 ++ wsX00)
def wsX2_likeOnes : List Cond := .code yX2_likeOnes cX2_likeOnes 2 (some .int) :: ([.fieldLink RX2 32 "AnalogDays$Likeness" "likeCounts" "[I", .methodLink RX2 73 yX2_has, .instanceMethod yX2_has, .selects RX2 yX2_has yX2_has, .initialized RX2, .code yX2_has cX2_has 2 (some .boolean), .fieldLink RX2 51 "AnalogDays$Likeness" "days" "I"] ++ wsX20)
def wsX2_isNear : List Cond := .code yX2_isNear cX2_isNear 5 (some .boolean) :: ([.methodLink RX2 78 yX2_nearOnes, .instanceMethod yX2_nearOnes, .selects RX2 yX2_nearOnes yX2_nearOnes, .initialized RX2, .code yX2_nearOnes cX2_nearOnes 3 (some .int), .fieldLink RX2 29 "AnalogDays$Likeness" "nearCounts" "[I", .methodLink RX2 45 Lib.Math.min.name, .static Lib.Math.min.name, .initialized "java/lang/Math", .code Lib.Math.min.name Lib.Math.min.code 2 (some .int), .methodLink RX2 73 yX2_has, .instanceMethod yX2_has, .selects RX2 yX2_has yX2_has, .code yX2_has cX2_has 2 (some .boolean), .fieldLink RX2 51 "AnalogDays$Likeness" "days" "I", .methodLink RX2 81 yX2_near, .instanceMethod yX2_near, .selects RX2 yX2_near yX2_near, .code yX2_near cX2_near 3 (some .int), .fieldLink RX2 25 "AnalogDays$Likeness" "nearDays" "[I"] ++ wsX20)
def wsX3_init : List Cond := .code yX3_init cX3_init 2 none :: ([.methodLink RX3 3 objectInit, .instanceMethod objectInit, .code objectInit ⟨#[0xb1]⟩ 1 none, .classLink RX3 9 RX0, .fieldLink RX3 11 "AnalogDays$States" "ring" "[LAnalogDays$Book;", .instantiable RX0 5, .initialized RX0, .methodLink RX3 17 yX0_init, .instanceMethod yX0_init, .code yX0_init cX0_init 1 none, .methodLink RX0 3 objectInit, .arrayClass .int, .fieldLink RX0 9 "AnalogDays$Book" "notes" "[I", .fieldLink RX0 15 "AnalogDays$Book" "weights" "[I", .fieldLink RX0 24 "AnalogDays$Book" "few" "I", .methodLink RX0 18 yJ7_fill_53178, .static yJ7_fill_53178, .initialized RJ7, .code yJ7_fill_53178 cJ7_fill_53178 4 none] ++ wsX30 ++ wsX00)
def wsX3_count : List Cond := .code yX3_count cX3_count 1 (some .int) :: ([.fieldLink RX3 18 "AnalogDays$States" "count" "I"] ++ wsX30)
def wsX3_push : List Cond := .code yX3_push cX3_push 2 none :: ([.fieldLink RX3 22 "AnalogDays$States" "newest" "I", .fieldLink RX3 18 "AnalogDays$States" "count" "I", .methodLink RX3 25 Lib.Math.min.name, .static Lib.Math.min.name, .initialized "java/lang/Math", .code Lib.Math.min.name Lib.Math.min.code 2 (some .int), .fieldLink RX3 11 "AnalogDays$States" "ring" "[LAnalogDays$Book;", .methodLink RX3 31 yX0_copyFrom, .instanceMethod yX0_copyFrom, .selects RX0 yX0_copyFrom yX0_copyFrom, .initialized RX0, .code yX0_copyFrom cX0_copyFrom 2 none, .fieldLink RX0 9 "AnalogDays$Book" "notes" "[I", .methodLink RX0 45 arraycopyName, .native arraycopyName, .static arraycopyName, .initialized "java/lang/System", .fieldLink RX0 15 "AnalogDays$Book" "weights" "[I", .fieldLink RX0 28 "AnalogDays$Book" "days" "I", .fieldLink RX0 31 "AnalogDays$Book" "gap" "I", .fieldLink RX0 24 "AnalogDays$Book" "few" "I"] ++ wsX30 ++ wsX00)
def wsX3_pop : List Cond := .code yX3_pop cX3_pop 2 none :: ([.fieldLink RX3 18 "AnalogDays$States" "count" "I", .fieldLink RX3 11 "AnalogDays$States" "ring" "[LAnalogDays$Book;", .fieldLink RX3 22 "AnalogDays$States" "newest" "I", .methodLink RX3 31 yX0_copyFrom, .instanceMethod yX0_copyFrom, .selects RX0 yX0_copyFrom yX0_copyFrom, .initialized RX0, .code yX0_copyFrom cX0_copyFrom 2 none, .fieldLink RX0 9 "AnalogDays$Book" "notes" "[I", .methodLink RX0 45 arraycopyName, .native arraycopyName, .static arraycopyName, .initialized "java/lang/System", .fieldLink RX0 15 "AnalogDays$Book" "weights" "[I", .fieldLink RX0 28 "AnalogDays$Book" "days" "I", .fieldLink RX0 31 "AnalogDays$Book" "gap" "I", .fieldLink RX0 24 "AnalogDays$Book" "few" "I"] ++ wsX30 ++ wsX00)
def wsX4_init : List Cond := .code yX4_init cX4_init 1 none :: ([.methodLink RX4 3 objectInit, .instanceMethod objectInit, .code objectInit ⟨#[0xb1]⟩ 1 none, .arrayClass .int, .fieldLink RX4 9 "AnalogDays$Text" "bytes" "[I", .fieldLink RX4 15 "AnalogDays$Text" "notes" "[I"] ++ wsX40)
def wsX4_length : List Cond := .code yX4_length cX4_length 1 (some .int) :: ([.fieldLink RX4 18 "AnalogDays$Text" "length" "I"] ++ wsX40)
def wsX4_append : List Cond := .code yX4_append cX4_append 2 (some .int) :: ([.fieldLink RX4 18 "AnalogDays$Text" "length" "I", .fieldLink RX4 9 "AnalogDays$Text" "bytes" "[I"] ++ wsX40)
def wsX4_wipe : List Cond := .code yX4_wipe cX4_wipe 2 (some .int) :: ([.fieldLink RX4 18 "AnalogDays$Text" "length" "I"] ++ wsX40)
def wsX4_daysTold : List Cond := .code yX4_daysTold cX4_daysTold 1 (some .int) :: ([.fieldLink RX4 22 "AnalogDays$Text" "days" "I"] ++ wsX40)
def wsX4_note : List Cond := .code yX4_note cX4_note 3 (some .int) :: ([.fieldLink RX4 22 "AnalogDays$Text" "days" "I", .fieldLink RX4 15 "AnalogDays$Text" "notes" "[I", .static yX5_isMember, .initialized RX5, .code yX5_isMember cX5_isMember 1 (some .boolean), .methodLink RX5 81 yX5_isWithin, .static yX5_isWithin, .code yX5_isWithin cX5_isWithin 3 (some .boolean)] ++ wsX40)
def wsX4_here : List Cond := .code yX4_here cX4_here 1 (some .int) :: ([.fieldLink RX4 29 "AnalogDays$Text" "place" "I", .fieldLink RX4 18 "AnalogDays$Text" "length" "I", .fieldLink RX4 9 "AnalogDays$Text" "bytes" "[I"] ++ wsX40)
def wsX4_skipBlanks : List Cond := .code yX4_skipBlanks cX4_skipBlanks 1 none :: ([.fieldLink RX4 29 "AnalogDays$Text" "place" "I", .fieldLink RX4 18 "AnalogDays$Text" "length" "I", .methodLink RX4 45 yX4_here, .instanceMethod yX4_here, .selects RX4 yX4_here yX4_here, .initialized RX4, .code yX4_here cX4_here 1 (some .int), .fieldLink RX4 9 "AnalogDays$Text" "bytes" "[I"] ++ wsX40)
def wsX4_keepNote : List Cond := .code yX4_keepNote cX4_keepNote 3 (some .int) :: ([.fieldLink RX4 15 "AnalogDays$Text" "notes" "[I"] ++ wsX40)
def wsX4_parseNumber : List Cond := .code yX4_parseNumber cX4_parseNumber 6 (some .int) :: ([.fieldLink RX4 29 "AnalogDays$Text" "place" "I", .fieldLink RX4 18 "AnalogDays$Text" "length" "I", .methodLink RX4 45 yX4_here, .instanceMethod yX4_here, .selects RX4 yX4_here yX4_here, .initialized RX4, .code yX4_here cX4_here 1 (some .int), .fieldLink RX4 9 "AnalogDays$Text" "bytes" "[I", .static yX5_isWithin, .initialized RX5, .code yX5_isWithin cX5_isWithin 3 (some .boolean), .methodLink RX4 49 yX4_keepNote, .instanceMethod yX4_keepNote, .selects RX4 yX4_keepNote yX4_keepNote, .code yX4_keepNote cX4_keepNote 3 (some .int), .fieldLink RX4 15 "AnalogDays$Text" "notes" "[I"] ++ wsX40)
def wsX4_parseMember : List Cond := .code yX4_parseMember cX4_parseMember 2 (some .int) :: ([.fieldLink RX4 29 "AnalogDays$Text" "place" "I", .fieldLink RX4 18 "AnalogDays$Text" "length" "I", .methodLink RX4 32 yX4_skipBlanks, .instanceMethod yX4_skipBlanks, .selects RX4 yX4_skipBlanks yX4_skipBlanks, .initialized RX4, .code yX4_skipBlanks cX4_skipBlanks 1 none, .methodLink RX4 45 yX4_here, .instanceMethod yX4_here, .selects RX4 yX4_here yX4_here, .code yX4_here cX4_here 1 (some .int), .fieldLink RX4 9 "AnalogDays$Text" "bytes" "[I", .methodLink RX4 49 yX4_keepNote, .instanceMethod yX4_keepNote, .selects RX4 yX4_keepNote yX4_keepNote, .code yX4_keepNote cX4_keepNote 3 (some .int), .fieldLink RX4 15 "AnalogDays$Text" "notes" "[I", .methodLink RX4 53 yX4_parseNumber, .instanceMethod yX4_parseNumber, .selects RX4 yX4_parseNumber yX4_parseNumber, .code yX4_parseNumber cX4_parseNumber 6 (some .int), .static yX5_isWithin, .initialized RX5, .code yX5_isWithin cX5_isWithin 3 (some .boolean)] ++ wsX40)
def wsX4_parseMark : List Cond := .code yX4_parseMark cX4_parseMark 2 (some .int) :: ([.fieldLink RX4 29 "AnalogDays$Text" "place" "I", .methodLink RX4 32 yX4_skipBlanks, .instanceMethod yX4_skipBlanks, .selects RX4 yX4_skipBlanks yX4_skipBlanks, .initialized RX4, .code yX4_skipBlanks cX4_skipBlanks 1 none, .fieldLink RX4 18 "AnalogDays$Text" "length" "I", .methodLink RX4 45 yX4_here, .instanceMethod yX4_here, .selects RX4 yX4_here yX4_here, .code yX4_here cX4_here 1 (some .int), .fieldLink RX4 9 "AnalogDays$Text" "bytes" "[I"] ++ wsX40)
def wsX4_parseDay_r1 : List Cond := [Cond.methodLink RX4 39 yX4_parseMember, Cond.instanceMethod yX4_parseMember, Cond.selects RX4 yX4_parseMember yX4_parseMember, Cond.initialized RX4, Cond.code yX4_parseMember cX4_parseMember 2 (some .int), Cond.fieldLink RX4 29 "AnalogDays$Text" "place" "I", Cond.fieldLink RX4 18 "AnalogDays$Text" "length" "I", Cond.methodLink RX4 32 yX4_skipBlanks, Cond.instanceMethod yX4_skipBlanks, Cond.selects RX4 yX4_skipBlanks yX4_skipBlanks, Cond.code yX4_skipBlanks cX4_skipBlanks 1 none, Cond.methodLink RX4 45 yX4_here, Cond.instanceMethod yX4_here, Cond.selects RX4 yX4_here yX4_here, Cond.code yX4_here cX4_here 1 (some .int), Cond.fieldLink RX4 9 "AnalogDays$Text" "bytes" "[I", Cond.methodLink RX4 49 yX4_keepNote, Cond.instanceMethod yX4_keepNote, Cond.selects RX4 yX4_keepNote yX4_keepNote, Cond.code yX4_keepNote cX4_keepNote 3 (some .int), Cond.fieldLink RX4 15 "AnalogDays$Text" "notes" "[I", Cond.methodLink RX4 53 yX4_parseNumber, Cond.instanceMethod yX4_parseNumber, Cond.selects RX4 yX4_parseNumber yX4_parseNumber]
def wsX4_parseDay_r2 : List Cond := [Cond.code yX4_parseNumber cX4_parseNumber 6 (some .int), Cond.static yX5_isWithin, Cond.initialized RX5, Cond.code yX5_isWithin cX5_isWithin 3 (some .boolean), Cond.methodLink RX4 42 yX4_parseMark, Cond.instanceMethod yX4_parseMark, Cond.selects RX4 yX4_parseMark yX4_parseMark, Cond.code yX4_parseMark cX4_parseMark 2 (some .int)]
def wsX4_parseDay : List Cond := .code yX4_parseDay cX4_parseDay 4 (some .int) :: ((wsX4_parseDay_r1 ++ wsX4_parseDay_r2) ++ wsX40)
def wsX4_parse_r1 : List Cond := [Cond.fieldLink RX4 29 "AnalogDays$Text" "place" "I", Cond.fieldLink RX4 22 "AnalogDays$Text" "days" "I", Cond.fieldLink RX4 18 "AnalogDays$Text" "length" "I", Cond.methodLink RX4 32 yX4_skipBlanks, Cond.instanceMethod yX4_skipBlanks, Cond.selects RX4 yX4_skipBlanks yX4_skipBlanks, Cond.initialized RX4, Cond.code yX4_skipBlanks cX4_skipBlanks 1 none, Cond.methodLink RX4 45 yX4_here, Cond.instanceMethod yX4_here, Cond.selects RX4 yX4_here yX4_here, Cond.code yX4_here cX4_here 1 (some .int), Cond.fieldLink RX4 9 "AnalogDays$Text" "bytes" "[I", Cond.methodLink RX4 35 yX4_parseDay, Cond.instanceMethod yX4_parseDay, Cond.selects RX4 yX4_parseDay yX4_parseDay, Cond.code yX4_parseDay cX4_parseDay 4 (some .int), Cond.methodLink RX4 39 yX4_parseMember, Cond.instanceMethod yX4_parseMember, Cond.selects RX4 yX4_parseMember yX4_parseMember, Cond.code yX4_parseMember cX4_parseMember 2 (some .int), Cond.methodLink RX4 49 yX4_keepNote, Cond.instanceMethod yX4_keepNote, Cond.selects RX4 yX4_keepNote yX4_keepNote]
def wsX4_parse_r2 : List Cond := [Cond.code yX4_keepNote cX4_keepNote 3 (some .int), Cond.fieldLink RX4 15 "AnalogDays$Text" "notes" "[I", Cond.methodLink RX4 53 yX4_parseNumber, Cond.instanceMethod yX4_parseNumber, Cond.selects RX4 yX4_parseNumber yX4_parseNumber, Cond.code yX4_parseNumber cX4_parseNumber 6 (some .int), Cond.static yX5_isWithin, Cond.initialized RX5, Cond.code yX5_isWithin cX5_isWithin 3 (some .boolean), Cond.methodLink RX4 42 yX4_parseMark, Cond.instanceMethod yX4_parseMark, Cond.selects RX4 yX4_parseMark yX4_parseMark, Cond.code yX4_parseMark cX4_parseMark 2 (some .int)]
def wsX4_parse : List Cond := .code yX4_parse cX4_parse 4 (some .int) :: ((wsX4_parse_r1 ++ wsX4_parse_r2) ++ wsX40)
def wsX5_init_r1 : List Cond := [Cond.methodLink RX5 1 objectInit, Cond.instanceMethod objectInit, Cond.code objectInit ⟨#[0xb1]⟩ 1 none, Cond.classLink RX5 7 RX0, Cond.instantiable RX0 5, Cond.initialized RX0, Cond.fieldLink RX5 10 "AnalogDays" "book" "LAnalogDays$Book;", Cond.classLink RX5 16 RX3, Cond.instantiable RX3 3, Cond.initialized RX3, Cond.fieldLink RX5 19 "AnalogDays" "states" "LAnalogDays$States;", Cond.classLink RX5 23 RX2, Cond.instantiable RX2 9, Cond.initialized RX2, Cond.fieldLink RX5 26 "AnalogDays" "likeness" "LAnalogDays$Likeness;", Cond.classLink RX5 30 RX1, Cond.instantiable RX1 4, Cond.initialized RX1, Cond.fieldLink RX5 33 "AnalogDays" "followers" "LAnalogDays$Followers;", Cond.classLink RX5 37 RX4, Cond.instantiable RX4 5, Cond.initialized RX4, Cond.fieldLink RX5 40 "AnalogDays" "text" "LAnalogDays$Text;", Cond.methodLink RX5 9 yX0_init]
def wsX5_init_r2 : List Cond := [Cond.instanceMethod yX0_init, Cond.code yX0_init cX0_init 1 none, Cond.methodLink RX0 3 objectInit, Cond.arrayClass .int, Cond.fieldLink RX0 9 "AnalogDays$Book" "notes" "[I", Cond.fieldLink RX0 15 "AnalogDays$Book" "weights" "[I", Cond.fieldLink RX0 24 "AnalogDays$Book" "few" "I", Cond.methodLink RX0 18 yJ7_fill_53178, Cond.static yJ7_fill_53178, Cond.initialized RJ7, Cond.code yJ7_fill_53178 cJ7_fill_53178 4 none, Cond.methodLink RX5 18 yX3_init, Cond.instanceMethod yX3_init, Cond.code yX3_init cX3_init 2 none, Cond.methodLink RX3 3 objectInit, Cond.classLink RX3 9 RX0, Cond.fieldLink RX3 11 "AnalogDays$States" "ring" "[LAnalogDays$Book;", Cond.methodLink RX3 17 yX0_init, Cond.methodLink RX5 25 yX2_init, Cond.instanceMethod yX2_init, Cond.code yX2_init cX2_init 1 none, Cond.methodLink RX2 3 objectInit, Cond.arrayClass .float, Cond.fieldLink RX2 9 "AnalogDays$Likeness" "values" "[F"]
def wsX5_init_r3 : List Cond := [Cond.arrayClass .boolean, Cond.fieldLink RX2 15 "AnalogDays$Likeness" "noted" "[Z", Cond.fieldLink RX2 19 "AnalogDays$Likeness" "weights" "[F", Cond.fieldLink RX2 22 "AnalogDays$Likeness" "distances" "[F", Cond.fieldLink RX2 25 "AnalogDays$Likeness" "nearDays" "[I", Cond.fieldLink RX2 29 "AnalogDays$Likeness" "nearCounts" "[I", Cond.fieldLink RX2 32 "AnalogDays$Likeness" "likeCounts" "[I", Cond.fieldLink RX2 35 "AnalogDays$Likeness" "learnt" "I", Cond.methodLink RX5 32 yX1_init, Cond.instanceMethod yX1_init, Cond.code yX1_init cX1_init 1 none, Cond.methodLink RX1 3 objectInit, Cond.fieldLink RX1 9 "AnalogDays$Followers" "tenths" "[I", Cond.fieldLink RX1 15 "AnalogDays$Followers" "distances" "[F", Cond.fieldLink RX1 19 "AnalogDays$Followers" "sorted" "[I", Cond.methodLink RX5 39 yX4_init, Cond.instanceMethod yX4_init, Cond.code yX4_init cX4_init 1 none, Cond.methodLink RX4 3 objectInit, Cond.fieldLink RX4 9 "AnalogDays$Text" "bytes" "[I", Cond.fieldLink RX4 15 "AnalogDays$Text" "notes" "[I"]
def wsX5_init : List Cond := .code yX5_init cX5_init 1 none :: ((wsX5_init_r1 ++ (wsX5_init_r2 ++ wsX5_init_r3)) ++ wsX00 ++ wsX50 ++ wsX30 ++ wsX20 ++ wsX10 ++ wsX40)
def wsX5_isNote : List Cond := .code yX5_isNote cX5_isNote 1 (some .boolean) :: ([.methodLink RX5 81 yX5_isWithin, .static yX5_isWithin, .initialized RX5, .code yX5_isWithin cX5_isWithin 3 (some .boolean)])
def wsX5_refuseBad : List Cond := .code yX5_refuseBad cX5_refuseBad 2 (some .int) :: ([.fieldLink RX5 200 "AnalogDays" "timesBad" "I"] ++ wsX50)
def wsX5_refuseFull : List Cond := .code yX5_refuseFull cX5_refuseFull 1 (some .int) :: ([.fieldLink RX5 203 "AnalogDays" "timesFull" "I"] ++ wsX50)
def wsX5_keepState_r1 : List Cond := [Cond.fieldLink RX5 19 "AnalogDays" "states" "LAnalogDays$States;", Cond.fieldLink RX5 10 "AnalogDays" "book" "LAnalogDays$Book;", Cond.fieldLink RX5 26 "AnalogDays" "likeness" "LAnalogDays$Likeness;", Cond.methodLink RX5 223 yX3_push, Cond.instanceMethod yX3_push, Cond.selects RX3 yX3_push yX3_push, Cond.initialized RX3, Cond.code yX3_push cX3_push 2 none, Cond.fieldLink RX3 22 "AnalogDays$States" "newest" "I", Cond.fieldLink RX3 18 "AnalogDays$States" "count" "I", Cond.methodLink RX3 25 Lib.Math.min.name, Cond.static Lib.Math.min.name, Cond.initialized "java/lang/Math", Cond.code Lib.Math.min.name Lib.Math.min.code 2 (some .int), Cond.fieldLink RX3 11 "AnalogDays$States" "ring" "[LAnalogDays$Book;", Cond.methodLink RX3 31 yX0_copyFrom, Cond.instanceMethod yX0_copyFrom, Cond.selects RX0 yX0_copyFrom yX0_copyFrom, Cond.initialized RX0, Cond.code yX0_copyFrom cX0_copyFrom 2 none, Cond.fieldLink RX0 9 "AnalogDays$Book" "notes" "[I", Cond.methodLink RX0 45 arraycopyName, Cond.native arraycopyName, Cond.static arraycopyName]
def wsX5_keepState_r2 : List Cond := [Cond.initialized "java/lang/System", Cond.fieldLink RX0 15 "AnalogDays$Book" "weights" "[I", Cond.fieldLink RX0 28 "AnalogDays$Book" "days" "I", Cond.fieldLink RX0 31 "AnalogDays$Book" "gap" "I", Cond.fieldLink RX0 24 "AnalogDays$Book" "few" "I", Cond.methodLink RX5 197 yX2_forget, Cond.instanceMethod yX2_forget, Cond.selects RX2 yX2_forget yX2_forget, Cond.initialized RX2, Cond.code yX2_forget cX2_forget 1 none, Cond.fieldLink RX2 35 "AnalogDays$Likeness" "learnt" "I"]
def wsX5_keepState : List Cond := .code yX5_keepState cX5_keepState 1 none :: ((wsX5_keepState_r1 ++ wsX5_keepState_r2) ++ wsX50 ++ wsX30 ++ wsX00 ++ wsX20)
def wsX5_day_r1 : List Cond := [Cond.fieldLink RX5 10 "AnalogDays" "book" "LAnalogDays$Book;", Cond.methodLink RX5 44 yX5_isNote, Cond.static yX5_isNote, Cond.initialized RX5, Cond.code yX5_isNote cX5_isNote 1 (some .boolean), Cond.methodLink RX5 81 yX5_isWithin, Cond.static yX5_isWithin, Cond.code yX5_isWithin cX5_isWithin 3 (some .boolean), Cond.methodLink RX5 48 yX5_refuseBad, Cond.instanceMethod yX5_refuseBad, Cond.selects RX5 yX5_refuseBad yX5_refuseBad, Cond.code yX5_refuseBad cX5_refuseBad 2 (some .int), Cond.fieldLink RX5 200 "AnalogDays" "timesBad" "I", Cond.methodLink RX5 52 yX0_days, Cond.instanceMethod yX0_days, Cond.selects RX0 yX0_days yX0_days, Cond.initialized RX0, Cond.code yX0_days cX0_days 1 (some .int), Cond.fieldLink RX0 28 "AnalogDays$Book" "days" "I", Cond.methodLink RX5 56 yX5_refuseFull, Cond.instanceMethod yX5_refuseFull, Cond.selects RX5 yX5_refuseFull yX5_refuseFull, Cond.code yX5_refuseFull cX5_refuseFull 1 (some .int), Cond.fieldLink RX5 203 "AnalogDays" "timesFull" "I"]
def wsX5_day_r2 : List Cond := [Cond.methodLink RX5 59 yX5_keepState, Cond.instanceMethod yX5_keepState, Cond.selects RX5 yX5_keepState yX5_keepState, Cond.code yX5_keepState cX5_keepState 1 none, Cond.fieldLink RX5 19 "AnalogDays" "states" "LAnalogDays$States;", Cond.fieldLink RX5 26 "AnalogDays" "likeness" "LAnalogDays$Likeness;", Cond.methodLink RX5 223 yX3_push, Cond.instanceMethod yX3_push, Cond.selects RX3 yX3_push yX3_push, Cond.initialized RX3, Cond.code yX3_push cX3_push 2 none, Cond.fieldLink RX3 22 "AnalogDays$States" "newest" "I", Cond.fieldLink RX3 18 "AnalogDays$States" "count" "I", Cond.methodLink RX3 25 Lib.Math.min.name, Cond.static Lib.Math.min.name, Cond.initialized "java/lang/Math", Cond.code Lib.Math.min.name Lib.Math.min.code 2 (some .int), Cond.fieldLink RX3 11 "AnalogDays$States" "ring" "[LAnalogDays$Book;", Cond.methodLink RX3 31 yX0_copyFrom, Cond.instanceMethod yX0_copyFrom, Cond.selects RX0 yX0_copyFrom yX0_copyFrom, Cond.code yX0_copyFrom cX0_copyFrom 2 none, Cond.fieldLink RX0 9 "AnalogDays$Book" "notes" "[I", Cond.methodLink RX0 45 arraycopyName]
def wsX5_day_r3 : List Cond := [Cond.native arraycopyName, Cond.static arraycopyName, Cond.initialized "java/lang/System", Cond.fieldLink RX0 15 "AnalogDays$Book" "weights" "[I", Cond.fieldLink RX0 31 "AnalogDays$Book" "gap" "I", Cond.fieldLink RX0 24 "AnalogDays$Book" "few" "I", Cond.methodLink RX5 197 yX2_forget, Cond.instanceMethod yX2_forget, Cond.selects RX2 yX2_forget yX2_forget, Cond.initialized RX2, Cond.code yX2_forget cX2_forget 1 none, Cond.fieldLink RX2 35 "AnalogDays$Likeness" "learnt" "I", Cond.methodLink RX5 62 yX0_append, Cond.instanceMethod yX0_append, Cond.selects RX0 yX0_append yX0_append, Cond.code yX0_append cX0_append 6 (some .int), Cond.methodLink RX0 41 yX0_put, Cond.instanceMethod yX0_put, Cond.selects RX0 yX0_put yX0_put, Cond.code yX0_put cX0_put 4 none, Cond.methodLink RX0 34 yX0_has, Cond.instanceMethod yX0_has, Cond.selects RX0 yX0_has yX0_has, Cond.code yX0_has cX0_has 2 (some .boolean)]
def wsX5_day_r4 : List Cond := [Cond.static yX5_isMember, Cond.code yX5_isMember cX5_isMember 1 (some .boolean)]
def wsX5_day : List Cond := .code yX5_day cX5_day 5 (some .int) :: ((wsX5_day_r1 ++ (wsX5_day_r2 ++ (wsX5_day_r3 ++ wsX5_day_r4))) ++ wsX50 ++ wsX00 ++ wsX30 ++ wsX20)
def wsX5_sets_r1 : List Cond := [Cond.fieldLink RX5 10 "AnalogDays" "book" "LAnalogDays$Book;", Cond.methodLink RX5 66 yX0_has, Cond.instanceMethod yX0_has, Cond.selects RX0 yX0_has yX0_has, Cond.initialized RX0, Cond.code yX0_has cX0_has 2 (some .boolean), Cond.fieldLink RX0 28 "AnalogDays$Book" "days" "I", Cond.methodLink RX5 69 yX5_isMember, Cond.static yX5_isMember, Cond.initialized RX5, Cond.code yX5_isMember cX5_isMember 1 (some .boolean), Cond.methodLink RX5 81 yX5_isWithin, Cond.static yX5_isWithin, Cond.code yX5_isWithin cX5_isWithin 3 (some .boolean), Cond.methodLink RX5 44 yX5_isNote, Cond.static yX5_isNote, Cond.code yX5_isNote cX5_isNote 1 (some .boolean), Cond.methodLink RX5 48 yX5_refuseBad, Cond.instanceMethod yX5_refuseBad, Cond.selects RX5 yX5_refuseBad yX5_refuseBad, Cond.code yX5_refuseBad cX5_refuseBad 2 (some .int), Cond.fieldLink RX5 200 "AnalogDays" "timesBad" "I", Cond.methodLink RX5 72 yX0_member, Cond.instanceMethod yX0_member]
def wsX5_sets_r2 : List Cond := [Cond.selects RX0 yX0_member yX0_member, Cond.code yX0_member cX0_member 3 (some .int), Cond.fieldLink RX0 9 "AnalogDays$Book" "notes" "[I", Cond.methodLink RX0 34 yX0_has, Cond.methodLink RX5 59 yX5_keepState, Cond.instanceMethod yX5_keepState, Cond.selects RX5 yX5_keepState yX5_keepState, Cond.code yX5_keepState cX5_keepState 1 none, Cond.fieldLink RX5 19 "AnalogDays" "states" "LAnalogDays$States;", Cond.fieldLink RX5 26 "AnalogDays" "likeness" "LAnalogDays$Likeness;", Cond.methodLink RX5 223 yX3_push, Cond.instanceMethod yX3_push, Cond.selects RX3 yX3_push yX3_push, Cond.initialized RX3, Cond.code yX3_push cX3_push 2 none, Cond.fieldLink RX3 22 "AnalogDays$States" "newest" "I", Cond.fieldLink RX3 18 "AnalogDays$States" "count" "I", Cond.methodLink RX3 25 Lib.Math.min.name, Cond.static Lib.Math.min.name, Cond.initialized "java/lang/Math", Cond.code Lib.Math.min.name Lib.Math.min.code 2 (some .int), Cond.fieldLink RX3 11 "AnalogDays$States" "ring" "[LAnalogDays$Book;", Cond.methodLink RX3 31 yX0_copyFrom, Cond.instanceMethod yX0_copyFrom]
def wsX5_sets_r3 : List Cond := [Cond.selects RX0 yX0_copyFrom yX0_copyFrom, Cond.code yX0_copyFrom cX0_copyFrom 2 none, Cond.methodLink RX0 45 arraycopyName, Cond.native arraycopyName, Cond.static arraycopyName, Cond.initialized "java/lang/System", Cond.fieldLink RX0 15 "AnalogDays$Book" "weights" "[I", Cond.fieldLink RX0 31 "AnalogDays$Book" "gap" "I", Cond.fieldLink RX0 24 "AnalogDays$Book" "few" "I", Cond.methodLink RX5 197 yX2_forget, Cond.instanceMethod yX2_forget, Cond.selects RX2 yX2_forget yX2_forget, Cond.initialized RX2, Cond.code yX2_forget cX2_forget 1 none, Cond.fieldLink RX2 35 "AnalogDays$Likeness" "learnt" "I", Cond.methodLink RX5 76 yX0_put, Cond.instanceMethod yX0_put, Cond.selects RX0 yX0_put yX0_put, Cond.code yX0_put cX0_put 4 none]
def wsX5_sets : List Cond := .code yX5_sets cX5_sets 5 (some .int) :: ((wsX5_sets_r1 ++ (wsX5_sets_r2 ++ wsX5_sets_r3)) ++ wsX50 ++ wsX00 ++ wsX30 ++ wsX20)
def wsX5_draw_r1 : List Cond := [Cond.constant RX5 80 (999999), Cond.fieldLink RX5 10 "AnalogDays" "book" "LAnalogDays$Book;", Cond.methodLink RX5 81 yX5_isWithin, Cond.static yX5_isWithin, Cond.initialized RX5, Cond.code yX5_isWithin cX5_isWithin 3 (some .boolean), Cond.methodLink RX5 48 yX5_refuseBad, Cond.instanceMethod yX5_refuseBad, Cond.selects RX5 yX5_refuseBad yX5_refuseBad, Cond.code yX5_refuseBad cX5_refuseBad 2 (some .int), Cond.fieldLink RX5 200 "AnalogDays" "timesBad" "I", Cond.methodLink RX5 59 yX5_keepState, Cond.instanceMethod yX5_keepState, Cond.selects RX5 yX5_keepState yX5_keepState, Cond.code yX5_keepState cX5_keepState 1 none, Cond.fieldLink RX5 19 "AnalogDays" "states" "LAnalogDays$States;", Cond.fieldLink RX5 26 "AnalogDays" "likeness" "LAnalogDays$Likeness;", Cond.methodLink RX5 223 yX3_push, Cond.instanceMethod yX3_push, Cond.selects RX3 yX3_push yX3_push, Cond.initialized RX3, Cond.code yX3_push cX3_push 2 none, Cond.fieldLink RX3 22 "AnalogDays$States" "newest" "I", Cond.fieldLink RX3 18 "AnalogDays$States" "count" "I"]
def wsX5_draw_r2 : List Cond := [Cond.methodLink RX3 25 Lib.Math.min.name, Cond.static Lib.Math.min.name, Cond.initialized "java/lang/Math", Cond.code Lib.Math.min.name Lib.Math.min.code 2 (some .int), Cond.fieldLink RX3 11 "AnalogDays$States" "ring" "[LAnalogDays$Book;", Cond.methodLink RX3 31 yX0_copyFrom, Cond.instanceMethod yX0_copyFrom, Cond.selects RX0 yX0_copyFrom yX0_copyFrom, Cond.initialized RX0, Cond.code yX0_copyFrom cX0_copyFrom 2 none, Cond.fieldLink RX0 9 "AnalogDays$Book" "notes" "[I", Cond.methodLink RX0 45 arraycopyName, Cond.native arraycopyName, Cond.static arraycopyName, Cond.initialized "java/lang/System", Cond.fieldLink RX0 15 "AnalogDays$Book" "weights" "[I", Cond.fieldLink RX0 28 "AnalogDays$Book" "days" "I", Cond.fieldLink RX0 31 "AnalogDays$Book" "gap" "I", Cond.fieldLink RX0 24 "AnalogDays$Book" "few" "I", Cond.methodLink RX5 197 yX2_forget, Cond.instanceMethod yX2_forget, Cond.selects RX2 yX2_forget yX2_forget, Cond.initialized RX2, Cond.code yX2_forget cX2_forget 1 none]
def wsX5_draw_r3 : List Cond := [Cond.fieldLink RX2 35 "AnalogDays$Likeness" "learnt" "I", Cond.methodLink RX5 85 yX0_fillByChance, Cond.instanceMethod yX0_fillByChance, Cond.selects RX0 yX0_fillByChance yX0_fillByChance, Cond.code yX0_fillByChance cX0_fillByChance 9 (some .int), Cond.methodLink RX0 51 Lib.Math.min.name, Cond.methodLink RX0 57 Lib.Math.max.name, Cond.static Lib.Math.max.name, Cond.code Lib.Math.max.name Lib.Math.max.code 2 (some .int), Cond.constantLong RX0 60 (1103515245), Cond.constantLong RX0 62 (12345), Cond.constantLong RX0 64 (2147483648), Cond.constantLong RX0 66 (65536), Cond.constantLong RX0 68 (16), Cond.constantLong RX0 70 (1024), Cond.constantLong RX0 72 (41), Cond.methodLink RX0 41 yX0_put, Cond.instanceMethod yX0_put, Cond.selects RX0 yX0_put yX0_put, Cond.code yX0_put cX0_put 4 none, Cond.methodLink RX0 34 yX0_has, Cond.instanceMethod yX0_has, Cond.selects RX0 yX0_has yX0_has, Cond.code yX0_has cX0_has 2 (some .boolean)]
def wsX5_draw_r4 : List Cond := [Cond.static yX5_isMember, Cond.code yX5_isMember cX5_isMember 1 (some .boolean), Cond.methodLink RX0 74 yX0_lastNoted, Cond.instanceMethod yX0_lastNoted, Cond.selects RX0 yX0_lastNoted yX0_lastNoted, Cond.code yX0_lastNoted cX0_lastNoted 5 (some .int), Cond.methodLink RX0 77 yX0_member, Cond.instanceMethod yX0_member, Cond.selects RX0 yX0_member yX0_member, Cond.code yX0_member cX0_member 3 (some .int)]
def wsX5_draw : List Cond := .code yX5_draw cX5_draw 3 (some .int) :: ((wsX5_draw_r1 ++ (wsX5_draw_r2 ++ (wsX5_draw_r3 ++ wsX5_draw_r4))) ++ wsX50 ++ wsX30 ++ wsX00 ++ wsX20)
def wsX5_empties_r1 : List Cond := [Cond.fieldLink RX5 10 "AnalogDays" "book" "LAnalogDays$Book;", Cond.methodLink RX5 52 yX0_days, Cond.instanceMethod yX0_days, Cond.selects RX0 yX0_days yX0_days, Cond.initialized RX0, Cond.code yX0_days cX0_days 1 (some .int), Cond.fieldLink RX0 28 "AnalogDays$Book" "days" "I", Cond.methodLink RX5 59 yX5_keepState, Cond.instanceMethod yX5_keepState, Cond.selects RX5 yX5_keepState yX5_keepState, Cond.initialized RX5, Cond.code yX5_keepState cX5_keepState 1 none, Cond.fieldLink RX5 19 "AnalogDays" "states" "LAnalogDays$States;", Cond.fieldLink RX5 26 "AnalogDays" "likeness" "LAnalogDays$Likeness;", Cond.methodLink RX5 223 yX3_push, Cond.instanceMethod yX3_push, Cond.selects RX3 yX3_push yX3_push, Cond.initialized RX3, Cond.code yX3_push cX3_push 2 none, Cond.fieldLink RX3 22 "AnalogDays$States" "newest" "I", Cond.fieldLink RX3 18 "AnalogDays$States" "count" "I", Cond.methodLink RX3 25 Lib.Math.min.name, Cond.static Lib.Math.min.name, Cond.initialized "java/lang/Math"]
def wsX5_empties_r2 : List Cond := [Cond.code Lib.Math.min.name Lib.Math.min.code 2 (some .int), Cond.fieldLink RX3 11 "AnalogDays$States" "ring" "[LAnalogDays$Book;", Cond.methodLink RX3 31 yX0_copyFrom, Cond.instanceMethod yX0_copyFrom, Cond.selects RX0 yX0_copyFrom yX0_copyFrom, Cond.code yX0_copyFrom cX0_copyFrom 2 none, Cond.fieldLink RX0 9 "AnalogDays$Book" "notes" "[I", Cond.methodLink RX0 45 arraycopyName, Cond.native arraycopyName, Cond.static arraycopyName, Cond.initialized "java/lang/System", Cond.fieldLink RX0 15 "AnalogDays$Book" "weights" "[I", Cond.fieldLink RX0 31 "AnalogDays$Book" "gap" "I", Cond.fieldLink RX0 24 "AnalogDays$Book" "few" "I", Cond.methodLink RX5 197 yX2_forget, Cond.instanceMethod yX2_forget, Cond.selects RX2 yX2_forget yX2_forget, Cond.initialized RX2, Cond.code yX2_forget cX2_forget 1 none, Cond.fieldLink RX2 35 "AnalogDays$Likeness" "learnt" "I", Cond.methodLink RX5 88 yX0_removeAll, Cond.instanceMethod yX0_removeAll, Cond.selects RX0 yX0_removeAll yX0_removeAll, Cond.code yX0_removeAll cX0_removeAll 1 none]
def wsX5_empties : List Cond := .code yX5_empties cX5_empties 2 (some .int) :: ((wsX5_empties_r1 ++ wsX5_empties_r2) ++ wsX50 ++ wsX00 ++ wsX30 ++ wsX20)
def wsX5_isRule : List Cond := .code yX5_isRule cX5_isRule 2 (some .boolean) :: ([.methodLink RX5 81 yX5_isWithin, .static yX5_isWithin, .initialized RX5, .code yX5_isWithin cX5_isWithin 3 (some .boolean), .methodLink RX5 69 yX5_isMember, .static yX5_isMember, .code yX5_isMember cX5_isMember 1 (some .boolean)])
def wsX5_rules_r1 : List Cond := [Cond.fieldLink RX5 10 "AnalogDays" "book" "LAnalogDays$Book;", Cond.methodLink RX5 91 yX5_isRule, Cond.static yX5_isRule, Cond.initialized RX5, Cond.code yX5_isRule cX5_isRule 2 (some .boolean), Cond.methodLink RX5 81 yX5_isWithin, Cond.static yX5_isWithin, Cond.code yX5_isWithin cX5_isWithin 3 (some .boolean), Cond.methodLink RX5 69 yX5_isMember, Cond.static yX5_isMember, Cond.code yX5_isMember cX5_isMember 1 (some .boolean), Cond.methodLink RX5 48 yX5_refuseBad, Cond.instanceMethod yX5_refuseBad, Cond.selects RX5 yX5_refuseBad yX5_refuseBad, Cond.code yX5_refuseBad cX5_refuseBad 2 (some .int), Cond.fieldLink RX5 200 "AnalogDays" "timesBad" "I", Cond.methodLink RX5 95 yX0_rule, Cond.instanceMethod yX0_rule, Cond.selects RX0 yX0_rule yX0_rule, Cond.initialized RX0, Cond.code yX0_rule cX0_rule 2 (some .int), Cond.fieldLink RX0 31 "AnalogDays$Book" "gap" "I", Cond.fieldLink RX0 24 "AnalogDays$Book" "few" "I", Cond.fieldLink RX0 15 "AnalogDays$Book" "weights" "[I"]
def wsX5_rules_r2 : List Cond := [Cond.methodLink RX5 59 yX5_keepState, Cond.instanceMethod yX5_keepState, Cond.selects RX5 yX5_keepState yX5_keepState, Cond.code yX5_keepState cX5_keepState 1 none, Cond.fieldLink RX5 19 "AnalogDays" "states" "LAnalogDays$States;", Cond.fieldLink RX5 26 "AnalogDays" "likeness" "LAnalogDays$Likeness;", Cond.methodLink RX5 223 yX3_push, Cond.instanceMethod yX3_push, Cond.selects RX3 yX3_push yX3_push, Cond.initialized RX3, Cond.code yX3_push cX3_push 2 none, Cond.fieldLink RX3 22 "AnalogDays$States" "newest" "I", Cond.fieldLink RX3 18 "AnalogDays$States" "count" "I", Cond.methodLink RX3 25 Lib.Math.min.name, Cond.static Lib.Math.min.name, Cond.initialized "java/lang/Math", Cond.code Lib.Math.min.name Lib.Math.min.code 2 (some .int), Cond.fieldLink RX3 11 "AnalogDays$States" "ring" "[LAnalogDays$Book;", Cond.methodLink RX3 31 yX0_copyFrom, Cond.instanceMethod yX0_copyFrom, Cond.selects RX0 yX0_copyFrom yX0_copyFrom, Cond.code yX0_copyFrom cX0_copyFrom 2 none, Cond.fieldLink RX0 9 "AnalogDays$Book" "notes" "[I", Cond.methodLink RX0 45 arraycopyName]
def wsX5_rules_r3 : List Cond := [Cond.native arraycopyName, Cond.static arraycopyName, Cond.initialized "java/lang/System", Cond.fieldLink RX0 28 "AnalogDays$Book" "days" "I", Cond.methodLink RX5 197 yX2_forget, Cond.instanceMethod yX2_forget, Cond.selects RX2 yX2_forget yX2_forget, Cond.initialized RX2, Cond.code yX2_forget cX2_forget 1 none, Cond.fieldLink RX2 35 "AnalogDays$Likeness" "learnt" "I", Cond.methodLink RX5 98 yX0_setRule, Cond.instanceMethod yX0_setRule, Cond.selects RX0 yX0_setRule yX0_setRule, Cond.code yX0_setRule cX0_setRule 3 none]
def wsX5_rules : List Cond := .code yX5_rules cX5_rules 4 (some .int) :: ((wsX5_rules_r1 ++ (wsX5_rules_r2 ++ wsX5_rules_r3)) ++ wsX50 ++ wsX00 ++ wsX30 ++ wsX20)
def wsX5_at_r1 : List Cond := [Cond.fieldLink RX5 10 "AnalogDays" "book" "LAnalogDays$Book;", Cond.methodLink RX5 66 yX0_has, Cond.instanceMethod yX0_has, Cond.selects RX0 yX0_has yX0_has, Cond.initialized RX0, Cond.code yX0_has cX0_has 2 (some .boolean), Cond.fieldLink RX0 28 "AnalogDays$Book" "days" "I", Cond.methodLink RX5 69 yX5_isMember, Cond.static yX5_isMember, Cond.initialized RX5, Cond.code yX5_isMember cX5_isMember 1 (some .boolean), Cond.methodLink RX5 81 yX5_isWithin, Cond.static yX5_isWithin, Cond.code yX5_isWithin cX5_isWithin 3 (some .boolean), Cond.methodLink RX5 48 yX5_refuseBad, Cond.instanceMethod yX5_refuseBad, Cond.selects RX5 yX5_refuseBad yX5_refuseBad, Cond.code yX5_refuseBad cX5_refuseBad 2 (some .int), Cond.fieldLink RX5 200 "AnalogDays" "timesBad" "I", Cond.methodLink RX5 72 yX0_member, Cond.instanceMethod yX0_member, Cond.selects RX0 yX0_member yX0_member, Cond.code yX0_member cX0_member 3 (some .int), Cond.fieldLink RX0 9 "AnalogDays$Book" "notes" "[I"]
def wsX5_at_r2 : List Cond := [Cond.methodLink RX0 34 yX0_has]
def wsX5_at : List Cond := .code yX5_at cX5_at 3 (some .int) :: ((wsX5_at_r1 ++ wsX5_at_r2) ++ wsX50 ++ wsX00)
def wsX5_floatBits : List Cond := .code yX5_floatBits cX5_floatBits 4 (some .int) :: ([.constantFloat RX5 235 (1258291200), .constant RX5 238 (-2147483648)])
def wsX5_bitsOrNone : List Cond := .code yX5_bitsOrNone cX5_bitsOrNone 1 (some .int) :: ([.methodLink RX5 153 yX5_floatBits, .static yX5_floatBits, .initialized RX5, .code yX5_floatBits cX5_floatBits 4 (some .int), .constantFloat RX5 235 (1258291200), .constant RX5 238 (-2147483648)])
def wsX5_distance_r1 : List Cond := [Cond.fieldLink RX5 10 "AnalogDays" "book" "LAnalogDays$Book;", Cond.fieldLink RX5 26 "AnalogDays" "likeness" "LAnalogDays$Likeness;", Cond.methodLink RX5 66 yX0_has, Cond.instanceMethod yX0_has, Cond.selects RX0 yX0_has yX0_has, Cond.initialized RX0, Cond.code yX0_has cX0_has 2 (some .boolean), Cond.fieldLink RX0 28 "AnalogDays$Book" "days" "I", Cond.methodLink RX5 48 yX5_refuseBad, Cond.instanceMethod yX5_refuseBad, Cond.selects RX5 yX5_refuseBad yX5_refuseBad, Cond.initialized RX5, Cond.code yX5_refuseBad cX5_refuseBad 2 (some .int), Cond.fieldLink RX5 200 "AnalogDays" "timesBad" "I", Cond.methodLink RX5 102 yX2_learn, Cond.instanceMethod yX2_learn, Cond.selects RX2 yX2_learn yX2_learn, Cond.initialized RX2, Cond.code yX2_learn cX2_learn 6 none, Cond.fieldLink RX2 35 "AnalogDays$Likeness" "learnt" "I", Cond.methodLink RX2 45 Lib.Math.min.name, Cond.static Lib.Math.min.name, Cond.initialized "java/lang/Math", Cond.code Lib.Math.min.name Lib.Math.min.code 2 (some .int)]
def wsX5_distance_r2 : List Cond := [Cond.fieldLink RX2 51 "AnalogDays$Likeness" "days" "I", Cond.fieldLink RX2 19 "AnalogDays$Likeness" "weights" "[F", Cond.constantFloat RX2 61 (1090519040), Cond.fieldLink RX2 22 "AnalogDays$Likeness" "distances" "[F", Cond.methodLink RX2 39 yX0_days, Cond.instanceMethod yX0_days, Cond.selects RX0 yX0_days yX0_days, Cond.code yX0_days cX0_days 1 (some .int), Cond.methodLink RX2 53 yX2_takeNotes, Cond.instanceMethod yX2_takeNotes, Cond.selects RX2 yX2_takeNotes yX2_takeNotes, Cond.code yX2_takeNotes cX2_takeNotes 5 none, Cond.fieldLink RX2 15 "AnalogDays$Likeness" "noted" "[Z", Cond.fieldLink RX2 9 "AnalogDays$Likeness" "values" "[F", Cond.methodLink RX2 84 yX0_member, Cond.instanceMethod yX0_member, Cond.selects RX0 yX0_member yX0_member, Cond.code yX0_member cX0_member 3 (some .int), Cond.fieldLink RX0 9 "AnalogDays$Book" "notes" "[I", Cond.methodLink RX0 34 yX0_has, Cond.static yX5_isMember, Cond.code yX5_isMember cX5_isMember 1 (some .boolean), Cond.methodLink RX5 81 yX5_isWithin, Cond.static yX5_isWithin]
def wsX5_distance_r3 : List Cond := [Cond.code yX5_isWithin cX5_isWithin 3 (some .boolean), Cond.static yX5_valueOf, Cond.code yX5_valueOf cX5_valueOf 1 (some .float), Cond.constantFloat RX5 234 (1092616192), Cond.methodLink RX2 57 yX0_rule, Cond.instanceMethod yX0_rule, Cond.selects RX0 yX0_rule yX0_rule, Cond.code yX0_rule cX0_rule 2 (some .int), Cond.fieldLink RX0 31 "AnalogDays$Book" "gap" "I", Cond.fieldLink RX0 24 "AnalogDays$Book" "few" "I", Cond.fieldLink RX0 15 "AnalogDays$Book" "weights" "[I", Cond.methodLink RX2 62 yX2_measure, Cond.instanceMethod yX2_measure, Cond.selects RX2 yX2_measure yX2_measure, Cond.code yX2_measure cX2_measure 9 (some .float), Cond.constantFloat RX2 77 (3212836864), Cond.methodLink RX2 66 yX0_gap, Cond.instanceMethod yX0_gap, Cond.selects RX0 yX0_gap yX0_gap, Cond.code yX0_gap cX0_gap 1 (some .int), Cond.methodLink RX2 69 yX2_rank, Cond.instanceMethod yX2_rank, Cond.selects RX2 yX2_rank yX2_rank, Cond.code yX2_rank cX2_rank 8 none]
def wsX5_distance_r4 : List Cond := [Cond.methodLink RX2 91 Lib.Math.abs.name, Cond.static Lib.Math.abs.name, Cond.code Lib.Math.abs.name Lib.Math.abs.code 1 (some .int), Cond.fieldLink RX2 32 "AnalogDays$Likeness" "likeCounts" "[I", Cond.fieldLink RX2 29 "AnalogDays$Likeness" "nearCounts" "[I", Cond.methodLink RX2 94 yX2_enter, Cond.instanceMethod yX2_enter, Cond.selects RX2 yX2_enter yX2_enter, Cond.code yX2_enter cX2_enter 7 (some .int), Cond.fieldLink RX2 25 "AnalogDays$Likeness" "nearDays" "[I", Cond.methodLink RX2 98 yX2_between, Cond.instanceMethod yX2_between, Cond.selects RX2 yX2_between yX2_between, Cond.code yX2_between cX2_between 3 (some .float), Cond.methodLink RX2 73 yX2_has, Cond.instanceMethod yX2_has, Cond.selects RX2 yX2_has yX2_has, Cond.code yX2_has cX2_has 2 (some .boolean), Cond.methodLink RX5 106 yX2_between, Cond.methodLink RX5 110 yX5_bitsOrNone, Cond.static yX5_bitsOrNone, Cond.code yX5_bitsOrNone cX5_bitsOrNone 1 (some .int), Cond.methodLink RX5 153 yX5_floatBits, Cond.static yX5_floatBits]
def wsX5_distance_r5 : List Cond := [Cond.code yX5_floatBits cX5_floatBits 4 (some .int), Cond.constantFloat RX5 235 (1258291200), Cond.constant RX5 238 (-2147483648)]
def wsX5_distance : List Cond := .code yX5_distance cX5_distance 3 (some .int) :: ((wsX5_distance_r1 ++ (wsX5_distance_r2 ++ (wsX5_distance_r3 ++ (wsX5_distance_r4 ++ wsX5_distance_r5)))) ++ wsX50 ++ wsX00 ++ wsX20)
def wsX5_nearest_r1 : List Cond := [Cond.fieldLink RX5 10 "AnalogDays" "book" "LAnalogDays$Book;", Cond.fieldLink RX5 26 "AnalogDays" "likeness" "LAnalogDays$Likeness;", Cond.methodLink RX5 66 yX0_has, Cond.instanceMethod yX0_has, Cond.selects RX0 yX0_has yX0_has, Cond.initialized RX0, Cond.code yX0_has cX0_has 2 (some .boolean), Cond.fieldLink RX0 28 "AnalogDays$Book" "days" "I", Cond.methodLink RX5 81 yX5_isWithin, Cond.static yX5_isWithin, Cond.initialized RX5, Cond.code yX5_isWithin cX5_isWithin 3 (some .boolean), Cond.methodLink RX5 48 yX5_refuseBad, Cond.instanceMethod yX5_refuseBad, Cond.selects RX5 yX5_refuseBad yX5_refuseBad, Cond.code yX5_refuseBad cX5_refuseBad 2 (some .int), Cond.fieldLink RX5 200 "AnalogDays" "timesBad" "I", Cond.methodLink RX5 102 yX2_learn, Cond.instanceMethod yX2_learn, Cond.selects RX2 yX2_learn yX2_learn, Cond.initialized RX2, Cond.code yX2_learn cX2_learn 6 none, Cond.fieldLink RX2 35 "AnalogDays$Likeness" "learnt" "I", Cond.methodLink RX2 45 Lib.Math.min.name]
def wsX5_nearest_r2 : List Cond := [Cond.static Lib.Math.min.name, Cond.initialized "java/lang/Math", Cond.code Lib.Math.min.name Lib.Math.min.code 2 (some .int), Cond.fieldLink RX2 51 "AnalogDays$Likeness" "days" "I", Cond.fieldLink RX2 19 "AnalogDays$Likeness" "weights" "[F", Cond.constantFloat RX2 61 (1090519040), Cond.fieldLink RX2 22 "AnalogDays$Likeness" "distances" "[F", Cond.methodLink RX2 39 yX0_days, Cond.instanceMethod yX0_days, Cond.selects RX0 yX0_days yX0_days, Cond.code yX0_days cX0_days 1 (some .int), Cond.methodLink RX2 53 yX2_takeNotes, Cond.instanceMethod yX2_takeNotes, Cond.selects RX2 yX2_takeNotes yX2_takeNotes, Cond.code yX2_takeNotes cX2_takeNotes 5 none, Cond.fieldLink RX2 15 "AnalogDays$Likeness" "noted" "[Z", Cond.fieldLink RX2 9 "AnalogDays$Likeness" "values" "[F", Cond.methodLink RX2 84 yX0_member, Cond.instanceMethod yX0_member, Cond.selects RX0 yX0_member yX0_member, Cond.code yX0_member cX0_member 3 (some .int), Cond.fieldLink RX0 9 "AnalogDays$Book" "notes" "[I", Cond.methodLink RX0 34 yX0_has, Cond.static yX5_isMember]
def wsX5_nearest_r3 : List Cond := [Cond.code yX5_isMember cX5_isMember 1 (some .boolean), Cond.static yX5_valueOf, Cond.code yX5_valueOf cX5_valueOf 1 (some .float), Cond.constantFloat RX5 234 (1092616192), Cond.methodLink RX2 57 yX0_rule, Cond.instanceMethod yX0_rule, Cond.selects RX0 yX0_rule yX0_rule, Cond.code yX0_rule cX0_rule 2 (some .int), Cond.fieldLink RX0 31 "AnalogDays$Book" "gap" "I", Cond.fieldLink RX0 24 "AnalogDays$Book" "few" "I", Cond.fieldLink RX0 15 "AnalogDays$Book" "weights" "[I", Cond.methodLink RX2 62 yX2_measure, Cond.instanceMethod yX2_measure, Cond.selects RX2 yX2_measure yX2_measure, Cond.code yX2_measure cX2_measure 9 (some .float), Cond.constantFloat RX2 77 (3212836864), Cond.methodLink RX2 66 yX0_gap, Cond.instanceMethod yX0_gap, Cond.selects RX0 yX0_gap yX0_gap, Cond.code yX0_gap cX0_gap 1 (some .int), Cond.methodLink RX2 69 yX2_rank, Cond.instanceMethod yX2_rank, Cond.selects RX2 yX2_rank yX2_rank, Cond.code yX2_rank cX2_rank 8 none]
def wsX5_nearest_r4 : List Cond := [Cond.methodLink RX2 91 Lib.Math.abs.name, Cond.static Lib.Math.abs.name, Cond.code Lib.Math.abs.name Lib.Math.abs.code 1 (some .int), Cond.fieldLink RX2 32 "AnalogDays$Likeness" "likeCounts" "[I", Cond.fieldLink RX2 29 "AnalogDays$Likeness" "nearCounts" "[I", Cond.methodLink RX2 94 yX2_enter, Cond.instanceMethod yX2_enter, Cond.selects RX2 yX2_enter yX2_enter, Cond.code yX2_enter cX2_enter 7 (some .int), Cond.fieldLink RX2 25 "AnalogDays$Likeness" "nearDays" "[I", Cond.methodLink RX2 98 yX2_between, Cond.instanceMethod yX2_between, Cond.selects RX2 yX2_between yX2_between, Cond.code yX2_between cX2_between 3 (some .float), Cond.methodLink RX2 73 yX2_has, Cond.instanceMethod yX2_has, Cond.selects RX2 yX2_has yX2_has, Cond.code yX2_has cX2_has 2 (some .boolean), Cond.methodLink RX5 114 yX0_few, Cond.instanceMethod yX0_few, Cond.selects RX0 yX0_few yX0_few, Cond.code yX0_few cX0_few 1 (some .int), Cond.methodLink RX5 117 yX2_nearOnes, Cond.instanceMethod yX2_nearOnes]
def wsX5_nearest_r5 : List Cond := [Cond.selects RX2 yX2_nearOnes yX2_nearOnes, Cond.code yX2_nearOnes cX2_nearOnes 3 (some .int), Cond.methodLink RX5 120 yX2_near, Cond.instanceMethod yX2_near, Cond.selects RX2 yX2_near yX2_near, Cond.code yX2_near cX2_near 3 (some .int), Cond.methodLink RX5 106 yX2_between, Cond.methodLink RX5 110 yX5_bitsOrNone, Cond.static yX5_bitsOrNone, Cond.code yX5_bitsOrNone cX5_bitsOrNone 1 (some .int), Cond.methodLink RX5 153 yX5_floatBits, Cond.static yX5_floatBits, Cond.code yX5_floatBits cX5_floatBits 4 (some .int), Cond.constantFloat RX5 235 (1258291200), Cond.constant RX5 238 (-2147483648)]
def wsX5_nearest : List Cond := .code yX5_nearest cX5_nearest 5 (some .int) :: ((wsX5_nearest_r1 ++ (wsX5_nearest_r2 ++ (wsX5_nearest_r3 ++ (wsX5_nearest_r4 ++ wsX5_nearest_r5)))) ++ wsX50 ++ wsX00 ++ wsX20)
def wsX5_likes_r1 : List Cond := [Cond.fieldLink RX5 10 "AnalogDays" "book" "LAnalogDays$Book;", Cond.fieldLink RX5 26 "AnalogDays" "likeness" "LAnalogDays$Likeness;", Cond.methodLink RX5 66 yX0_has, Cond.instanceMethod yX0_has, Cond.selects RX0 yX0_has yX0_has, Cond.initialized RX0, Cond.code yX0_has cX0_has 2 (some .boolean), Cond.fieldLink RX0 28 "AnalogDays$Book" "days" "I", Cond.methodLink RX5 48 yX5_refuseBad, Cond.instanceMethod yX5_refuseBad, Cond.selects RX5 yX5_refuseBad yX5_refuseBad, Cond.initialized RX5, Cond.code yX5_refuseBad cX5_refuseBad 2 (some .int), Cond.fieldLink RX5 200 "AnalogDays" "timesBad" "I", Cond.methodLink RX5 102 yX2_learn, Cond.instanceMethod yX2_learn, Cond.selects RX2 yX2_learn yX2_learn, Cond.initialized RX2, Cond.code yX2_learn cX2_learn 6 none, Cond.fieldLink RX2 35 "AnalogDays$Likeness" "learnt" "I", Cond.methodLink RX2 45 Lib.Math.min.name, Cond.static Lib.Math.min.name, Cond.initialized "java/lang/Math", Cond.code Lib.Math.min.name Lib.Math.min.code 2 (some .int)]
def wsX5_likes_r2 : List Cond := [Cond.fieldLink RX2 51 "AnalogDays$Likeness" "days" "I", Cond.fieldLink RX2 19 "AnalogDays$Likeness" "weights" "[F", Cond.constantFloat RX2 61 (1090519040), Cond.fieldLink RX2 22 "AnalogDays$Likeness" "distances" "[F", Cond.methodLink RX2 39 yX0_days, Cond.instanceMethod yX0_days, Cond.selects RX0 yX0_days yX0_days, Cond.code yX0_days cX0_days 1 (some .int), Cond.methodLink RX2 53 yX2_takeNotes, Cond.instanceMethod yX2_takeNotes, Cond.selects RX2 yX2_takeNotes yX2_takeNotes, Cond.code yX2_takeNotes cX2_takeNotes 5 none, Cond.fieldLink RX2 15 "AnalogDays$Likeness" "noted" "[Z", Cond.fieldLink RX2 9 "AnalogDays$Likeness" "values" "[F", Cond.methodLink RX2 84 yX0_member, Cond.instanceMethod yX0_member, Cond.selects RX0 yX0_member yX0_member, Cond.code yX0_member cX0_member 3 (some .int), Cond.fieldLink RX0 9 "AnalogDays$Book" "notes" "[I", Cond.methodLink RX0 34 yX0_has, Cond.static yX5_isMember, Cond.code yX5_isMember cX5_isMember 1 (some .boolean), Cond.methodLink RX5 81 yX5_isWithin, Cond.static yX5_isWithin]
def wsX5_likes_r3 : List Cond := [Cond.code yX5_isWithin cX5_isWithin 3 (some .boolean), Cond.static yX5_valueOf, Cond.code yX5_valueOf cX5_valueOf 1 (some .float), Cond.constantFloat RX5 234 (1092616192), Cond.methodLink RX2 57 yX0_rule, Cond.instanceMethod yX0_rule, Cond.selects RX0 yX0_rule yX0_rule, Cond.code yX0_rule cX0_rule 2 (some .int), Cond.fieldLink RX0 31 "AnalogDays$Book" "gap" "I", Cond.fieldLink RX0 24 "AnalogDays$Book" "few" "I", Cond.fieldLink RX0 15 "AnalogDays$Book" "weights" "[I", Cond.methodLink RX2 62 yX2_measure, Cond.instanceMethod yX2_measure, Cond.selects RX2 yX2_measure yX2_measure, Cond.code yX2_measure cX2_measure 9 (some .float), Cond.constantFloat RX2 77 (3212836864), Cond.methodLink RX2 66 yX0_gap, Cond.instanceMethod yX0_gap, Cond.selects RX0 yX0_gap yX0_gap, Cond.code yX0_gap cX0_gap 1 (some .int), Cond.methodLink RX2 69 yX2_rank, Cond.instanceMethod yX2_rank, Cond.selects RX2 yX2_rank yX2_rank, Cond.code yX2_rank cX2_rank 8 none]
def wsX5_likes_r4 : List Cond := [Cond.methodLink RX2 91 Lib.Math.abs.name, Cond.static Lib.Math.abs.name, Cond.code Lib.Math.abs.name Lib.Math.abs.code 1 (some .int), Cond.fieldLink RX2 32 "AnalogDays$Likeness" "likeCounts" "[I", Cond.fieldLink RX2 29 "AnalogDays$Likeness" "nearCounts" "[I", Cond.methodLink RX2 94 yX2_enter, Cond.instanceMethod yX2_enter, Cond.selects RX2 yX2_enter yX2_enter, Cond.code yX2_enter cX2_enter 7 (some .int), Cond.fieldLink RX2 25 "AnalogDays$Likeness" "nearDays" "[I", Cond.methodLink RX2 98 yX2_between, Cond.instanceMethod yX2_between, Cond.selects RX2 yX2_between yX2_between, Cond.code yX2_between cX2_between 3 (some .float), Cond.methodLink RX2 73 yX2_has, Cond.instanceMethod yX2_has, Cond.selects RX2 yX2_has yX2_has, Cond.code yX2_has cX2_has 2 (some .boolean), Cond.methodLink RX5 123 yX2_likeOnes, Cond.instanceMethod yX2_likeOnes, Cond.selects RX2 yX2_likeOnes yX2_likeOnes, Cond.code yX2_likeOnes cX2_likeOnes 2 (some .int)]
def wsX5_likes : List Cond := .code yX5_likes cX5_likes 2 (some .int) :: ((wsX5_likes_r1 ++ (wsX5_likes_r2 ++ (wsX5_likes_r3 ++ wsX5_likes_r4))) ++ wsX50 ++ wsX00 ++ wsX20)
def wsX5_serves_r1 : List Cond := [Cond.fieldLink RX5 10 "AnalogDays" "book" "LAnalogDays$Book;", Cond.fieldLink RX5 26 "AnalogDays" "likeness" "LAnalogDays$Likeness;", Cond.methodLink RX5 66 yX0_has, Cond.instanceMethod yX0_has, Cond.selects RX0 yX0_has yX0_has, Cond.initialized RX0, Cond.code yX0_has cX0_has 2 (some .boolean), Cond.fieldLink RX0 28 "AnalogDays$Book" "days" "I", Cond.methodLink RX5 48 yX5_refuseBad, Cond.instanceMethod yX5_refuseBad, Cond.selects RX5 yX5_refuseBad yX5_refuseBad, Cond.initialized RX5, Cond.code yX5_refuseBad cX5_refuseBad 2 (some .int), Cond.fieldLink RX5 200 "AnalogDays" "timesBad" "I", Cond.methodLink RX5 102 yX2_learn, Cond.instanceMethod yX2_learn, Cond.selects RX2 yX2_learn yX2_learn, Cond.initialized RX2, Cond.code yX2_learn cX2_learn 6 none, Cond.fieldLink RX2 35 "AnalogDays$Likeness" "learnt" "I", Cond.methodLink RX2 45 Lib.Math.min.name, Cond.static Lib.Math.min.name, Cond.initialized "java/lang/Math", Cond.code Lib.Math.min.name Lib.Math.min.code 2 (some .int)]
def wsX5_serves_r2 : List Cond := [Cond.fieldLink RX2 51 "AnalogDays$Likeness" "days" "I", Cond.fieldLink RX2 19 "AnalogDays$Likeness" "weights" "[F", Cond.constantFloat RX2 61 (1090519040), Cond.fieldLink RX2 22 "AnalogDays$Likeness" "distances" "[F", Cond.methodLink RX2 39 yX0_days, Cond.instanceMethod yX0_days, Cond.selects RX0 yX0_days yX0_days, Cond.code yX0_days cX0_days 1 (some .int), Cond.methodLink RX2 53 yX2_takeNotes, Cond.instanceMethod yX2_takeNotes, Cond.selects RX2 yX2_takeNotes yX2_takeNotes, Cond.code yX2_takeNotes cX2_takeNotes 5 none, Cond.fieldLink RX2 15 "AnalogDays$Likeness" "noted" "[Z", Cond.fieldLink RX2 9 "AnalogDays$Likeness" "values" "[F", Cond.methodLink RX2 84 yX0_member, Cond.instanceMethod yX0_member, Cond.selects RX0 yX0_member yX0_member, Cond.code yX0_member cX0_member 3 (some .int), Cond.fieldLink RX0 9 "AnalogDays$Book" "notes" "[I", Cond.methodLink RX0 34 yX0_has, Cond.static yX5_isMember, Cond.code yX5_isMember cX5_isMember 1 (some .boolean), Cond.methodLink RX5 81 yX5_isWithin, Cond.static yX5_isWithin]
def wsX5_serves_r3 : List Cond := [Cond.code yX5_isWithin cX5_isWithin 3 (some .boolean), Cond.static yX5_valueOf, Cond.code yX5_valueOf cX5_valueOf 1 (some .float), Cond.constantFloat RX5 234 (1092616192), Cond.methodLink RX2 57 yX0_rule, Cond.instanceMethod yX0_rule, Cond.selects RX0 yX0_rule yX0_rule, Cond.code yX0_rule cX0_rule 2 (some .int), Cond.fieldLink RX0 31 "AnalogDays$Book" "gap" "I", Cond.fieldLink RX0 24 "AnalogDays$Book" "few" "I", Cond.fieldLink RX0 15 "AnalogDays$Book" "weights" "[I", Cond.methodLink RX2 62 yX2_measure, Cond.instanceMethod yX2_measure, Cond.selects RX2 yX2_measure yX2_measure, Cond.code yX2_measure cX2_measure 9 (some .float), Cond.constantFloat RX2 77 (3212836864), Cond.methodLink RX2 66 yX0_gap, Cond.instanceMethod yX0_gap, Cond.selects RX0 yX0_gap yX0_gap, Cond.code yX0_gap cX0_gap 1 (some .int), Cond.methodLink RX2 69 yX2_rank, Cond.instanceMethod yX2_rank, Cond.selects RX2 yX2_rank yX2_rank, Cond.code yX2_rank cX2_rank 8 none]
def wsX5_serves_r4 : List Cond := [Cond.methodLink RX2 91 Lib.Math.abs.name, Cond.static Lib.Math.abs.name, Cond.code Lib.Math.abs.name Lib.Math.abs.code 1 (some .int), Cond.fieldLink RX2 32 "AnalogDays$Likeness" "likeCounts" "[I", Cond.fieldLink RX2 29 "AnalogDays$Likeness" "nearCounts" "[I", Cond.methodLink RX2 94 yX2_enter, Cond.instanceMethod yX2_enter, Cond.selects RX2 yX2_enter yX2_enter, Cond.code yX2_enter cX2_enter 7 (some .int), Cond.fieldLink RX2 25 "AnalogDays$Likeness" "nearDays" "[I", Cond.methodLink RX2 98 yX2_between, Cond.instanceMethod yX2_between, Cond.selects RX2 yX2_between yX2_between, Cond.code yX2_between cX2_between 3 (some .float), Cond.methodLink RX2 73 yX2_has, Cond.instanceMethod yX2_has, Cond.selects RX2 yX2_has yX2_has, Cond.code yX2_has cX2_has 2 (some .boolean), Cond.methodLink RX5 52 yX0_days, Cond.methodLink RX5 114 yX0_few, Cond.instanceMethod yX0_few, Cond.selects RX0 yX0_few yX0_few, Cond.code yX0_few cX0_few 1 (some .int), Cond.methodLink RX5 126 yX2_isNear]
def wsX5_serves_r5 : List Cond := [Cond.instanceMethod yX2_isNear, Cond.selects RX2 yX2_isNear yX2_isNear, Cond.code yX2_isNear cX2_isNear 5 (some .boolean), Cond.methodLink RX2 78 yX2_nearOnes, Cond.instanceMethod yX2_nearOnes, Cond.selects RX2 yX2_nearOnes yX2_nearOnes, Cond.code yX2_nearOnes cX2_nearOnes 3 (some .int), Cond.methodLink RX2 81 yX2_near, Cond.instanceMethod yX2_near, Cond.selects RX2 yX2_near yX2_near, Cond.code yX2_near cX2_near 3 (some .int)]
def wsX5_serves : List Cond := .code yX5_serves cX5_serves 4 (some .int) :: ((wsX5_serves_r1 ++ (wsX5_serves_r2 ++ (wsX5_serves_r3 ++ (wsX5_serves_r4 ++ wsX5_serves_r5)))) ++ wsX50 ++ wsX00 ++ wsX20)
def wsX5_isLess : List Cond := .code yX5_isLess cX5_isLess 2 (some .boolean) :: ([])
def wsX5_twins_r1 : List Cond := [Cond.fieldLink RX5 26 "AnalogDays" "likeness" "LAnalogDays$Likeness;", Cond.fieldLink RX5 10 "AnalogDays" "book" "LAnalogDays$Book;", Cond.constantFloat RX5 129 (3212836864), Cond.methodLink RX5 81 yX5_isWithin, Cond.static yX5_isWithin, Cond.initialized RX5, Cond.code yX5_isWithin cX5_isWithin 3 (some .boolean), Cond.methodLink RX5 48 yX5_refuseBad, Cond.instanceMethod yX5_refuseBad, Cond.selects RX5 yX5_refuseBad yX5_refuseBad, Cond.code yX5_refuseBad cX5_refuseBad 2 (some .int), Cond.fieldLink RX5 200 "AnalogDays" "timesBad" "I", Cond.methodLink RX5 102 yX2_learn, Cond.instanceMethod yX2_learn, Cond.selects RX2 yX2_learn yX2_learn, Cond.initialized RX2, Cond.code yX2_learn cX2_learn 6 none, Cond.fieldLink RX2 35 "AnalogDays$Likeness" "learnt" "I", Cond.methodLink RX2 45 Lib.Math.min.name, Cond.static Lib.Math.min.name, Cond.initialized "java/lang/Math", Cond.code Lib.Math.min.name Lib.Math.min.code 2 (some .int), Cond.fieldLink RX2 51 "AnalogDays$Likeness" "days" "I", Cond.fieldLink RX2 19 "AnalogDays$Likeness" "weights" "[F"]
def wsX5_twins_r2 : List Cond := [Cond.constantFloat RX2 61 (1090519040), Cond.fieldLink RX2 22 "AnalogDays$Likeness" "distances" "[F", Cond.methodLink RX2 39 yX0_days, Cond.instanceMethod yX0_days, Cond.selects RX0 yX0_days yX0_days, Cond.initialized RX0, Cond.code yX0_days cX0_days 1 (some .int), Cond.fieldLink RX0 28 "AnalogDays$Book" "days" "I", Cond.methodLink RX2 53 yX2_takeNotes, Cond.instanceMethod yX2_takeNotes, Cond.selects RX2 yX2_takeNotes yX2_takeNotes, Cond.code yX2_takeNotes cX2_takeNotes 5 none, Cond.fieldLink RX2 15 "AnalogDays$Likeness" "noted" "[Z", Cond.fieldLink RX2 9 "AnalogDays$Likeness" "values" "[F", Cond.methodLink RX2 84 yX0_member, Cond.instanceMethod yX0_member, Cond.selects RX0 yX0_member yX0_member, Cond.code yX0_member cX0_member 3 (some .int), Cond.fieldLink RX0 9 "AnalogDays$Book" "notes" "[I", Cond.methodLink RX0 34 yX0_has, Cond.instanceMethod yX0_has, Cond.selects RX0 yX0_has yX0_has, Cond.code yX0_has cX0_has 2 (some .boolean), Cond.static yX5_isMember]
def wsX5_twins_r3 : List Cond := [Cond.code yX5_isMember cX5_isMember 1 (some .boolean), Cond.static yX5_valueOf, Cond.code yX5_valueOf cX5_valueOf 1 (some .float), Cond.constantFloat RX5 234 (1092616192), Cond.methodLink RX2 57 yX0_rule, Cond.instanceMethod yX0_rule, Cond.selects RX0 yX0_rule yX0_rule, Cond.code yX0_rule cX0_rule 2 (some .int), Cond.fieldLink RX0 31 "AnalogDays$Book" "gap" "I", Cond.fieldLink RX0 24 "AnalogDays$Book" "few" "I", Cond.fieldLink RX0 15 "AnalogDays$Book" "weights" "[I", Cond.methodLink RX2 62 yX2_measure, Cond.instanceMethod yX2_measure, Cond.selects RX2 yX2_measure yX2_measure, Cond.code yX2_measure cX2_measure 9 (some .float), Cond.constantFloat RX2 77 (3212836864), Cond.methodLink RX2 66 yX0_gap, Cond.instanceMethod yX0_gap, Cond.selects RX0 yX0_gap yX0_gap, Cond.code yX0_gap cX0_gap 1 (some .int), Cond.methodLink RX2 69 yX2_rank, Cond.instanceMethod yX2_rank, Cond.selects RX2 yX2_rank yX2_rank, Cond.code yX2_rank cX2_rank 8 none]
def wsX5_twins_r4 : List Cond := [Cond.methodLink RX2 91 Lib.Math.abs.name, Cond.static Lib.Math.abs.name, Cond.code Lib.Math.abs.name Lib.Math.abs.code 1 (some .int), Cond.fieldLink RX2 32 "AnalogDays$Likeness" "likeCounts" "[I", Cond.fieldLink RX2 29 "AnalogDays$Likeness" "nearCounts" "[I", Cond.methodLink RX2 94 yX2_enter, Cond.instanceMethod yX2_enter, Cond.selects RX2 yX2_enter yX2_enter, Cond.code yX2_enter cX2_enter 7 (some .int), Cond.fieldLink RX2 25 "AnalogDays$Likeness" "nearDays" "[I", Cond.methodLink RX2 98 yX2_between, Cond.instanceMethod yX2_between, Cond.selects RX2 yX2_between yX2_between, Cond.code yX2_between cX2_between 3 (some .float), Cond.methodLink RX2 73 yX2_has, Cond.instanceMethod yX2_has, Cond.selects RX2 yX2_has yX2_has, Cond.code yX2_has cX2_has 2 (some .boolean), Cond.methodLink RX5 52 yX0_days, Cond.methodLink RX5 106 yX2_between, Cond.methodLink RX5 130 yX5_isLess, Cond.static yX5_isLess, Cond.code yX5_isLess cX5_isLess 2 (some .boolean), Cond.methodLink RX5 110 yX5_bitsOrNone]
def wsX5_twins_r5 : List Cond := [Cond.static yX5_bitsOrNone, Cond.code yX5_bitsOrNone cX5_bitsOrNone 1 (some .int), Cond.methodLink RX5 153 yX5_floatBits, Cond.static yX5_floatBits, Cond.code yX5_floatBits cX5_floatBits 4 (some .int), Cond.constantFloat RX5 235 (1258291200), Cond.constant RX5 238 (-2147483648)]
def wsX5_twins : List Cond := .code yX5_twins cX5_twins 8 (some .int) :: ((wsX5_twins_r1 ++ (wsX5_twins_r2 ++ (wsX5_twins_r3 ++ (wsX5_twins_r4 ++ wsX5_twins_r5)))) ++ wsX50 ++ wsX20 ++ wsX00)
def wsX5_strangers_r1 : List Cond := [Cond.fieldLink RX5 10 "AnalogDays" "book" "LAnalogDays$Book;", Cond.fieldLink RX5 26 "AnalogDays" "likeness" "LAnalogDays$Likeness;", Cond.methodLink RX5 66 yX0_has, Cond.instanceMethod yX0_has, Cond.selects RX0 yX0_has yX0_has, Cond.initialized RX0, Cond.code yX0_has cX0_has 2 (some .boolean), Cond.fieldLink RX0 28 "AnalogDays$Book" "days" "I", Cond.methodLink RX5 48 yX5_refuseBad, Cond.instanceMethod yX5_refuseBad, Cond.selects RX5 yX5_refuseBad yX5_refuseBad, Cond.initialized RX5, Cond.code yX5_refuseBad cX5_refuseBad 2 (some .int), Cond.fieldLink RX5 200 "AnalogDays" "timesBad" "I", Cond.methodLink RX5 102 yX2_learn, Cond.instanceMethod yX2_learn, Cond.selects RX2 yX2_learn yX2_learn, Cond.initialized RX2, Cond.code yX2_learn cX2_learn 6 none, Cond.fieldLink RX2 35 "AnalogDays$Likeness" "learnt" "I", Cond.methodLink RX2 45 Lib.Math.min.name, Cond.static Lib.Math.min.name, Cond.initialized "java/lang/Math", Cond.code Lib.Math.min.name Lib.Math.min.code 2 (some .int)]
def wsX5_strangers_r2 : List Cond := [Cond.fieldLink RX2 51 "AnalogDays$Likeness" "days" "I", Cond.fieldLink RX2 19 "AnalogDays$Likeness" "weights" "[F", Cond.constantFloat RX2 61 (1090519040), Cond.fieldLink RX2 22 "AnalogDays$Likeness" "distances" "[F", Cond.methodLink RX2 39 yX0_days, Cond.instanceMethod yX0_days, Cond.selects RX0 yX0_days yX0_days, Cond.code yX0_days cX0_days 1 (some .int), Cond.methodLink RX2 53 yX2_takeNotes, Cond.instanceMethod yX2_takeNotes, Cond.selects RX2 yX2_takeNotes yX2_takeNotes, Cond.code yX2_takeNotes cX2_takeNotes 5 none, Cond.fieldLink RX2 15 "AnalogDays$Likeness" "noted" "[Z", Cond.fieldLink RX2 9 "AnalogDays$Likeness" "values" "[F", Cond.methodLink RX2 84 yX0_member, Cond.instanceMethod yX0_member, Cond.selects RX0 yX0_member yX0_member, Cond.code yX0_member cX0_member 3 (some .int), Cond.fieldLink RX0 9 "AnalogDays$Book" "notes" "[I", Cond.methodLink RX0 34 yX0_has, Cond.static yX5_isMember, Cond.code yX5_isMember cX5_isMember 1 (some .boolean), Cond.methodLink RX5 81 yX5_isWithin, Cond.static yX5_isWithin]
def wsX5_strangers_r3 : List Cond := [Cond.code yX5_isWithin cX5_isWithin 3 (some .boolean), Cond.static yX5_valueOf, Cond.code yX5_valueOf cX5_valueOf 1 (some .float), Cond.constantFloat RX5 234 (1092616192), Cond.methodLink RX2 57 yX0_rule, Cond.instanceMethod yX0_rule, Cond.selects RX0 yX0_rule yX0_rule, Cond.code yX0_rule cX0_rule 2 (some .int), Cond.fieldLink RX0 31 "AnalogDays$Book" "gap" "I", Cond.fieldLink RX0 24 "AnalogDays$Book" "few" "I", Cond.fieldLink RX0 15 "AnalogDays$Book" "weights" "[I", Cond.methodLink RX2 62 yX2_measure, Cond.instanceMethod yX2_measure, Cond.selects RX2 yX2_measure yX2_measure, Cond.code yX2_measure cX2_measure 9 (some .float), Cond.constantFloat RX2 77 (3212836864), Cond.methodLink RX2 66 yX0_gap, Cond.instanceMethod yX0_gap, Cond.selects RX0 yX0_gap yX0_gap, Cond.code yX0_gap cX0_gap 1 (some .int), Cond.methodLink RX2 69 yX2_rank, Cond.instanceMethod yX2_rank, Cond.selects RX2 yX2_rank yX2_rank, Cond.code yX2_rank cX2_rank 8 none]
def wsX5_strangers_r4 : List Cond := [Cond.methodLink RX2 91 Lib.Math.abs.name, Cond.static Lib.Math.abs.name, Cond.code Lib.Math.abs.name Lib.Math.abs.code 1 (some .int), Cond.fieldLink RX2 32 "AnalogDays$Likeness" "likeCounts" "[I", Cond.fieldLink RX2 29 "AnalogDays$Likeness" "nearCounts" "[I", Cond.methodLink RX2 94 yX2_enter, Cond.instanceMethod yX2_enter, Cond.selects RX2 yX2_enter yX2_enter, Cond.code yX2_enter cX2_enter 7 (some .int), Cond.fieldLink RX2 25 "AnalogDays$Likeness" "nearDays" "[I", Cond.methodLink RX2 98 yX2_between, Cond.instanceMethod yX2_between, Cond.selects RX2 yX2_between yX2_between, Cond.code yX2_between cX2_between 3 (some .float), Cond.methodLink RX2 73 yX2_has, Cond.instanceMethod yX2_has, Cond.selects RX2 yX2_has yX2_has, Cond.code yX2_has cX2_has 2 (some .boolean), Cond.methodLink RX5 52 yX0_days, Cond.methodLink RX5 106 yX2_between]
def wsX5_strangers : List Cond := .code yX5_strangers cX5_strangers 4 (some .int) :: ((wsX5_strangers_r1 ++ (wsX5_strangers_r2 ++ (wsX5_strangers_r3 ++ wsX5_strangers_r4))) ++ wsX50 ++ wsX00 ++ wsX20)
def wsX5_gatherFollowers_r1 : List Cond := [Cond.fieldLink RX5 26 "AnalogDays" "likeness" "LAnalogDays$Likeness;", Cond.fieldLink RX5 10 "AnalogDays" "book" "LAnalogDays$Book;", Cond.fieldLink RX5 33 "AnalogDays" "followers" "LAnalogDays$Followers;", Cond.methodLink RX5 102 yX2_learn, Cond.instanceMethod yX2_learn, Cond.selects RX2 yX2_learn yX2_learn, Cond.initialized RX2, Cond.code yX2_learn cX2_learn 6 none, Cond.fieldLink RX2 35 "AnalogDays$Likeness" "learnt" "I", Cond.methodLink RX2 45 Lib.Math.min.name, Cond.static Lib.Math.min.name, Cond.initialized "java/lang/Math", Cond.code Lib.Math.min.name Lib.Math.min.code 2 (some .int), Cond.fieldLink RX2 51 "AnalogDays$Likeness" "days" "I", Cond.fieldLink RX2 19 "AnalogDays$Likeness" "weights" "[F", Cond.constantFloat RX2 61 (1090519040), Cond.fieldLink RX2 22 "AnalogDays$Likeness" "distances" "[F", Cond.methodLink RX2 39 yX0_days, Cond.instanceMethod yX0_days, Cond.selects RX0 yX0_days yX0_days, Cond.initialized RX0, Cond.code yX0_days cX0_days 1 (some .int), Cond.fieldLink RX0 28 "AnalogDays$Book" "days" "I", Cond.methodLink RX2 53 yX2_takeNotes]
def wsX5_gatherFollowers_r2 : List Cond := [Cond.instanceMethod yX2_takeNotes, Cond.selects RX2 yX2_takeNotes yX2_takeNotes, Cond.code yX2_takeNotes cX2_takeNotes 5 none, Cond.fieldLink RX2 15 "AnalogDays$Likeness" "noted" "[Z", Cond.fieldLink RX2 9 "AnalogDays$Likeness" "values" "[F", Cond.methodLink RX2 84 yX0_member, Cond.instanceMethod yX0_member, Cond.selects RX0 yX0_member yX0_member, Cond.code yX0_member cX0_member 3 (some .int), Cond.fieldLink RX0 9 "AnalogDays$Book" "notes" "[I", Cond.methodLink RX0 34 yX0_has, Cond.instanceMethod yX0_has, Cond.selects RX0 yX0_has yX0_has, Cond.code yX0_has cX0_has 2 (some .boolean), Cond.static yX5_isMember, Cond.initialized RX5, Cond.code yX5_isMember cX5_isMember 1 (some .boolean), Cond.methodLink RX5 81 yX5_isWithin, Cond.static yX5_isWithin, Cond.code yX5_isWithin cX5_isWithin 3 (some .boolean), Cond.static yX5_valueOf, Cond.code yX5_valueOf cX5_valueOf 1 (some .float), Cond.constantFloat RX5 234 (1092616192), Cond.methodLink RX2 57 yX0_rule]
def wsX5_gatherFollowers_r3 : List Cond := [Cond.instanceMethod yX0_rule, Cond.selects RX0 yX0_rule yX0_rule, Cond.code yX0_rule cX0_rule 2 (some .int), Cond.fieldLink RX0 31 "AnalogDays$Book" "gap" "I", Cond.fieldLink RX0 24 "AnalogDays$Book" "few" "I", Cond.fieldLink RX0 15 "AnalogDays$Book" "weights" "[I", Cond.methodLink RX2 62 yX2_measure, Cond.instanceMethod yX2_measure, Cond.selects RX2 yX2_measure yX2_measure, Cond.code yX2_measure cX2_measure 9 (some .float), Cond.constantFloat RX2 77 (3212836864), Cond.methodLink RX2 66 yX0_gap, Cond.instanceMethod yX0_gap, Cond.selects RX0 yX0_gap yX0_gap, Cond.code yX0_gap cX0_gap 1 (some .int), Cond.methodLink RX2 69 yX2_rank, Cond.instanceMethod yX2_rank, Cond.selects RX2 yX2_rank yX2_rank, Cond.code yX2_rank cX2_rank 8 none, Cond.methodLink RX2 91 Lib.Math.abs.name, Cond.static Lib.Math.abs.name, Cond.code Lib.Math.abs.name Lib.Math.abs.code 1 (some .int), Cond.fieldLink RX2 32 "AnalogDays$Likeness" "likeCounts" "[I", Cond.fieldLink RX2 29 "AnalogDays$Likeness" "nearCounts" "[I"]
def wsX5_gatherFollowers_r4 : List Cond := [Cond.methodLink RX2 94 yX2_enter, Cond.instanceMethod yX2_enter, Cond.selects RX2 yX2_enter yX2_enter, Cond.code yX2_enter cX2_enter 7 (some .int), Cond.fieldLink RX2 25 "AnalogDays$Likeness" "nearDays" "[I", Cond.methodLink RX2 98 yX2_between, Cond.instanceMethod yX2_between, Cond.selects RX2 yX2_between yX2_between, Cond.code yX2_between cX2_between 3 (some .float), Cond.methodLink RX2 73 yX2_has, Cond.instanceMethod yX2_has, Cond.selects RX2 yX2_has yX2_has, Cond.code yX2_has cX2_has 2 (some .boolean), Cond.methodLink RX5 114 yX0_few, Cond.instanceMethod yX0_few, Cond.selects RX0 yX0_few yX0_few, Cond.code yX0_few cX0_few 1 (some .int), Cond.methodLink RX5 226 yX1_gather, Cond.instanceMethod yX1_gather, Cond.selects RX1 yX1_gather yX1_gather, Cond.initialized RX1, Cond.code yX1_gather cX1_gather 9 none, Cond.fieldLink RX1 22 "AnalogDays$Followers" "size" "I", Cond.methodLink RX1 26 yX2_nearOnes]
def wsX5_gatherFollowers_r5 : List Cond := [Cond.instanceMethod yX2_nearOnes, Cond.selects RX2 yX2_nearOnes yX2_nearOnes, Cond.code yX2_nearOnes cX2_nearOnes 3 (some .int), Cond.methodLink RX1 32 yX2_near, Cond.instanceMethod yX2_near, Cond.selects RX2 yX2_near yX2_near, Cond.code yX2_near cX2_near 3 (some .int), Cond.methodLink RX1 35 yX0_member, Cond.methodLink RX1 40 yX2_between, Cond.methodLink RX1 44 yX1_add, Cond.instanceMethod yX1_add, Cond.selects RX1 yX1_add yX1_add, Cond.code yX1_add cX1_add 4 none, Cond.fieldLink RX1 9 "AnalogDays$Followers" "tenths" "[I", Cond.fieldLink RX1 15 "AnalogDays$Followers" "distances" "[F", Cond.fieldLink RX1 19 "AnalogDays$Followers" "sorted" "[I"]
def wsX5_gatherFollowers : List Cond := .code yX5_gatherFollowers cX5_gatherFollowers 3 none :: ((wsX5_gatherFollowers_r1 ++ (wsX5_gatherFollowers_r2 ++ (wsX5_gatherFollowers_r3 ++ (wsX5_gatherFollowers_r4 ++ wsX5_gatherFollowers_r5)))) ++ wsX50 ++ wsX20 ++ wsX00 ++ wsX10)
def wsX5_follows_r1 : List Cond := [Cond.fieldLink RX5 10 "AnalogDays" "book" "LAnalogDays$Book;", Cond.fieldLink RX5 33 "AnalogDays" "followers" "LAnalogDays$Followers;", Cond.methodLink RX5 66 yX0_has, Cond.instanceMethod yX0_has, Cond.selects RX0 yX0_has yX0_has, Cond.initialized RX0, Cond.code yX0_has cX0_has 2 (some .boolean), Cond.fieldLink RX0 28 "AnalogDays$Book" "days" "I", Cond.methodLink RX5 69 yX5_isMember, Cond.static yX5_isMember, Cond.initialized RX5, Cond.code yX5_isMember cX5_isMember 1 (some .boolean), Cond.methodLink RX5 81 yX5_isWithin, Cond.static yX5_isWithin, Cond.code yX5_isWithin cX5_isWithin 3 (some .boolean), Cond.methodLink RX5 48 yX5_refuseBad, Cond.instanceMethod yX5_refuseBad, Cond.selects RX5 yX5_refuseBad yX5_refuseBad, Cond.code yX5_refuseBad cX5_refuseBad 2 (some .int), Cond.fieldLink RX5 200 "AnalogDays" "timesBad" "I", Cond.methodLink RX5 134 yX5_gatherFollowers, Cond.instanceMethod yX5_gatherFollowers, Cond.selects RX5 yX5_gatherFollowers yX5_gatherFollowers, Cond.code yX5_gatherFollowers cX5_gatherFollowers 3 none]
def wsX5_follows_r2 : List Cond := [Cond.fieldLink RX5 26 "AnalogDays" "likeness" "LAnalogDays$Likeness;", Cond.methodLink RX5 102 yX2_learn, Cond.instanceMethod yX2_learn, Cond.selects RX2 yX2_learn yX2_learn, Cond.initialized RX2, Cond.code yX2_learn cX2_learn 6 none, Cond.fieldLink RX2 35 "AnalogDays$Likeness" "learnt" "I", Cond.methodLink RX2 45 Lib.Math.min.name, Cond.static Lib.Math.min.name, Cond.initialized "java/lang/Math", Cond.code Lib.Math.min.name Lib.Math.min.code 2 (some .int), Cond.fieldLink RX2 51 "AnalogDays$Likeness" "days" "I", Cond.fieldLink RX2 19 "AnalogDays$Likeness" "weights" "[F", Cond.constantFloat RX2 61 (1090519040), Cond.fieldLink RX2 22 "AnalogDays$Likeness" "distances" "[F", Cond.methodLink RX2 39 yX0_days, Cond.instanceMethod yX0_days, Cond.selects RX0 yX0_days yX0_days, Cond.code yX0_days cX0_days 1 (some .int), Cond.methodLink RX2 53 yX2_takeNotes, Cond.instanceMethod yX2_takeNotes, Cond.selects RX2 yX2_takeNotes yX2_takeNotes, Cond.code yX2_takeNotes cX2_takeNotes 5 none, Cond.fieldLink RX2 15 "AnalogDays$Likeness" "noted" "[Z"]
def wsX5_follows_r3 : List Cond := [Cond.fieldLink RX2 9 "AnalogDays$Likeness" "values" "[F", Cond.methodLink RX2 84 yX0_member, Cond.instanceMethod yX0_member, Cond.selects RX0 yX0_member yX0_member, Cond.code yX0_member cX0_member 3 (some .int), Cond.fieldLink RX0 9 "AnalogDays$Book" "notes" "[I", Cond.methodLink RX0 34 yX0_has, Cond.static yX5_valueOf, Cond.code yX5_valueOf cX5_valueOf 1 (some .float), Cond.constantFloat RX5 234 (1092616192), Cond.methodLink RX2 57 yX0_rule, Cond.instanceMethod yX0_rule, Cond.selects RX0 yX0_rule yX0_rule, Cond.code yX0_rule cX0_rule 2 (some .int), Cond.fieldLink RX0 31 "AnalogDays$Book" "gap" "I", Cond.fieldLink RX0 24 "AnalogDays$Book" "few" "I", Cond.fieldLink RX0 15 "AnalogDays$Book" "weights" "[I", Cond.methodLink RX2 62 yX2_measure, Cond.instanceMethod yX2_measure, Cond.selects RX2 yX2_measure yX2_measure, Cond.code yX2_measure cX2_measure 9 (some .float), Cond.constantFloat RX2 77 (3212836864), Cond.methodLink RX2 66 yX0_gap, Cond.instanceMethod yX0_gap]
def wsX5_follows_r4 : List Cond := [Cond.selects RX0 yX0_gap yX0_gap, Cond.code yX0_gap cX0_gap 1 (some .int), Cond.methodLink RX2 69 yX2_rank, Cond.instanceMethod yX2_rank, Cond.selects RX2 yX2_rank yX2_rank, Cond.code yX2_rank cX2_rank 8 none, Cond.methodLink RX2 91 Lib.Math.abs.name, Cond.static Lib.Math.abs.name, Cond.code Lib.Math.abs.name Lib.Math.abs.code 1 (some .int), Cond.fieldLink RX2 32 "AnalogDays$Likeness" "likeCounts" "[I", Cond.fieldLink RX2 29 "AnalogDays$Likeness" "nearCounts" "[I", Cond.methodLink RX2 94 yX2_enter, Cond.instanceMethod yX2_enter, Cond.selects RX2 yX2_enter yX2_enter, Cond.code yX2_enter cX2_enter 7 (some .int), Cond.fieldLink RX2 25 "AnalogDays$Likeness" "nearDays" "[I", Cond.methodLink RX2 98 yX2_between, Cond.instanceMethod yX2_between, Cond.selects RX2 yX2_between yX2_between, Cond.code yX2_between cX2_between 3 (some .float), Cond.methodLink RX2 73 yX2_has, Cond.instanceMethod yX2_has, Cond.selects RX2 yX2_has yX2_has, Cond.code yX2_has cX2_has 2 (some .boolean)]
def wsX5_follows_r5 : List Cond := [Cond.methodLink RX5 114 yX0_few, Cond.instanceMethod yX0_few, Cond.selects RX0 yX0_few yX0_few, Cond.code yX0_few cX0_few 1 (some .int), Cond.methodLink RX5 226 yX1_gather, Cond.instanceMethod yX1_gather, Cond.selects RX1 yX1_gather yX1_gather, Cond.initialized RX1, Cond.code yX1_gather cX1_gather 9 none, Cond.fieldLink RX1 22 "AnalogDays$Followers" "size" "I", Cond.methodLink RX1 26 yX2_nearOnes, Cond.instanceMethod yX2_nearOnes, Cond.selects RX2 yX2_nearOnes yX2_nearOnes, Cond.code yX2_nearOnes cX2_nearOnes 3 (some .int), Cond.methodLink RX1 32 yX2_near, Cond.instanceMethod yX2_near, Cond.selects RX2 yX2_near yX2_near, Cond.code yX2_near cX2_near 3 (some .int), Cond.methodLink RX1 35 yX0_member, Cond.methodLink RX1 40 yX2_between, Cond.methodLink RX1 44 yX1_add, Cond.instanceMethod yX1_add, Cond.selects RX1 yX1_add yX1_add, Cond.code yX1_add cX1_add 4 none]
def wsX5_follows_r6 : List Cond := [Cond.fieldLink RX1 9 "AnalogDays$Followers" "tenths" "[I", Cond.fieldLink RX1 15 "AnalogDays$Followers" "distances" "[F", Cond.fieldLink RX1 19 "AnalogDays$Followers" "sorted" "[I", Cond.methodLink RX5 137 yX1_size, Cond.instanceMethod yX1_size, Cond.selects RX1 yX1_size yX1_size, Cond.code yX1_size cX1_size 1 (some .int), Cond.methodLink RX5 140 yX1_least, Cond.instanceMethod yX1_least, Cond.selects RX1 yX1_least yX1_least, Cond.code yX1_least cX1_least 2 (some .int), Cond.methodLink RX1 53 yX1_spanSize, Cond.instanceMethod yX1_spanSize, Cond.selects RX1 yX1_spanSize yX1_spanSize, Cond.code yX1_spanSize cX1_spanSize 2 (some .int), Cond.methodLink RX1 48 Lib.Math.max.name, Cond.static Lib.Math.max.name, Cond.code Lib.Math.max.name Lib.Math.max.code 2 (some .int), Cond.methodLink RX5 143 yX1_greatest, Cond.instanceMethod yX1_greatest, Cond.selects RX1 yX1_greatest yX1_greatest, Cond.code yX1_greatest cX1_greatest 2 (some .int), Cond.methodLink RX5 146 yX1_spanSize]
def wsX5_follows : List Cond := .code yX5_follows cX5_follows 5 (some .int) :: ((wsX5_follows_r1 ++ (wsX5_follows_r2 ++ (wsX5_follows_r3 ++ (wsX5_follows_r4 ++ (wsX5_follows_r5 ++ wsX5_follows_r6))))) ++ wsX50 ++ wsX00 ++ wsX20 ++ wsX10)
def wsX5_mean_r1 : List Cond := [Cond.fieldLink RX5 10 "AnalogDays" "book" "LAnalogDays$Book;", Cond.fieldLink RX5 33 "AnalogDays" "followers" "LAnalogDays$Followers;", Cond.methodLink RX5 66 yX0_has, Cond.instanceMethod yX0_has, Cond.selects RX0 yX0_has yX0_has, Cond.initialized RX0, Cond.code yX0_has cX0_has 2 (some .boolean), Cond.fieldLink RX0 28 "AnalogDays$Book" "days" "I", Cond.methodLink RX5 69 yX5_isMember, Cond.static yX5_isMember, Cond.initialized RX5, Cond.code yX5_isMember cX5_isMember 1 (some .boolean), Cond.methodLink RX5 81 yX5_isWithin, Cond.static yX5_isWithin, Cond.code yX5_isWithin cX5_isWithin 3 (some .boolean), Cond.methodLink RX5 48 yX5_refuseBad, Cond.instanceMethod yX5_refuseBad, Cond.selects RX5 yX5_refuseBad yX5_refuseBad, Cond.code yX5_refuseBad cX5_refuseBad 2 (some .int), Cond.fieldLink RX5 200 "AnalogDays" "timesBad" "I", Cond.methodLink RX5 134 yX5_gatherFollowers, Cond.instanceMethod yX5_gatherFollowers, Cond.selects RX5 yX5_gatherFollowers yX5_gatherFollowers, Cond.code yX5_gatherFollowers cX5_gatherFollowers 3 none]
def wsX5_mean_r2 : List Cond := [Cond.fieldLink RX5 26 "AnalogDays" "likeness" "LAnalogDays$Likeness;", Cond.methodLink RX5 102 yX2_learn, Cond.instanceMethod yX2_learn, Cond.selects RX2 yX2_learn yX2_learn, Cond.initialized RX2, Cond.code yX2_learn cX2_learn 6 none, Cond.fieldLink RX2 35 "AnalogDays$Likeness" "learnt" "I", Cond.methodLink RX2 45 Lib.Math.min.name, Cond.static Lib.Math.min.name, Cond.initialized "java/lang/Math", Cond.code Lib.Math.min.name Lib.Math.min.code 2 (some .int), Cond.fieldLink RX2 51 "AnalogDays$Likeness" "days" "I", Cond.fieldLink RX2 19 "AnalogDays$Likeness" "weights" "[F", Cond.constantFloat RX2 61 (1090519040), Cond.fieldLink RX2 22 "AnalogDays$Likeness" "distances" "[F", Cond.methodLink RX2 39 yX0_days, Cond.instanceMethod yX0_days, Cond.selects RX0 yX0_days yX0_days, Cond.code yX0_days cX0_days 1 (some .int), Cond.methodLink RX2 53 yX2_takeNotes, Cond.instanceMethod yX2_takeNotes, Cond.selects RX2 yX2_takeNotes yX2_takeNotes, Cond.code yX2_takeNotes cX2_takeNotes 5 none, Cond.fieldLink RX2 15 "AnalogDays$Likeness" "noted" "[Z"]
def wsX5_mean_r3 : List Cond := [Cond.fieldLink RX2 9 "AnalogDays$Likeness" "values" "[F", Cond.methodLink RX2 84 yX0_member, Cond.instanceMethod yX0_member, Cond.selects RX0 yX0_member yX0_member, Cond.code yX0_member cX0_member 3 (some .int), Cond.fieldLink RX0 9 "AnalogDays$Book" "notes" "[I", Cond.methodLink RX0 34 yX0_has, Cond.static yX5_valueOf, Cond.code yX5_valueOf cX5_valueOf 1 (some .float), Cond.constantFloat RX5 234 (1092616192), Cond.methodLink RX2 57 yX0_rule, Cond.instanceMethod yX0_rule, Cond.selects RX0 yX0_rule yX0_rule, Cond.code yX0_rule cX0_rule 2 (some .int), Cond.fieldLink RX0 31 "AnalogDays$Book" "gap" "I", Cond.fieldLink RX0 24 "AnalogDays$Book" "few" "I", Cond.fieldLink RX0 15 "AnalogDays$Book" "weights" "[I", Cond.methodLink RX2 62 yX2_measure, Cond.instanceMethod yX2_measure, Cond.selects RX2 yX2_measure yX2_measure, Cond.code yX2_measure cX2_measure 9 (some .float), Cond.constantFloat RX2 77 (3212836864), Cond.methodLink RX2 66 yX0_gap, Cond.instanceMethod yX0_gap]
def wsX5_mean_r4 : List Cond := [Cond.selects RX0 yX0_gap yX0_gap, Cond.code yX0_gap cX0_gap 1 (some .int), Cond.methodLink RX2 69 yX2_rank, Cond.instanceMethod yX2_rank, Cond.selects RX2 yX2_rank yX2_rank, Cond.code yX2_rank cX2_rank 8 none, Cond.methodLink RX2 91 Lib.Math.abs.name, Cond.static Lib.Math.abs.name, Cond.code Lib.Math.abs.name Lib.Math.abs.code 1 (some .int), Cond.fieldLink RX2 32 "AnalogDays$Likeness" "likeCounts" "[I", Cond.fieldLink RX2 29 "AnalogDays$Likeness" "nearCounts" "[I", Cond.methodLink RX2 94 yX2_enter, Cond.instanceMethod yX2_enter, Cond.selects RX2 yX2_enter yX2_enter, Cond.code yX2_enter cX2_enter 7 (some .int), Cond.fieldLink RX2 25 "AnalogDays$Likeness" "nearDays" "[I", Cond.methodLink RX2 98 yX2_between, Cond.instanceMethod yX2_between, Cond.selects RX2 yX2_between yX2_between, Cond.code yX2_between cX2_between 3 (some .float), Cond.methodLink RX2 73 yX2_has, Cond.instanceMethod yX2_has, Cond.selects RX2 yX2_has yX2_has, Cond.code yX2_has cX2_has 2 (some .boolean)]
def wsX5_mean_r5 : List Cond := [Cond.methodLink RX5 114 yX0_few, Cond.instanceMethod yX0_few, Cond.selects RX0 yX0_few yX0_few, Cond.code yX0_few cX0_few 1 (some .int), Cond.methodLink RX5 226 yX1_gather, Cond.instanceMethod yX1_gather, Cond.selects RX1 yX1_gather yX1_gather, Cond.initialized RX1, Cond.code yX1_gather cX1_gather 9 none, Cond.fieldLink RX1 22 "AnalogDays$Followers" "size" "I", Cond.methodLink RX1 26 yX2_nearOnes, Cond.instanceMethod yX2_nearOnes, Cond.selects RX2 yX2_nearOnes yX2_nearOnes, Cond.code yX2_nearOnes cX2_nearOnes 3 (some .int), Cond.methodLink RX1 32 yX2_near, Cond.instanceMethod yX2_near, Cond.selects RX2 yX2_near yX2_near, Cond.code yX2_near cX2_near 3 (some .int), Cond.methodLink RX1 35 yX0_member, Cond.methodLink RX1 40 yX2_between, Cond.methodLink RX1 44 yX1_add, Cond.instanceMethod yX1_add, Cond.selects RX1 yX1_add yX1_add, Cond.code yX1_add cX1_add 4 none]
def wsX5_mean_r6 : List Cond := [Cond.fieldLink RX1 9 "AnalogDays$Followers" "tenths" "[I", Cond.fieldLink RX1 15 "AnalogDays$Followers" "distances" "[F", Cond.fieldLink RX1 19 "AnalogDays$Followers" "sorted" "[I", Cond.methodLink RX5 137 yX1_size, Cond.instanceMethod yX1_size, Cond.selects RX1 yX1_size yX1_size, Cond.code yX1_size cX1_size 1 (some .int), Cond.methodLink RX5 149 yX1_meanValue, Cond.instanceMethod yX1_meanValue, Cond.selects RX1 yX1_meanValue yX1_meanValue, Cond.code yX1_meanValue cX1_meanValue 4 (some .float), Cond.methodLink RX5 153 yX5_floatBits, Cond.static yX5_floatBits, Cond.code yX5_floatBits cX5_floatBits 4 (some .int), Cond.constantFloat RX5 235 (1258291200), Cond.constant RX5 238 (-2147483648)]
def wsX5_mean : List Cond := .code yX5_mean cX5_mean 3 (some .int) :: ((wsX5_mean_r1 ++ (wsX5_mean_r2 ++ (wsX5_mean_r3 ++ (wsX5_mean_r4 ++ (wsX5_mean_r5 ++ wsX5_mean_r6))))) ++ wsX50 ++ wsX00 ++ wsX20 ++ wsX10)
def wsX5_doubleBits : List Cond := .code yX5_doubleBits cX5_doubleBits 7 (some .long) :: ([.constantDouble RX5 239 (4611686018427387904), .constantDouble RX5 241 (4841369599423283200), .constantLong RX5 245 (-9223372036854775808)])
def wsX5_spread_r1 : List Cond := [Cond.fieldLink RX5 10 "AnalogDays" "book" "LAnalogDays$Book;", Cond.fieldLink RX5 33 "AnalogDays" "followers" "LAnalogDays$Followers;", Cond.constantLong RX5 156 (-1), Cond.methodLink RX5 66 yX0_has, Cond.instanceMethod yX0_has, Cond.selects RX0 yX0_has yX0_has, Cond.initialized RX0, Cond.code yX0_has cX0_has 2 (some .boolean), Cond.fieldLink RX0 28 "AnalogDays$Book" "days" "I", Cond.methodLink RX5 69 yX5_isMember, Cond.static yX5_isMember, Cond.initialized RX5, Cond.code yX5_isMember cX5_isMember 1 (some .boolean), Cond.methodLink RX5 81 yX5_isWithin, Cond.static yX5_isWithin, Cond.code yX5_isWithin cX5_isWithin 3 (some .boolean), Cond.methodLink RX5 48 yX5_refuseBad, Cond.instanceMethod yX5_refuseBad, Cond.selects RX5 yX5_refuseBad yX5_refuseBad, Cond.code yX5_refuseBad cX5_refuseBad 2 (some .int), Cond.fieldLink RX5 200 "AnalogDays" "timesBad" "I", Cond.methodLink RX5 134 yX5_gatherFollowers, Cond.instanceMethod yX5_gatherFollowers, Cond.selects RX5 yX5_gatherFollowers yX5_gatherFollowers]
def wsX5_spread_r2 : List Cond := [Cond.code yX5_gatherFollowers cX5_gatherFollowers 3 none, Cond.fieldLink RX5 26 "AnalogDays" "likeness" "LAnalogDays$Likeness;", Cond.methodLink RX5 102 yX2_learn, Cond.instanceMethod yX2_learn, Cond.selects RX2 yX2_learn yX2_learn, Cond.initialized RX2, Cond.code yX2_learn cX2_learn 6 none, Cond.fieldLink RX2 35 "AnalogDays$Likeness" "learnt" "I", Cond.methodLink RX2 45 Lib.Math.min.name, Cond.static Lib.Math.min.name, Cond.initialized "java/lang/Math", Cond.code Lib.Math.min.name Lib.Math.min.code 2 (some .int), Cond.fieldLink RX2 51 "AnalogDays$Likeness" "days" "I", Cond.fieldLink RX2 19 "AnalogDays$Likeness" "weights" "[F", Cond.constantFloat RX2 61 (1090519040), Cond.fieldLink RX2 22 "AnalogDays$Likeness" "distances" "[F", Cond.methodLink RX2 39 yX0_days, Cond.instanceMethod yX0_days, Cond.selects RX0 yX0_days yX0_days, Cond.code yX0_days cX0_days 1 (some .int), Cond.methodLink RX2 53 yX2_takeNotes, Cond.instanceMethod yX2_takeNotes, Cond.selects RX2 yX2_takeNotes yX2_takeNotes, Cond.code yX2_takeNotes cX2_takeNotes 5 none]
def wsX5_spread_r3 : List Cond := [Cond.fieldLink RX2 15 "AnalogDays$Likeness" "noted" "[Z", Cond.fieldLink RX2 9 "AnalogDays$Likeness" "values" "[F", Cond.methodLink RX2 84 yX0_member, Cond.instanceMethod yX0_member, Cond.selects RX0 yX0_member yX0_member, Cond.code yX0_member cX0_member 3 (some .int), Cond.fieldLink RX0 9 "AnalogDays$Book" "notes" "[I", Cond.methodLink RX0 34 yX0_has, Cond.static yX5_valueOf, Cond.code yX5_valueOf cX5_valueOf 1 (some .float), Cond.constantFloat RX5 234 (1092616192), Cond.methodLink RX2 57 yX0_rule, Cond.instanceMethod yX0_rule, Cond.selects RX0 yX0_rule yX0_rule, Cond.code yX0_rule cX0_rule 2 (some .int), Cond.fieldLink RX0 31 "AnalogDays$Book" "gap" "I", Cond.fieldLink RX0 24 "AnalogDays$Book" "few" "I", Cond.fieldLink RX0 15 "AnalogDays$Book" "weights" "[I", Cond.methodLink RX2 62 yX2_measure, Cond.instanceMethod yX2_measure, Cond.selects RX2 yX2_measure yX2_measure, Cond.code yX2_measure cX2_measure 9 (some .float), Cond.constantFloat RX2 77 (3212836864), Cond.methodLink RX2 66 yX0_gap]
def wsX5_spread_r4 : List Cond := [Cond.instanceMethod yX0_gap, Cond.selects RX0 yX0_gap yX0_gap, Cond.code yX0_gap cX0_gap 1 (some .int), Cond.methodLink RX2 69 yX2_rank, Cond.instanceMethod yX2_rank, Cond.selects RX2 yX2_rank yX2_rank, Cond.code yX2_rank cX2_rank 8 none, Cond.methodLink RX2 91 Lib.Math.abs.name, Cond.static Lib.Math.abs.name, Cond.code Lib.Math.abs.name Lib.Math.abs.code 1 (some .int), Cond.fieldLink RX2 32 "AnalogDays$Likeness" "likeCounts" "[I", Cond.fieldLink RX2 29 "AnalogDays$Likeness" "nearCounts" "[I", Cond.methodLink RX2 94 yX2_enter, Cond.instanceMethod yX2_enter, Cond.selects RX2 yX2_enter yX2_enter, Cond.code yX2_enter cX2_enter 7 (some .int), Cond.fieldLink RX2 25 "AnalogDays$Likeness" "nearDays" "[I", Cond.methodLink RX2 98 yX2_between, Cond.instanceMethod yX2_between, Cond.selects RX2 yX2_between yX2_between, Cond.code yX2_between cX2_between 3 (some .float), Cond.methodLink RX2 73 yX2_has, Cond.instanceMethod yX2_has, Cond.selects RX2 yX2_has yX2_has]
def wsX5_spread_r5 : List Cond := [Cond.code yX2_has cX2_has 2 (some .boolean), Cond.methodLink RX5 114 yX0_few, Cond.instanceMethod yX0_few, Cond.selects RX0 yX0_few yX0_few, Cond.code yX0_few cX0_few 1 (some .int), Cond.methodLink RX5 226 yX1_gather, Cond.instanceMethod yX1_gather, Cond.selects RX1 yX1_gather yX1_gather, Cond.initialized RX1, Cond.code yX1_gather cX1_gather 9 none, Cond.fieldLink RX1 22 "AnalogDays$Followers" "size" "I", Cond.methodLink RX1 26 yX2_nearOnes, Cond.instanceMethod yX2_nearOnes, Cond.selects RX2 yX2_nearOnes yX2_nearOnes, Cond.code yX2_nearOnes cX2_nearOnes 3 (some .int), Cond.methodLink RX1 32 yX2_near, Cond.instanceMethod yX2_near, Cond.selects RX2 yX2_near yX2_near, Cond.code yX2_near cX2_near 3 (some .int), Cond.methodLink RX1 35 yX0_member, Cond.methodLink RX1 40 yX2_between, Cond.methodLink RX1 44 yX1_add, Cond.instanceMethod yX1_add, Cond.selects RX1 yX1_add yX1_add]
def wsX5_spread_r6 : List Cond := [Cond.code yX1_add cX1_add 4 none, Cond.fieldLink RX1 9 "AnalogDays$Followers" "tenths" "[I", Cond.fieldLink RX1 15 "AnalogDays$Followers" "distances" "[F", Cond.fieldLink RX1 19 "AnalogDays$Followers" "sorted" "[I", Cond.methodLink RX5 137 yX1_size, Cond.instanceMethod yX1_size, Cond.selects RX1 yX1_size yX1_size, Cond.code yX1_size cX1_size 1 (some .int), Cond.methodLink RX5 158 yX1_spreadOfValues, Cond.instanceMethod yX1_spreadOfValues, Cond.selects RX1 yX1_spreadOfValues yX1_spreadOfValues, Cond.code yX1_spreadOfValues cX1_spreadOfValues 8 (some .double), Cond.methodLink RX5 162 yX5_doubleBits, Cond.static yX5_doubleBits, Cond.code yX5_doubleBits cX5_doubleBits 7 (some .long), Cond.constantDouble RX5 239 (4611686018427387904), Cond.constantDouble RX5 241 (4841369599423283200), Cond.constantLong RX5 245 (-9223372036854775808)]
def wsX5_spread : List Cond := .code yX5_spread cX5_spread 3 (some .long) :: ((wsX5_spread_r1 ++ (wsX5_spread_r2 ++ (wsX5_spread_r3 ++ (wsX5_spread_r4 ++ (wsX5_spread_r5 ++ wsX5_spread_r6))))) ++ wsX50 ++ wsX00 ++ wsX20 ++ wsX10)
def wsX5_holds_r1 : List Cond := [Cond.fieldLink RX5 10 "AnalogDays" "book" "LAnalogDays$Book;", Cond.fieldLink RX5 33 "AnalogDays" "followers" "LAnalogDays$Followers;", Cond.methodLink RX5 69 yX5_isMember, Cond.static yX5_isMember, Cond.initialized RX5, Cond.code yX5_isMember cX5_isMember 1 (some .boolean), Cond.methodLink RX5 81 yX5_isWithin, Cond.static yX5_isWithin, Cond.code yX5_isWithin cX5_isWithin 3 (some .boolean), Cond.methodLink RX5 48 yX5_refuseBad, Cond.instanceMethod yX5_refuseBad, Cond.selects RX5 yX5_refuseBad yX5_refuseBad, Cond.code yX5_refuseBad cX5_refuseBad 2 (some .int), Cond.fieldLink RX5 200 "AnalogDays" "timesBad" "I", Cond.methodLink RX5 52 yX0_days, Cond.instanceMethod yX0_days, Cond.selects RX0 yX0_days yX0_days, Cond.initialized RX0, Cond.code yX0_days cX0_days 1 (some .int), Cond.fieldLink RX0 28 "AnalogDays$Book" "days" "I", Cond.methodLink RX5 72 yX0_member, Cond.instanceMethod yX0_member, Cond.selects RX0 yX0_member yX0_member, Cond.code yX0_member cX0_member 3 (some .int)]
def wsX5_holds_r2 : List Cond := [Cond.fieldLink RX0 9 "AnalogDays$Book" "notes" "[I", Cond.methodLink RX0 34 yX0_has, Cond.instanceMethod yX0_has, Cond.selects RX0 yX0_has yX0_has, Cond.code yX0_has cX0_has 2 (some .boolean), Cond.methodLink RX5 134 yX5_gatherFollowers, Cond.instanceMethod yX5_gatherFollowers, Cond.selects RX5 yX5_gatherFollowers yX5_gatherFollowers, Cond.code yX5_gatherFollowers cX5_gatherFollowers 3 none, Cond.fieldLink RX5 26 "AnalogDays" "likeness" "LAnalogDays$Likeness;", Cond.methodLink RX5 102 yX2_learn, Cond.instanceMethod yX2_learn, Cond.selects RX2 yX2_learn yX2_learn, Cond.initialized RX2, Cond.code yX2_learn cX2_learn 6 none, Cond.fieldLink RX2 35 "AnalogDays$Likeness" "learnt" "I", Cond.methodLink RX2 45 Lib.Math.min.name, Cond.static Lib.Math.min.name, Cond.initialized "java/lang/Math", Cond.code Lib.Math.min.name Lib.Math.min.code 2 (some .int), Cond.fieldLink RX2 51 "AnalogDays$Likeness" "days" "I", Cond.fieldLink RX2 19 "AnalogDays$Likeness" "weights" "[F", Cond.constantFloat RX2 61 (1090519040), Cond.fieldLink RX2 22 "AnalogDays$Likeness" "distances" "[F"]
def wsX5_holds_r3 : List Cond := [Cond.methodLink RX2 39 yX0_days, Cond.methodLink RX2 53 yX2_takeNotes, Cond.instanceMethod yX2_takeNotes, Cond.selects RX2 yX2_takeNotes yX2_takeNotes, Cond.code yX2_takeNotes cX2_takeNotes 5 none, Cond.fieldLink RX2 15 "AnalogDays$Likeness" "noted" "[Z", Cond.fieldLink RX2 9 "AnalogDays$Likeness" "values" "[F", Cond.methodLink RX2 84 yX0_member, Cond.static yX5_valueOf, Cond.code yX5_valueOf cX5_valueOf 1 (some .float), Cond.constantFloat RX5 234 (1092616192), Cond.methodLink RX2 57 yX0_rule, Cond.instanceMethod yX0_rule, Cond.selects RX0 yX0_rule yX0_rule, Cond.code yX0_rule cX0_rule 2 (some .int), Cond.fieldLink RX0 31 "AnalogDays$Book" "gap" "I", Cond.fieldLink RX0 24 "AnalogDays$Book" "few" "I", Cond.fieldLink RX0 15 "AnalogDays$Book" "weights" "[I", Cond.methodLink RX2 62 yX2_measure, Cond.instanceMethod yX2_measure, Cond.selects RX2 yX2_measure yX2_measure, Cond.code yX2_measure cX2_measure 9 (some .float), Cond.constantFloat RX2 77 (3212836864), Cond.methodLink RX2 66 yX0_gap]
def wsX5_holds_r4 : List Cond := [Cond.instanceMethod yX0_gap, Cond.selects RX0 yX0_gap yX0_gap, Cond.code yX0_gap cX0_gap 1 (some .int), Cond.methodLink RX2 69 yX2_rank, Cond.instanceMethod yX2_rank, Cond.selects RX2 yX2_rank yX2_rank, Cond.code yX2_rank cX2_rank 8 none, Cond.methodLink RX2 91 Lib.Math.abs.name, Cond.static Lib.Math.abs.name, Cond.code Lib.Math.abs.name Lib.Math.abs.code 1 (some .int), Cond.fieldLink RX2 32 "AnalogDays$Likeness" "likeCounts" "[I", Cond.fieldLink RX2 29 "AnalogDays$Likeness" "nearCounts" "[I", Cond.methodLink RX2 94 yX2_enter, Cond.instanceMethod yX2_enter, Cond.selects RX2 yX2_enter yX2_enter, Cond.code yX2_enter cX2_enter 7 (some .int), Cond.fieldLink RX2 25 "AnalogDays$Likeness" "nearDays" "[I", Cond.methodLink RX2 98 yX2_between, Cond.instanceMethod yX2_between, Cond.selects RX2 yX2_between yX2_between, Cond.code yX2_between cX2_between 3 (some .float), Cond.methodLink RX2 73 yX2_has, Cond.instanceMethod yX2_has, Cond.selects RX2 yX2_has yX2_has]
def wsX5_holds_r5 : List Cond := [Cond.code yX2_has cX2_has 2 (some .boolean), Cond.methodLink RX5 114 yX0_few, Cond.instanceMethod yX0_few, Cond.selects RX0 yX0_few yX0_few, Cond.code yX0_few cX0_few 1 (some .int), Cond.methodLink RX5 226 yX1_gather, Cond.instanceMethod yX1_gather, Cond.selects RX1 yX1_gather yX1_gather, Cond.initialized RX1, Cond.code yX1_gather cX1_gather 9 none, Cond.fieldLink RX1 22 "AnalogDays$Followers" "size" "I", Cond.methodLink RX1 26 yX2_nearOnes, Cond.instanceMethod yX2_nearOnes, Cond.selects RX2 yX2_nearOnes yX2_nearOnes, Cond.code yX2_nearOnes cX2_nearOnes 3 (some .int), Cond.methodLink RX1 32 yX2_near, Cond.instanceMethod yX2_near, Cond.selects RX2 yX2_near yX2_near, Cond.code yX2_near cX2_near 3 (some .int), Cond.methodLink RX1 35 yX0_member, Cond.methodLink RX1 40 yX2_between, Cond.methodLink RX1 44 yX1_add, Cond.instanceMethod yX1_add, Cond.selects RX1 yX1_add yX1_add]
def wsX5_holds_r6 : List Cond := [Cond.code yX1_add cX1_add 4 none, Cond.fieldLink RX1 9 "AnalogDays$Followers" "tenths" "[I", Cond.fieldLink RX1 15 "AnalogDays$Followers" "distances" "[F", Cond.fieldLink RX1 19 "AnalogDays$Followers" "sorted" "[I", Cond.methodLink RX5 146 yX1_spanSize, Cond.instanceMethod yX1_spanSize, Cond.selects RX1 yX1_spanSize yX1_spanSize, Cond.code yX1_spanSize cX1_spanSize 2 (some .int), Cond.methodLink RX1 48 Lib.Math.max.name, Cond.static Lib.Math.max.name, Cond.code Lib.Math.max.name Lib.Math.max.code 2 (some .int), Cond.methodLink RX5 140 yX1_least, Cond.instanceMethod yX1_least, Cond.selects RX1 yX1_least yX1_least, Cond.code yX1_least cX1_least 2 (some .int), Cond.methodLink RX1 53 yX1_spanSize, Cond.methodLink RX5 143 yX1_greatest, Cond.instanceMethod yX1_greatest, Cond.selects RX1 yX1_greatest yX1_greatest, Cond.code yX1_greatest cX1_greatest 2 (some .int)]
def wsX5_holds : List Cond := .code yX5_holds cX5_holds 8 (some .int) :: ((wsX5_holds_r1 ++ (wsX5_holds_r2 ++ (wsX5_holds_r3 ++ (wsX5_holds_r4 ++ (wsX5_holds_r5 ++ wsX5_holds_r6))))) ++ wsX50 ++ wsX00 ++ wsX20 ++ wsX10)
def wsX5_meanError_r1 : List Cond := [Cond.fieldLink RX5 10 "AnalogDays" "book" "LAnalogDays$Book;", Cond.fieldLink RX5 33 "AnalogDays" "followers" "LAnalogDays$Followers;", Cond.fieldLink RX5 26 "AnalogDays" "likeness" "LAnalogDays$Likeness;", Cond.constantFloat RX5 129 (3212836864), Cond.methodLink RX5 52 yX0_days, Cond.instanceMethod yX0_days, Cond.selects RX0 yX0_days yX0_days, Cond.initialized RX0, Cond.code yX0_days cX0_days 1 (some .int), Cond.fieldLink RX0 28 "AnalogDays$Book" "days" "I", Cond.methodLink RX5 72 yX0_member, Cond.instanceMethod yX0_member, Cond.selects RX0 yX0_member yX0_member, Cond.code yX0_member cX0_member 3 (some .int), Cond.fieldLink RX0 9 "AnalogDays$Book" "notes" "[I", Cond.methodLink RX0 34 yX0_has, Cond.instanceMethod yX0_has, Cond.selects RX0 yX0_has yX0_has, Cond.code yX0_has cX0_has 2 (some .boolean), Cond.static yX5_isMember, Cond.initialized RX5, Cond.code yX5_isMember cX5_isMember 1 (some .boolean), Cond.methodLink RX5 81 yX5_isWithin, Cond.static yX5_isWithin]
def wsX5_meanError_r2 : List Cond := [Cond.code yX5_isWithin cX5_isWithin 3 (some .boolean), Cond.methodLink RX5 226 yX1_gather, Cond.instanceMethod yX1_gather, Cond.selects RX1 yX1_gather yX1_gather, Cond.initialized RX1, Cond.code yX1_gather cX1_gather 9 none, Cond.fieldLink RX1 22 "AnalogDays$Followers" "size" "I", Cond.methodLink RX1 26 yX2_nearOnes, Cond.instanceMethod yX2_nearOnes, Cond.selects RX2 yX2_nearOnes yX2_nearOnes, Cond.initialized RX2, Cond.code yX2_nearOnes cX2_nearOnes 3 (some .int), Cond.fieldLink RX2 29 "AnalogDays$Likeness" "nearCounts" "[I", Cond.methodLink RX2 45 Lib.Math.min.name, Cond.static Lib.Math.min.name, Cond.initialized "java/lang/Math", Cond.code Lib.Math.min.name Lib.Math.min.code 2 (some .int), Cond.methodLink RX2 73 yX2_has, Cond.instanceMethod yX2_has, Cond.selects RX2 yX2_has yX2_has, Cond.code yX2_has cX2_has 2 (some .boolean), Cond.fieldLink RX2 51 "AnalogDays$Likeness" "days" "I", Cond.methodLink RX1 32 yX2_near, Cond.instanceMethod yX2_near]
def wsX5_meanError_r3 : List Cond := [Cond.selects RX2 yX2_near yX2_near, Cond.code yX2_near cX2_near 3 (some .int), Cond.fieldLink RX2 25 "AnalogDays$Likeness" "nearDays" "[I", Cond.methodLink RX1 35 yX0_member, Cond.methodLink RX1 40 yX2_between, Cond.instanceMethod yX2_between, Cond.selects RX2 yX2_between yX2_between, Cond.code yX2_between cX2_between 3 (some .float), Cond.fieldLink RX2 22 "AnalogDays$Likeness" "distances" "[F", Cond.constantFloat RX2 77 (3212836864), Cond.methodLink RX1 44 yX1_add, Cond.instanceMethod yX1_add, Cond.selects RX1 yX1_add yX1_add, Cond.code yX1_add cX1_add 4 none, Cond.fieldLink RX1 9 "AnalogDays$Followers" "tenths" "[I", Cond.fieldLink RX1 15 "AnalogDays$Followers" "distances" "[F", Cond.fieldLink RX1 19 "AnalogDays$Followers" "sorted" "[I", Cond.methodLink RX5 137 yX1_size, Cond.instanceMethod yX1_size, Cond.selects RX1 yX1_size yX1_size, Cond.code yX1_size cX1_size 1 (some .int), Cond.methodLink RX5 149 yX1_meanValue, Cond.instanceMethod yX1_meanValue, Cond.selects RX1 yX1_meanValue yX1_meanValue]
def wsX5_meanError_r4 : List Cond := [Cond.code yX1_meanValue cX1_meanValue 4 (some .float), Cond.static yX5_valueOf, Cond.code yX5_valueOf cX5_valueOf 1 (some .float), Cond.constantFloat RX5 234 (1092616192), Cond.methodLink RX5 230 yX5_valueOf]
def wsX5_meanError : List Cond := .code yX5_meanError cX5_meanError 8 (some .float) :: ((wsX5_meanError_r1 ++ (wsX5_meanError_r2 ++ (wsX5_meanError_r3 ++ wsX5_meanError_r4))) ++ wsX50 ++ wsX00 ++ wsX10 ++ wsX20)
def wsX5_errs_r1 : List Cond := [Cond.fieldLink RX5 26 "AnalogDays" "likeness" "LAnalogDays$Likeness;", Cond.fieldLink RX5 10 "AnalogDays" "book" "LAnalogDays$Book;", Cond.methodLink RX5 69 yX5_isMember, Cond.static yX5_isMember, Cond.initialized RX5, Cond.code yX5_isMember cX5_isMember 1 (some .boolean), Cond.methodLink RX5 81 yX5_isWithin, Cond.static yX5_isWithin, Cond.code yX5_isWithin cX5_isWithin 3 (some .boolean), Cond.methodLink RX5 48 yX5_refuseBad, Cond.instanceMethod yX5_refuseBad, Cond.selects RX5 yX5_refuseBad yX5_refuseBad, Cond.code yX5_refuseBad cX5_refuseBad 2 (some .int), Cond.fieldLink RX5 200 "AnalogDays" "timesBad" "I", Cond.methodLink RX5 102 yX2_learn, Cond.instanceMethod yX2_learn, Cond.selects RX2 yX2_learn yX2_learn, Cond.initialized RX2, Cond.code yX2_learn cX2_learn 6 none, Cond.fieldLink RX2 35 "AnalogDays$Likeness" "learnt" "I", Cond.methodLink RX2 45 Lib.Math.min.name, Cond.static Lib.Math.min.name, Cond.initialized "java/lang/Math", Cond.code Lib.Math.min.name Lib.Math.min.code 2 (some .int)]
def wsX5_errs_r2 : List Cond := [Cond.fieldLink RX2 51 "AnalogDays$Likeness" "days" "I", Cond.fieldLink RX2 19 "AnalogDays$Likeness" "weights" "[F", Cond.constantFloat RX2 61 (1090519040), Cond.fieldLink RX2 22 "AnalogDays$Likeness" "distances" "[F", Cond.methodLink RX2 39 yX0_days, Cond.instanceMethod yX0_days, Cond.selects RX0 yX0_days yX0_days, Cond.initialized RX0, Cond.code yX0_days cX0_days 1 (some .int), Cond.fieldLink RX0 28 "AnalogDays$Book" "days" "I", Cond.methodLink RX2 53 yX2_takeNotes, Cond.instanceMethod yX2_takeNotes, Cond.selects RX2 yX2_takeNotes yX2_takeNotes, Cond.code yX2_takeNotes cX2_takeNotes 5 none, Cond.fieldLink RX2 15 "AnalogDays$Likeness" "noted" "[Z", Cond.fieldLink RX2 9 "AnalogDays$Likeness" "values" "[F", Cond.methodLink RX2 84 yX0_member, Cond.instanceMethod yX0_member, Cond.selects RX0 yX0_member yX0_member, Cond.code yX0_member cX0_member 3 (some .int), Cond.fieldLink RX0 9 "AnalogDays$Book" "notes" "[I", Cond.methodLink RX0 34 yX0_has, Cond.instanceMethod yX0_has, Cond.selects RX0 yX0_has yX0_has]
def wsX5_errs_r3 : List Cond := [Cond.code yX0_has cX0_has 2 (some .boolean), Cond.static yX5_valueOf, Cond.code yX5_valueOf cX5_valueOf 1 (some .float), Cond.constantFloat RX5 234 (1092616192), Cond.methodLink RX2 57 yX0_rule, Cond.instanceMethod yX0_rule, Cond.selects RX0 yX0_rule yX0_rule, Cond.code yX0_rule cX0_rule 2 (some .int), Cond.fieldLink RX0 31 "AnalogDays$Book" "gap" "I", Cond.fieldLink RX0 24 "AnalogDays$Book" "few" "I", Cond.fieldLink RX0 15 "AnalogDays$Book" "weights" "[I", Cond.methodLink RX2 62 yX2_measure, Cond.instanceMethod yX2_measure, Cond.selects RX2 yX2_measure yX2_measure, Cond.code yX2_measure cX2_measure 9 (some .float), Cond.constantFloat RX2 77 (3212836864), Cond.methodLink RX2 66 yX0_gap, Cond.instanceMethod yX0_gap, Cond.selects RX0 yX0_gap yX0_gap, Cond.code yX0_gap cX0_gap 1 (some .int), Cond.methodLink RX2 69 yX2_rank, Cond.instanceMethod yX2_rank, Cond.selects RX2 yX2_rank yX2_rank, Cond.code yX2_rank cX2_rank 8 none]
def wsX5_errs_r4 : List Cond := [Cond.methodLink RX2 91 Lib.Math.abs.name, Cond.static Lib.Math.abs.name, Cond.code Lib.Math.abs.name Lib.Math.abs.code 1 (some .int), Cond.fieldLink RX2 32 "AnalogDays$Likeness" "likeCounts" "[I", Cond.fieldLink RX2 29 "AnalogDays$Likeness" "nearCounts" "[I", Cond.methodLink RX2 94 yX2_enter, Cond.instanceMethod yX2_enter, Cond.selects RX2 yX2_enter yX2_enter, Cond.code yX2_enter cX2_enter 7 (some .int), Cond.fieldLink RX2 25 "AnalogDays$Likeness" "nearDays" "[I", Cond.methodLink RX2 98 yX2_between, Cond.instanceMethod yX2_between, Cond.selects RX2 yX2_between yX2_between, Cond.code yX2_between cX2_between 3 (some .float), Cond.methodLink RX2 73 yX2_has, Cond.instanceMethod yX2_has, Cond.selects RX2 yX2_has yX2_has, Cond.code yX2_has cX2_has 2 (some .boolean), Cond.methodLink RX5 114 yX0_few, Cond.instanceMethod yX0_few, Cond.selects RX0 yX0_few yX0_few, Cond.code yX0_few cX0_few 1 (some .int), Cond.methodLink RX5 166 yX5_meanError, Cond.instanceMethod yX5_meanError]
def wsX5_errs_r5 : List Cond := [Cond.selects RX5 yX5_meanError yX5_meanError, Cond.code yX5_meanError cX5_meanError 8 (some .float), Cond.fieldLink RX5 33 "AnalogDays" "followers" "LAnalogDays$Followers;", Cond.constantFloat RX5 129 (3212836864), Cond.methodLink RX5 52 yX0_days, Cond.methodLink RX5 72 yX0_member, Cond.methodLink RX5 226 yX1_gather, Cond.instanceMethod yX1_gather, Cond.selects RX1 yX1_gather yX1_gather, Cond.initialized RX1, Cond.code yX1_gather cX1_gather 9 none, Cond.fieldLink RX1 22 "AnalogDays$Followers" "size" "I", Cond.methodLink RX1 26 yX2_nearOnes, Cond.instanceMethod yX2_nearOnes, Cond.selects RX2 yX2_nearOnes yX2_nearOnes, Cond.code yX2_nearOnes cX2_nearOnes 3 (some .int), Cond.methodLink RX1 32 yX2_near, Cond.instanceMethod yX2_near, Cond.selects RX2 yX2_near yX2_near, Cond.code yX2_near cX2_near 3 (some .int), Cond.methodLink RX1 35 yX0_member, Cond.methodLink RX1 40 yX2_between, Cond.methodLink RX1 44 yX1_add, Cond.instanceMethod yX1_add]
def wsX5_errs_r6 : List Cond := [Cond.selects RX1 yX1_add yX1_add, Cond.code yX1_add cX1_add 4 none, Cond.fieldLink RX1 9 "AnalogDays$Followers" "tenths" "[I", Cond.fieldLink RX1 15 "AnalogDays$Followers" "distances" "[F", Cond.fieldLink RX1 19 "AnalogDays$Followers" "sorted" "[I", Cond.methodLink RX5 137 yX1_size, Cond.instanceMethod yX1_size, Cond.selects RX1 yX1_size yX1_size, Cond.code yX1_size cX1_size 1 (some .int), Cond.methodLink RX5 149 yX1_meanValue, Cond.instanceMethod yX1_meanValue, Cond.selects RX1 yX1_meanValue yX1_meanValue, Cond.code yX1_meanValue cX1_meanValue 4 (some .float), Cond.methodLink RX5 230 yX5_valueOf, Cond.methodLink RX5 110 yX5_bitsOrNone, Cond.static yX5_bitsOrNone, Cond.code yX5_bitsOrNone cX5_bitsOrNone 1 (some .int), Cond.methodLink RX5 153 yX5_floatBits, Cond.static yX5_floatBits, Cond.code yX5_floatBits cX5_floatBits 4 (some .int), Cond.constantFloat RX5 235 (1258291200), Cond.constant RX5 238 (-2147483648)]
def wsX5_errs : List Cond := .code yX5_errs cX5_errs 2 (some .int) :: ((wsX5_errs_r1 ++ (wsX5_errs_r2 ++ (wsX5_errs_r3 ++ (wsX5_errs_r4 ++ (wsX5_errs_r5 ++ wsX5_errs_r6))))) ++ wsX50 ++ wsX20 ++ wsX00 ++ wsX10)
def wsX5_best_r1 : List Cond := [Cond.fieldLink RX5 26 "AnalogDays" "likeness" "LAnalogDays$Likeness;", Cond.fieldLink RX5 10 "AnalogDays" "book" "LAnalogDays$Book;", Cond.constantFloat RX5 129 (3212836864), Cond.methodLink RX5 69 yX5_isMember, Cond.static yX5_isMember, Cond.initialized RX5, Cond.code yX5_isMember cX5_isMember 1 (some .boolean), Cond.methodLink RX5 81 yX5_isWithin, Cond.static yX5_isWithin, Cond.code yX5_isWithin cX5_isWithin 3 (some .boolean), Cond.methodLink RX5 48 yX5_refuseBad, Cond.instanceMethod yX5_refuseBad, Cond.selects RX5 yX5_refuseBad yX5_refuseBad, Cond.code yX5_refuseBad cX5_refuseBad 2 (some .int), Cond.fieldLink RX5 200 "AnalogDays" "timesBad" "I", Cond.methodLink RX5 102 yX2_learn, Cond.instanceMethod yX2_learn, Cond.selects RX2 yX2_learn yX2_learn, Cond.initialized RX2, Cond.code yX2_learn cX2_learn 6 none, Cond.fieldLink RX2 35 "AnalogDays$Likeness" "learnt" "I", Cond.methodLink RX2 45 Lib.Math.min.name, Cond.static Lib.Math.min.name, Cond.initialized "java/lang/Math"]
def wsX5_best_r2 : List Cond := [Cond.code Lib.Math.min.name Lib.Math.min.code 2 (some .int), Cond.fieldLink RX2 51 "AnalogDays$Likeness" "days" "I", Cond.fieldLink RX2 19 "AnalogDays$Likeness" "weights" "[F", Cond.constantFloat RX2 61 (1090519040), Cond.fieldLink RX2 22 "AnalogDays$Likeness" "distances" "[F", Cond.methodLink RX2 39 yX0_days, Cond.instanceMethod yX0_days, Cond.selects RX0 yX0_days yX0_days, Cond.initialized RX0, Cond.code yX0_days cX0_days 1 (some .int), Cond.fieldLink RX0 28 "AnalogDays$Book" "days" "I", Cond.methodLink RX2 53 yX2_takeNotes, Cond.instanceMethod yX2_takeNotes, Cond.selects RX2 yX2_takeNotes yX2_takeNotes, Cond.code yX2_takeNotes cX2_takeNotes 5 none, Cond.fieldLink RX2 15 "AnalogDays$Likeness" "noted" "[Z", Cond.fieldLink RX2 9 "AnalogDays$Likeness" "values" "[F", Cond.methodLink RX2 84 yX0_member, Cond.instanceMethod yX0_member, Cond.selects RX0 yX0_member yX0_member, Cond.code yX0_member cX0_member 3 (some .int), Cond.fieldLink RX0 9 "AnalogDays$Book" "notes" "[I", Cond.methodLink RX0 34 yX0_has, Cond.instanceMethod yX0_has]
def wsX5_best_r3 : List Cond := [Cond.selects RX0 yX0_has yX0_has, Cond.code yX0_has cX0_has 2 (some .boolean), Cond.static yX5_valueOf, Cond.code yX5_valueOf cX5_valueOf 1 (some .float), Cond.constantFloat RX5 234 (1092616192), Cond.methodLink RX2 57 yX0_rule, Cond.instanceMethod yX0_rule, Cond.selects RX0 yX0_rule yX0_rule, Cond.code yX0_rule cX0_rule 2 (some .int), Cond.fieldLink RX0 31 "AnalogDays$Book" "gap" "I", Cond.fieldLink RX0 24 "AnalogDays$Book" "few" "I", Cond.fieldLink RX0 15 "AnalogDays$Book" "weights" "[I", Cond.methodLink RX2 62 yX2_measure, Cond.instanceMethod yX2_measure, Cond.selects RX2 yX2_measure yX2_measure, Cond.code yX2_measure cX2_measure 9 (some .float), Cond.constantFloat RX2 77 (3212836864), Cond.methodLink RX2 66 yX0_gap, Cond.instanceMethod yX0_gap, Cond.selects RX0 yX0_gap yX0_gap, Cond.code yX0_gap cX0_gap 1 (some .int), Cond.methodLink RX2 69 yX2_rank, Cond.instanceMethod yX2_rank, Cond.selects RX2 yX2_rank yX2_rank]
def wsX5_best_r4 : List Cond := [Cond.code yX2_rank cX2_rank 8 none, Cond.methodLink RX2 91 Lib.Math.abs.name, Cond.static Lib.Math.abs.name, Cond.code Lib.Math.abs.name Lib.Math.abs.code 1 (some .int), Cond.fieldLink RX2 32 "AnalogDays$Likeness" "likeCounts" "[I", Cond.fieldLink RX2 29 "AnalogDays$Likeness" "nearCounts" "[I", Cond.methodLink RX2 94 yX2_enter, Cond.instanceMethod yX2_enter, Cond.selects RX2 yX2_enter yX2_enter, Cond.code yX2_enter cX2_enter 7 (some .int), Cond.fieldLink RX2 25 "AnalogDays$Likeness" "nearDays" "[I", Cond.methodLink RX2 98 yX2_between, Cond.instanceMethod yX2_between, Cond.selects RX2 yX2_between yX2_between, Cond.code yX2_between cX2_between 3 (some .float), Cond.methodLink RX2 73 yX2_has, Cond.instanceMethod yX2_has, Cond.selects RX2 yX2_has yX2_has, Cond.code yX2_has cX2_has 2 (some .boolean), Cond.methodLink RX5 166 yX5_meanError, Cond.instanceMethod yX5_meanError, Cond.selects RX5 yX5_meanError yX5_meanError, Cond.code yX5_meanError cX5_meanError 8 (some .float), Cond.fieldLink RX5 33 "AnalogDays" "followers" "LAnalogDays$Followers;"]
def wsX5_best_r5 : List Cond := [Cond.methodLink RX5 52 yX0_days, Cond.methodLink RX5 72 yX0_member, Cond.methodLink RX5 226 yX1_gather, Cond.instanceMethod yX1_gather, Cond.selects RX1 yX1_gather yX1_gather, Cond.initialized RX1, Cond.code yX1_gather cX1_gather 9 none, Cond.fieldLink RX1 22 "AnalogDays$Followers" "size" "I", Cond.methodLink RX1 26 yX2_nearOnes, Cond.instanceMethod yX2_nearOnes, Cond.selects RX2 yX2_nearOnes yX2_nearOnes, Cond.code yX2_nearOnes cX2_nearOnes 3 (some .int), Cond.methodLink RX1 32 yX2_near, Cond.instanceMethod yX2_near, Cond.selects RX2 yX2_near yX2_near, Cond.code yX2_near cX2_near 3 (some .int), Cond.methodLink RX1 35 yX0_member, Cond.methodLink RX1 40 yX2_between, Cond.methodLink RX1 44 yX1_add, Cond.instanceMethod yX1_add, Cond.selects RX1 yX1_add yX1_add, Cond.code yX1_add cX1_add 4 none, Cond.fieldLink RX1 9 "AnalogDays$Followers" "tenths" "[I", Cond.fieldLink RX1 15 "AnalogDays$Followers" "distances" "[F"]
def wsX5_best_r6 : List Cond := [Cond.fieldLink RX1 19 "AnalogDays$Followers" "sorted" "[I", Cond.methodLink RX5 137 yX1_size, Cond.instanceMethod yX1_size, Cond.selects RX1 yX1_size yX1_size, Cond.code yX1_size cX1_size 1 (some .int), Cond.methodLink RX5 149 yX1_meanValue, Cond.instanceMethod yX1_meanValue, Cond.selects RX1 yX1_meanValue yX1_meanValue, Cond.code yX1_meanValue cX1_meanValue 4 (some .float), Cond.methodLink RX5 230 yX5_valueOf, Cond.methodLink RX5 130 yX5_isLess, Cond.static yX5_isLess, Cond.code yX5_isLess cX5_isLess 2 (some .boolean), Cond.methodLink RX5 110 yX5_bitsOrNone, Cond.static yX5_bitsOrNone, Cond.code yX5_bitsOrNone cX5_bitsOrNone 1 (some .int), Cond.methodLink RX5 153 yX5_floatBits, Cond.static yX5_floatBits, Cond.code yX5_floatBits cX5_floatBits 4 (some .int), Cond.constantFloat RX5 235 (1258291200), Cond.constant RX5 238 (-2147483648)]
def wsX5_best : List Cond := .code yX5_best cX5_best 7 (some .int) :: ((wsX5_best_r1 ++ (wsX5_best_r2 ++ (wsX5_best_r3 ++ (wsX5_best_r4 ++ (wsX5_best_r5 ++ wsX5_best_r6))))) ++ wsX50 ++ wsX20 ++ wsX00 ++ wsX10)
def wsX5_spare_r1 : List Cond := [Cond.constantFloat RX5 129 (3212836864), Cond.fieldLink RX5 26 "AnalogDays" "likeness" "LAnalogDays$Likeness;", Cond.fieldLink RX5 10 "AnalogDays" "book" "LAnalogDays$Book;", Cond.methodLink RX5 69 yX5_isMember, Cond.static yX5_isMember, Cond.initialized RX5, Cond.code yX5_isMember cX5_isMember 1 (some .boolean), Cond.methodLink RX5 81 yX5_isWithin, Cond.static yX5_isWithin, Cond.code yX5_isWithin cX5_isWithin 3 (some .boolean), Cond.methodLink RX5 48 yX5_refuseBad, Cond.instanceMethod yX5_refuseBad, Cond.selects RX5 yX5_refuseBad yX5_refuseBad, Cond.code yX5_refuseBad cX5_refuseBad 2 (some .int), Cond.fieldLink RX5 200 "AnalogDays" "timesBad" "I", Cond.methodLink RX5 102 yX2_learn, Cond.instanceMethod yX2_learn, Cond.selects RX2 yX2_learn yX2_learn, Cond.initialized RX2, Cond.code yX2_learn cX2_learn 6 none, Cond.fieldLink RX2 35 "AnalogDays$Likeness" "learnt" "I", Cond.methodLink RX2 45 Lib.Math.min.name, Cond.static Lib.Math.min.name, Cond.initialized "java/lang/Math"]
def wsX5_spare_r2 : List Cond := [Cond.code Lib.Math.min.name Lib.Math.min.code 2 (some .int), Cond.fieldLink RX2 51 "AnalogDays$Likeness" "days" "I", Cond.fieldLink RX2 19 "AnalogDays$Likeness" "weights" "[F", Cond.constantFloat RX2 61 (1090519040), Cond.fieldLink RX2 22 "AnalogDays$Likeness" "distances" "[F", Cond.methodLink RX2 39 yX0_days, Cond.instanceMethod yX0_days, Cond.selects RX0 yX0_days yX0_days, Cond.initialized RX0, Cond.code yX0_days cX0_days 1 (some .int), Cond.fieldLink RX0 28 "AnalogDays$Book" "days" "I", Cond.methodLink RX2 53 yX2_takeNotes, Cond.instanceMethod yX2_takeNotes, Cond.selects RX2 yX2_takeNotes yX2_takeNotes, Cond.code yX2_takeNotes cX2_takeNotes 5 none, Cond.fieldLink RX2 15 "AnalogDays$Likeness" "noted" "[Z", Cond.fieldLink RX2 9 "AnalogDays$Likeness" "values" "[F", Cond.methodLink RX2 84 yX0_member, Cond.instanceMethod yX0_member, Cond.selects RX0 yX0_member yX0_member, Cond.code yX0_member cX0_member 3 (some .int), Cond.fieldLink RX0 9 "AnalogDays$Book" "notes" "[I", Cond.methodLink RX0 34 yX0_has, Cond.instanceMethod yX0_has]
def wsX5_spare_r3 : List Cond := [Cond.selects RX0 yX0_has yX0_has, Cond.code yX0_has cX0_has 2 (some .boolean), Cond.static yX5_valueOf, Cond.code yX5_valueOf cX5_valueOf 1 (some .float), Cond.constantFloat RX5 234 (1092616192), Cond.methodLink RX2 57 yX0_rule, Cond.instanceMethod yX0_rule, Cond.selects RX0 yX0_rule yX0_rule, Cond.code yX0_rule cX0_rule 2 (some .int), Cond.fieldLink RX0 31 "AnalogDays$Book" "gap" "I", Cond.fieldLink RX0 24 "AnalogDays$Book" "few" "I", Cond.fieldLink RX0 15 "AnalogDays$Book" "weights" "[I", Cond.methodLink RX2 62 yX2_measure, Cond.instanceMethod yX2_measure, Cond.selects RX2 yX2_measure yX2_measure, Cond.code yX2_measure cX2_measure 9 (some .float), Cond.constantFloat RX2 77 (3212836864), Cond.methodLink RX2 66 yX0_gap, Cond.instanceMethod yX0_gap, Cond.selects RX0 yX0_gap yX0_gap, Cond.code yX0_gap cX0_gap 1 (some .int), Cond.methodLink RX2 69 yX2_rank, Cond.instanceMethod yX2_rank, Cond.selects RX2 yX2_rank yX2_rank]
def wsX5_spare_r4 : List Cond := [Cond.code yX2_rank cX2_rank 8 none, Cond.methodLink RX2 91 Lib.Math.abs.name, Cond.static Lib.Math.abs.name, Cond.code Lib.Math.abs.name Lib.Math.abs.code 1 (some .int), Cond.fieldLink RX2 32 "AnalogDays$Likeness" "likeCounts" "[I", Cond.fieldLink RX2 29 "AnalogDays$Likeness" "nearCounts" "[I", Cond.methodLink RX2 94 yX2_enter, Cond.instanceMethod yX2_enter, Cond.selects RX2 yX2_enter yX2_enter, Cond.code yX2_enter cX2_enter 7 (some .int), Cond.fieldLink RX2 25 "AnalogDays$Likeness" "nearDays" "[I", Cond.methodLink RX2 98 yX2_between, Cond.instanceMethod yX2_between, Cond.selects RX2 yX2_between yX2_between, Cond.code yX2_between cX2_between 3 (some .float), Cond.methodLink RX2 73 yX2_has, Cond.instanceMethod yX2_has, Cond.selects RX2 yX2_has yX2_has, Cond.code yX2_has cX2_has 2 (some .boolean), Cond.methodLink RX5 114 yX0_few, Cond.instanceMethod yX0_few, Cond.selects RX0 yX0_few yX0_few, Cond.code yX0_few cX0_few 1 (some .int), Cond.methodLink RX5 166 yX5_meanError]
def wsX5_spare_r5 : List Cond := [Cond.instanceMethod yX5_meanError, Cond.selects RX5 yX5_meanError yX5_meanError, Cond.code yX5_meanError cX5_meanError 8 (some .float), Cond.fieldLink RX5 33 "AnalogDays" "followers" "LAnalogDays$Followers;", Cond.methodLink RX5 52 yX0_days, Cond.methodLink RX5 72 yX0_member, Cond.methodLink RX5 226 yX1_gather, Cond.instanceMethod yX1_gather, Cond.selects RX1 yX1_gather yX1_gather, Cond.initialized RX1, Cond.code yX1_gather cX1_gather 9 none, Cond.fieldLink RX1 22 "AnalogDays$Followers" "size" "I", Cond.methodLink RX1 26 yX2_nearOnes, Cond.instanceMethod yX2_nearOnes, Cond.selects RX2 yX2_nearOnes yX2_nearOnes, Cond.code yX2_nearOnes cX2_nearOnes 3 (some .int), Cond.methodLink RX1 32 yX2_near, Cond.instanceMethod yX2_near, Cond.selects RX2 yX2_near yX2_near, Cond.code yX2_near cX2_near 3 (some .int), Cond.methodLink RX1 35 yX0_member, Cond.methodLink RX1 40 yX2_between, Cond.methodLink RX1 44 yX1_add, Cond.instanceMethod yX1_add]
def wsX5_spare_r6 : List Cond := [Cond.selects RX1 yX1_add yX1_add, Cond.code yX1_add cX1_add 4 none, Cond.fieldLink RX1 9 "AnalogDays$Followers" "tenths" "[I", Cond.fieldLink RX1 15 "AnalogDays$Followers" "distances" "[F", Cond.fieldLink RX1 19 "AnalogDays$Followers" "sorted" "[I", Cond.methodLink RX5 137 yX1_size, Cond.instanceMethod yX1_size, Cond.selects RX1 yX1_size yX1_size, Cond.code yX1_size cX1_size 1 (some .int), Cond.methodLink RX5 149 yX1_meanValue, Cond.instanceMethod yX1_meanValue, Cond.selects RX1 yX1_meanValue yX1_meanValue, Cond.code yX1_meanValue cX1_meanValue 4 (some .float), Cond.methodLink RX5 230 yX5_valueOf, Cond.methodLink RX5 130 yX5_isLess, Cond.static yX5_isLess, Cond.code yX5_isLess cX5_isLess 2 (some .boolean)]
def wsX5_spare : List Cond := .code yX5_spare cX5_spare 6 (some .int) :: ((wsX5_spare_r1 ++ (wsX5_spare_r2 ++ (wsX5_spare_r3 ++ (wsX5_spare_r4 ++ (wsX5_spare_r5 ++ wsX5_spare_r6))))) ++ wsX50 ++ wsX20 ++ wsX00 ++ wsX10)
def wsX5_type_r1 : List Cond := [Cond.fieldLink RX5 40 "AnalogDays" "text" "LAnalogDays$Text;", Cond.methodLink RX5 81 yX5_isWithin, Cond.static yX5_isWithin, Cond.initialized RX5, Cond.code yX5_isWithin cX5_isWithin 3 (some .boolean), Cond.methodLink RX5 48 yX5_refuseBad, Cond.instanceMethod yX5_refuseBad, Cond.selects RX5 yX5_refuseBad yX5_refuseBad, Cond.code yX5_refuseBad cX5_refuseBad 2 (some .int), Cond.fieldLink RX5 200 "AnalogDays" "timesBad" "I", Cond.methodLink RX5 169 yX4_length, Cond.instanceMethod yX4_length, Cond.selects RX4 yX4_length yX4_length, Cond.initialized RX4, Cond.code yX4_length cX4_length 1 (some .int), Cond.fieldLink RX4 18 "AnalogDays$Text" "length" "I", Cond.methodLink RX5 56 yX5_refuseFull, Cond.instanceMethod yX5_refuseFull, Cond.selects RX5 yX5_refuseFull yX5_refuseFull, Cond.code yX5_refuseFull cX5_refuseFull 1 (some .int), Cond.fieldLink RX5 203 "AnalogDays" "timesFull" "I", Cond.methodLink RX5 172 yX4_append, Cond.instanceMethod yX4_append, Cond.selects RX4 yX4_append yX4_append]
def wsX5_type_r2 : List Cond := [Cond.code yX4_append cX4_append 2 (some .int), Cond.fieldLink RX4 9 "AnalogDays$Text" "bytes" "[I"]
def wsX5_type : List Cond := .code yX5_type cX5_type 2 (some .int) :: ((wsX5_type_r1 ++ wsX5_type_r2) ++ wsX50 ++ wsX40)
def wsX5_clear : List Cond := .code yX5_clear cX5_clear 1 (some .int) :: ([.fieldLink RX5 40 "AnalogDays" "text" "LAnalogDays$Text;", .methodLink RX5 174 yX4_wipe, .instanceMethod yX4_wipe, .selects RX4 yX4_wipe yX4_wipe, .initialized RX4, .code yX4_wipe cX4_wipe 2 (some .int), .fieldLink RX4 18 "AnalogDays$Text" "length" "I"] ++ wsX50 ++ wsX40)
def wsX5_reads_r1 : List Cond := [Cond.fieldLink RX5 40 "AnalogDays" "text" "LAnalogDays$Text;", Cond.fieldLink RX5 10 "AnalogDays" "book" "LAnalogDays$Book;", Cond.methodLink RX5 52 yX0_days, Cond.instanceMethod yX0_days, Cond.selects RX0 yX0_days yX0_days, Cond.initialized RX0, Cond.code yX0_days cX0_days 1 (some .int), Cond.fieldLink RX0 28 "AnalogDays$Book" "days" "I", Cond.methodLink RX5 177 yX4_parse, Cond.instanceMethod yX4_parse, Cond.selects RX4 yX4_parse yX4_parse, Cond.initialized RX4, Cond.code yX4_parse cX4_parse 4 (some .int), Cond.fieldLink RX4 29 "AnalogDays$Text" "place" "I", Cond.fieldLink RX4 22 "AnalogDays$Text" "days" "I", Cond.fieldLink RX4 18 "AnalogDays$Text" "length" "I", Cond.methodLink RX4 32 yX4_skipBlanks, Cond.instanceMethod yX4_skipBlanks, Cond.selects RX4 yX4_skipBlanks yX4_skipBlanks, Cond.code yX4_skipBlanks cX4_skipBlanks 1 none, Cond.methodLink RX4 45 yX4_here, Cond.instanceMethod yX4_here, Cond.selects RX4 yX4_here yX4_here, Cond.code yX4_here cX4_here 1 (some .int)]
def wsX5_reads_r2 : List Cond := [Cond.fieldLink RX4 9 "AnalogDays$Text" "bytes" "[I", Cond.methodLink RX4 35 yX4_parseDay, Cond.instanceMethod yX4_parseDay, Cond.selects RX4 yX4_parseDay yX4_parseDay, Cond.code yX4_parseDay cX4_parseDay 4 (some .int), Cond.methodLink RX4 39 yX4_parseMember, Cond.instanceMethod yX4_parseMember, Cond.selects RX4 yX4_parseMember yX4_parseMember, Cond.code yX4_parseMember cX4_parseMember 2 (some .int), Cond.methodLink RX4 49 yX4_keepNote, Cond.instanceMethod yX4_keepNote, Cond.selects RX4 yX4_keepNote yX4_keepNote, Cond.code yX4_keepNote cX4_keepNote 3 (some .int), Cond.fieldLink RX4 15 "AnalogDays$Text" "notes" "[I", Cond.methodLink RX4 53 yX4_parseNumber, Cond.instanceMethod yX4_parseNumber, Cond.selects RX4 yX4_parseNumber yX4_parseNumber, Cond.code yX4_parseNumber cX4_parseNumber 6 (some .int), Cond.static yX5_isWithin, Cond.initialized RX5, Cond.code yX5_isWithin cX5_isWithin 3 (some .boolean), Cond.methodLink RX4 42 yX4_parseMark, Cond.instanceMethod yX4_parseMark, Cond.selects RX4 yX4_parseMark yX4_parseMark]
def wsX5_reads_r3 : List Cond := [Cond.code yX4_parseMark cX4_parseMark 2 (some .int), Cond.methodLink RX5 59 yX5_keepState, Cond.instanceMethod yX5_keepState, Cond.selects RX5 yX5_keepState yX5_keepState, Cond.code yX5_keepState cX5_keepState 1 none, Cond.fieldLink RX5 19 "AnalogDays" "states" "LAnalogDays$States;", Cond.fieldLink RX5 26 "AnalogDays" "likeness" "LAnalogDays$Likeness;", Cond.methodLink RX5 223 yX3_push, Cond.instanceMethod yX3_push, Cond.selects RX3 yX3_push yX3_push, Cond.initialized RX3, Cond.code yX3_push cX3_push 2 none, Cond.fieldLink RX3 22 "AnalogDays$States" "newest" "I", Cond.fieldLink RX3 18 "AnalogDays$States" "count" "I", Cond.methodLink RX3 25 Lib.Math.min.name, Cond.static Lib.Math.min.name, Cond.initialized "java/lang/Math", Cond.code Lib.Math.min.name Lib.Math.min.code 2 (some .int), Cond.fieldLink RX3 11 "AnalogDays$States" "ring" "[LAnalogDays$Book;", Cond.methodLink RX3 31 yX0_copyFrom, Cond.instanceMethod yX0_copyFrom, Cond.selects RX0 yX0_copyFrom yX0_copyFrom, Cond.code yX0_copyFrom cX0_copyFrom 2 none, Cond.fieldLink RX0 9 "AnalogDays$Book" "notes" "[I"]
def wsX5_reads_r4 : List Cond := [Cond.methodLink RX0 45 arraycopyName, Cond.native arraycopyName, Cond.static arraycopyName, Cond.initialized "java/lang/System", Cond.fieldLink RX0 15 "AnalogDays$Book" "weights" "[I", Cond.fieldLink RX0 31 "AnalogDays$Book" "gap" "I", Cond.fieldLink RX0 24 "AnalogDays$Book" "few" "I", Cond.methodLink RX5 197 yX2_forget, Cond.instanceMethod yX2_forget, Cond.selects RX2 yX2_forget yX2_forget, Cond.initialized RX2, Cond.code yX2_forget cX2_forget 1 none, Cond.fieldLink RX2 35 "AnalogDays$Likeness" "learnt" "I", Cond.methodLink RX5 180 yX4_daysTold, Cond.instanceMethod yX4_daysTold, Cond.selects RX4 yX4_daysTold yX4_daysTold, Cond.code yX4_daysTold cX4_daysTold 1 (some .int), Cond.methodLink RX5 183 yX4_note, Cond.instanceMethod yX4_note, Cond.selects RX4 yX4_note yX4_note, Cond.code yX4_note cX4_note 3 (some .int), Cond.static yX5_isMember, Cond.code yX5_isMember cX5_isMember 1 (some .boolean), Cond.methodLink RX5 81 yX5_isWithin]
def wsX5_reads_r5 : List Cond := [Cond.methodLink RX5 62 yX0_append, Cond.instanceMethod yX0_append, Cond.selects RX0 yX0_append yX0_append, Cond.code yX0_append cX0_append 6 (some .int), Cond.methodLink RX0 41 yX0_put, Cond.instanceMethod yX0_put, Cond.selects RX0 yX0_put yX0_put, Cond.code yX0_put cX0_put 4 none, Cond.methodLink RX0 34 yX0_has, Cond.instanceMethod yX0_has, Cond.selects RX0 yX0_has yX0_has, Cond.code yX0_has cX0_has 2 (some .boolean)]
def wsX5_reads : List Cond := .code yX5_reads cX5_reads 3 (some .int) :: ((wsX5_reads_r1 ++ (wsX5_reads_r2 ++ (wsX5_reads_r3 ++ (wsX5_reads_r4 ++ wsX5_reads_r5)))) ++ wsX50 ++ wsX00 ++ wsX40 ++ wsX30 ++ wsX20)
def wsX5_back_r1 : List Cond := [Cond.fieldLink RX5 19 "AnalogDays" "states" "LAnalogDays$States;", Cond.fieldLink RX5 189 "AnalogDays" "timesNo" "I", Cond.fieldLink RX5 10 "AnalogDays" "book" "LAnalogDays$Book;", Cond.fieldLink RX5 26 "AnalogDays" "likeness" "LAnalogDays$Likeness;", Cond.methodLink RX5 186 yX3_count, Cond.instanceMethod yX3_count, Cond.selects RX3 yX3_count yX3_count, Cond.initialized RX3, Cond.code yX3_count cX3_count 1 (some .int), Cond.fieldLink RX3 18 "AnalogDays$States" "count" "I", Cond.methodLink RX5 193 yX3_pop, Cond.instanceMethod yX3_pop, Cond.selects RX3 yX3_pop yX3_pop, Cond.code yX3_pop cX3_pop 2 none, Cond.fieldLink RX3 11 "AnalogDays$States" "ring" "[LAnalogDays$Book;", Cond.fieldLink RX3 22 "AnalogDays$States" "newest" "I", Cond.methodLink RX3 31 yX0_copyFrom, Cond.instanceMethod yX0_copyFrom, Cond.selects RX0 yX0_copyFrom yX0_copyFrom, Cond.initialized RX0, Cond.code yX0_copyFrom cX0_copyFrom 2 none, Cond.fieldLink RX0 9 "AnalogDays$Book" "notes" "[I", Cond.methodLink RX0 45 arraycopyName, Cond.native arraycopyName]
def wsX5_back_r2 : List Cond := [Cond.static arraycopyName, Cond.initialized "java/lang/System", Cond.fieldLink RX0 15 "AnalogDays$Book" "weights" "[I", Cond.fieldLink RX0 28 "AnalogDays$Book" "days" "I", Cond.fieldLink RX0 31 "AnalogDays$Book" "gap" "I", Cond.fieldLink RX0 24 "AnalogDays$Book" "few" "I", Cond.methodLink RX5 197 yX2_forget, Cond.instanceMethod yX2_forget, Cond.selects RX2 yX2_forget yX2_forget, Cond.initialized RX2, Cond.code yX2_forget cX2_forget 1 none, Cond.fieldLink RX2 35 "AnalogDays$Likeness" "learnt" "I"]
def wsX5_back : List Cond := .code yX5_back cX5_back 1 (some .int) :: ((wsX5_back_r1 ++ wsX5_back_r2) ++ wsX50 ++ wsX30 ++ wsX00 ++ wsX20)
def wsX5_told_r1 : List Cond := [Cond.fieldLink RX5 200 "AnalogDays" "timesBad" "I", Cond.fieldLink RX5 189 "AnalogDays" "timesNo" "I", Cond.fieldLink RX5 203 "AnalogDays" "timesFull" "I", Cond.fieldLink RX5 40 "AnalogDays" "text" "LAnalogDays$Text;", Cond.fieldLink RX5 10 "AnalogDays" "book" "LAnalogDays$Book;", Cond.fieldLink RX5 19 "AnalogDays" "states" "LAnalogDays$States;", Cond.methodLink RX5 169 yX4_length, Cond.instanceMethod yX4_length, Cond.selects RX4 yX4_length yX4_length, Cond.initialized RX4, Cond.code yX4_length cX4_length 1 (some .int), Cond.fieldLink RX4 18 "AnalogDays$Text" "length" "I", Cond.methodLink RX5 52 yX0_days, Cond.instanceMethod yX0_days, Cond.selects RX0 yX0_days yX0_days, Cond.initialized RX0, Cond.code yX0_days cX0_days 1 (some .int), Cond.fieldLink RX0 28 "AnalogDays$Book" "days" "I", Cond.methodLink RX5 206 yX0_gap, Cond.instanceMethod yX0_gap, Cond.selects RX0 yX0_gap yX0_gap, Cond.code yX0_gap cX0_gap 1 (some .int), Cond.fieldLink RX0 31 "AnalogDays$Book" "gap" "I", Cond.methodLink RX5 114 yX0_few]
def wsX5_told_r2 : List Cond := [Cond.instanceMethod yX0_few, Cond.selects RX0 yX0_few yX0_few, Cond.code yX0_few cX0_few 1 (some .int), Cond.fieldLink RX0 24 "AnalogDays$Book" "few" "I", Cond.methodLink RX5 186 yX3_count, Cond.instanceMethod yX3_count, Cond.selects RX3 yX3_count yX3_count, Cond.initialized RX3, Cond.code yX3_count cX3_count 1 (some .int), Cond.fieldLink RX3 18 "AnalogDays$States" "count" "I", Cond.methodLink RX5 48 yX5_refuseBad, Cond.instanceMethod yX5_refuseBad, Cond.selects RX5 yX5_refuseBad yX5_refuseBad, Cond.initialized RX5, Cond.code yX5_refuseBad cX5_refuseBad 2 (some .int)]
def wsX5_told : List Cond := .code yX5_told cX5_told 2 (some .int) :: ((wsX5_told_r1 ++ wsX5_told_r2) ++ wsX50 ++ wsX40 ++ wsX00 ++ wsX30)
def wsX5_digest_r1 : List Cond := [Cond.constantLong RX5 209 (2161), Cond.constantLong RX5 211 (31), Cond.fieldLink RX5 10 "AnalogDays" "book" "LAnalogDays$Book;", Cond.methodLink RX5 213 yX5_told, Cond.instanceMethod yX5_told, Cond.selects RX5 yX5_told yX5_told, Cond.initialized RX5, Cond.code yX5_told cX5_told 2 (some .int), Cond.fieldLink RX5 200 "AnalogDays" "timesBad" "I", Cond.fieldLink RX5 189 "AnalogDays" "timesNo" "I", Cond.fieldLink RX5 203 "AnalogDays" "timesFull" "I", Cond.fieldLink RX5 40 "AnalogDays" "text" "LAnalogDays$Text;", Cond.fieldLink RX5 19 "AnalogDays" "states" "LAnalogDays$States;", Cond.methodLink RX5 169 yX4_length, Cond.instanceMethod yX4_length, Cond.selects RX4 yX4_length yX4_length, Cond.initialized RX4, Cond.code yX4_length cX4_length 1 (some .int), Cond.fieldLink RX4 18 "AnalogDays$Text" "length" "I", Cond.methodLink RX5 52 yX0_days, Cond.instanceMethod yX0_days, Cond.selects RX0 yX0_days yX0_days, Cond.initialized RX0, Cond.code yX0_days cX0_days 1 (some .int)]
def wsX5_digest_r2 : List Cond := [Cond.fieldLink RX0 28 "AnalogDays$Book" "days" "I", Cond.methodLink RX5 206 yX0_gap, Cond.instanceMethod yX0_gap, Cond.selects RX0 yX0_gap yX0_gap, Cond.code yX0_gap cX0_gap 1 (some .int), Cond.fieldLink RX0 31 "AnalogDays$Book" "gap" "I", Cond.methodLink RX5 114 yX0_few, Cond.instanceMethod yX0_few, Cond.selects RX0 yX0_few yX0_few, Cond.code yX0_few cX0_few 1 (some .int), Cond.fieldLink RX0 24 "AnalogDays$Book" "few" "I", Cond.methodLink RX5 186 yX3_count, Cond.instanceMethod yX3_count, Cond.selects RX3 yX3_count yX3_count, Cond.initialized RX3, Cond.code yX3_count cX3_count 1 (some .int), Cond.fieldLink RX3 18 "AnalogDays$States" "count" "I", Cond.methodLink RX5 48 yX5_refuseBad, Cond.instanceMethod yX5_refuseBad, Cond.selects RX5 yX5_refuseBad yX5_refuseBad, Cond.code yX5_refuseBad cX5_refuseBad 2 (some .int), Cond.methodLink RX5 95 yX0_rule, Cond.instanceMethod yX0_rule, Cond.selects RX0 yX0_rule yX0_rule]
def wsX5_digest_r3 : List Cond := [Cond.code yX0_rule cX0_rule 2 (some .int), Cond.fieldLink RX0 15 "AnalogDays$Book" "weights" "[I", Cond.static yX5_isMember, Cond.code yX5_isMember cX5_isMember 1 (some .boolean), Cond.methodLink RX5 81 yX5_isWithin, Cond.static yX5_isWithin, Cond.code yX5_isWithin cX5_isWithin 3 (some .boolean), Cond.methodLink RX5 72 yX0_member, Cond.instanceMethod yX0_member, Cond.selects RX0 yX0_member yX0_member, Cond.code yX0_member cX0_member 3 (some .int), Cond.fieldLink RX0 9 "AnalogDays$Book" "notes" "[I", Cond.methodLink RX0 34 yX0_has, Cond.instanceMethod yX0_has, Cond.selects RX0 yX0_has yX0_has, Cond.code yX0_has cX0_has 2 (some .boolean), Cond.methodLink RX5 216 yX5_nearest, Cond.instanceMethod yX5_nearest, Cond.selects RX5 yX5_nearest yX5_nearest, Cond.code yX5_nearest cX5_nearest 5 (some .int), Cond.fieldLink RX5 26 "AnalogDays" "likeness" "LAnalogDays$Likeness;", Cond.methodLink RX5 66 yX0_has, Cond.methodLink RX5 102 yX2_learn, Cond.instanceMethod yX2_learn]
def wsX5_digest_r4 : List Cond := [Cond.selects RX2 yX2_learn yX2_learn, Cond.initialized RX2, Cond.code yX2_learn cX2_learn 6 none, Cond.fieldLink RX2 35 "AnalogDays$Likeness" "learnt" "I", Cond.methodLink RX2 45 Lib.Math.min.name, Cond.static Lib.Math.min.name, Cond.initialized "java/lang/Math", Cond.code Lib.Math.min.name Lib.Math.min.code 2 (some .int), Cond.fieldLink RX2 51 "AnalogDays$Likeness" "days" "I", Cond.fieldLink RX2 19 "AnalogDays$Likeness" "weights" "[F", Cond.constantFloat RX2 61 (1090519040), Cond.fieldLink RX2 22 "AnalogDays$Likeness" "distances" "[F", Cond.methodLink RX2 39 yX0_days, Cond.methodLink RX2 53 yX2_takeNotes, Cond.instanceMethod yX2_takeNotes, Cond.selects RX2 yX2_takeNotes yX2_takeNotes, Cond.code yX2_takeNotes cX2_takeNotes 5 none, Cond.fieldLink RX2 15 "AnalogDays$Likeness" "noted" "[Z", Cond.fieldLink RX2 9 "AnalogDays$Likeness" "values" "[F", Cond.methodLink RX2 84 yX0_member, Cond.static yX5_valueOf, Cond.code yX5_valueOf cX5_valueOf 1 (some .float), Cond.constantFloat RX5 234 (1092616192), Cond.methodLink RX2 57 yX0_rule]
def wsX5_digest_r5 : List Cond := [Cond.methodLink RX2 62 yX2_measure, Cond.instanceMethod yX2_measure, Cond.selects RX2 yX2_measure yX2_measure, Cond.code yX2_measure cX2_measure 9 (some .float), Cond.constantFloat RX2 77 (3212836864), Cond.methodLink RX2 66 yX0_gap, Cond.methodLink RX2 69 yX2_rank, Cond.instanceMethod yX2_rank, Cond.selects RX2 yX2_rank yX2_rank, Cond.code yX2_rank cX2_rank 8 none, Cond.methodLink RX2 91 Lib.Math.abs.name, Cond.static Lib.Math.abs.name, Cond.code Lib.Math.abs.name Lib.Math.abs.code 1 (some .int), Cond.fieldLink RX2 32 "AnalogDays$Likeness" "likeCounts" "[I", Cond.fieldLink RX2 29 "AnalogDays$Likeness" "nearCounts" "[I", Cond.methodLink RX2 94 yX2_enter, Cond.instanceMethod yX2_enter, Cond.selects RX2 yX2_enter yX2_enter, Cond.code yX2_enter cX2_enter 7 (some .int), Cond.fieldLink RX2 25 "AnalogDays$Likeness" "nearDays" "[I", Cond.methodLink RX2 98 yX2_between, Cond.instanceMethod yX2_between, Cond.selects RX2 yX2_between yX2_between, Cond.code yX2_between cX2_between 3 (some .float)]
def wsX5_digest_r6 : List Cond := [Cond.methodLink RX2 73 yX2_has, Cond.instanceMethod yX2_has, Cond.selects RX2 yX2_has yX2_has, Cond.code yX2_has cX2_has 2 (some .boolean), Cond.methodLink RX5 117 yX2_nearOnes, Cond.instanceMethod yX2_nearOnes, Cond.selects RX2 yX2_nearOnes yX2_nearOnes, Cond.code yX2_nearOnes cX2_nearOnes 3 (some .int), Cond.methodLink RX5 120 yX2_near, Cond.instanceMethod yX2_near, Cond.selects RX2 yX2_near yX2_near, Cond.code yX2_near cX2_near 3 (some .int), Cond.methodLink RX5 106 yX2_between, Cond.methodLink RX5 110 yX5_bitsOrNone, Cond.static yX5_bitsOrNone, Cond.code yX5_bitsOrNone cX5_bitsOrNone 1 (some .int), Cond.methodLink RX5 153 yX5_floatBits, Cond.static yX5_floatBits, Cond.code yX5_floatBits cX5_floatBits 4 (some .int), Cond.constantFloat RX5 235 (1258291200), Cond.constant RX5 238 (-2147483648), Cond.methodLink RX5 220 yX5_errs, Cond.instanceMethod yX5_errs, Cond.selects RX5 yX5_errs yX5_errs]
def wsX5_digest_r7 : List Cond := [Cond.code yX5_errs cX5_errs 2 (some .int), Cond.methodLink RX5 69 yX5_isMember, Cond.methodLink RX5 166 yX5_meanError, Cond.instanceMethod yX5_meanError, Cond.selects RX5 yX5_meanError yX5_meanError, Cond.code yX5_meanError cX5_meanError 8 (some .float), Cond.fieldLink RX5 33 "AnalogDays" "followers" "LAnalogDays$Followers;", Cond.constantFloat RX5 129 (3212836864), Cond.methodLink RX5 226 yX1_gather, Cond.instanceMethod yX1_gather, Cond.selects RX1 yX1_gather yX1_gather, Cond.initialized RX1, Cond.code yX1_gather cX1_gather 9 none, Cond.fieldLink RX1 22 "AnalogDays$Followers" "size" "I", Cond.methodLink RX1 26 yX2_nearOnes, Cond.methodLink RX1 32 yX2_near, Cond.methodLink RX1 35 yX0_member, Cond.methodLink RX1 40 yX2_between, Cond.methodLink RX1 44 yX1_add, Cond.instanceMethod yX1_add, Cond.selects RX1 yX1_add yX1_add, Cond.code yX1_add cX1_add 4 none, Cond.fieldLink RX1 9 "AnalogDays$Followers" "tenths" "[I", Cond.fieldLink RX1 15 "AnalogDays$Followers" "distances" "[F"]
def wsX5_digest_r8 : List Cond := [Cond.fieldLink RX1 19 "AnalogDays$Followers" "sorted" "[I", Cond.methodLink RX5 137 yX1_size, Cond.instanceMethod yX1_size, Cond.selects RX1 yX1_size yX1_size, Cond.code yX1_size cX1_size 1 (some .int), Cond.methodLink RX5 149 yX1_meanValue, Cond.instanceMethod yX1_meanValue, Cond.selects RX1 yX1_meanValue yX1_meanValue, Cond.code yX1_meanValue cX1_meanValue 4 (some .float), Cond.methodLink RX5 230 yX5_valueOf]
def wsX5_digest : List Cond := .code yX5_digest cX5_digest 5 (some .long) :: ((wsX5_digest_r1 ++ (wsX5_digest_r2 ++ (wsX5_digest_r3 ++ (wsX5_digest_r4 ++ (wsX5_digest_r5 ++ (wsX5_digest_r6 ++ (wsX5_digest_r7 ++ wsX5_digest_r8))))))) ++ wsX50 ++ wsX40 ++ wsX00 ++ wsX30 ++ wsX20 ++ wsX10)
def wsX6_bad : List Cond := .code yX6_bad cX6_bad 1 (some .int) :: ([.fieldLink RX6 1 "AnalogDaysModel" "refused" "[I"] ++ wsX60)
def wsX6_badly : List Cond := .code yX6_badly cX6_badly 1 (some .int) :: ([.fieldLink RX6 1 "AnalogDaysModel" "refused" "[I"] ++ wsX60)
def wsX6_full : List Cond := .code yX6_full cX6_full 1 (some .int) :: ([.fieldLink RX6 1 "AnalogDaysModel" "refused" "[I"] ++ wsX60)
def wsX6_in : List Cond := .code yX6_in cX6_in 3 (some .boolean) :: ([])
def wsX6_init : List Cond := .code yX6_init cX6_init 2 none :: ([.methodLink RX6 7 objectInit, .instanceMethod objectInit, .code objectInit ⟨#[0xb1]⟩ 1 none, .arrayClass .int, .fieldLink RX6 1 "AnalogDaysModel" "refused" "[I", .fieldLink RX6 13 "AnalogDaysModel" "rules" "[I", .fieldLink RX6 16 "AnalogDaysModel" "days" "[I", .fieldLink RX6 19 "AnalogDaysModel" "kept" "[I", .fieldLink RX6 22 "AnalogDaysModel" "nearest" "[I", .arrayClass .float, .fieldLink RX6 25 "AnalogDaysModel" "nearBy" "[F", .fieldLink RX6 29 "AnalogDaysModel" "follower" "[I", .fieldLink RX6 32 "AnalogDaysModel" "followedBy" "[F", .fieldLink RX6 35 "AnalogDaysModel" "sorted" "[I", .fieldLink RX6 38 "AnalogDaysModel" "text" "[I", .fieldLink RX6 41 "AnalogDaysModel" "read" "[I"] ++ wsX60)
def wsX6_isNoted : List Cond := .code yX6_isNoted cX6_isNoted 1 (some .boolean) :: ([])
def wsX6_may : List Cond := .code yX6_may cX6_may 1 (some .boolean) :: ([.methodLink RX6 44 yX6_in, .static yX6_in, .initialized RX6, .code yX6_in cX6_in 3 (some .boolean)])
def wsX6_isDay : List Cond := .code yX6_isDay cX6_isDay 2 (some .boolean) :: ([.fieldLink RX6 48 "AnalogDaysModel" "many" "I", .methodLink RX6 44 yX6_in, .static yX6_in, .initialized RX6, .code yX6_in cX6_in 3 (some .boolean)] ++ wsX60)
def wsX6_isMember : List Cond := .code yX6_isMember cX6_isMember 1 (some .boolean) :: ([.methodLink RX6 44 yX6_in, .static yX6_in, .initialized RX6, .code yX6_in cX6_in 3 (some .boolean)])
def wsX6_leavesState : List Cond := .code yX6_leavesState cX6_leavesState 3 none :: ([.fieldLink RX6 52 "AnalogDaysModel" "states" "I", .fieldLink RX6 19 "AnalogDaysModel" "kept" "[I", .fieldLink RX6 48 "AnalogDaysModel" "many" "I", .fieldLink RX6 13 "AnalogDaysModel" "rules" "[I", .fieldLink RX6 16 "AnalogDaysModel" "days" "[I"] ++ wsX60)
def wsX6_back : List Cond := .code yX6_back cX6_back 3 (some .int) :: ([.fieldLink RX6 52 "AnalogDaysModel" "states" "I", .fieldLink RX6 1 "AnalogDaysModel" "refused" "[I", .fieldLink RX6 19 "AnalogDaysModel" "kept" "[I", .fieldLink RX6 48 "AnalogDaysModel" "many" "I", .fieldLink RX6 13 "AnalogDaysModel" "rules" "[I", .fieldLink RX6 16 "AnalogDaysModel" "days" "[I"] ++ wsX60)
def wsX6_comes : List Cond := .code yX6_comes cX6_comes 5 none :: ([.fieldLink RX6 16 "AnalogDaysModel" "days" "[I", .fieldLink RX6 48 "AnalogDaysModel" "many" "I"] ++ wsX60)
def wsX6_day_r1 : List Cond := [Cond.fieldLink RX6 48 "AnalogDaysModel" "many" "I", Cond.methodLink RX6 55 yX6_may, Cond.static yX6_may, Cond.initialized RX6, Cond.code yX6_may cX6_may 1 (some .boolean), Cond.methodLink RX6 44 yX6_in, Cond.static yX6_in, Cond.code yX6_in cX6_in 3 (some .boolean), Cond.methodLink RX6 59 yX6_bad, Cond.instanceMethod yX6_bad, Cond.selects RX6 yX6_bad yX6_bad, Cond.code yX6_bad cX6_bad 1 (some .int), Cond.fieldLink RX6 1 "AnalogDaysModel" "refused" "[I", Cond.methodLink RX6 63 yX6_full, Cond.instanceMethod yX6_full, Cond.selects RX6 yX6_full yX6_full, Cond.code yX6_full cX6_full 1 (some .int), Cond.methodLink RX6 66 yX6_leavesState, Cond.instanceMethod yX6_leavesState, Cond.selects RX6 yX6_leavesState yX6_leavesState, Cond.code yX6_leavesState cX6_leavesState 3 none, Cond.fieldLink RX6 52 "AnalogDaysModel" "states" "I", Cond.fieldLink RX6 19 "AnalogDaysModel" "kept" "[I", Cond.fieldLink RX6 13 "AnalogDaysModel" "rules" "[I"]
def wsX6_day_r2 : List Cond := [Cond.fieldLink RX6 16 "AnalogDaysModel" "days" "[I", Cond.methodLink RX6 69 yX6_comes, Cond.instanceMethod yX6_comes, Cond.selects RX6 yX6_comes yX6_comes, Cond.code yX6_comes cX6_comes 5 none]
def wsX6_day : List Cond := .code yX6_day cX6_day 5 (some .int) :: ((wsX6_day_r1 ++ wsX6_day_r2) ++ wsX60)
def wsX6_sets_r1 : List Cond := [Cond.fieldLink RX6 16 "AnalogDaysModel" "days" "[I", Cond.methodLink RX6 73 yX6_isDay, Cond.instanceMethod yX6_isDay, Cond.selects RX6 yX6_isDay yX6_isDay, Cond.initialized RX6, Cond.code yX6_isDay cX6_isDay 2 (some .boolean), Cond.fieldLink RX6 48 "AnalogDaysModel" "many" "I", Cond.methodLink RX6 44 yX6_in, Cond.static yX6_in, Cond.code yX6_in cX6_in 3 (some .boolean), Cond.methodLink RX6 76 yX6_isMember, Cond.static yX6_isMember, Cond.code yX6_isMember cX6_isMember 1 (some .boolean), Cond.methodLink RX6 55 yX6_may, Cond.static yX6_may, Cond.code yX6_may cX6_may 1 (some .boolean), Cond.methodLink RX6 79 yX6_badly, Cond.instanceMethod yX6_badly, Cond.selects RX6 yX6_badly yX6_badly, Cond.code yX6_badly cX6_badly 1 (some .int), Cond.fieldLink RX6 1 "AnalogDaysModel" "refused" "[I", Cond.methodLink RX6 66 yX6_leavesState, Cond.instanceMethod yX6_leavesState, Cond.selects RX6 yX6_leavesState yX6_leavesState]
def wsX6_sets_r2 : List Cond := [Cond.code yX6_leavesState cX6_leavesState 3 none, Cond.fieldLink RX6 52 "AnalogDaysModel" "states" "I", Cond.fieldLink RX6 19 "AnalogDaysModel" "kept" "[I", Cond.fieldLink RX6 13 "AnalogDaysModel" "rules" "[I"]
def wsX6_sets : List Cond := .code yX6_sets cX6_sets 5 (some .int) :: ((wsX6_sets_r1 ++ wsX6_sets_r2) ++ wsX60)
def wsX6_before : List Cond := .code yX6_before cX6_before 3 (some .int) :: ([.fieldLink RX6 16 "AnalogDaysModel" "days" "[I"] ++ wsX60)
def wsX6_draw_r1 : List Cond := [Cond.constant RX6 82 (999999), Cond.fieldLink RX6 48 "AnalogDaysModel" "many" "I", Cond.constantLong RX6 83 (1103515245), Cond.constantLong RX6 85 (12345), Cond.constantLong RX6 87 (2147483648), Cond.constantLong RX6 89 (65536), Cond.constantLong RX6 91 (16), Cond.fieldLink RX6 16 "AnalogDaysModel" "days" "[I", Cond.constantLong RX6 97 (1024), Cond.constantLong RX6 99 (41), Cond.methodLink RX6 44 yX6_in, Cond.static yX6_in, Cond.initialized RX6, Cond.code yX6_in cX6_in 3 (some .boolean), Cond.methodLink RX6 59 yX6_bad, Cond.instanceMethod yX6_bad, Cond.selects RX6 yX6_bad yX6_bad, Cond.code yX6_bad cX6_bad 1 (some .int), Cond.fieldLink RX6 1 "AnalogDaysModel" "refused" "[I", Cond.methodLink RX6 66 yX6_leavesState, Cond.instanceMethod yX6_leavesState, Cond.selects RX6 yX6_leavesState yX6_leavesState, Cond.code yX6_leavesState cX6_leavesState 3 none, Cond.fieldLink RX6 52 "AnalogDaysModel" "states" "I"]
def wsX6_draw_r2 : List Cond := [Cond.fieldLink RX6 19 "AnalogDaysModel" "kept" "[I", Cond.fieldLink RX6 13 "AnalogDaysModel" "rules" "[I", Cond.methodLink RX6 93 yX6_before, Cond.instanceMethod yX6_before, Cond.selects RX6 yX6_before yX6_before, Cond.code yX6_before cX6_before 3 (some .int)]
def wsX6_draw : List Cond := .code yX6_draw cX6_draw 8 (some .int) :: ((wsX6_draw_r1 ++ wsX6_draw_r2) ++ wsX60)
def wsX6_empties : List Cond := .code yX6_empties cX6_empties 2 (some .int) :: ([.fieldLink RX6 48 "AnalogDaysModel" "many" "I", .methodLink RX6 66 yX6_leavesState, .instanceMethod yX6_leavesState, .selects RX6 yX6_leavesState yX6_leavesState, .initialized RX6, .code yX6_leavesState cX6_leavesState 3 none, .fieldLink RX6 52 "AnalogDaysModel" "states" "I", .fieldLink RX6 19 "AnalogDaysModel" "kept" "[I", .fieldLink RX6 13 "AnalogDaysModel" "rules" "[I", .fieldLink RX6 16 "AnalogDaysModel" "days" "[I"] ++ wsX60)
def wsX6_rules : List Cond := .code yX6_rules cX6_rules 5 (some .int) :: ([.fieldLink RX6 13 "AnalogDaysModel" "rules" "[I", .methodLink RX6 44 yX6_in, .static yX6_in, .initialized RX6, .code yX6_in cX6_in 3 (some .boolean), .methodLink RX6 76 yX6_isMember, .static yX6_isMember, .code yX6_isMember cX6_isMember 1 (some .boolean), .methodLink RX6 59 yX6_bad, .instanceMethod yX6_bad, .selects RX6 yX6_bad yX6_bad, .code yX6_bad cX6_bad 1 (some .int), .fieldLink RX6 1 "AnalogDaysModel" "refused" "[I", .methodLink RX6 66 yX6_leavesState, .instanceMethod yX6_leavesState, .selects RX6 yX6_leavesState yX6_leavesState, .code yX6_leavesState cX6_leavesState 3 none, .fieldLink RX6 52 "AnalogDaysModel" "states" "I", .fieldLink RX6 19 "AnalogDaysModel" "kept" "[I", .fieldLink RX6 48 "AnalogDaysModel" "many" "I", .fieldLink RX6 16 "AnalogDaysModel" "days" "[I"] ++ wsX60)
def wsX6_at : List Cond := .code yX6_at cX6_at 3 (some .int) :: ([.fieldLink RX6 16 "AnalogDaysModel" "days" "[I", .methodLink RX6 73 yX6_isDay, .instanceMethod yX6_isDay, .selects RX6 yX6_isDay yX6_isDay, .initialized RX6, .code yX6_isDay cX6_isDay 2 (some .boolean), .fieldLink RX6 48 "AnalogDaysModel" "many" "I", .methodLink RX6 44 yX6_in, .static yX6_in, .code yX6_in cX6_in 3 (some .boolean), .methodLink RX6 76 yX6_isMember, .static yX6_isMember, .code yX6_isMember cX6_isMember 1 (some .boolean), .methodLink RX6 79 yX6_badly, .instanceMethod yX6_badly, .selects RX6 yX6_badly yX6_badly, .code yX6_badly cX6_badly 1 (some .int), .fieldLink RX6 1 "AnalogDaysModel" "refused" "[I"] ++ wsX60)
def wsX6_value : List Cond := .code yX6_value cX6_value 1 (some .float) :: ([.constantFloat RX6 101 (1092616192)])
def wsX6_distanceOf : List Cond := .code yX6_distanceOf cX6_distanceOf 12 (some .float) :: ([.fieldLink RX6 102 "AnalogDaysModel" "compared" "Z", .fieldLink RX6 16 "AnalogDaysModel" "days" "[I", .fieldLink RX6 13 "AnalogDaysModel" "rules" "[I", .constantFloat RX6 109 (1090519040), .methodLink RX6 106 yX6_isNoted, .static yX6_isNoted, .initialized RX6, .code yX6_isNoted cX6_isNoted 1 (some .boolean), .methodLink RX6 110 yX6_value, .static yX6_value, .code yX6_value cX6_value 1 (some .float), .constantFloat RX6 101 (1092616192)] ++ wsX60)
def wsJxf58ca_isNaN_12338 : List Cond := .code yJxf58ca_isNaN_12338 cJxf58ca_isNaN_12338 1 (some .boolean) :: ([])
def wsJxf58ca_floatToIntBits_5c35a : List Cond := .code yJxf58ca_floatToIntBits_5c35a cJxf58ca_floatToIntBits_5c35a 1 (some .int) :: ([.methodLink RJxf58ca 74 ⟨"java/lang/Float", "floatToRawIntBits", "(F)I"⟩, .native ⟨"java/lang/Float", "floatToRawIntBits", "(F)I"⟩, .static ⟨"java/lang/Float", "floatToRawIntBits", "(F)I"⟩, .initialized "java/lang/Float", .constant RJxf58ca 77 (2143289344), .methodLink RJxf58ca 59 yJxf58ca_isNaN_12338, .static yJxf58ca_isNaN_12338, .initialized RJxf58ca, .code yJxf58ca_isNaN_12338 cJxf58ca_isNaN_12338 1 (some .boolean)])
def wsX6_distance_r1 : List Cond := [Cond.fieldLink RX6 102 "AnalogDaysModel" "compared" "Z", Cond.methodLink RX6 73 yX6_isDay, Cond.instanceMethod yX6_isDay, Cond.selects RX6 yX6_isDay yX6_isDay, Cond.initialized RX6, Cond.code yX6_isDay cX6_isDay 2 (some .boolean), Cond.fieldLink RX6 48 "AnalogDaysModel" "many" "I", Cond.methodLink RX6 44 yX6_in, Cond.static yX6_in, Cond.code yX6_in cX6_in 3 (some .boolean), Cond.methodLink RX6 59 yX6_bad, Cond.instanceMethod yX6_bad, Cond.selects RX6 yX6_bad yX6_bad, Cond.code yX6_bad cX6_bad 1 (some .int), Cond.fieldLink RX6 1 "AnalogDaysModel" "refused" "[I", Cond.methodLink RX6 114 yX6_distanceOf, Cond.instanceMethod yX6_distanceOf, Cond.selects RX6 yX6_distanceOf yX6_distanceOf, Cond.code yX6_distanceOf cX6_distanceOf 12 (some .float), Cond.fieldLink RX6 16 "AnalogDaysModel" "days" "[I", Cond.fieldLink RX6 13 "AnalogDaysModel" "rules" "[I", Cond.constantFloat RX6 109 (1090519040), Cond.methodLink RX6 106 yX6_isNoted, Cond.static yX6_isNoted]
def wsX6_distance_r2 : List Cond := [Cond.code yX6_isNoted cX6_isNoted 1 (some .boolean), Cond.methodLink RX6 110 yX6_value, Cond.static yX6_value, Cond.code yX6_value cX6_value 1 (some .float), Cond.constantFloat RX6 101 (1092616192), Cond.methodLink RX6 118 yJxf58ca_floatToIntBits_5c35a, Cond.static yJxf58ca_floatToIntBits_5c35a, Cond.initialized RJxf58ca, Cond.code yJxf58ca_floatToIntBits_5c35a cJxf58ca_floatToIntBits_5c35a 1 (some .int), Cond.methodLink RJxf58ca 74 ⟨"java/lang/Float", "floatToRawIntBits", "(F)I"⟩, Cond.native ⟨"java/lang/Float", "floatToRawIntBits", "(F)I"⟩, Cond.static ⟨"java/lang/Float", "floatToRawIntBits", "(F)I"⟩, Cond.initialized "java/lang/Float", Cond.constant RJxf58ca 77 (2143289344), Cond.methodLink RJxf58ca 59 yJxf58ca_isNaN_12338, Cond.static yJxf58ca_isNaN_12338, Cond.code yJxf58ca_isNaN_12338 cJxf58ca_isNaN_12338 1 (some .boolean)]
def wsX6_distance : List Cond := .code yX6_distance cX6_distance 4 (some .int) :: ((wsX6_distance_r1 ++ wsX6_distance_r2) ++ wsX60)
def wsX6_mayBeLike : List Cond := .code yX6_mayBeLike cX6_mayBeLike 4 (some .boolean) :: ([.fieldLink RX6 13 "AnalogDaysModel" "rules" "[I", .fieldLink RX6 48 "AnalogDaysModel" "many" "I"] ++ wsX60)
def wsX6_setLike : List Cond := .code yX6_setLike cX6_setLike 5 none :: ([.fieldLink RX6 124 "AnalogDaysModel" "near" "I", .fieldLink RX6 48 "AnalogDaysModel" "many" "I", .fieldLink RX6 102 "AnalogDaysModel" "compared" "Z", .fieldLink RX6 25 "AnalogDaysModel" "nearBy" "[F", .fieldLink RX6 22 "AnalogDaysModel" "nearest" "[I", .methodLink RX6 127 yX6_mayBeLike, .instanceMethod yX6_mayBeLike, .selects RX6 yX6_mayBeLike yX6_mayBeLike, .initialized RX6, .code yX6_mayBeLike cX6_mayBeLike 4 (some .boolean), .fieldLink RX6 13 "AnalogDaysModel" "rules" "[I", .methodLink RX6 114 yX6_distanceOf, .instanceMethod yX6_distanceOf, .selects RX6 yX6_distanceOf yX6_distanceOf, .code yX6_distanceOf cX6_distanceOf 12 (some .float), .fieldLink RX6 16 "AnalogDaysModel" "days" "[I", .constantFloat RX6 109 (1090519040), .methodLink RX6 106 yX6_isNoted, .static yX6_isNoted, .code yX6_isNoted cX6_isNoted 1 (some .boolean), .methodLink RX6 110 yX6_value, .static yX6_value, .code yX6_value cX6_value 1 (some .float), .constantFloat RX6 101 (1092616192)] ++ wsX60)
def wsX6_setNearest_r1 : List Cond := [Cond.fieldLink RX6 124 "AnalogDaysModel" "near" "I", Cond.fieldLink RX6 13 "AnalogDaysModel" "rules" "[I", Cond.methodLink RX6 131 yX6_setLike, Cond.instanceMethod yX6_setLike, Cond.selects RX6 yX6_setLike yX6_setLike, Cond.initialized RX6, Cond.code yX6_setLike cX6_setLike 5 none, Cond.fieldLink RX6 48 "AnalogDaysModel" "many" "I", Cond.fieldLink RX6 102 "AnalogDaysModel" "compared" "Z", Cond.fieldLink RX6 25 "AnalogDaysModel" "nearBy" "[F", Cond.fieldLink RX6 22 "AnalogDaysModel" "nearest" "[I", Cond.methodLink RX6 127 yX6_mayBeLike, Cond.instanceMethod yX6_mayBeLike, Cond.selects RX6 yX6_mayBeLike yX6_mayBeLike, Cond.code yX6_mayBeLike cX6_mayBeLike 4 (some .boolean), Cond.methodLink RX6 114 yX6_distanceOf, Cond.instanceMethod yX6_distanceOf, Cond.selects RX6 yX6_distanceOf yX6_distanceOf, Cond.code yX6_distanceOf cX6_distanceOf 12 (some .float), Cond.fieldLink RX6 16 "AnalogDaysModel" "days" "[I", Cond.constantFloat RX6 109 (1090519040), Cond.methodLink RX6 106 yX6_isNoted, Cond.static yX6_isNoted, Cond.code yX6_isNoted cX6_isNoted 1 (some .boolean)]
def wsX6_setNearest_r2 : List Cond := [Cond.methodLink RX6 110 yX6_value, Cond.static yX6_value, Cond.code yX6_value cX6_value 1 (some .float), Cond.constantFloat RX6 101 (1092616192)]
def wsX6_setNearest : List Cond := .code yX6_setNearest cX6_setNearest 2 none :: ((wsX6_setNearest_r1 ++ wsX6_setNearest_r2) ++ wsX60)
def wsX6_nearest_r1 : List Cond := [Cond.fieldLink RX6 124 "AnalogDaysModel" "near" "I", Cond.fieldLink RX6 22 "AnalogDaysModel" "nearest" "[I", Cond.fieldLink RX6 25 "AnalogDaysModel" "nearBy" "[F", Cond.methodLink RX6 73 yX6_isDay, Cond.instanceMethod yX6_isDay, Cond.selects RX6 yX6_isDay yX6_isDay, Cond.initialized RX6, Cond.code yX6_isDay cX6_isDay 2 (some .boolean), Cond.fieldLink RX6 48 "AnalogDaysModel" "many" "I", Cond.methodLink RX6 44 yX6_in, Cond.static yX6_in, Cond.code yX6_in cX6_in 3 (some .boolean), Cond.methodLink RX6 59 yX6_bad, Cond.instanceMethod yX6_bad, Cond.selects RX6 yX6_bad yX6_bad, Cond.code yX6_bad cX6_bad 1 (some .int), Cond.fieldLink RX6 1 "AnalogDaysModel" "refused" "[I", Cond.methodLink RX6 135 yX6_setNearest, Cond.instanceMethod yX6_setNearest, Cond.selects RX6 yX6_setNearest yX6_setNearest, Cond.code yX6_setNearest cX6_setNearest 2 none, Cond.fieldLink RX6 13 "AnalogDaysModel" "rules" "[I", Cond.methodLink RX6 131 yX6_setLike, Cond.instanceMethod yX6_setLike]
def wsX6_nearest_r2 : List Cond := [Cond.selects RX6 yX6_setLike yX6_setLike, Cond.code yX6_setLike cX6_setLike 5 none, Cond.fieldLink RX6 102 "AnalogDaysModel" "compared" "Z", Cond.methodLink RX6 127 yX6_mayBeLike, Cond.instanceMethod yX6_mayBeLike, Cond.selects RX6 yX6_mayBeLike yX6_mayBeLike, Cond.code yX6_mayBeLike cX6_mayBeLike 4 (some .boolean), Cond.methodLink RX6 114 yX6_distanceOf, Cond.instanceMethod yX6_distanceOf, Cond.selects RX6 yX6_distanceOf yX6_distanceOf, Cond.code yX6_distanceOf cX6_distanceOf 12 (some .float), Cond.fieldLink RX6 16 "AnalogDaysModel" "days" "[I", Cond.constantFloat RX6 109 (1090519040), Cond.methodLink RX6 106 yX6_isNoted, Cond.static yX6_isNoted, Cond.code yX6_isNoted cX6_isNoted 1 (some .boolean), Cond.methodLink RX6 110 yX6_value, Cond.static yX6_value, Cond.code yX6_value cX6_value 1 (some .float), Cond.constantFloat RX6 101 (1092616192), Cond.methodLink RX6 118 yJxf58ca_floatToIntBits_5c35a, Cond.static yJxf58ca_floatToIntBits_5c35a, Cond.initialized RJxf58ca, Cond.code yJxf58ca_floatToIntBits_5c35a cJxf58ca_floatToIntBits_5c35a 1 (some .int)]
def wsX6_nearest_r3 : List Cond := [Cond.methodLink RJxf58ca 74 ⟨"java/lang/Float", "floatToRawIntBits", "(F)I"⟩, Cond.native ⟨"java/lang/Float", "floatToRawIntBits", "(F)I"⟩, Cond.static ⟨"java/lang/Float", "floatToRawIntBits", "(F)I"⟩, Cond.initialized "java/lang/Float", Cond.constant RJxf58ca 77 (2143289344), Cond.methodLink RJxf58ca 59 yJxf58ca_isNaN_12338, Cond.static yJxf58ca_isNaN_12338, Cond.code yJxf58ca_isNaN_12338 cJxf58ca_isNaN_12338 1 (some .boolean)]
def wsX6_nearest : List Cond := .code yX6_nearest cX6_nearest 4 (some .int) :: ((wsX6_nearest_r1 ++ (wsX6_nearest_r2 ++ wsX6_nearest_r3)) ++ wsX60)
def wsX6_likes_r1 : List Cond := [Cond.fieldLink RX6 124 "AnalogDaysModel" "near" "I", Cond.methodLink RX6 73 yX6_isDay, Cond.instanceMethod yX6_isDay, Cond.selects RX6 yX6_isDay yX6_isDay, Cond.initialized RX6, Cond.code yX6_isDay cX6_isDay 2 (some .boolean), Cond.fieldLink RX6 48 "AnalogDaysModel" "many" "I", Cond.methodLink RX6 44 yX6_in, Cond.static yX6_in, Cond.code yX6_in cX6_in 3 (some .boolean), Cond.methodLink RX6 59 yX6_bad, Cond.instanceMethod yX6_bad, Cond.selects RX6 yX6_bad yX6_bad, Cond.code yX6_bad cX6_bad 1 (some .int), Cond.fieldLink RX6 1 "AnalogDaysModel" "refused" "[I", Cond.methodLink RX6 131 yX6_setLike, Cond.instanceMethod yX6_setLike, Cond.selects RX6 yX6_setLike yX6_setLike, Cond.code yX6_setLike cX6_setLike 5 none, Cond.fieldLink RX6 102 "AnalogDaysModel" "compared" "Z", Cond.fieldLink RX6 25 "AnalogDaysModel" "nearBy" "[F", Cond.fieldLink RX6 22 "AnalogDaysModel" "nearest" "[I", Cond.methodLink RX6 127 yX6_mayBeLike, Cond.instanceMethod yX6_mayBeLike]
def wsX6_likes_r2 : List Cond := [Cond.selects RX6 yX6_mayBeLike yX6_mayBeLike, Cond.code yX6_mayBeLike cX6_mayBeLike 4 (some .boolean), Cond.fieldLink RX6 13 "AnalogDaysModel" "rules" "[I", Cond.methodLink RX6 114 yX6_distanceOf, Cond.instanceMethod yX6_distanceOf, Cond.selects RX6 yX6_distanceOf yX6_distanceOf, Cond.code yX6_distanceOf cX6_distanceOf 12 (some .float), Cond.fieldLink RX6 16 "AnalogDaysModel" "days" "[I", Cond.constantFloat RX6 109 (1090519040), Cond.methodLink RX6 106 yX6_isNoted, Cond.static yX6_isNoted, Cond.code yX6_isNoted cX6_isNoted 1 (some .boolean), Cond.methodLink RX6 110 yX6_value, Cond.static yX6_value, Cond.code yX6_value cX6_value 1 (some .float), Cond.constantFloat RX6 101 (1092616192)]
def wsX6_likes : List Cond := .code yX6_likes cX6_likes 2 (some .int) :: ((wsX6_likes_r1 ++ wsX6_likes_r2) ++ wsX60)
def wsX6_serves_r1 : List Cond := [Cond.fieldLink RX6 48 "AnalogDaysModel" "many" "I", Cond.fieldLink RX6 124 "AnalogDaysModel" "near" "I", Cond.fieldLink RX6 22 "AnalogDaysModel" "nearest" "[I", Cond.methodLink RX6 73 yX6_isDay, Cond.instanceMethod yX6_isDay, Cond.selects RX6 yX6_isDay yX6_isDay, Cond.initialized RX6, Cond.code yX6_isDay cX6_isDay 2 (some .boolean), Cond.methodLink RX6 44 yX6_in, Cond.static yX6_in, Cond.code yX6_in cX6_in 3 (some .boolean), Cond.methodLink RX6 59 yX6_bad, Cond.instanceMethod yX6_bad, Cond.selects RX6 yX6_bad yX6_bad, Cond.code yX6_bad cX6_bad 1 (some .int), Cond.fieldLink RX6 1 "AnalogDaysModel" "refused" "[I", Cond.methodLink RX6 135 yX6_setNearest, Cond.instanceMethod yX6_setNearest, Cond.selects RX6 yX6_setNearest yX6_setNearest, Cond.code yX6_setNearest cX6_setNearest 2 none, Cond.fieldLink RX6 13 "AnalogDaysModel" "rules" "[I", Cond.methodLink RX6 131 yX6_setLike, Cond.instanceMethod yX6_setLike, Cond.selects RX6 yX6_setLike yX6_setLike]
def wsX6_serves_r2 : List Cond := [Cond.code yX6_setLike cX6_setLike 5 none, Cond.fieldLink RX6 102 "AnalogDaysModel" "compared" "Z", Cond.fieldLink RX6 25 "AnalogDaysModel" "nearBy" "[F", Cond.methodLink RX6 127 yX6_mayBeLike, Cond.instanceMethod yX6_mayBeLike, Cond.selects RX6 yX6_mayBeLike yX6_mayBeLike, Cond.code yX6_mayBeLike cX6_mayBeLike 4 (some .boolean), Cond.methodLink RX6 114 yX6_distanceOf, Cond.instanceMethod yX6_distanceOf, Cond.selects RX6 yX6_distanceOf yX6_distanceOf, Cond.code yX6_distanceOf cX6_distanceOf 12 (some .float), Cond.fieldLink RX6 16 "AnalogDaysModel" "days" "[I", Cond.constantFloat RX6 109 (1090519040), Cond.methodLink RX6 106 yX6_isNoted, Cond.static yX6_isNoted, Cond.code yX6_isNoted cX6_isNoted 1 (some .boolean), Cond.methodLink RX6 110 yX6_value, Cond.static yX6_value, Cond.code yX6_value cX6_value 1 (some .float), Cond.constantFloat RX6 101 (1092616192)]
def wsX6_serves : List Cond := .code yX6_serves cX6_serves 5 (some .int) :: ((wsX6_serves_r1 ++ wsX6_serves_r2) ++ wsX60)
def wsX6_twins_r1 : List Cond := [Cond.fieldLink RX6 48 "AnalogDaysModel" "many" "I", Cond.fieldLink RX6 102 "AnalogDaysModel" "compared" "Z", Cond.methodLink RX6 44 yX6_in, Cond.static yX6_in, Cond.initialized RX6, Cond.code yX6_in cX6_in 3 (some .boolean), Cond.methodLink RX6 59 yX6_bad, Cond.instanceMethod yX6_bad, Cond.selects RX6 yX6_bad yX6_bad, Cond.code yX6_bad cX6_bad 1 (some .int), Cond.fieldLink RX6 1 "AnalogDaysModel" "refused" "[I", Cond.methodLink RX6 114 yX6_distanceOf, Cond.instanceMethod yX6_distanceOf, Cond.selects RX6 yX6_distanceOf yX6_distanceOf, Cond.code yX6_distanceOf cX6_distanceOf 12 (some .float), Cond.fieldLink RX6 16 "AnalogDaysModel" "days" "[I", Cond.fieldLink RX6 13 "AnalogDaysModel" "rules" "[I", Cond.constantFloat RX6 109 (1090519040), Cond.methodLink RX6 106 yX6_isNoted, Cond.static yX6_isNoted, Cond.code yX6_isNoted cX6_isNoted 1 (some .boolean), Cond.methodLink RX6 110 yX6_value, Cond.static yX6_value, Cond.code yX6_value cX6_value 1 (some .float)]
def wsX6_twins_r2 : List Cond := [Cond.constantFloat RX6 101 (1092616192), Cond.methodLink RX6 118 yJxf58ca_floatToIntBits_5c35a, Cond.static yJxf58ca_floatToIntBits_5c35a, Cond.initialized RJxf58ca, Cond.code yJxf58ca_floatToIntBits_5c35a cJxf58ca_floatToIntBits_5c35a 1 (some .int), Cond.methodLink RJxf58ca 74 ⟨"java/lang/Float", "floatToRawIntBits", "(F)I"⟩, Cond.native ⟨"java/lang/Float", "floatToRawIntBits", "(F)I"⟩, Cond.static ⟨"java/lang/Float", "floatToRawIntBits", "(F)I"⟩, Cond.initialized "java/lang/Float", Cond.constant RJxf58ca 77 (2143289344), Cond.methodLink RJxf58ca 59 yJxf58ca_isNaN_12338, Cond.static yJxf58ca_isNaN_12338, Cond.code yJxf58ca_isNaN_12338 cJxf58ca_isNaN_12338 1 (some .boolean)]
def wsX6_twins : List Cond := .code yX6_twins cX6_twins 8 (some .int) :: ((wsX6_twins_r1 ++ wsX6_twins_r2) ++ wsX60)
def wsX6_strangers_r1 : List Cond := [Cond.fieldLink RX6 48 "AnalogDaysModel" "many" "I", Cond.fieldLink RX6 102 "AnalogDaysModel" "compared" "Z", Cond.methodLink RX6 73 yX6_isDay, Cond.instanceMethod yX6_isDay, Cond.selects RX6 yX6_isDay yX6_isDay, Cond.initialized RX6, Cond.code yX6_isDay cX6_isDay 2 (some .boolean), Cond.methodLink RX6 44 yX6_in, Cond.static yX6_in, Cond.code yX6_in cX6_in 3 (some .boolean), Cond.methodLink RX6 59 yX6_bad, Cond.instanceMethod yX6_bad, Cond.selects RX6 yX6_bad yX6_bad, Cond.code yX6_bad cX6_bad 1 (some .int), Cond.fieldLink RX6 1 "AnalogDaysModel" "refused" "[I", Cond.methodLink RX6 114 yX6_distanceOf, Cond.instanceMethod yX6_distanceOf, Cond.selects RX6 yX6_distanceOf yX6_distanceOf, Cond.code yX6_distanceOf cX6_distanceOf 12 (some .float), Cond.fieldLink RX6 16 "AnalogDaysModel" "days" "[I", Cond.fieldLink RX6 13 "AnalogDaysModel" "rules" "[I", Cond.constantFloat RX6 109 (1090519040), Cond.methodLink RX6 106 yX6_isNoted, Cond.static yX6_isNoted]
def wsX6_strangers_r2 : List Cond := [Cond.code yX6_isNoted cX6_isNoted 1 (some .boolean), Cond.methodLink RX6 110 yX6_value, Cond.static yX6_value, Cond.code yX6_value cX6_value 1 (some .float), Cond.constantFloat RX6 101 (1092616192)]
def wsX6_strangers : List Cond := .code yX6_strangers cX6_strangers 4 (some .int) :: ((wsX6_strangers_r1 ++ wsX6_strangers_r2) ++ wsX60)
def wsX6_setFollowers_r1 : List Cond := [Cond.fieldLink RX6 138 "AnalogDaysModel" "followers" "I", Cond.fieldLink RX6 124 "AnalogDaysModel" "near" "I", Cond.fieldLink RX6 16 "AnalogDaysModel" "days" "[I", Cond.fieldLink RX6 22 "AnalogDaysModel" "nearest" "[I", Cond.fieldLink RX6 29 "AnalogDaysModel" "follower" "[I", Cond.fieldLink RX6 32 "AnalogDaysModel" "followedBy" "[F", Cond.fieldLink RX6 25 "AnalogDaysModel" "nearBy" "[F", Cond.fieldLink RX6 35 "AnalogDaysModel" "sorted" "[I", Cond.methodLink RX6 135 yX6_setNearest, Cond.instanceMethod yX6_setNearest, Cond.selects RX6 yX6_setNearest yX6_setNearest, Cond.initialized RX6, Cond.code yX6_setNearest cX6_setNearest 2 none, Cond.fieldLink RX6 13 "AnalogDaysModel" "rules" "[I", Cond.methodLink RX6 131 yX6_setLike, Cond.instanceMethod yX6_setLike, Cond.selects RX6 yX6_setLike yX6_setLike, Cond.code yX6_setLike cX6_setLike 5 none, Cond.fieldLink RX6 48 "AnalogDaysModel" "many" "I", Cond.fieldLink RX6 102 "AnalogDaysModel" "compared" "Z", Cond.methodLink RX6 127 yX6_mayBeLike, Cond.instanceMethod yX6_mayBeLike, Cond.selects RX6 yX6_mayBeLike yX6_mayBeLike, Cond.code yX6_mayBeLike cX6_mayBeLike 4 (some .boolean)]
def wsX6_setFollowers_r2 : List Cond := [Cond.methodLink RX6 114 yX6_distanceOf, Cond.instanceMethod yX6_distanceOf, Cond.selects RX6 yX6_distanceOf yX6_distanceOf, Cond.code yX6_distanceOf cX6_distanceOf 12 (some .float), Cond.constantFloat RX6 109 (1090519040), Cond.methodLink RX6 106 yX6_isNoted, Cond.static yX6_isNoted, Cond.code yX6_isNoted cX6_isNoted 1 (some .boolean), Cond.methodLink RX6 110 yX6_value, Cond.static yX6_value, Cond.code yX6_value cX6_value 1 (some .float), Cond.constantFloat RX6 101 (1092616192)]
def wsX6_setFollowers : List Cond := .code yX6_setFollowers cX6_setFollowers 5 none :: ((wsX6_setFollowers_r1 ++ wsX6_setFollowers_r2) ++ wsX60)
def wsX6_follows_r1 : List Cond := [Cond.fieldLink RX6 138 "AnalogDaysModel" "followers" "I", Cond.fieldLink RX6 35 "AnalogDaysModel" "sorted" "[I", Cond.methodLink RX6 73 yX6_isDay, Cond.instanceMethod yX6_isDay, Cond.selects RX6 yX6_isDay yX6_isDay, Cond.initialized RX6, Cond.code yX6_isDay cX6_isDay 2 (some .boolean), Cond.fieldLink RX6 48 "AnalogDaysModel" "many" "I", Cond.methodLink RX6 44 yX6_in, Cond.static yX6_in, Cond.code yX6_in cX6_in 3 (some .boolean), Cond.methodLink RX6 76 yX6_isMember, Cond.static yX6_isMember, Cond.code yX6_isMember cX6_isMember 1 (some .boolean), Cond.methodLink RX6 79 yX6_badly, Cond.instanceMethod yX6_badly, Cond.selects RX6 yX6_badly yX6_badly, Cond.code yX6_badly cX6_badly 1 (some .int), Cond.fieldLink RX6 1 "AnalogDaysModel" "refused" "[I", Cond.methodLink RX6 141 yX6_setFollowers, Cond.instanceMethod yX6_setFollowers, Cond.selects RX6 yX6_setFollowers yX6_setFollowers, Cond.code yX6_setFollowers cX6_setFollowers 5 none, Cond.fieldLink RX6 124 "AnalogDaysModel" "near" "I"]
def wsX6_follows_r2 : List Cond := [Cond.fieldLink RX6 16 "AnalogDaysModel" "days" "[I", Cond.fieldLink RX6 22 "AnalogDaysModel" "nearest" "[I", Cond.fieldLink RX6 29 "AnalogDaysModel" "follower" "[I", Cond.fieldLink RX6 32 "AnalogDaysModel" "followedBy" "[F", Cond.fieldLink RX6 25 "AnalogDaysModel" "nearBy" "[F", Cond.methodLink RX6 135 yX6_setNearest, Cond.instanceMethod yX6_setNearest, Cond.selects RX6 yX6_setNearest yX6_setNearest, Cond.code yX6_setNearest cX6_setNearest 2 none, Cond.fieldLink RX6 13 "AnalogDaysModel" "rules" "[I", Cond.methodLink RX6 131 yX6_setLike, Cond.instanceMethod yX6_setLike, Cond.selects RX6 yX6_setLike yX6_setLike, Cond.code yX6_setLike cX6_setLike 5 none, Cond.fieldLink RX6 102 "AnalogDaysModel" "compared" "Z", Cond.methodLink RX6 127 yX6_mayBeLike, Cond.instanceMethod yX6_mayBeLike, Cond.selects RX6 yX6_mayBeLike yX6_mayBeLike, Cond.code yX6_mayBeLike cX6_mayBeLike 4 (some .boolean), Cond.methodLink RX6 114 yX6_distanceOf, Cond.instanceMethod yX6_distanceOf, Cond.selects RX6 yX6_distanceOf yX6_distanceOf, Cond.code yX6_distanceOf cX6_distanceOf 12 (some .float), Cond.constantFloat RX6 109 (1090519040)]
def wsX6_follows_r3 : List Cond := [Cond.methodLink RX6 106 yX6_isNoted, Cond.static yX6_isNoted, Cond.code yX6_isNoted cX6_isNoted 1 (some .boolean), Cond.methodLink RX6 110 yX6_value, Cond.static yX6_value, Cond.code yX6_value cX6_value 1 (some .float), Cond.constantFloat RX6 101 (1092616192)]
def wsX6_follows : List Cond := .code yX6_follows cX6_follows 6 (some .int) :: ((wsX6_follows_r1 ++ (wsX6_follows_r2 ++ wsX6_follows_r3)) ++ wsX60)
def wsX6_meanNow : List Cond := .code yX6_meanNow cX6_meanNow 4 (some .float) :: ([.fieldLink RX6 138 "AnalogDaysModel" "followers" "I", .fieldLink RX6 29 "AnalogDaysModel" "follower" "[I", .fieldLink RX6 32 "AnalogDaysModel" "followedBy" "[F", .methodLink RX6 110 yX6_value, .static yX6_value, .initialized RX6, .code yX6_value cX6_value 1 (some .float), .constantFloat RX6 101 (1092616192)] ++ wsX60)
def wsX6_mean_r1 : List Cond := [Cond.fieldLink RX6 138 "AnalogDaysModel" "followers" "I", Cond.methodLink RX6 73 yX6_isDay, Cond.instanceMethod yX6_isDay, Cond.selects RX6 yX6_isDay yX6_isDay, Cond.initialized RX6, Cond.code yX6_isDay cX6_isDay 2 (some .boolean), Cond.fieldLink RX6 48 "AnalogDaysModel" "many" "I", Cond.methodLink RX6 44 yX6_in, Cond.static yX6_in, Cond.code yX6_in cX6_in 3 (some .boolean), Cond.methodLink RX6 76 yX6_isMember, Cond.static yX6_isMember, Cond.code yX6_isMember cX6_isMember 1 (some .boolean), Cond.methodLink RX6 59 yX6_bad, Cond.instanceMethod yX6_bad, Cond.selects RX6 yX6_bad yX6_bad, Cond.code yX6_bad cX6_bad 1 (some .int), Cond.fieldLink RX6 1 "AnalogDaysModel" "refused" "[I", Cond.methodLink RX6 141 yX6_setFollowers, Cond.instanceMethod yX6_setFollowers, Cond.selects RX6 yX6_setFollowers yX6_setFollowers, Cond.code yX6_setFollowers cX6_setFollowers 5 none, Cond.fieldLink RX6 124 "AnalogDaysModel" "near" "I", Cond.fieldLink RX6 16 "AnalogDaysModel" "days" "[I"]
def wsX6_mean_r2 : List Cond := [Cond.fieldLink RX6 22 "AnalogDaysModel" "nearest" "[I", Cond.fieldLink RX6 29 "AnalogDaysModel" "follower" "[I", Cond.fieldLink RX6 32 "AnalogDaysModel" "followedBy" "[F", Cond.fieldLink RX6 25 "AnalogDaysModel" "nearBy" "[F", Cond.fieldLink RX6 35 "AnalogDaysModel" "sorted" "[I", Cond.methodLink RX6 135 yX6_setNearest, Cond.instanceMethod yX6_setNearest, Cond.selects RX6 yX6_setNearest yX6_setNearest, Cond.code yX6_setNearest cX6_setNearest 2 none, Cond.fieldLink RX6 13 "AnalogDaysModel" "rules" "[I", Cond.methodLink RX6 131 yX6_setLike, Cond.instanceMethod yX6_setLike, Cond.selects RX6 yX6_setLike yX6_setLike, Cond.code yX6_setLike cX6_setLike 5 none, Cond.fieldLink RX6 102 "AnalogDaysModel" "compared" "Z", Cond.methodLink RX6 127 yX6_mayBeLike, Cond.instanceMethod yX6_mayBeLike, Cond.selects RX6 yX6_mayBeLike yX6_mayBeLike, Cond.code yX6_mayBeLike cX6_mayBeLike 4 (some .boolean), Cond.methodLink RX6 114 yX6_distanceOf, Cond.instanceMethod yX6_distanceOf, Cond.selects RX6 yX6_distanceOf yX6_distanceOf, Cond.code yX6_distanceOf cX6_distanceOf 12 (some .float), Cond.constantFloat RX6 109 (1090519040)]
def wsX6_mean_r3 : List Cond := [Cond.methodLink RX6 106 yX6_isNoted, Cond.static yX6_isNoted, Cond.code yX6_isNoted cX6_isNoted 1 (some .boolean), Cond.methodLink RX6 110 yX6_value, Cond.static yX6_value, Cond.code yX6_value cX6_value 1 (some .float), Cond.constantFloat RX6 101 (1092616192), Cond.methodLink RX6 145 yX6_meanNow, Cond.instanceMethod yX6_meanNow, Cond.selects RX6 yX6_meanNow yX6_meanNow, Cond.code yX6_meanNow cX6_meanNow 4 (some .float), Cond.methodLink RX6 118 yJxf58ca_floatToIntBits_5c35a, Cond.static yJxf58ca_floatToIntBits_5c35a, Cond.initialized RJxf58ca, Cond.code yJxf58ca_floatToIntBits_5c35a cJxf58ca_floatToIntBits_5c35a 1 (some .int), Cond.methodLink RJxf58ca 74 ⟨"java/lang/Float", "floatToRawIntBits", "(F)I"⟩, Cond.native ⟨"java/lang/Float", "floatToRawIntBits", "(F)I"⟩, Cond.static ⟨"java/lang/Float", "floatToRawIntBits", "(F)I"⟩, Cond.initialized "java/lang/Float", Cond.constant RJxf58ca 77 (2143289344), Cond.methodLink RJxf58ca 59 yJxf58ca_isNaN_12338, Cond.static yJxf58ca_isNaN_12338, Cond.code yJxf58ca_isNaN_12338 cJxf58ca_isNaN_12338 1 (some .boolean)]
def wsX6_mean : List Cond := .code yX6_mean cX6_mean 3 (some .int) :: ((wsX6_mean_r1 ++ (wsX6_mean_r2 ++ wsX6_mean_r3)) ++ wsX60)
def wsJxe99ae_isNaN_b9ae7 : List Cond := .code yJxe99ae_isNaN_b9ae7 cJxe99ae_isNaN_b9ae7 2 (some .boolean) :: ([])
def wsJxe99ae_doubleToLongBits_ccdee : List Cond := .code yJxe99ae_doubleToLongBits_ccdee cJxe99ae_doubleToLongBits_ccdee 2 (some .long) :: ([.methodLink RJxe99ae 134 ⟨"java/lang/Double", "doubleToRawLongBits", "(D)J"⟩, .native ⟨"java/lang/Double", "doubleToRawLongBits", "(D)J"⟩, .static ⟨"java/lang/Double", "doubleToRawLongBits", "(D)J"⟩, .initialized "java/lang/Double", .constantLong RJxe99ae 137 (9221120237041090560), .methodLink RJxe99ae 122 yJxe99ae_isNaN_b9ae7, .static yJxe99ae_isNaN_b9ae7, .initialized RJxe99ae, .code yJxe99ae_isNaN_b9ae7 cJxe99ae_isNaN_b9ae7 2 (some .boolean)])
def wsX6_spread_r1 : List Cond := [Cond.fieldLink RX6 138 "AnalogDaysModel" "followers" "I", Cond.constantLong RX6 149 (-1), Cond.fieldLink RX6 29 "AnalogDaysModel" "follower" "[I", Cond.methodLink RX6 73 yX6_isDay, Cond.instanceMethod yX6_isDay, Cond.selects RX6 yX6_isDay yX6_isDay, Cond.initialized RX6, Cond.code yX6_isDay cX6_isDay 2 (some .boolean), Cond.fieldLink RX6 48 "AnalogDaysModel" "many" "I", Cond.methodLink RX6 44 yX6_in, Cond.static yX6_in, Cond.code yX6_in cX6_in 3 (some .boolean), Cond.methodLink RX6 76 yX6_isMember, Cond.static yX6_isMember, Cond.code yX6_isMember cX6_isMember 1 (some .boolean), Cond.methodLink RX6 59 yX6_bad, Cond.instanceMethod yX6_bad, Cond.selects RX6 yX6_bad yX6_bad, Cond.code yX6_bad cX6_bad 1 (some .int), Cond.fieldLink RX6 1 "AnalogDaysModel" "refused" "[I", Cond.methodLink RX6 141 yX6_setFollowers, Cond.instanceMethod yX6_setFollowers, Cond.selects RX6 yX6_setFollowers yX6_setFollowers, Cond.code yX6_setFollowers cX6_setFollowers 5 none]
def wsX6_spread_r2 : List Cond := [Cond.fieldLink RX6 124 "AnalogDaysModel" "near" "I", Cond.fieldLink RX6 16 "AnalogDaysModel" "days" "[I", Cond.fieldLink RX6 22 "AnalogDaysModel" "nearest" "[I", Cond.fieldLink RX6 32 "AnalogDaysModel" "followedBy" "[F", Cond.fieldLink RX6 25 "AnalogDaysModel" "nearBy" "[F", Cond.fieldLink RX6 35 "AnalogDaysModel" "sorted" "[I", Cond.methodLink RX6 135 yX6_setNearest, Cond.instanceMethod yX6_setNearest, Cond.selects RX6 yX6_setNearest yX6_setNearest, Cond.code yX6_setNearest cX6_setNearest 2 none, Cond.fieldLink RX6 13 "AnalogDaysModel" "rules" "[I", Cond.methodLink RX6 131 yX6_setLike, Cond.instanceMethod yX6_setLike, Cond.selects RX6 yX6_setLike yX6_setLike, Cond.code yX6_setLike cX6_setLike 5 none, Cond.fieldLink RX6 102 "AnalogDaysModel" "compared" "Z", Cond.methodLink RX6 127 yX6_mayBeLike, Cond.instanceMethod yX6_mayBeLike, Cond.selects RX6 yX6_mayBeLike yX6_mayBeLike, Cond.code yX6_mayBeLike cX6_mayBeLike 4 (some .boolean), Cond.methodLink RX6 114 yX6_distanceOf, Cond.instanceMethod yX6_distanceOf, Cond.selects RX6 yX6_distanceOf yX6_distanceOf, Cond.code yX6_distanceOf cX6_distanceOf 12 (some .float)]
def wsX6_spread_r3 : List Cond := [Cond.constantFloat RX6 109 (1090519040), Cond.methodLink RX6 106 yX6_isNoted, Cond.static yX6_isNoted, Cond.code yX6_isNoted cX6_isNoted 1 (some .boolean), Cond.methodLink RX6 110 yX6_value, Cond.static yX6_value, Cond.code yX6_value cX6_value 1 (some .float), Cond.constantFloat RX6 101 (1092616192), Cond.methodLink RX6 151 yJxe99ae_doubleToLongBits_ccdee, Cond.static yJxe99ae_doubleToLongBits_ccdee, Cond.initialized RJxe99ae, Cond.code yJxe99ae_doubleToLongBits_ccdee cJxe99ae_doubleToLongBits_ccdee 2 (some .long), Cond.methodLink RJxe99ae 134 ⟨"java/lang/Double", "doubleToRawLongBits", "(D)J"⟩, Cond.native ⟨"java/lang/Double", "doubleToRawLongBits", "(D)J"⟩, Cond.static ⟨"java/lang/Double", "doubleToRawLongBits", "(D)J"⟩, Cond.initialized "java/lang/Double", Cond.constantLong RJxe99ae 137 (9221120237041090560), Cond.methodLink RJxe99ae 122 yJxe99ae_isNaN_b9ae7, Cond.static yJxe99ae_isNaN_b9ae7, Cond.code yJxe99ae_isNaN_b9ae7 cJxe99ae_isNaN_b9ae7 2 (some .boolean)]
def wsX6_spread : List Cond := .code yX6_spread cX6_spread 12 (some .long) :: ((wsX6_spread_r1 ++ (wsX6_spread_r2 ++ wsX6_spread_r3)) ++ wsX60)
def wsX6_holds_r1 : List Cond := [Cond.fieldLink RX6 48 "AnalogDaysModel" "many" "I", Cond.fieldLink RX6 16 "AnalogDaysModel" "days" "[I", Cond.fieldLink RX6 138 "AnalogDaysModel" "followers" "I", Cond.fieldLink RX6 35 "AnalogDaysModel" "sorted" "[I", Cond.methodLink RX6 76 yX6_isMember, Cond.static yX6_isMember, Cond.initialized RX6, Cond.code yX6_isMember cX6_isMember 1 (some .boolean), Cond.methodLink RX6 44 yX6_in, Cond.static yX6_in, Cond.code yX6_in cX6_in 3 (some .boolean), Cond.methodLink RX6 59 yX6_bad, Cond.instanceMethod yX6_bad, Cond.selects RX6 yX6_bad yX6_bad, Cond.code yX6_bad cX6_bad 1 (some .int), Cond.fieldLink RX6 1 "AnalogDaysModel" "refused" "[I", Cond.methodLink RX6 141 yX6_setFollowers, Cond.instanceMethod yX6_setFollowers, Cond.selects RX6 yX6_setFollowers yX6_setFollowers, Cond.code yX6_setFollowers cX6_setFollowers 5 none, Cond.fieldLink RX6 124 "AnalogDaysModel" "near" "I", Cond.fieldLink RX6 22 "AnalogDaysModel" "nearest" "[I", Cond.fieldLink RX6 29 "AnalogDaysModel" "follower" "[I", Cond.fieldLink RX6 32 "AnalogDaysModel" "followedBy" "[F"]
def wsX6_holds_r2 : List Cond := [Cond.fieldLink RX6 25 "AnalogDaysModel" "nearBy" "[F", Cond.methodLink RX6 135 yX6_setNearest, Cond.instanceMethod yX6_setNearest, Cond.selects RX6 yX6_setNearest yX6_setNearest, Cond.code yX6_setNearest cX6_setNearest 2 none, Cond.fieldLink RX6 13 "AnalogDaysModel" "rules" "[I", Cond.methodLink RX6 131 yX6_setLike, Cond.instanceMethod yX6_setLike, Cond.selects RX6 yX6_setLike yX6_setLike, Cond.code yX6_setLike cX6_setLike 5 none, Cond.fieldLink RX6 102 "AnalogDaysModel" "compared" "Z", Cond.methodLink RX6 127 yX6_mayBeLike, Cond.instanceMethod yX6_mayBeLike, Cond.selects RX6 yX6_mayBeLike yX6_mayBeLike, Cond.code yX6_mayBeLike cX6_mayBeLike 4 (some .boolean), Cond.methodLink RX6 114 yX6_distanceOf, Cond.instanceMethod yX6_distanceOf, Cond.selects RX6 yX6_distanceOf yX6_distanceOf, Cond.code yX6_distanceOf cX6_distanceOf 12 (some .float), Cond.constantFloat RX6 109 (1090519040), Cond.methodLink RX6 106 yX6_isNoted, Cond.static yX6_isNoted, Cond.code yX6_isNoted cX6_isNoted 1 (some .boolean), Cond.methodLink RX6 110 yX6_value]
def wsX6_holds_r3 : List Cond := [Cond.static yX6_value, Cond.code yX6_value cX6_value 1 (some .float), Cond.constantFloat RX6 101 (1092616192)]
def wsX6_holds : List Cond := .code yX6_holds cX6_holds 8 (some .int) :: ((wsX6_holds_r1 ++ (wsX6_holds_r2 ++ wsX6_holds_r3)) ++ wsX60)
def wsX6_errsOf_r1 : List Cond := [Cond.fieldLink RX6 157 "AnalogDaysModel" "errMany" "I", Cond.fieldLink RX6 48 "AnalogDaysModel" "many" "I", Cond.fieldLink RX6 16 "AnalogDaysModel" "days" "[I", Cond.fieldLink RX6 138 "AnalogDaysModel" "followers" "I", Cond.methodLink RX6 141 yX6_setFollowers, Cond.instanceMethod yX6_setFollowers, Cond.selects RX6 yX6_setFollowers yX6_setFollowers, Cond.initialized RX6, Cond.code yX6_setFollowers cX6_setFollowers 5 none, Cond.fieldLink RX6 124 "AnalogDaysModel" "near" "I", Cond.fieldLink RX6 22 "AnalogDaysModel" "nearest" "[I", Cond.fieldLink RX6 29 "AnalogDaysModel" "follower" "[I", Cond.fieldLink RX6 32 "AnalogDaysModel" "followedBy" "[F", Cond.fieldLink RX6 25 "AnalogDaysModel" "nearBy" "[F", Cond.fieldLink RX6 35 "AnalogDaysModel" "sorted" "[I", Cond.methodLink RX6 135 yX6_setNearest, Cond.instanceMethod yX6_setNearest, Cond.selects RX6 yX6_setNearest yX6_setNearest, Cond.code yX6_setNearest cX6_setNearest 2 none, Cond.fieldLink RX6 13 "AnalogDaysModel" "rules" "[I", Cond.methodLink RX6 131 yX6_setLike, Cond.instanceMethod yX6_setLike, Cond.selects RX6 yX6_setLike yX6_setLike, Cond.code yX6_setLike cX6_setLike 5 none]
def wsX6_errsOf_r2 : List Cond := [Cond.fieldLink RX6 102 "AnalogDaysModel" "compared" "Z", Cond.methodLink RX6 127 yX6_mayBeLike, Cond.instanceMethod yX6_mayBeLike, Cond.selects RX6 yX6_mayBeLike yX6_mayBeLike, Cond.code yX6_mayBeLike cX6_mayBeLike 4 (some .boolean), Cond.methodLink RX6 114 yX6_distanceOf, Cond.instanceMethod yX6_distanceOf, Cond.selects RX6 yX6_distanceOf yX6_distanceOf, Cond.code yX6_distanceOf cX6_distanceOf 12 (some .float), Cond.constantFloat RX6 109 (1090519040), Cond.methodLink RX6 106 yX6_isNoted, Cond.static yX6_isNoted, Cond.code yX6_isNoted cX6_isNoted 1 (some .boolean), Cond.methodLink RX6 110 yX6_value, Cond.static yX6_value, Cond.code yX6_value cX6_value 1 (some .float), Cond.constantFloat RX6 101 (1092616192), Cond.methodLink RX6 145 yX6_meanNow, Cond.instanceMethod yX6_meanNow, Cond.selects RX6 yX6_meanNow yX6_meanNow, Cond.code yX6_meanNow cX6_meanNow 4 (some .float)]
def wsX6_errsOf : List Cond := .code yX6_errsOf cX6_errsOf 6 (some .float) :: ((wsX6_errsOf_r1 ++ wsX6_errsOf_r2) ++ wsX60)
def wsX6_errsTold_r1 : List Cond := [Cond.fieldLink RX6 157 "AnalogDaysModel" "errMany" "I", Cond.methodLink RX6 160 yX6_errsOf, Cond.instanceMethod yX6_errsOf, Cond.selects RX6 yX6_errsOf yX6_errsOf, Cond.initialized RX6, Cond.code yX6_errsOf cX6_errsOf 6 (some .float), Cond.fieldLink RX6 48 "AnalogDaysModel" "many" "I", Cond.fieldLink RX6 16 "AnalogDaysModel" "days" "[I", Cond.fieldLink RX6 138 "AnalogDaysModel" "followers" "I", Cond.methodLink RX6 141 yX6_setFollowers, Cond.instanceMethod yX6_setFollowers, Cond.selects RX6 yX6_setFollowers yX6_setFollowers, Cond.code yX6_setFollowers cX6_setFollowers 5 none, Cond.fieldLink RX6 124 "AnalogDaysModel" "near" "I", Cond.fieldLink RX6 22 "AnalogDaysModel" "nearest" "[I", Cond.fieldLink RX6 29 "AnalogDaysModel" "follower" "[I", Cond.fieldLink RX6 32 "AnalogDaysModel" "followedBy" "[F", Cond.fieldLink RX6 25 "AnalogDaysModel" "nearBy" "[F", Cond.fieldLink RX6 35 "AnalogDaysModel" "sorted" "[I", Cond.methodLink RX6 135 yX6_setNearest, Cond.instanceMethod yX6_setNearest, Cond.selects RX6 yX6_setNearest yX6_setNearest, Cond.code yX6_setNearest cX6_setNearest 2 none, Cond.fieldLink RX6 13 "AnalogDaysModel" "rules" "[I"]
def wsX6_errsTold_r2 : List Cond := [Cond.methodLink RX6 131 yX6_setLike, Cond.instanceMethod yX6_setLike, Cond.selects RX6 yX6_setLike yX6_setLike, Cond.code yX6_setLike cX6_setLike 5 none, Cond.fieldLink RX6 102 "AnalogDaysModel" "compared" "Z", Cond.methodLink RX6 127 yX6_mayBeLike, Cond.instanceMethod yX6_mayBeLike, Cond.selects RX6 yX6_mayBeLike yX6_mayBeLike, Cond.code yX6_mayBeLike cX6_mayBeLike 4 (some .boolean), Cond.methodLink RX6 114 yX6_distanceOf, Cond.instanceMethod yX6_distanceOf, Cond.selects RX6 yX6_distanceOf yX6_distanceOf, Cond.code yX6_distanceOf cX6_distanceOf 12 (some .float), Cond.constantFloat RX6 109 (1090519040), Cond.methodLink RX6 106 yX6_isNoted, Cond.static yX6_isNoted, Cond.code yX6_isNoted cX6_isNoted 1 (some .boolean), Cond.methodLink RX6 110 yX6_value, Cond.static yX6_value, Cond.code yX6_value cX6_value 1 (some .float), Cond.constantFloat RX6 101 (1092616192), Cond.methodLink RX6 145 yX6_meanNow, Cond.instanceMethod yX6_meanNow, Cond.selects RX6 yX6_meanNow yX6_meanNow]
def wsX6_errsTold_r3 : List Cond := [Cond.code yX6_meanNow cX6_meanNow 4 (some .float), Cond.methodLink RX6 118 yJxf58ca_floatToIntBits_5c35a, Cond.static yJxf58ca_floatToIntBits_5c35a, Cond.initialized RJxf58ca, Cond.code yJxf58ca_floatToIntBits_5c35a cJxf58ca_floatToIntBits_5c35a 1 (some .int), Cond.methodLink RJxf58ca 74 ⟨"java/lang/Float", "floatToRawIntBits", "(F)I"⟩, Cond.native ⟨"java/lang/Float", "floatToRawIntBits", "(F)I"⟩, Cond.static ⟨"java/lang/Float", "floatToRawIntBits", "(F)I"⟩, Cond.initialized "java/lang/Float", Cond.constant RJxf58ca 77 (2143289344), Cond.methodLink RJxf58ca 59 yJxf58ca_isNaN_12338, Cond.static yJxf58ca_isNaN_12338, Cond.code yJxf58ca_isNaN_12338 cJxf58ca_isNaN_12338 1 (some .boolean)]
def wsX6_errsTold : List Cond := .code yX6_errsTold cX6_errsTold 3 (some .int) :: ((wsX6_errsTold_r1 ++ (wsX6_errsTold_r2 ++ wsX6_errsTold_r3)) ++ wsX60)
def wsX6_errs_r1 : List Cond := [Cond.methodLink RX6 76 yX6_isMember, Cond.static yX6_isMember, Cond.initialized RX6, Cond.code yX6_isMember cX6_isMember 1 (some .boolean), Cond.methodLink RX6 44 yX6_in, Cond.static yX6_in, Cond.code yX6_in cX6_in 3 (some .boolean), Cond.methodLink RX6 163 yX6_errsTold, Cond.instanceMethod yX6_errsTold, Cond.selects RX6 yX6_errsTold yX6_errsTold, Cond.code yX6_errsTold cX6_errsTold 3 (some .int), Cond.fieldLink RX6 157 "AnalogDaysModel" "errMany" "I", Cond.methodLink RX6 160 yX6_errsOf, Cond.instanceMethod yX6_errsOf, Cond.selects RX6 yX6_errsOf yX6_errsOf, Cond.code yX6_errsOf cX6_errsOf 6 (some .float), Cond.fieldLink RX6 48 "AnalogDaysModel" "many" "I", Cond.fieldLink RX6 16 "AnalogDaysModel" "days" "[I", Cond.fieldLink RX6 138 "AnalogDaysModel" "followers" "I", Cond.methodLink RX6 141 yX6_setFollowers, Cond.instanceMethod yX6_setFollowers, Cond.selects RX6 yX6_setFollowers yX6_setFollowers, Cond.code yX6_setFollowers cX6_setFollowers 5 none, Cond.fieldLink RX6 124 "AnalogDaysModel" "near" "I"]
def wsX6_errs_r2 : List Cond := [Cond.fieldLink RX6 22 "AnalogDaysModel" "nearest" "[I", Cond.fieldLink RX6 29 "AnalogDaysModel" "follower" "[I", Cond.fieldLink RX6 32 "AnalogDaysModel" "followedBy" "[F", Cond.fieldLink RX6 25 "AnalogDaysModel" "nearBy" "[F", Cond.fieldLink RX6 35 "AnalogDaysModel" "sorted" "[I", Cond.methodLink RX6 135 yX6_setNearest, Cond.instanceMethod yX6_setNearest, Cond.selects RX6 yX6_setNearest yX6_setNearest, Cond.code yX6_setNearest cX6_setNearest 2 none, Cond.fieldLink RX6 13 "AnalogDaysModel" "rules" "[I", Cond.methodLink RX6 131 yX6_setLike, Cond.instanceMethod yX6_setLike, Cond.selects RX6 yX6_setLike yX6_setLike, Cond.code yX6_setLike cX6_setLike 5 none, Cond.fieldLink RX6 102 "AnalogDaysModel" "compared" "Z", Cond.methodLink RX6 127 yX6_mayBeLike, Cond.instanceMethod yX6_mayBeLike, Cond.selects RX6 yX6_mayBeLike yX6_mayBeLike, Cond.code yX6_mayBeLike cX6_mayBeLike 4 (some .boolean), Cond.methodLink RX6 114 yX6_distanceOf, Cond.instanceMethod yX6_distanceOf, Cond.selects RX6 yX6_distanceOf yX6_distanceOf, Cond.code yX6_distanceOf cX6_distanceOf 12 (some .float), Cond.constantFloat RX6 109 (1090519040)]
def wsX6_errs_r3 : List Cond := [Cond.methodLink RX6 106 yX6_isNoted, Cond.static yX6_isNoted, Cond.code yX6_isNoted cX6_isNoted 1 (some .boolean), Cond.methodLink RX6 110 yX6_value, Cond.static yX6_value, Cond.code yX6_value cX6_value 1 (some .float), Cond.constantFloat RX6 101 (1092616192), Cond.methodLink RX6 145 yX6_meanNow, Cond.instanceMethod yX6_meanNow, Cond.selects RX6 yX6_meanNow yX6_meanNow, Cond.code yX6_meanNow cX6_meanNow 4 (some .float), Cond.methodLink RX6 118 yJxf58ca_floatToIntBits_5c35a, Cond.static yJxf58ca_floatToIntBits_5c35a, Cond.initialized RJxf58ca, Cond.code yJxf58ca_floatToIntBits_5c35a cJxf58ca_floatToIntBits_5c35a 1 (some .int), Cond.methodLink RJxf58ca 74 ⟨"java/lang/Float", "floatToRawIntBits", "(F)I"⟩, Cond.native ⟨"java/lang/Float", "floatToRawIntBits", "(F)I"⟩, Cond.static ⟨"java/lang/Float", "floatToRawIntBits", "(F)I"⟩, Cond.initialized "java/lang/Float", Cond.constant RJxf58ca 77 (2143289344), Cond.methodLink RJxf58ca 59 yJxf58ca_isNaN_12338, Cond.static yJxf58ca_isNaN_12338, Cond.code yJxf58ca_isNaN_12338 cJxf58ca_isNaN_12338 1 (some .boolean), Cond.methodLink RX6 59 yX6_bad]
def wsX6_errs_r4 : List Cond := [Cond.instanceMethod yX6_bad, Cond.selects RX6 yX6_bad yX6_bad, Cond.code yX6_bad cX6_bad 1 (some .int), Cond.fieldLink RX6 1 "AnalogDaysModel" "refused" "[I"]
def wsX6_errs : List Cond := .code yX6_errs cX6_errs 2 (some .int) :: ((wsX6_errs_r1 ++ (wsX6_errs_r2 ++ (wsX6_errs_r3 ++ wsX6_errs_r4))) ++ wsX60)
def wsX6_best_r1 : List Cond := [Cond.fieldLink RX6 13 "AnalogDaysModel" "rules" "[I", Cond.fieldLink RX6 157 "AnalogDaysModel" "errMany" "I", Cond.methodLink RX6 76 yX6_isMember, Cond.static yX6_isMember, Cond.initialized RX6, Cond.code yX6_isMember cX6_isMember 1 (some .boolean), Cond.methodLink RX6 44 yX6_in, Cond.static yX6_in, Cond.code yX6_in cX6_in 3 (some .boolean), Cond.methodLink RX6 59 yX6_bad, Cond.instanceMethod yX6_bad, Cond.selects RX6 yX6_bad yX6_bad, Cond.code yX6_bad cX6_bad 1 (some .int), Cond.fieldLink RX6 1 "AnalogDaysModel" "refused" "[I", Cond.methodLink RX6 160 yX6_errsOf, Cond.instanceMethod yX6_errsOf, Cond.selects RX6 yX6_errsOf yX6_errsOf, Cond.code yX6_errsOf cX6_errsOf 6 (some .float), Cond.fieldLink RX6 48 "AnalogDaysModel" "many" "I", Cond.fieldLink RX6 16 "AnalogDaysModel" "days" "[I", Cond.fieldLink RX6 138 "AnalogDaysModel" "followers" "I", Cond.methodLink RX6 141 yX6_setFollowers, Cond.instanceMethod yX6_setFollowers, Cond.selects RX6 yX6_setFollowers yX6_setFollowers]
def wsX6_best_r2 : List Cond := [Cond.code yX6_setFollowers cX6_setFollowers 5 none, Cond.fieldLink RX6 124 "AnalogDaysModel" "near" "I", Cond.fieldLink RX6 22 "AnalogDaysModel" "nearest" "[I", Cond.fieldLink RX6 29 "AnalogDaysModel" "follower" "[I", Cond.fieldLink RX6 32 "AnalogDaysModel" "followedBy" "[F", Cond.fieldLink RX6 25 "AnalogDaysModel" "nearBy" "[F", Cond.fieldLink RX6 35 "AnalogDaysModel" "sorted" "[I", Cond.methodLink RX6 135 yX6_setNearest, Cond.instanceMethod yX6_setNearest, Cond.selects RX6 yX6_setNearest yX6_setNearest, Cond.code yX6_setNearest cX6_setNearest 2 none, Cond.methodLink RX6 131 yX6_setLike, Cond.instanceMethod yX6_setLike, Cond.selects RX6 yX6_setLike yX6_setLike, Cond.code yX6_setLike cX6_setLike 5 none, Cond.fieldLink RX6 102 "AnalogDaysModel" "compared" "Z", Cond.methodLink RX6 127 yX6_mayBeLike, Cond.instanceMethod yX6_mayBeLike, Cond.selects RX6 yX6_mayBeLike yX6_mayBeLike, Cond.code yX6_mayBeLike cX6_mayBeLike 4 (some .boolean), Cond.methodLink RX6 114 yX6_distanceOf, Cond.instanceMethod yX6_distanceOf, Cond.selects RX6 yX6_distanceOf yX6_distanceOf, Cond.code yX6_distanceOf cX6_distanceOf 12 (some .float)]
def wsX6_best_r3 : List Cond := [Cond.constantFloat RX6 109 (1090519040), Cond.methodLink RX6 106 yX6_isNoted, Cond.static yX6_isNoted, Cond.code yX6_isNoted cX6_isNoted 1 (some .boolean), Cond.methodLink RX6 110 yX6_value, Cond.static yX6_value, Cond.code yX6_value cX6_value 1 (some .float), Cond.constantFloat RX6 101 (1092616192), Cond.methodLink RX6 145 yX6_meanNow, Cond.instanceMethod yX6_meanNow, Cond.selects RX6 yX6_meanNow yX6_meanNow, Cond.code yX6_meanNow cX6_meanNow 4 (some .float), Cond.methodLink RX6 118 yJxf58ca_floatToIntBits_5c35a, Cond.static yJxf58ca_floatToIntBits_5c35a, Cond.initialized RJxf58ca, Cond.code yJxf58ca_floatToIntBits_5c35a cJxf58ca_floatToIntBits_5c35a 1 (some .int), Cond.methodLink RJxf58ca 74 ⟨"java/lang/Float", "floatToRawIntBits", "(F)I"⟩, Cond.native ⟨"java/lang/Float", "floatToRawIntBits", "(F)I"⟩, Cond.static ⟨"java/lang/Float", "floatToRawIntBits", "(F)I"⟩, Cond.initialized "java/lang/Float", Cond.constant RJxf58ca 77 (2143289344), Cond.methodLink RJxf58ca 59 yJxf58ca_isNaN_12338, Cond.static yJxf58ca_isNaN_12338, Cond.code yJxf58ca_isNaN_12338 cJxf58ca_isNaN_12338 1 (some .boolean)]
def wsX6_best : List Cond := .code yX6_best cX6_best 8 (some .int) :: ((wsX6_best_r1 ++ (wsX6_best_r2 ++ wsX6_best_r3)) ++ wsX60)
def wsX6_spare_r1 : List Cond := [Cond.fieldLink RX6 13 "AnalogDaysModel" "rules" "[I", Cond.fieldLink RX6 157 "AnalogDaysModel" "errMany" "I", Cond.methodLink RX6 76 yX6_isMember, Cond.static yX6_isMember, Cond.initialized RX6, Cond.code yX6_isMember cX6_isMember 1 (some .boolean), Cond.methodLink RX6 44 yX6_in, Cond.static yX6_in, Cond.code yX6_in cX6_in 3 (some .boolean), Cond.methodLink RX6 59 yX6_bad, Cond.instanceMethod yX6_bad, Cond.selects RX6 yX6_bad yX6_bad, Cond.code yX6_bad cX6_bad 1 (some .int), Cond.fieldLink RX6 1 "AnalogDaysModel" "refused" "[I", Cond.methodLink RX6 160 yX6_errsOf, Cond.instanceMethod yX6_errsOf, Cond.selects RX6 yX6_errsOf yX6_errsOf, Cond.code yX6_errsOf cX6_errsOf 6 (some .float), Cond.fieldLink RX6 48 "AnalogDaysModel" "many" "I", Cond.fieldLink RX6 16 "AnalogDaysModel" "days" "[I", Cond.fieldLink RX6 138 "AnalogDaysModel" "followers" "I", Cond.methodLink RX6 141 yX6_setFollowers, Cond.instanceMethod yX6_setFollowers, Cond.selects RX6 yX6_setFollowers yX6_setFollowers]
def wsX6_spare_r2 : List Cond := [Cond.code yX6_setFollowers cX6_setFollowers 5 none, Cond.fieldLink RX6 124 "AnalogDaysModel" "near" "I", Cond.fieldLink RX6 22 "AnalogDaysModel" "nearest" "[I", Cond.fieldLink RX6 29 "AnalogDaysModel" "follower" "[I", Cond.fieldLink RX6 32 "AnalogDaysModel" "followedBy" "[F", Cond.fieldLink RX6 25 "AnalogDaysModel" "nearBy" "[F", Cond.fieldLink RX6 35 "AnalogDaysModel" "sorted" "[I", Cond.methodLink RX6 135 yX6_setNearest, Cond.instanceMethod yX6_setNearest, Cond.selects RX6 yX6_setNearest yX6_setNearest, Cond.code yX6_setNearest cX6_setNearest 2 none, Cond.methodLink RX6 131 yX6_setLike, Cond.instanceMethod yX6_setLike, Cond.selects RX6 yX6_setLike yX6_setLike, Cond.code yX6_setLike cX6_setLike 5 none, Cond.fieldLink RX6 102 "AnalogDaysModel" "compared" "Z", Cond.methodLink RX6 127 yX6_mayBeLike, Cond.instanceMethod yX6_mayBeLike, Cond.selects RX6 yX6_mayBeLike yX6_mayBeLike, Cond.code yX6_mayBeLike cX6_mayBeLike 4 (some .boolean), Cond.methodLink RX6 114 yX6_distanceOf, Cond.instanceMethod yX6_distanceOf, Cond.selects RX6 yX6_distanceOf yX6_distanceOf, Cond.code yX6_distanceOf cX6_distanceOf 12 (some .float)]
def wsX6_spare_r3 : List Cond := [Cond.constantFloat RX6 109 (1090519040), Cond.methodLink RX6 106 yX6_isNoted, Cond.static yX6_isNoted, Cond.code yX6_isNoted cX6_isNoted 1 (some .boolean), Cond.methodLink RX6 110 yX6_value, Cond.static yX6_value, Cond.code yX6_value cX6_value 1 (some .float), Cond.constantFloat RX6 101 (1092616192), Cond.methodLink RX6 145 yX6_meanNow, Cond.instanceMethod yX6_meanNow, Cond.selects RX6 yX6_meanNow yX6_meanNow, Cond.code yX6_meanNow cX6_meanNow 4 (some .float)]
def wsX6_spare : List Cond := .code yX6_spare cX6_spare 7 (some .int) :: ((wsX6_spare_r1 ++ (wsX6_spare_r2 ++ wsX6_spare_r3)) ++ wsX60)
def wsX6_type : List Cond := .code yX6_type cX6_type 2 (some .int) :: ([.fieldLink RX6 166 "AnalogDaysModel" "size" "I", .fieldLink RX6 38 "AnalogDaysModel" "text" "[I", .methodLink RX6 44 yX6_in, .static yX6_in, .initialized RX6, .code yX6_in cX6_in 3 (some .boolean), .methodLink RX6 59 yX6_bad, .instanceMethod yX6_bad, .selects RX6 yX6_bad yX6_bad, .code yX6_bad cX6_bad 1 (some .int), .fieldLink RX6 1 "AnalogDaysModel" "refused" "[I", .methodLink RX6 63 yX6_full, .instanceMethod yX6_full, .selects RX6 yX6_full yX6_full, .code yX6_full cX6_full 1 (some .int)] ++ wsX60)
def wsX6_clear : List Cond := .code yX6_clear cX6_clear 2 (some .int) :: ([.fieldLink RX6 166 "AnalogDaysModel" "size" "I"] ++ wsX60)
def wsX6_here : List Cond := .code yX6_here cX6_here 1 (some .int) :: ([.fieldLink RX6 169 "AnalogDaysModel" "readAt" "I", .fieldLink RX6 166 "AnalogDaysModel" "size" "I", .fieldLink RX6 38 "AnalogDaysModel" "text" "[I"] ++ wsX60)
def wsX6_skips : List Cond := .code yX6_skips cX6_skips 1 none :: ([.fieldLink RX6 169 "AnalogDaysModel" "readAt" "I", .fieldLink RX6 175 "AnalogDaysModel" "tokenAt" "I", .methodLink RX6 172 yX6_here, .instanceMethod yX6_here, .selects RX6 yX6_here yX6_here, .initialized RX6, .code yX6_here cX6_here 1 (some .int), .fieldLink RX6 166 "AnalogDaysModel" "size" "I", .fieldLink RX6 38 "AnalogDaysModel" "text" "[I"] ++ wsX60)
def wsX6_readsMember : List Cond := .code yX6_readsMember cX6_readsMember 5 (some .boolean) :: ([.fieldLink RX6 169 "AnalogDaysModel" "readAt" "I", .fieldLink RX6 41 "AnalogDaysModel" "read" "[I", .methodLink RX6 178 yX6_skips, .instanceMethod yX6_skips, .selects RX6 yX6_skips yX6_skips, .initialized RX6, .code yX6_skips cX6_skips 1 none, .fieldLink RX6 175 "AnalogDaysModel" "tokenAt" "I", .methodLink RX6 172 yX6_here, .instanceMethod yX6_here, .selects RX6 yX6_here yX6_here, .code yX6_here cX6_here 1 (some .int), .fieldLink RX6 166 "AnalogDaysModel" "size" "I", .fieldLink RX6 38 "AnalogDaysModel" "text" "[I", .methodLink RX6 44 yX6_in, .static yX6_in, .code yX6_in cX6_in 3 (some .boolean)] ++ wsX60)
def wsX6_readsDay_r1 : List Cond := [Cond.fieldLink RX6 181 "AnalogDaysModel" "readMany" "I", Cond.fieldLink RX6 169 "AnalogDaysModel" "readAt" "I", Cond.fieldLink RX6 41 "AnalogDaysModel" "read" "[I", Cond.methodLink RX6 178 yX6_skips, Cond.instanceMethod yX6_skips, Cond.selects RX6 yX6_skips yX6_skips, Cond.initialized RX6, Cond.code yX6_skips cX6_skips 1 none, Cond.fieldLink RX6 175 "AnalogDaysModel" "tokenAt" "I", Cond.methodLink RX6 172 yX6_here, Cond.instanceMethod yX6_here, Cond.selects RX6 yX6_here yX6_here, Cond.code yX6_here cX6_here 1 (some .int), Cond.fieldLink RX6 166 "AnalogDaysModel" "size" "I", Cond.fieldLink RX6 38 "AnalogDaysModel" "text" "[I", Cond.methodLink RX6 184 yX6_readsMember, Cond.instanceMethod yX6_readsMember, Cond.selects RX6 yX6_readsMember yX6_readsMember, Cond.code yX6_readsMember cX6_readsMember 5 (some .boolean), Cond.methodLink RX6 44 yX6_in, Cond.static yX6_in, Cond.code yX6_in cX6_in 3 (some .boolean), Cond.methodLink RX6 69 yX6_comes, Cond.instanceMethod yX6_comes]
def wsX6_readsDay_r2 : List Cond := [Cond.selects RX6 yX6_comes yX6_comes, Cond.code yX6_comes cX6_comes 5 none, Cond.fieldLink RX6 16 "AnalogDaysModel" "days" "[I", Cond.fieldLink RX6 48 "AnalogDaysModel" "many" "I"]
def wsX6_readsDay : List Cond := .code yX6_readsDay cX6_readsDay 3 (some .boolean) :: ((wsX6_readsDay_r1 ++ wsX6_readsDay_r2) ++ wsX60)
def wsX6_goesThrough_r1 : List Cond := [Cond.fieldLink RX6 169 "AnalogDaysModel" "readAt" "I", Cond.fieldLink RX6 48 "AnalogDaysModel" "many" "I", Cond.fieldLink RX6 181 "AnalogDaysModel" "readMany" "I", Cond.fieldLink RX6 166 "AnalogDaysModel" "size" "I", Cond.fieldLink RX6 175 "AnalogDaysModel" "tokenAt" "I", Cond.methodLink RX6 178 yX6_skips, Cond.instanceMethod yX6_skips, Cond.selects RX6 yX6_skips yX6_skips, Cond.initialized RX6, Cond.code yX6_skips cX6_skips 1 none, Cond.methodLink RX6 172 yX6_here, Cond.instanceMethod yX6_here, Cond.selects RX6 yX6_here yX6_here, Cond.code yX6_here cX6_here 1 (some .int), Cond.fieldLink RX6 38 "AnalogDaysModel" "text" "[I", Cond.methodLink RX6 187 yX6_readsDay, Cond.instanceMethod yX6_readsDay, Cond.selects RX6 yX6_readsDay yX6_readsDay, Cond.code yX6_readsDay cX6_readsDay 3 (some .boolean), Cond.fieldLink RX6 41 "AnalogDaysModel" "read" "[I", Cond.methodLink RX6 184 yX6_readsMember, Cond.instanceMethod yX6_readsMember, Cond.selects RX6 yX6_readsMember yX6_readsMember, Cond.code yX6_readsMember cX6_readsMember 5 (some .boolean)]
def wsX6_goesThrough_r2 : List Cond := [Cond.methodLink RX6 44 yX6_in, Cond.static yX6_in, Cond.code yX6_in cX6_in 3 (some .boolean), Cond.methodLink RX6 69 yX6_comes, Cond.instanceMethod yX6_comes, Cond.selects RX6 yX6_comes yX6_comes, Cond.code yX6_comes cX6_comes 5 none, Cond.fieldLink RX6 16 "AnalogDaysModel" "days" "[I"]
def wsX6_goesThrough : List Cond := .code yX6_goesThrough cX6_goesThrough 3 (some .int) :: ((wsX6_goesThrough_r1 ++ wsX6_goesThrough_r2) ++ wsX60)
def wsX6_reads_r1 : List Cond := [Cond.methodLink RX6 191 yX6_goesThrough, Cond.instanceMethod yX6_goesThrough, Cond.selects RX6 yX6_goesThrough yX6_goesThrough, Cond.initialized RX6, Cond.code yX6_goesThrough cX6_goesThrough 3 (some .int), Cond.fieldLink RX6 169 "AnalogDaysModel" "readAt" "I", Cond.fieldLink RX6 48 "AnalogDaysModel" "many" "I", Cond.fieldLink RX6 181 "AnalogDaysModel" "readMany" "I", Cond.fieldLink RX6 166 "AnalogDaysModel" "size" "I", Cond.fieldLink RX6 175 "AnalogDaysModel" "tokenAt" "I", Cond.methodLink RX6 178 yX6_skips, Cond.instanceMethod yX6_skips, Cond.selects RX6 yX6_skips yX6_skips, Cond.code yX6_skips cX6_skips 1 none, Cond.methodLink RX6 172 yX6_here, Cond.instanceMethod yX6_here, Cond.selects RX6 yX6_here yX6_here, Cond.code yX6_here cX6_here 1 (some .int), Cond.fieldLink RX6 38 "AnalogDaysModel" "text" "[I", Cond.methodLink RX6 187 yX6_readsDay, Cond.instanceMethod yX6_readsDay, Cond.selects RX6 yX6_readsDay yX6_readsDay, Cond.code yX6_readsDay cX6_readsDay 3 (some .boolean), Cond.fieldLink RX6 41 "AnalogDaysModel" "read" "[I"]
def wsX6_reads_r2 : List Cond := [Cond.methodLink RX6 184 yX6_readsMember, Cond.instanceMethod yX6_readsMember, Cond.selects RX6 yX6_readsMember yX6_readsMember, Cond.code yX6_readsMember cX6_readsMember 5 (some .boolean), Cond.methodLink RX6 44 yX6_in, Cond.static yX6_in, Cond.code yX6_in cX6_in 3 (some .boolean), Cond.methodLink RX6 69 yX6_comes, Cond.instanceMethod yX6_comes, Cond.selects RX6 yX6_comes yX6_comes, Cond.code yX6_comes cX6_comes 5 none, Cond.fieldLink RX6 16 "AnalogDaysModel" "days" "[I", Cond.methodLink RX6 66 yX6_leavesState, Cond.instanceMethod yX6_leavesState, Cond.selects RX6 yX6_leavesState yX6_leavesState, Cond.code yX6_leavesState cX6_leavesState 3 none, Cond.fieldLink RX6 52 "AnalogDaysModel" "states" "I", Cond.fieldLink RX6 19 "AnalogDaysModel" "kept" "[I", Cond.fieldLink RX6 13 "AnalogDaysModel" "rules" "[I"]
def wsX6_reads : List Cond := .code yX6_reads cX6_reads 2 (some .int) :: ((wsX6_reads_r1 ++ wsX6_reads_r2) ++ wsX60)
def wsX6_toldBy : List Cond := .code yX6_toldBy cX6_toldBy 2 (some .int) :: ([.fieldLink RX6 1 "AnalogDaysModel" "refused" "[I", .fieldLink RX6 166 "AnalogDaysModel" "size" "I", .fieldLink RX6 48 "AnalogDaysModel" "many" "I", .fieldLink RX6 52 "AnalogDaysModel" "states" "I", .fieldLink RX6 13 "AnalogDaysModel" "rules" "[I"] ++ wsX60)
def wsX6_told : List Cond := .code yX6_told cX6_told 2 (some .int) :: ([.methodLink RX6 44 yX6_in, .static yX6_in, .initialized RX6, .code yX6_in cX6_in 3 (some .boolean), .methodLink RX6 195 yX6_toldBy, .instanceMethod yX6_toldBy, .selects RX6 yX6_toldBy yX6_toldBy, .code yX6_toldBy cX6_toldBy 2 (some .int), .fieldLink RX6 1 "AnalogDaysModel" "refused" "[I", .fieldLink RX6 166 "AnalogDaysModel" "size" "I", .fieldLink RX6 48 "AnalogDaysModel" "many" "I", .fieldLink RX6 52 "AnalogDaysModel" "states" "I", .fieldLink RX6 13 "AnalogDaysModel" "rules" "[I", .methodLink RX6 59 yX6_bad, .instanceMethod yX6_bad, .selects RX6 yX6_bad yX6_bad, .code yX6_bad cX6_bad 1 (some .int)] ++ wsX60)
def wsX6_digest_r1 : List Cond := [Cond.constantLong RX6 198 (2161), Cond.constantLong RX6 200 (31), Cond.fieldLink RX6 13 "AnalogDaysModel" "rules" "[I", Cond.fieldLink RX6 48 "AnalogDaysModel" "many" "I", Cond.fieldLink RX6 16 "AnalogDaysModel" "days" "[I", Cond.fieldLink RX6 124 "AnalogDaysModel" "near" "I", Cond.fieldLink RX6 22 "AnalogDaysModel" "nearest" "[I", Cond.fieldLink RX6 25 "AnalogDaysModel" "nearBy" "[F", Cond.methodLink RX6 195 yX6_toldBy, Cond.instanceMethod yX6_toldBy, Cond.selects RX6 yX6_toldBy yX6_toldBy, Cond.initialized RX6, Cond.code yX6_toldBy cX6_toldBy 2 (some .int), Cond.fieldLink RX6 1 "AnalogDaysModel" "refused" "[I", Cond.fieldLink RX6 166 "AnalogDaysModel" "size" "I", Cond.fieldLink RX6 52 "AnalogDaysModel" "states" "I", Cond.methodLink RX6 135 yX6_setNearest, Cond.instanceMethod yX6_setNearest, Cond.selects RX6 yX6_setNearest yX6_setNearest, Cond.code yX6_setNearest cX6_setNearest 2 none, Cond.methodLink RX6 131 yX6_setLike, Cond.instanceMethod yX6_setLike, Cond.selects RX6 yX6_setLike yX6_setLike, Cond.code yX6_setLike cX6_setLike 5 none]
def wsX6_digest_r2 : List Cond := [Cond.fieldLink RX6 102 "AnalogDaysModel" "compared" "Z", Cond.methodLink RX6 127 yX6_mayBeLike, Cond.instanceMethod yX6_mayBeLike, Cond.selects RX6 yX6_mayBeLike yX6_mayBeLike, Cond.code yX6_mayBeLike cX6_mayBeLike 4 (some .boolean), Cond.methodLink RX6 114 yX6_distanceOf, Cond.instanceMethod yX6_distanceOf, Cond.selects RX6 yX6_distanceOf yX6_distanceOf, Cond.code yX6_distanceOf cX6_distanceOf 12 (some .float), Cond.constantFloat RX6 109 (1090519040), Cond.methodLink RX6 106 yX6_isNoted, Cond.static yX6_isNoted, Cond.code yX6_isNoted cX6_isNoted 1 (some .boolean), Cond.methodLink RX6 110 yX6_value, Cond.static yX6_value, Cond.code yX6_value cX6_value 1 (some .float), Cond.constantFloat RX6 101 (1092616192), Cond.methodLink RX6 118 yJxf58ca_floatToIntBits_5c35a, Cond.static yJxf58ca_floatToIntBits_5c35a, Cond.initialized RJxf58ca, Cond.code yJxf58ca_floatToIntBits_5c35a cJxf58ca_floatToIntBits_5c35a 1 (some .int), Cond.methodLink RJxf58ca 74 ⟨"java/lang/Float", "floatToRawIntBits", "(F)I"⟩, Cond.native ⟨"java/lang/Float", "floatToRawIntBits", "(F)I"⟩, Cond.static ⟨"java/lang/Float", "floatToRawIntBits", "(F)I"⟩]
def wsX6_digest_r3 : List Cond := [Cond.initialized "java/lang/Float", Cond.constant RJxf58ca 77 (2143289344), Cond.methodLink RJxf58ca 59 yJxf58ca_isNaN_12338, Cond.static yJxf58ca_isNaN_12338, Cond.code yJxf58ca_isNaN_12338 cJxf58ca_isNaN_12338 1 (some .boolean), Cond.methodLink RX6 163 yX6_errsTold, Cond.instanceMethod yX6_errsTold, Cond.selects RX6 yX6_errsTold yX6_errsTold, Cond.code yX6_errsTold cX6_errsTold 3 (some .int), Cond.fieldLink RX6 157 "AnalogDaysModel" "errMany" "I", Cond.methodLink RX6 160 yX6_errsOf, Cond.instanceMethod yX6_errsOf, Cond.selects RX6 yX6_errsOf yX6_errsOf, Cond.code yX6_errsOf cX6_errsOf 6 (some .float), Cond.fieldLink RX6 138 "AnalogDaysModel" "followers" "I", Cond.methodLink RX6 141 yX6_setFollowers, Cond.instanceMethod yX6_setFollowers, Cond.selects RX6 yX6_setFollowers yX6_setFollowers, Cond.code yX6_setFollowers cX6_setFollowers 5 none, Cond.fieldLink RX6 29 "AnalogDaysModel" "follower" "[I", Cond.fieldLink RX6 32 "AnalogDaysModel" "followedBy" "[F", Cond.fieldLink RX6 35 "AnalogDaysModel" "sorted" "[I", Cond.methodLink RX6 145 yX6_meanNow, Cond.instanceMethod yX6_meanNow]
def wsX6_digest_r4 : List Cond := [Cond.selects RX6 yX6_meanNow yX6_meanNow, Cond.code yX6_meanNow cX6_meanNow 4 (some .float)]
def wsX6_digest : List Cond := .code yX6_digest cX6_digest 4 (some .long) :: ((wsX6_digest_r1 ++ (wsX6_digest_r2 ++ (wsX6_digest_r3 ++ wsX6_digest_r4))) ++ wsX60)
def wsJ9_abs_0f7a4 : List Cond := .code yJ9_abs_0f7a4 cJ9_abs_0f7a4 1 (some .int) :: ([])
def wsJ9_max_7cf53 : List Cond := .code yJ9_max_7cf53 cJ9_max_7cf53 2 (some .int) :: ([])
def wsJ9_min_7cf53 : List Cond := .code yJ9_min_7cf53 cJ9_min_7cf53 2 (some .int) :: ([])
def wsL_law_r1 : List Cond := [Cond.classLink RL 7 RX5, Cond.instantiable RX5 8, Cond.initialized RX5, Cond.classLink RL 10 RX6, Cond.instantiable RX6 21, Cond.initialized RX6, Cond.methodLink RL 9 yX5_init, Cond.instanceMethod yX5_init, Cond.code yX5_init cX5_init 1 none, Cond.methodLink RX5 1 objectInit, Cond.instanceMethod objectInit, Cond.code objectInit ⟨#[0xb1]⟩ 1 none, Cond.classLink RX5 7 RX0, Cond.instantiable RX0 5, Cond.initialized RX0, Cond.fieldLink RX5 10 "AnalogDays" "book" "LAnalogDays$Book;", Cond.classLink RX5 16 RX3, Cond.instantiable RX3 3, Cond.initialized RX3, Cond.fieldLink RX5 19 "AnalogDays" "states" "LAnalogDays$States;", Cond.classLink RX5 23 RX2, Cond.instantiable RX2 9, Cond.initialized RX2, Cond.fieldLink RX5 26 "AnalogDays" "likeness" "LAnalogDays$Likeness;"]
def wsL_law_r2 : List Cond := [Cond.classLink RX5 30 RX1, Cond.instantiable RX1 4, Cond.initialized RX1, Cond.fieldLink RX5 33 "AnalogDays" "followers" "LAnalogDays$Followers;", Cond.classLink RX5 37 RX4, Cond.instantiable RX4 5, Cond.initialized RX4, Cond.fieldLink RX5 40 "AnalogDays" "text" "LAnalogDays$Text;", Cond.methodLink RX5 9 yX0_init, Cond.instanceMethod yX0_init, Cond.code yX0_init cX0_init 1 none, Cond.methodLink RX0 3 objectInit, Cond.arrayClass .int, Cond.fieldLink RX0 9 "AnalogDays$Book" "notes" "[I", Cond.fieldLink RX0 15 "AnalogDays$Book" "weights" "[I", Cond.fieldLink RX0 24 "AnalogDays$Book" "few" "I", Cond.methodLink RX0 18 yJ7_fill_53178, Cond.static yJ7_fill_53178, Cond.initialized RJ7, Cond.code yJ7_fill_53178 cJ7_fill_53178 4 none, Cond.methodLink RX5 18 yX3_init, Cond.instanceMethod yX3_init, Cond.code yX3_init cX3_init 2 none, Cond.methodLink RX3 3 objectInit]
def wsL_law_r3 : List Cond := [Cond.classLink RX3 9 RX0, Cond.fieldLink RX3 11 "AnalogDays$States" "ring" "[LAnalogDays$Book;", Cond.methodLink RX3 17 yX0_init, Cond.methodLink RX5 25 yX2_init, Cond.instanceMethod yX2_init, Cond.code yX2_init cX2_init 1 none, Cond.methodLink RX2 3 objectInit, Cond.arrayClass .float, Cond.fieldLink RX2 9 "AnalogDays$Likeness" "values" "[F", Cond.arrayClass .boolean, Cond.fieldLink RX2 15 "AnalogDays$Likeness" "noted" "[Z", Cond.fieldLink RX2 19 "AnalogDays$Likeness" "weights" "[F", Cond.fieldLink RX2 22 "AnalogDays$Likeness" "distances" "[F", Cond.fieldLink RX2 25 "AnalogDays$Likeness" "nearDays" "[I", Cond.fieldLink RX2 29 "AnalogDays$Likeness" "nearCounts" "[I", Cond.fieldLink RX2 32 "AnalogDays$Likeness" "likeCounts" "[I", Cond.fieldLink RX2 35 "AnalogDays$Likeness" "learnt" "I", Cond.methodLink RX5 32 yX1_init, Cond.instanceMethod yX1_init, Cond.code yX1_init cX1_init 1 none, Cond.methodLink RX1 3 objectInit, Cond.fieldLink RX1 9 "AnalogDays$Followers" "tenths" "[I", Cond.fieldLink RX1 15 "AnalogDays$Followers" "distances" "[F", Cond.fieldLink RX1 19 "AnalogDays$Followers" "sorted" "[I"]
def wsL_law_r4 : List Cond := [Cond.methodLink RX5 39 yX4_init, Cond.instanceMethod yX4_init, Cond.code yX4_init cX4_init 1 none, Cond.methodLink RX4 3 objectInit, Cond.fieldLink RX4 9 "AnalogDays$Text" "bytes" "[I", Cond.fieldLink RX4 15 "AnalogDays$Text" "notes" "[I", Cond.methodLink RL 12 yX6_init, Cond.instanceMethod yX6_init, Cond.code yX6_init cX6_init 2 none, Cond.methodLink RX6 7 objectInit, Cond.fieldLink RX6 1 "AnalogDaysModel" "refused" "[I", Cond.fieldLink RX6 13 "AnalogDaysModel" "rules" "[I", Cond.fieldLink RX6 16 "AnalogDaysModel" "days" "[I", Cond.fieldLink RX6 19 "AnalogDaysModel" "kept" "[I", Cond.fieldLink RX6 22 "AnalogDaysModel" "nearest" "[I", Cond.fieldLink RX6 25 "AnalogDaysModel" "nearBy" "[F", Cond.fieldLink RX6 29 "AnalogDaysModel" "follower" "[I", Cond.fieldLink RX6 32 "AnalogDaysModel" "followedBy" "[F", Cond.fieldLink RX6 35 "AnalogDaysModel" "sorted" "[I", Cond.fieldLink RX6 38 "AnalogDaysModel" "text" "[I", Cond.fieldLink RX6 41 "AnalogDaysModel" "read" "[I", Cond.methodLink RL 13 yX5_day, Cond.instanceMethod yX5_day, Cond.selects RX5 yX5_day yX5_day]
def wsL_law_r5 : List Cond := [Cond.code yX5_day cX5_day 5 (some .int), Cond.methodLink RX5 44 yX5_isNote, Cond.static yX5_isNote, Cond.code yX5_isNote cX5_isNote 1 (some .boolean), Cond.methodLink RX5 81 yX5_isWithin, Cond.static yX5_isWithin, Cond.code yX5_isWithin cX5_isWithin 3 (some .boolean), Cond.methodLink RX5 48 yX5_refuseBad, Cond.instanceMethod yX5_refuseBad, Cond.selects RX5 yX5_refuseBad yX5_refuseBad, Cond.code yX5_refuseBad cX5_refuseBad 2 (some .int), Cond.fieldLink RX5 200 "AnalogDays" "timesBad" "I", Cond.methodLink RX5 52 yX0_days, Cond.instanceMethod yX0_days, Cond.selects RX0 yX0_days yX0_days, Cond.code yX0_days cX0_days 1 (some .int), Cond.fieldLink RX0 28 "AnalogDays$Book" "days" "I", Cond.methodLink RX5 56 yX5_refuseFull, Cond.instanceMethod yX5_refuseFull, Cond.selects RX5 yX5_refuseFull yX5_refuseFull, Cond.code yX5_refuseFull cX5_refuseFull 1 (some .int), Cond.fieldLink RX5 203 "AnalogDays" "timesFull" "I", Cond.methodLink RX5 59 yX5_keepState, Cond.instanceMethod yX5_keepState]
def wsL_law_r6 : List Cond := [Cond.selects RX5 yX5_keepState yX5_keepState, Cond.code yX5_keepState cX5_keepState 1 none, Cond.methodLink RX5 223 yX3_push, Cond.instanceMethod yX3_push, Cond.selects RX3 yX3_push yX3_push, Cond.code yX3_push cX3_push 2 none, Cond.fieldLink RX3 22 "AnalogDays$States" "newest" "I", Cond.fieldLink RX3 18 "AnalogDays$States" "count" "I", Cond.methodLink RX3 25 Lib.Math.min.name, Cond.static Lib.Math.min.name, Cond.initialized "java/lang/Math", Cond.code Lib.Math.min.name Lib.Math.min.code 2 (some .int), Cond.methodLink RX3 31 yX0_copyFrom, Cond.instanceMethod yX0_copyFrom, Cond.selects RX0 yX0_copyFrom yX0_copyFrom, Cond.code yX0_copyFrom cX0_copyFrom 2 none, Cond.methodLink RX0 45 arraycopyName, Cond.native arraycopyName, Cond.static arraycopyName, Cond.initialized "java/lang/System", Cond.fieldLink RX0 31 "AnalogDays$Book" "gap" "I", Cond.methodLink RX5 197 yX2_forget, Cond.instanceMethod yX2_forget, Cond.selects RX2 yX2_forget yX2_forget]
def wsL_law_r7 : List Cond := [Cond.code yX2_forget cX2_forget 1 none, Cond.methodLink RX5 62 yX0_append, Cond.instanceMethod yX0_append, Cond.selects RX0 yX0_append yX0_append, Cond.code yX0_append cX0_append 6 (some .int), Cond.methodLink RX0 41 yX0_put, Cond.instanceMethod yX0_put, Cond.selects RX0 yX0_put yX0_put, Cond.code yX0_put cX0_put 4 none, Cond.methodLink RX0 34 yX0_has, Cond.instanceMethod yX0_has, Cond.selects RX0 yX0_has yX0_has, Cond.code yX0_has cX0_has 2 (some .boolean), Cond.static yX5_isMember, Cond.code yX5_isMember cX5_isMember 1 (some .boolean), Cond.methodLink RL 17 yX6_day, Cond.instanceMethod yX6_day, Cond.selects RX6 yX6_day yX6_day, Cond.code yX6_day cX6_day 5 (some .int), Cond.fieldLink RX6 48 "AnalogDaysModel" "many" "I", Cond.methodLink RX6 55 yX6_may, Cond.static yX6_may, Cond.code yX6_may cX6_may 1 (some .boolean), Cond.methodLink RX6 44 yX6_in]
def wsL_law_r8 : List Cond := [Cond.static yX6_in, Cond.code yX6_in cX6_in 3 (some .boolean), Cond.methodLink RX6 59 yX6_bad, Cond.instanceMethod yX6_bad, Cond.selects RX6 yX6_bad yX6_bad, Cond.code yX6_bad cX6_bad 1 (some .int), Cond.methodLink RX6 63 yX6_full, Cond.instanceMethod yX6_full, Cond.selects RX6 yX6_full yX6_full, Cond.code yX6_full cX6_full 1 (some .int), Cond.methodLink RX6 66 yX6_leavesState, Cond.instanceMethod yX6_leavesState, Cond.selects RX6 yX6_leavesState yX6_leavesState, Cond.code yX6_leavesState cX6_leavesState 3 none, Cond.fieldLink RX6 52 "AnalogDaysModel" "states" "I", Cond.methodLink RX6 69 yX6_comes, Cond.instanceMethod yX6_comes, Cond.selects RX6 yX6_comes yX6_comes, Cond.code yX6_comes cX6_comes 5 none, Cond.methodLink RL 18 yX5_sets, Cond.instanceMethod yX5_sets, Cond.selects RX5 yX5_sets yX5_sets, Cond.code yX5_sets cX5_sets 5 (some .int), Cond.methodLink RX5 66 yX0_has]
def wsL_law_r9 : List Cond := [Cond.methodLink RX5 69 yX5_isMember, Cond.methodLink RX5 72 yX0_member, Cond.instanceMethod yX0_member, Cond.selects RX0 yX0_member yX0_member, Cond.code yX0_member cX0_member 3 (some .int), Cond.methodLink RX5 76 yX0_put, Cond.methodLink RL 22 yX6_sets, Cond.instanceMethod yX6_sets, Cond.selects RX6 yX6_sets yX6_sets, Cond.code yX6_sets cX6_sets 5 (some .int), Cond.methodLink RX6 73 yX6_isDay, Cond.instanceMethod yX6_isDay, Cond.selects RX6 yX6_isDay yX6_isDay, Cond.code yX6_isDay cX6_isDay 2 (some .boolean), Cond.methodLink RX6 76 yX6_isMember, Cond.static yX6_isMember, Cond.code yX6_isMember cX6_isMember 1 (some .boolean), Cond.methodLink RX6 79 yX6_badly, Cond.instanceMethod yX6_badly, Cond.selects RX6 yX6_badly yX6_badly, Cond.code yX6_badly cX6_badly 1 (some .int), Cond.methodLink RL 23 yX5_draw, Cond.instanceMethod yX5_draw, Cond.selects RX5 yX5_draw yX5_draw]
def wsL_law_r10 : List Cond := [Cond.code yX5_draw cX5_draw 3 (some .int), Cond.constant RX5 80 (999999), Cond.methodLink RX5 85 yX0_fillByChance, Cond.instanceMethod yX0_fillByChance, Cond.selects RX0 yX0_fillByChance yX0_fillByChance, Cond.code yX0_fillByChance cX0_fillByChance 9 (some .int), Cond.methodLink RX0 51 Lib.Math.min.name, Cond.methodLink RX0 57 Lib.Math.max.name, Cond.static Lib.Math.max.name, Cond.code Lib.Math.max.name Lib.Math.max.code 2 (some .int), Cond.constantLong RX0 60 (1103515245), Cond.constantLong RX0 62 (12345), Cond.constantLong RX0 64 (2147483648), Cond.constantLong RX0 66 (65536), Cond.constantLong RX0 68 (16), Cond.constantLong RX0 70 (1024), Cond.constantLong RX0 72 (41), Cond.methodLink RX0 74 yX0_lastNoted, Cond.instanceMethod yX0_lastNoted, Cond.selects RX0 yX0_lastNoted yX0_lastNoted, Cond.code yX0_lastNoted cX0_lastNoted 5 (some .int), Cond.methodLink RX0 77 yX0_member, Cond.methodLink RL 27 yX6_draw, Cond.instanceMethod yX6_draw]
def wsL_law_r11 : List Cond := [Cond.selects RX6 yX6_draw yX6_draw, Cond.code yX6_draw cX6_draw 8 (some .int), Cond.constant RX6 82 (999999), Cond.constantLong RX6 83 (1103515245), Cond.constantLong RX6 85 (12345), Cond.constantLong RX6 87 (2147483648), Cond.constantLong RX6 89 (65536), Cond.constantLong RX6 91 (16), Cond.constantLong RX6 97 (1024), Cond.constantLong RX6 99 (41), Cond.methodLink RX6 93 yX6_before, Cond.instanceMethod yX6_before, Cond.selects RX6 yX6_before yX6_before, Cond.code yX6_before cX6_before 3 (some .int), Cond.methodLink RL 28 yX5_empties, Cond.instanceMethod yX5_empties, Cond.selects RX5 yX5_empties yX5_empties, Cond.code yX5_empties cX5_empties 2 (some .int), Cond.methodLink RX5 88 yX0_removeAll, Cond.instanceMethod yX0_removeAll, Cond.selects RX0 yX0_removeAll yX0_removeAll, Cond.code yX0_removeAll cX0_removeAll 1 none, Cond.methodLink RL 32 yX6_empties, Cond.instanceMethod yX6_empties]
def wsL_law_r12 : List Cond := [Cond.selects RX6 yX6_empties yX6_empties, Cond.code yX6_empties cX6_empties 2 (some .int), Cond.methodLink RL 33 yX5_rules, Cond.instanceMethod yX5_rules, Cond.selects RX5 yX5_rules yX5_rules, Cond.code yX5_rules cX5_rules 4 (some .int), Cond.methodLink RX5 91 yX5_isRule, Cond.static yX5_isRule, Cond.code yX5_isRule cX5_isRule 2 (some .boolean), Cond.methodLink RX5 95 yX0_rule, Cond.instanceMethod yX0_rule, Cond.selects RX0 yX0_rule yX0_rule, Cond.code yX0_rule cX0_rule 2 (some .int), Cond.methodLink RX5 98 yX0_setRule, Cond.instanceMethod yX0_setRule, Cond.selects RX0 yX0_setRule yX0_setRule, Cond.code yX0_setRule cX0_setRule 3 none, Cond.methodLink RL 36 yX6_rules, Cond.instanceMethod yX6_rules, Cond.selects RX6 yX6_rules yX6_rules, Cond.code yX6_rules cX6_rules 5 (some .int), Cond.methodLink RL 37 yX5_at, Cond.instanceMethod yX5_at, Cond.selects RX5 yX5_at yX5_at]
def wsL_law_r13 : List Cond := [Cond.code yX5_at cX5_at 3 (some .int), Cond.methodLink RL 40 yX6_at, Cond.instanceMethod yX6_at, Cond.selects RX6 yX6_at yX6_at, Cond.code yX6_at cX6_at 3 (some .int), Cond.methodLink RL 41 yX5_distance, Cond.instanceMethod yX5_distance, Cond.selects RX5 yX5_distance yX5_distance, Cond.code yX5_distance cX5_distance 3 (some .int), Cond.methodLink RX5 102 yX2_learn, Cond.instanceMethod yX2_learn, Cond.selects RX2 yX2_learn yX2_learn, Cond.code yX2_learn cX2_learn 6 none, Cond.methodLink RX2 45 Lib.Math.min.name, Cond.fieldLink RX2 51 "AnalogDays$Likeness" "days" "I", Cond.constantFloat RX2 61 (1090519040), Cond.methodLink RX2 39 yX0_days, Cond.methodLink RX2 53 yX2_takeNotes, Cond.instanceMethod yX2_takeNotes, Cond.selects RX2 yX2_takeNotes yX2_takeNotes, Cond.code yX2_takeNotes cX2_takeNotes 5 none, Cond.methodLink RX2 84 yX0_member, Cond.static yX5_valueOf, Cond.code yX5_valueOf cX5_valueOf 1 (some .float)]
def wsL_law_r14 : List Cond := [Cond.constantFloat RX5 234 (1092616192), Cond.methodLink RX2 57 yX0_rule, Cond.methodLink RX2 62 yX2_measure, Cond.instanceMethod yX2_measure, Cond.selects RX2 yX2_measure yX2_measure, Cond.code yX2_measure cX2_measure 9 (some .float), Cond.constantFloat RX2 77 (3212836864), Cond.methodLink RX2 66 yX0_gap, Cond.instanceMethod yX0_gap, Cond.selects RX0 yX0_gap yX0_gap, Cond.code yX0_gap cX0_gap 1 (some .int), Cond.methodLink RX2 69 yX2_rank, Cond.instanceMethod yX2_rank, Cond.selects RX2 yX2_rank yX2_rank, Cond.code yX2_rank cX2_rank 8 none, Cond.methodLink RX2 91 Lib.Math.abs.name, Cond.static Lib.Math.abs.name, Cond.code Lib.Math.abs.name Lib.Math.abs.code 1 (some .int), Cond.methodLink RX2 94 yX2_enter, Cond.instanceMethod yX2_enter, Cond.selects RX2 yX2_enter yX2_enter, Cond.code yX2_enter cX2_enter 7 (some .int), Cond.methodLink RX2 98 yX2_between, Cond.instanceMethod yX2_between]
def wsL_law_r15 : List Cond := [Cond.selects RX2 yX2_between yX2_between, Cond.code yX2_between cX2_between 3 (some .float), Cond.methodLink RX2 73 yX2_has, Cond.instanceMethod yX2_has, Cond.selects RX2 yX2_has yX2_has, Cond.code yX2_has cX2_has 2 (some .boolean), Cond.methodLink RX5 106 yX2_between, Cond.methodLink RX5 110 yX5_bitsOrNone, Cond.static yX5_bitsOrNone, Cond.code yX5_bitsOrNone cX5_bitsOrNone 1 (some .int), Cond.methodLink RX5 153 yX5_floatBits, Cond.static yX5_floatBits, Cond.code yX5_floatBits cX5_floatBits 4 (some .int), Cond.constantFloat RX5 235 (1258291200), Cond.constant RX5 238 (-2147483648), Cond.methodLink RL 44 yX6_distance, Cond.instanceMethod yX6_distance, Cond.selects RX6 yX6_distance yX6_distance, Cond.code yX6_distance cX6_distance 4 (some .int), Cond.fieldLink RX6 102 "AnalogDaysModel" "compared" "Z", Cond.methodLink RX6 114 yX6_distanceOf, Cond.instanceMethod yX6_distanceOf, Cond.selects RX6 yX6_distanceOf yX6_distanceOf, Cond.code yX6_distanceOf cX6_distanceOf 12 (some .float)]
def wsL_law_r16 : List Cond := [Cond.constantFloat RX6 109 (1090519040), Cond.methodLink RX6 106 yX6_isNoted, Cond.static yX6_isNoted, Cond.code yX6_isNoted cX6_isNoted 1 (some .boolean), Cond.methodLink RX6 110 yX6_value, Cond.static yX6_value, Cond.code yX6_value cX6_value 1 (some .float), Cond.constantFloat RX6 101 (1092616192), Cond.methodLink RX6 118 yJxf58ca_floatToIntBits_5c35a, Cond.static yJxf58ca_floatToIntBits_5c35a, Cond.initialized RJxf58ca, Cond.code yJxf58ca_floatToIntBits_5c35a cJxf58ca_floatToIntBits_5c35a 1 (some .int), Cond.methodLink RJxf58ca 74 ⟨"java/lang/Float", "floatToRawIntBits", "(F)I"⟩, Cond.native ⟨"java/lang/Float", "floatToRawIntBits", "(F)I"⟩, Cond.static ⟨"java/lang/Float", "floatToRawIntBits", "(F)I"⟩, Cond.initialized "java/lang/Float", Cond.constant RJxf58ca 77 (2143289344), Cond.methodLink RJxf58ca 59 yJxf58ca_isNaN_12338, Cond.static yJxf58ca_isNaN_12338, Cond.code yJxf58ca_isNaN_12338 cJxf58ca_isNaN_12338 1 (some .boolean), Cond.methodLink RL 45 yX5_nearest, Cond.instanceMethod yX5_nearest, Cond.selects RX5 yX5_nearest yX5_nearest, Cond.code yX5_nearest cX5_nearest 5 (some .int)]
def wsL_law_r17 : List Cond := [Cond.methodLink RX5 114 yX0_few, Cond.instanceMethod yX0_few, Cond.selects RX0 yX0_few yX0_few, Cond.code yX0_few cX0_few 1 (some .int), Cond.methodLink RX5 117 yX2_nearOnes, Cond.instanceMethod yX2_nearOnes, Cond.selects RX2 yX2_nearOnes yX2_nearOnes, Cond.code yX2_nearOnes cX2_nearOnes 3 (some .int), Cond.methodLink RX5 120 yX2_near, Cond.instanceMethod yX2_near, Cond.selects RX2 yX2_near yX2_near, Cond.code yX2_near cX2_near 3 (some .int), Cond.methodLink RL 48 yX6_nearest, Cond.instanceMethod yX6_nearest, Cond.selects RX6 yX6_nearest yX6_nearest, Cond.code yX6_nearest cX6_nearest 4 (some .int), Cond.fieldLink RX6 124 "AnalogDaysModel" "near" "I", Cond.methodLink RX6 135 yX6_setNearest, Cond.instanceMethod yX6_setNearest, Cond.selects RX6 yX6_setNearest yX6_setNearest, Cond.code yX6_setNearest cX6_setNearest 2 none, Cond.methodLink RX6 131 yX6_setLike, Cond.instanceMethod yX6_setLike, Cond.selects RX6 yX6_setLike yX6_setLike]
def wsL_law_r18 : List Cond := [Cond.code yX6_setLike cX6_setLike 5 none, Cond.methodLink RX6 127 yX6_mayBeLike, Cond.instanceMethod yX6_mayBeLike, Cond.selects RX6 yX6_mayBeLike yX6_mayBeLike, Cond.code yX6_mayBeLike cX6_mayBeLike 4 (some .boolean), Cond.methodLink RL 49 yX5_likes, Cond.instanceMethod yX5_likes, Cond.selects RX5 yX5_likes yX5_likes, Cond.code yX5_likes cX5_likes 2 (some .int), Cond.methodLink RX5 123 yX2_likeOnes, Cond.instanceMethod yX2_likeOnes, Cond.selects RX2 yX2_likeOnes yX2_likeOnes, Cond.code yX2_likeOnes cX2_likeOnes 2 (some .int), Cond.methodLink RL 53 yX6_likes, Cond.instanceMethod yX6_likes, Cond.selects RX6 yX6_likes yX6_likes, Cond.code yX6_likes cX6_likes 2 (some .int), Cond.methodLink RL 54 yX5_serves, Cond.instanceMethod yX5_serves, Cond.selects RX5 yX5_serves yX5_serves, Cond.code yX5_serves cX5_serves 4 (some .int), Cond.methodLink RX5 126 yX2_isNear, Cond.instanceMethod yX2_isNear, Cond.selects RX2 yX2_isNear yX2_isNear]
def wsL_law_r19 : List Cond := [Cond.code yX2_isNear cX2_isNear 5 (some .boolean), Cond.methodLink RX2 78 yX2_nearOnes, Cond.methodLink RX2 81 yX2_near, Cond.methodLink RL 57 yX6_serves, Cond.instanceMethod yX6_serves, Cond.selects RX6 yX6_serves yX6_serves, Cond.code yX6_serves cX6_serves 5 (some .int), Cond.methodLink RL 58 yX5_twins, Cond.instanceMethod yX5_twins, Cond.selects RX5 yX5_twins yX5_twins, Cond.code yX5_twins cX5_twins 8 (some .int), Cond.constantFloat RX5 129 (3212836864), Cond.methodLink RX5 130 yX5_isLess, Cond.static yX5_isLess, Cond.code yX5_isLess cX5_isLess 2 (some .boolean), Cond.methodLink RL 61 yX6_twins, Cond.instanceMethod yX6_twins, Cond.selects RX6 yX6_twins yX6_twins, Cond.code yX6_twins cX6_twins 8 (some .int), Cond.methodLink RL 62 yX5_strangers, Cond.instanceMethod yX5_strangers, Cond.selects RX5 yX5_strangers yX5_strangers, Cond.code yX5_strangers cX5_strangers 4 (some .int), Cond.methodLink RL 65 yX6_strangers]
def wsL_law_r20 : List Cond := [Cond.instanceMethod yX6_strangers, Cond.selects RX6 yX6_strangers yX6_strangers, Cond.code yX6_strangers cX6_strangers 4 (some .int), Cond.methodLink RL 66 yX5_follows, Cond.instanceMethod yX5_follows, Cond.selects RX5 yX5_follows yX5_follows, Cond.code yX5_follows cX5_follows 5 (some .int), Cond.methodLink RX5 134 yX5_gatherFollowers, Cond.instanceMethod yX5_gatherFollowers, Cond.selects RX5 yX5_gatherFollowers yX5_gatherFollowers, Cond.code yX5_gatherFollowers cX5_gatherFollowers 3 none, Cond.methodLink RX5 226 yX1_gather, Cond.instanceMethod yX1_gather, Cond.selects RX1 yX1_gather yX1_gather, Cond.code yX1_gather cX1_gather 9 none, Cond.fieldLink RX1 22 "AnalogDays$Followers" "size" "I", Cond.methodLink RX1 26 yX2_nearOnes, Cond.methodLink RX1 32 yX2_near, Cond.methodLink RX1 35 yX0_member, Cond.methodLink RX1 40 yX2_between, Cond.methodLink RX1 44 yX1_add, Cond.instanceMethod yX1_add, Cond.selects RX1 yX1_add yX1_add, Cond.code yX1_add cX1_add 4 none]
def wsL_law_r21 : List Cond := [Cond.methodLink RX5 137 yX1_size, Cond.instanceMethod yX1_size, Cond.selects RX1 yX1_size yX1_size, Cond.code yX1_size cX1_size 1 (some .int), Cond.methodLink RX5 140 yX1_least, Cond.instanceMethod yX1_least, Cond.selects RX1 yX1_least yX1_least, Cond.code yX1_least cX1_least 2 (some .int), Cond.methodLink RX1 53 yX1_spanSize, Cond.instanceMethod yX1_spanSize, Cond.selects RX1 yX1_spanSize yX1_spanSize, Cond.code yX1_spanSize cX1_spanSize 2 (some .int), Cond.methodLink RX1 48 Lib.Math.max.name, Cond.methodLink RX5 143 yX1_greatest, Cond.instanceMethod yX1_greatest, Cond.selects RX1 yX1_greatest yX1_greatest, Cond.code yX1_greatest cX1_greatest 2 (some .int), Cond.methodLink RX5 146 yX1_spanSize, Cond.methodLink RL 69 yX6_follows, Cond.instanceMethod yX6_follows, Cond.selects RX6 yX6_follows yX6_follows, Cond.code yX6_follows cX6_follows 6 (some .int), Cond.fieldLink RX6 138 "AnalogDaysModel" "followers" "I", Cond.methodLink RX6 141 yX6_setFollowers]
def wsL_law_r22 : List Cond := [Cond.instanceMethod yX6_setFollowers, Cond.selects RX6 yX6_setFollowers yX6_setFollowers, Cond.code yX6_setFollowers cX6_setFollowers 5 none, Cond.methodLink RL 70 yX5_mean, Cond.instanceMethod yX5_mean, Cond.selects RX5 yX5_mean yX5_mean, Cond.code yX5_mean cX5_mean 3 (some .int), Cond.methodLink RX5 149 yX1_meanValue, Cond.instanceMethod yX1_meanValue, Cond.selects RX1 yX1_meanValue yX1_meanValue, Cond.code yX1_meanValue cX1_meanValue 4 (some .float), Cond.methodLink RL 73 yX6_mean, Cond.instanceMethod yX6_mean, Cond.selects RX6 yX6_mean yX6_mean, Cond.code yX6_mean cX6_mean 3 (some .int), Cond.methodLink RX6 145 yX6_meanNow, Cond.instanceMethod yX6_meanNow, Cond.selects RX6 yX6_meanNow yX6_meanNow, Cond.code yX6_meanNow cX6_meanNow 4 (some .float), Cond.methodLink RL 74 yX5_spread, Cond.instanceMethod yX5_spread, Cond.selects RX5 yX5_spread yX5_spread, Cond.code yX5_spread cX5_spread 3 (some .long), Cond.constantLong RX5 156 (-1)]
def wsL_law_r23 : List Cond := [Cond.methodLink RX5 158 yX1_spreadOfValues, Cond.instanceMethod yX1_spreadOfValues, Cond.selects RX1 yX1_spreadOfValues yX1_spreadOfValues, Cond.code yX1_spreadOfValues cX1_spreadOfValues 8 (some .double), Cond.methodLink RX5 162 yX5_doubleBits, Cond.static yX5_doubleBits, Cond.code yX5_doubleBits cX5_doubleBits 7 (some .long), Cond.constantDouble RX5 239 (4611686018427387904), Cond.constantDouble RX5 241 (4841369599423283200), Cond.constantLong RX5 245 (-9223372036854775808), Cond.methodLink RL 78 yX6_spread, Cond.instanceMethod yX6_spread, Cond.selects RX6 yX6_spread yX6_spread, Cond.code yX6_spread cX6_spread 12 (some .long), Cond.constantLong RX6 149 (-1), Cond.methodLink RX6 151 yJxe99ae_doubleToLongBits_ccdee, Cond.static yJxe99ae_doubleToLongBits_ccdee, Cond.initialized RJxe99ae, Cond.code yJxe99ae_doubleToLongBits_ccdee cJxe99ae_doubleToLongBits_ccdee 2 (some .long), Cond.methodLink RJxe99ae 134 ⟨"java/lang/Double", "doubleToRawLongBits", "(D)J"⟩, Cond.native ⟨"java/lang/Double", "doubleToRawLongBits", "(D)J"⟩, Cond.static ⟨"java/lang/Double", "doubleToRawLongBits", "(D)J"⟩, Cond.initialized "java/lang/Double", Cond.constantLong RJxe99ae 137 (9221120237041090560)]
def wsL_law_r24 : List Cond := [Cond.methodLink RJxe99ae 122 yJxe99ae_isNaN_b9ae7, Cond.static yJxe99ae_isNaN_b9ae7, Cond.code yJxe99ae_isNaN_b9ae7 cJxe99ae_isNaN_b9ae7 2 (some .boolean), Cond.methodLink RL 79 yX5_holds, Cond.instanceMethod yX5_holds, Cond.selects RX5 yX5_holds yX5_holds, Cond.code yX5_holds cX5_holds 8 (some .int), Cond.methodLink RL 82 yX6_holds, Cond.instanceMethod yX6_holds, Cond.selects RX6 yX6_holds yX6_holds, Cond.code yX6_holds cX6_holds 8 (some .int), Cond.methodLink RL 83 yX5_errs, Cond.instanceMethod yX5_errs, Cond.selects RX5 yX5_errs yX5_errs, Cond.code yX5_errs cX5_errs 2 (some .int), Cond.methodLink RX5 166 yX5_meanError, Cond.instanceMethod yX5_meanError, Cond.selects RX5 yX5_meanError yX5_meanError, Cond.code yX5_meanError cX5_meanError 8 (some .float), Cond.methodLink RX5 230 yX5_valueOf, Cond.methodLink RL 86 yX6_errs, Cond.instanceMethod yX6_errs, Cond.selects RX6 yX6_errs yX6_errs, Cond.code yX6_errs cX6_errs 2 (some .int)]
def wsL_law_r25 : List Cond := [Cond.methodLink RX6 163 yX6_errsTold, Cond.instanceMethod yX6_errsTold, Cond.selects RX6 yX6_errsTold yX6_errsTold, Cond.code yX6_errsTold cX6_errsTold 3 (some .int), Cond.fieldLink RX6 157 "AnalogDaysModel" "errMany" "I", Cond.methodLink RX6 160 yX6_errsOf, Cond.instanceMethod yX6_errsOf, Cond.selects RX6 yX6_errsOf yX6_errsOf, Cond.code yX6_errsOf cX6_errsOf 6 (some .float), Cond.methodLink RL 87 yX5_best, Cond.instanceMethod yX5_best, Cond.selects RX5 yX5_best yX5_best, Cond.code yX5_best cX5_best 7 (some .int), Cond.methodLink RL 90 yX6_best, Cond.instanceMethod yX6_best, Cond.selects RX6 yX6_best yX6_best, Cond.code yX6_best cX6_best 8 (some .int), Cond.methodLink RL 91 yX5_spare, Cond.instanceMethod yX5_spare, Cond.selects RX5 yX5_spare yX5_spare, Cond.code yX5_spare cX5_spare 6 (some .int), Cond.methodLink RL 94 yX6_spare, Cond.instanceMethod yX6_spare, Cond.selects RX6 yX6_spare yX6_spare]
def wsL_law_r26 : List Cond := [Cond.code yX6_spare cX6_spare 7 (some .int), Cond.methodLink RL 95 yX5_type, Cond.instanceMethod yX5_type, Cond.selects RX5 yX5_type yX5_type, Cond.code yX5_type cX5_type 2 (some .int), Cond.methodLink RX5 169 yX4_length, Cond.instanceMethod yX4_length, Cond.selects RX4 yX4_length yX4_length, Cond.code yX4_length cX4_length 1 (some .int), Cond.fieldLink RX4 18 "AnalogDays$Text" "length" "I", Cond.methodLink RX5 172 yX4_append, Cond.instanceMethod yX4_append, Cond.selects RX4 yX4_append yX4_append, Cond.code yX4_append cX4_append 2 (some .int), Cond.methodLink RL 98 yX6_type, Cond.instanceMethod yX6_type, Cond.selects RX6 yX6_type yX6_type, Cond.code yX6_type cX6_type 2 (some .int), Cond.fieldLink RX6 166 "AnalogDaysModel" "size" "I", Cond.methodLink RL 99 yX5_clear, Cond.instanceMethod yX5_clear, Cond.selects RX5 yX5_clear yX5_clear, Cond.code yX5_clear cX5_clear 1 (some .int), Cond.methodLink RX5 174 yX4_wipe]
def wsL_law_r27 : List Cond := [Cond.instanceMethod yX4_wipe, Cond.selects RX4 yX4_wipe yX4_wipe, Cond.code yX4_wipe cX4_wipe 2 (some .int), Cond.methodLink RL 102 yX6_clear, Cond.instanceMethod yX6_clear, Cond.selects RX6 yX6_clear yX6_clear, Cond.code yX6_clear cX6_clear 2 (some .int), Cond.methodLink RL 103 yX5_reads, Cond.instanceMethod yX5_reads, Cond.selects RX5 yX5_reads yX5_reads, Cond.code yX5_reads cX5_reads 3 (some .int), Cond.methodLink RX5 177 yX4_parse, Cond.instanceMethod yX4_parse, Cond.selects RX4 yX4_parse yX4_parse, Cond.code yX4_parse cX4_parse 4 (some .int), Cond.fieldLink RX4 29 "AnalogDays$Text" "place" "I", Cond.fieldLink RX4 22 "AnalogDays$Text" "days" "I", Cond.methodLink RX4 32 yX4_skipBlanks, Cond.instanceMethod yX4_skipBlanks, Cond.selects RX4 yX4_skipBlanks yX4_skipBlanks, Cond.code yX4_skipBlanks cX4_skipBlanks 1 none, Cond.methodLink RX4 45 yX4_here, Cond.instanceMethod yX4_here, Cond.selects RX4 yX4_here yX4_here]
def wsL_law_r28 : List Cond := [Cond.code yX4_here cX4_here 1 (some .int), Cond.methodLink RX4 35 yX4_parseDay, Cond.instanceMethod yX4_parseDay, Cond.selects RX4 yX4_parseDay yX4_parseDay, Cond.code yX4_parseDay cX4_parseDay 4 (some .int), Cond.methodLink RX4 39 yX4_parseMember, Cond.instanceMethod yX4_parseMember, Cond.selects RX4 yX4_parseMember yX4_parseMember, Cond.code yX4_parseMember cX4_parseMember 2 (some .int), Cond.methodLink RX4 49 yX4_keepNote, Cond.instanceMethod yX4_keepNote, Cond.selects RX4 yX4_keepNote yX4_keepNote, Cond.code yX4_keepNote cX4_keepNote 3 (some .int), Cond.methodLink RX4 53 yX4_parseNumber, Cond.instanceMethod yX4_parseNumber, Cond.selects RX4 yX4_parseNumber yX4_parseNumber, Cond.code yX4_parseNumber cX4_parseNumber 6 (some .int), Cond.methodLink RX4 42 yX4_parseMark, Cond.instanceMethod yX4_parseMark, Cond.selects RX4 yX4_parseMark yX4_parseMark, Cond.code yX4_parseMark cX4_parseMark 2 (some .int), Cond.methodLink RX5 180 yX4_daysTold, Cond.instanceMethod yX4_daysTold, Cond.selects RX4 yX4_daysTold yX4_daysTold]
def wsL_law_r29 : List Cond := [Cond.code yX4_daysTold cX4_daysTold 1 (some .int), Cond.methodLink RX5 183 yX4_note, Cond.instanceMethod yX4_note, Cond.selects RX4 yX4_note yX4_note, Cond.code yX4_note cX4_note 3 (some .int), Cond.methodLink RL 106 yX6_reads, Cond.instanceMethod yX6_reads, Cond.selects RX6 yX6_reads yX6_reads, Cond.code yX6_reads cX6_reads 2 (some .int), Cond.methodLink RX6 191 yX6_goesThrough, Cond.instanceMethod yX6_goesThrough, Cond.selects RX6 yX6_goesThrough yX6_goesThrough, Cond.code yX6_goesThrough cX6_goesThrough 3 (some .int), Cond.fieldLink RX6 169 "AnalogDaysModel" "readAt" "I", Cond.fieldLink RX6 181 "AnalogDaysModel" "readMany" "I", Cond.fieldLink RX6 175 "AnalogDaysModel" "tokenAt" "I", Cond.methodLink RX6 178 yX6_skips, Cond.instanceMethod yX6_skips, Cond.selects RX6 yX6_skips yX6_skips, Cond.code yX6_skips cX6_skips 1 none, Cond.methodLink RX6 172 yX6_here, Cond.instanceMethod yX6_here, Cond.selects RX6 yX6_here yX6_here, Cond.code yX6_here cX6_here 1 (some .int)]
def wsL_law_r30 : List Cond := [Cond.methodLink RX6 187 yX6_readsDay, Cond.instanceMethod yX6_readsDay, Cond.selects RX6 yX6_readsDay yX6_readsDay, Cond.code yX6_readsDay cX6_readsDay 3 (some .boolean), Cond.methodLink RX6 184 yX6_readsMember, Cond.instanceMethod yX6_readsMember, Cond.selects RX6 yX6_readsMember yX6_readsMember, Cond.code yX6_readsMember cX6_readsMember 5 (some .boolean), Cond.methodLink RL 107 yX5_back, Cond.instanceMethod yX5_back, Cond.selects RX5 yX5_back yX5_back, Cond.code yX5_back cX5_back 1 (some .int), Cond.fieldLink RX5 189 "AnalogDays" "timesNo" "I", Cond.methodLink RX5 186 yX3_count, Cond.instanceMethod yX3_count, Cond.selects RX3 yX3_count yX3_count, Cond.code yX3_count cX3_count 1 (some .int), Cond.methodLink RX5 193 yX3_pop, Cond.instanceMethod yX3_pop, Cond.selects RX3 yX3_pop yX3_pop, Cond.code yX3_pop cX3_pop 2 none, Cond.methodLink RL 110 yX6_back, Cond.instanceMethod yX6_back, Cond.selects RX6 yX6_back yX6_back]
def wsL_law_r31 : List Cond := [Cond.code yX6_back cX6_back 3 (some .int), Cond.methodLink RL 111 yX5_told, Cond.instanceMethod yX5_told, Cond.selects RX5 yX5_told yX5_told, Cond.code yX5_told cX5_told 2 (some .int), Cond.methodLink RX5 206 yX0_gap, Cond.methodLink RL 114 yX6_told, Cond.instanceMethod yX6_told, Cond.selects RX6 yX6_told yX6_told, Cond.code yX6_told cX6_told 2 (some .int), Cond.methodLink RX6 195 yX6_toldBy, Cond.instanceMethod yX6_toldBy, Cond.selects RX6 yX6_toldBy yX6_toldBy, Cond.code yX6_toldBy cX6_toldBy 2 (some .int), Cond.methodLink RL 115 yX5_digest, Cond.instanceMethod yX5_digest, Cond.selects RX5 yX5_digest yX5_digest, Cond.code yX5_digest cX5_digest 5 (some .long), Cond.constantLong RX5 209 (2161), Cond.constantLong RX5 211 (31), Cond.methodLink RX5 213 yX5_told, Cond.methodLink RX5 216 yX5_nearest, Cond.methodLink RX5 220 yX5_errs, Cond.methodLink RL 119 yX6_digest]
def wsL_law_r32 : List Cond := [Cond.instanceMethod yX6_digest, Cond.selects RX6 yX6_digest yX6_digest, Cond.code yX6_digest cX6_digest 4 (some .long), Cond.constantLong RX6 198 (2161), Cond.constantLong RX6 200 (31)]
def wsL_law : List Cond := (wsL_law_r1 ++ (wsL_law_r2 ++ (wsL_law_r3 ++ (wsL_law_r4 ++ (wsL_law_r5 ++ (wsL_law_r6 ++ (wsL_law_r7 ++ (wsL_law_r8 ++ (wsL_law_r9 ++ (wsL_law_r10 ++ (wsL_law_r11 ++ (wsL_law_r12 ++ (wsL_law_r13 ++ (wsL_law_r14 ++ (wsL_law_r15 ++ (wsL_law_r16 ++ (wsL_law_r17 ++ (wsL_law_r18 ++ (wsL_law_r19 ++ (wsL_law_r20 ++ (wsL_law_r21 ++ (wsL_law_r22 ++ (wsL_law_r23 ++ (wsL_law_r24 ++ (wsL_law_r25 ++ (wsL_law_r26 ++ (wsL_law_r27 ++ (wsL_law_r28 ++ (wsL_law_r29 ++ (wsL_law_r30 ++ (wsL_law_r31 ++ wsL_law_r32))))))))))))))))))))))))))))))) ++ wsX50 ++ wsX60 ++ wsX00 ++ wsX30 ++ wsX20 ++ wsX10 ++ wsX40 ++ ([] : List Cond)
end
section
set_option maxRecDepth 20000 in
theorem g_wsL_law_r1 : GoodIn lw_tbl wsL_law_r1 := goodIn_p _ [58, 61] (by decide +kernel) (by decide +kernel)
set_option maxRecDepth 20000 in
theorem g_wsL_law_r2 : GoodIn lw_tbl wsL_law_r2 := goodIn_p _ [66, 70, 92] (by decide +kernel) (by decide +kernel)
set_option maxRecDepth 20000 in
theorem g_wsL_law_r3 : GoodIn lw_tbl wsL_law_r3 := goodIn_p _ [111, 147] (by decide +kernel) (by decide +kernel)
set_option maxRecDepth 20000 in
theorem g_wsL_law_r4 : GoodIn lw_tbl wsL_law_r4 := goodIn_p _ [166, 614] (by decide +kernel) (by decide +kernel)
set_option maxRecDepth 20000 in
theorem g_wsL_law_r5 : GoodIn lw_tbl wsL_law_r5 := goodIn_p _ [212, 215, 218, 222, 226, 230] (by decide +kernel) (by decide +kernel)
set_option maxRecDepth 20000 in
theorem g_wsL_law_r6 : GoodIn lw_tbl wsL_law_r6 := goodIn_p _ [234, 238, 241, 245] (by decide +kernel) (by decide +kernel)
set_option maxRecDepth 20000 in
theorem g_wsL_law_r7 : GoodIn lw_tbl wsL_law_r7 := goodIn_p _ [252, 256, 260, 264, 267, 687, 690] (by decide +kernel) (by decide +kernel)
set_option maxRecDepth 20000 in
theorem g_wsL_law_r8 : GoodIn lw_tbl wsL_law_r8 := goodIn_p _ [693, 697, 701, 705, 709, 271] (by decide +kernel) (by decide +kernel)
set_option maxRecDepth 20000 in
theorem g_wsL_law_r9 : GoodIn lw_tbl wsL_law_r9 := goodIn_p _ [277, 713, 717, 720, 724] (by decide +kernel) (by decide +kernel)
set_option maxRecDepth 20000 in
theorem g_wsL_law_r10 : GoodIn lw_tbl wsL_law_r10 := goodIn_p _ [282, 287, 291, 302] (by decide +kernel) (by decide +kernel)
set_option maxRecDepth 20000 in
theorem g_wsL_law_r11 : GoodIn lw_tbl wsL_law_r11 := goodIn_p _ [728, 738, 307, 311] (by decide +kernel) (by decide +kernel)
set_option maxRecDepth 20000 in
theorem g_wsL_law_r12 : GoodIn lw_tbl wsL_law_r12 := goodIn_p _ [744, 315, 318, 322, 326, 748] (by decide +kernel) (by decide +kernel)
set_option maxRecDepth 20000 in
theorem g_wsL_law_r13 : GoodIn lw_tbl wsL_law_r13 := goodIn_p _ [330, 752, 334, 338, 344, 348] (by decide +kernel) (by decide +kernel)
set_option maxRecDepth 20000 in
theorem g_wsL_law_r14 : GoodIn lw_tbl wsL_law_r14 := goodIn_p _ [355, 360, 364, 367, 371] (by decide +kernel) (by decide +kernel)
set_option maxRecDepth 20000 in
theorem g_wsL_law_r15 : GoodIn lw_tbl wsL_law_r15 := goodIn_p _ [375, 379, 383, 386, 756, 760] (by decide +kernel) (by decide +kernel)
set_option maxRecDepth 20000 in
theorem g_wsL_law_r16 : GoodIn lw_tbl wsL_law_r16 := goodIn_p _ [763, 767, 771, 774, 392] (by decide +kernel) (by decide +kernel)
set_option maxRecDepth 20000 in
theorem g_wsL_law_r17 : GoodIn lw_tbl wsL_law_r17 := goodIn_p _ [396, 400, 404, 782, 786] (by decide +kernel) (by decide +kernel)
set_option maxRecDepth 20000 in
theorem g_wsL_law_r18 : GoodIn lw_tbl wsL_law_r18 := goodIn_p _ [790, 794, 408, 412, 798, 416] (by decide +kernel) (by decide +kernel)
set_option maxRecDepth 20000 in
theorem g_wsL_law_r19 : GoodIn lw_tbl wsL_law_r19 := goodIn_p _ [420, 802, 426, 430, 806, 434] (by decide +kernel) (by decide +kernel)
set_option maxRecDepth 20000 in
theorem g_wsL_law_r20 : GoodIn lw_tbl wsL_law_r20 := goodIn_p _ [810, 438, 442, 446, 454] (by decide +kernel) (by decide +kernel)
set_option maxRecDepth 20000 in
theorem g_wsL_law_r21 : GoodIn lw_tbl wsL_law_r21 := goodIn_p _ [458, 462, 466, 471, 814] (by decide +kernel) (by decide +kernel)
set_option maxRecDepth 20000 in
theorem g_wsL_law_r22 : GoodIn lw_tbl wsL_law_r22 := goodIn_p _ [818, 476, 480, 822, 826, 485] (by decide +kernel) (by decide +kernel)
set_option maxRecDepth 20000 in
theorem g_wsL_law_r23 : GoodIn lw_tbl wsL_law_r23 := goodIn_p _ [490, 493, 830, 834] (by decide +kernel) (by decide +kernel)
set_option maxRecDepth 20000 in
theorem g_wsL_law_r24 : GoodIn lw_tbl wsL_law_r24 := goodIn_p _ [837, 500, 845, 504, 508, 849] (by decide +kernel) (by decide +kernel)
set_option maxRecDepth 20000 in
theorem g_wsL_law_r25 : GoodIn lw_tbl wsL_law_r25 := goodIn_p _ [853, 857, 513, 861, 517] (by decide +kernel) (by decide +kernel)
set_option maxRecDepth 20000 in
theorem g_wsL_law_r26 : GoodIn lw_tbl wsL_law_r26 := goodIn_p _ [865, 521, 525, 529, 869, 533] (by decide +kernel) (by decide +kernel)
set_option maxRecDepth 20000 in
theorem g_wsL_law_r27 : GoodIn lw_tbl wsL_law_r27 := goodIn_p _ [537, 873, 541, 545, 549] (by decide +kernel) (by decide +kernel)
set_option maxRecDepth 20000 in
theorem g_wsL_law_r28 : GoodIn lw_tbl wsL_law_r28 := goodIn_p _ [553, 557, 561, 565, 569, 574] (by decide +kernel) (by decide +kernel)
set_option maxRecDepth 20000 in
theorem g_wsL_law_r29 : GoodIn lw_tbl wsL_law_r29 := goodIn_p _ [578, 582, 877, 881, 885, 889] (by decide +kernel) (by decide +kernel)
set_option maxRecDepth 20000 in
theorem g_wsL_law_r30 : GoodIn lw_tbl wsL_law_r30 := goodIn_p _ [893, 897, 587, 591, 595] (by decide +kernel) (by decide +kernel)
set_option maxRecDepth 20000 in
theorem g_wsL_law_r31 : GoodIn lw_tbl wsL_law_r31 := goodIn_p _ [683, 599, 901, 905, 604] (by decide +kernel) (by decide +kernel)
set_option maxRecDepth 20000 in
theorem g_wsL_law_r32 : GoodIn lw_tbl wsL_law_r32 := goodIn_p _ [909] (by decide +kernel) (by decide +kernel)
set_option maxRecDepth 20000 in
theorem g_wsX50 : GoodIn lw_tbl wsX50 := goodIn_of _ (by decide +kernel)
set_option maxRecDepth 20000 in
theorem g_wsX60 : GoodIn lw_tbl wsX60 := goodIn_of _ (by decide +kernel)
set_option maxRecDepth 20000 in
theorem g_wsX00 : GoodIn lw_tbl wsX00 := goodIn_of _ (by decide +kernel)
set_option maxRecDepth 20000 in
theorem g_wsX30 : GoodIn lw_tbl wsX30 := goodIn_of _ (by decide +kernel)
set_option maxRecDepth 20000 in
theorem g_wsX20 : GoodIn lw_tbl wsX20 := goodIn_of _ (by decide +kernel)
set_option maxRecDepth 20000 in
theorem g_wsX10 : GoodIn lw_tbl wsX10 := goodIn_of _ (by decide +kernel)
set_option maxRecDepth 20000 in
theorem g_wsX40 : GoodIn lw_tbl wsX40 := goodIn_of _ (by decide +kernel)
theorem g_wsL_law : GoodIn lw_tbl wsL_law := by
  unfold wsL_law
  exact goodIn_app (goodIn_app (goodIn_app (goodIn_app (goodIn_app (goodIn_app (goodIn_app (goodIn_app (goodIn_app g_wsL_law_r1 (goodIn_app g_wsL_law_r2 (goodIn_app g_wsL_law_r3 (goodIn_app g_wsL_law_r4 (goodIn_app g_wsL_law_r5 (goodIn_app g_wsL_law_r6 (goodIn_app g_wsL_law_r7 (goodIn_app g_wsL_law_r8 (goodIn_app g_wsL_law_r9 (goodIn_app g_wsL_law_r10 (goodIn_app g_wsL_law_r11 (goodIn_app g_wsL_law_r12 (goodIn_app g_wsL_law_r13 (goodIn_app g_wsL_law_r14 (goodIn_app g_wsL_law_r15 (goodIn_app g_wsL_law_r16 (goodIn_app g_wsL_law_r17 (goodIn_app g_wsL_law_r18 (goodIn_app g_wsL_law_r19 (goodIn_app g_wsL_law_r20 (goodIn_app g_wsL_law_r21 (goodIn_app g_wsL_law_r22 (goodIn_app g_wsL_law_r23 (goodIn_app g_wsL_law_r24 (goodIn_app g_wsL_law_r25 (goodIn_app g_wsL_law_r26 (goodIn_app g_wsL_law_r27 (goodIn_app g_wsL_law_r28 (goodIn_app g_wsL_law_r29 (goodIn_app g_wsL_law_r30 (goodIn_app g_wsL_law_r31 (g_wsL_law_r32)))))))))))))))))))))))))))))))) g_wsX50) g_wsX60) g_wsX00) g_wsX30) g_wsX20) g_wsX10) g_wsX40) (fun w h => absurd h List.not_mem_nil)
theorem wsL_law_in : ∀ w ∈ wsL_law, w ∈ lw_tbl := fun w h => (g_wsL_law w h).1
theorem inX0 : ∀ w ∈ wsX00, w ∈ lw_tbl := fun w h => (g_wsX00 w h).1
theorem inX1 : ∀ w ∈ wsX10, w ∈ lw_tbl := fun w h => (g_wsX10 w h).1
theorem inX2 : ∀ w ∈ wsX20, w ∈ lw_tbl := fun w h => (g_wsX20 w h).1
theorem inX3 : ∀ w ∈ wsX30, w ∈ lw_tbl := fun w h => (g_wsX30 w h).1
theorem inX4 : ∀ w ∈ wsX40, w ∈ lw_tbl := fun w h => (g_wsX40 w h).1
theorem inX5 : ∀ w ∈ wsX50, w ∈ lw_tbl := fun w h => (g_wsX50 w h).1
theorem inX6 : ∀ w ∈ wsX60, w ∈ lw_tbl := fun w h => (g_wsX60 w h).1
end
section
set_option maxRecDepth 20000 in
theorem ggX0_init_J7_fill_53178 : GoodIn wsX0_init wsJ7_fill_53178 := goodIn_r _ [11] (by decide +kernel) (by decide +kernel)
set_option maxRecDepth 20000 in
theorem gX0_init_J7_fill_53178 : GoodIn wsX0_init (va_wsS RX0 18 yJ7_fill_53178 wsJ7_fill_53178) := goodIn_app (goodIn_of _ (by decide +kernel)) ggX0_init_J7_fill_53178
theorem dX0_init_0 : decode cX0_init 0 = .ok (.aload_n 0, 1) := by decide +kernel
theorem dX0_init_1 : decode cX0_init 1 = .ok (.invokespecial 3, 3) := by decide +kernel
theorem dX0_init_4 : decode cX0_init 4 = .ok (.aload_n 0, 1) := by decide +kernel
theorem dX0_init_5 : decode cX0_init 5 = .ok (.sipush 200, 3) := by decide +kernel
theorem dX0_init_8 : decode cX0_init 8 = .ok (.newarray .int, 2) := by decide +kernel
theorem dX0_init_10 : decode cX0_init 10 = .ok (.putfield 9, 3) := by decide +kernel
theorem dX0_init_13 : decode cX0_init 13 = .ok (.aload_n 0, 1) := by decide +kernel
theorem dX0_init_14 : decode cX0_init 14 = .ok (.iconst 4, 1) := by decide +kernel
theorem dX0_init_15 : decode cX0_init 15 = .ok (.newarray .int, 2) := by decide +kernel
theorem dX0_init_17 : decode cX0_init 17 = .ok (.putfield 15, 3) := by decide +kernel
theorem dX0_init_20 : decode cX0_init 20 = .ok (.aload_n 0, 1) := by decide +kernel
theorem dX0_init_21 : decode cX0_init 21 = .ok (.getfield 15, 3) := by decide +kernel
theorem dX0_init_24 : decode cX0_init 24 = .ok (.bipush 8, 2) := by decide +kernel
theorem dX0_init_26 : decode cX0_init 26 = .ok (.invokestatic 18, 3) := by decide +kernel
theorem dX0_init_29 : decode cX0_init 29 = .ok (.aload_n 0, 1) := by decide +kernel
theorem dX0_init_30 : decode cX0_init 30 = .ok (.iconst 4, 1) := by decide +kernel
theorem dX0_init_31 : decode cX0_init 31 = .ok (.putfield 24, 3) := by decide +kernel
theorem dX0_init_34 : decode cX0_init 34 = .ok (.return_, 1) := by decide +kernel
theorem dX0_days_0 : decode cX0_days 0 = .ok (.aload_n 0, 1) := by decide +kernel
theorem dX0_days_1 : decode cX0_days 1 = .ok (.getfield 28, 3) := by decide +kernel
theorem dX0_days_4 : decode cX0_days 4 = .ok (.ireturn, 1) := by decide +kernel
theorem dX0_gap_0 : decode cX0_gap 0 = .ok (.aload_n 0, 1) := by decide +kernel
theorem dX0_gap_1 : decode cX0_gap 1 = .ok (.getfield 31, 3) := by decide +kernel
theorem dX0_gap_4 : decode cX0_gap 4 = .ok (.ireturn, 1) := by decide +kernel
theorem dX0_few_0 : decode cX0_few 0 = .ok (.aload_n 0, 1) := by decide +kernel
theorem dX0_few_1 : decode cX0_few 1 = .ok (.getfield 24, 3) := by decide +kernel
theorem dX0_few_4 : decode cX0_few 4 = .ok (.ireturn, 1) := by decide +kernel
theorem dX0_has_0 : decode cX0_has 0 = .ok (.iload_n 1, 1) := by decide +kernel
theorem dX0_has_1 : decode cX0_has 1 = .ok (.ifCond .lt 15, 3) := by decide +kernel
theorem dX0_has_4 : decode cX0_has 4 = .ok (.iload_n 1, 1) := by decide +kernel
theorem dX0_has_5 : decode cX0_has 5 = .ok (.aload_n 0, 1) := by decide +kernel
theorem dX0_has_6 : decode cX0_has 6 = .ok (.getfield 28, 3) := by decide +kernel
theorem dX0_has_9 : decode cX0_has 9 = .ok (.if_icmp .ge 7, 3) := by decide +kernel
theorem dX0_has_12 : decode cX0_has 12 = .ok (.iconst 1, 1) := by decide +kernel
theorem dX0_has_13 : decode cX0_has 13 = .ok (.goto 4, 3) := by decide +kernel
theorem dX0_has_16 : decode cX0_has 16 = .ok (.iconst 0, 1) := by decide +kernel
theorem dX0_has_17 : decode cX0_has 17 = .ok (.ireturn, 1) := by decide +kernel
set_option maxRecDepth 20000 in
theorem ggX0_member_X0_has : GoodIn wsX0_member wsX0_has := goodIn_r _ [6, 7, 14, 15, 16, 17, 18] (by decide +kernel) (by decide +kernel)
set_option maxRecDepth 20000 in
theorem gX0_member_X0_has : GoodIn wsX0_member (wsV RX0 34 RX0 yX0_has wsX0_has) := goodIn_app (goodIn_of _ (by decide +kernel)) ggX0_member_X0_has
set_option maxRecDepth 20000 in
theorem ggX0_member_X5_isMember : GoodIn wsX0_member wsX5_isMember := goodIn_r _ [10, 11, 12, 9, 13] (by decide +kernel) (by decide +kernel)
set_option maxRecDepth 20000 in
theorem gX0_member_X5_isMember_n38 : GoodIn wsX0_member (wsX5_isMember) := ggX0_member_X5_isMember
theorem dX0_member_0 : decode cX0_member 0 = .ok (.aload_n 0, 1) := by decide +kernel
theorem dX0_member_1 : decode cX0_member 1 = .ok (.iload_n 1, 1) := by decide +kernel
theorem dX0_member_2 : decode cX0_member 2 = .ok (.invokevirtual 34, 3) := by decide +kernel
theorem dX0_member_5 : decode cX0_member 5 = .ok (.ifCond .eq 23, 3) := by decide +kernel
theorem dX0_member_8 : decode cX0_member 8 = .ok (.iload_n 2, 1) := by decide +kernel
theorem dX0_member_9 : decode cX0_member 9 = .ok (.invokestatic 38, 3) := by decide +kernel
theorem dX0_member_12 : decode cX0_member 12 = .ok (.ifCond .eq 16, 3) := by decide +kernel
theorem dX0_member_15 : decode cX0_member 15 = .ok (.aload_n 0, 1) := by decide +kernel
theorem dX0_member_16 : decode cX0_member 16 = .ok (.getfield 9, 3) := by decide +kernel
theorem dX0_member_19 : decode cX0_member 19 = .ok (.iload_n 1, 1) := by decide +kernel
theorem dX0_member_20 : decode cX0_member 20 = .ok (.iconst 4, 1) := by decide +kernel
theorem dX0_member_21 : decode cX0_member 21 = .ok (.imul, 1) := by decide +kernel
theorem dX0_member_22 : decode cX0_member 22 = .ok (.iload_n 2, 1) := by decide +kernel
theorem dX0_member_23 : decode cX0_member 23 = .ok (.iadd, 1) := by decide +kernel
theorem dX0_member_24 : decode cX0_member 24 = .ok (.iaload, 1) := by decide +kernel
theorem dX0_member_25 : decode cX0_member 25 = .ok (.goto 6, 3) := by decide +kernel
theorem dX0_member_28 : decode cX0_member 28 = .ok (.sipush (-10000), 3) := by decide +kernel
theorem dX0_member_31 : decode cX0_member 31 = .ok (.ireturn, 1) := by decide +kernel
set_option maxRecDepth 20000 in
theorem ggX0_put_X0_has : GoodIn wsX0_put wsX0_has := goodIn_r _ [6, 7, 14, 15, 16, 17, 18] (by decide +kernel) (by decide +kernel)
set_option maxRecDepth 20000 in
theorem gX0_put_X0_has : GoodIn wsX0_put (wsV RX0 34 RX0 yX0_has wsX0_has) := goodIn_app (goodIn_of _ (by decide +kernel)) ggX0_put_X0_has
set_option maxRecDepth 20000 in
theorem ggX0_put_X5_isMember : GoodIn wsX0_put wsX5_isMember := goodIn_r _ [10, 11, 12, 9, 13] (by decide +kernel) (by decide +kernel)
set_option maxRecDepth 20000 in
theorem gX0_put_X5_isMember_n38 : GoodIn wsX0_put (wsX5_isMember) := ggX0_put_X5_isMember
theorem dX0_put_0 : decode cX0_put 0 = .ok (.aload_n 0, 1) := by decide +kernel
theorem dX0_put_1 : decode cX0_put 1 = .ok (.iload_n 1, 1) := by decide +kernel
theorem dX0_put_2 : decode cX0_put 2 = .ok (.invokevirtual 34, 3) := by decide +kernel
theorem dX0_put_5 : decode cX0_put 5 = .ok (.ifCond .eq 21, 3) := by decide +kernel
theorem dX0_put_8 : decode cX0_put 8 = .ok (.iload_n 2, 1) := by decide +kernel
theorem dX0_put_9 : decode cX0_put 9 = .ok (.invokestatic 38, 3) := by decide +kernel
theorem dX0_put_12 : decode cX0_put 12 = .ok (.ifCond .eq 14, 3) := by decide +kernel
theorem dX0_put_15 : decode cX0_put 15 = .ok (.aload_n 0, 1) := by decide +kernel
theorem dX0_put_16 : decode cX0_put 16 = .ok (.getfield 9, 3) := by decide +kernel
theorem dX0_put_19 : decode cX0_put 19 = .ok (.iload_n 1, 1) := by decide +kernel
theorem dX0_put_20 : decode cX0_put 20 = .ok (.iconst 4, 1) := by decide +kernel
theorem dX0_put_21 : decode cX0_put 21 = .ok (.imul, 1) := by decide +kernel
theorem dX0_put_22 : decode cX0_put 22 = .ok (.iload_n 2, 1) := by decide +kernel
theorem dX0_put_23 : decode cX0_put 23 = .ok (.iadd, 1) := by decide +kernel
theorem dX0_put_24 : decode cX0_put 24 = .ok (.iload_n 3, 1) := by decide +kernel
theorem dX0_put_25 : decode cX0_put 25 = .ok (.iastore, 1) := by decide +kernel
theorem dX0_put_26 : decode cX0_put 26 = .ok (.return_, 1) := by decide +kernel
set_option maxRecDepth 20000 in
theorem ggX0_append_X0_put : GoodIn wsX0_append wsX0_put := goodIn_r _ [6, 7, 8, 9, 10, 5, 11, 1, 12, 13, 14, 15, 16, 17, 18, 19, 20, 21, 22] (by decide +kernel) (by decide +kernel)
set_option maxRecDepth 20000 in
theorem gX0_append_X0_put : GoodIn wsX0_append (wsV RX0 41 RX0 yX0_put wsX0_put) := goodIn_app (goodIn_of _ (by decide +kernel)) ggX0_append_X0_put
theorem dX0_append_0 : decode cX0_append 0 = .ok (.aload_n 0, 1) := by decide +kernel
theorem dX0_append_1 : decode cX0_append 1 = .ok (.getfield 28, 3) := by decide +kernel
theorem dX0_append_4 : decode cX0_append 4 = .ok (.bipush 50, 2) := by decide +kernel
theorem dX0_append_6 : decode cX0_append 6 = .ok (.if_icmp .lt 6, 3) := by decide +kernel
theorem dX0_append_9 : decode cX0_append 9 = .ok (.bipush (-4), 2) := by decide +kernel
theorem dX0_append_11 : decode cX0_append 11 = .ok (.ireturn, 1) := by decide +kernel
theorem dX0_append_12 : decode cX0_append 12 = .ok (.aload_n 0, 1) := by decide +kernel
theorem dX0_append_13 : decode cX0_append 13 = .ok (.getfield 28, 3) := by decide +kernel
theorem dX0_append_16 : decode cX0_append 16 = .ok (.istore 5, 2) := by decide +kernel
theorem dX0_append_18 : decode cX0_append 18 = .ok (.aload_n 0, 1) := by decide +kernel
theorem dX0_append_19 : decode cX0_append 19 = .ok (.dup, 1) := by decide +kernel
theorem dX0_append_20 : decode cX0_append 20 = .ok (.getfield 28, 3) := by decide +kernel
theorem dX0_append_23 : decode cX0_append 23 = .ok (.iconst 1, 1) := by decide +kernel
theorem dX0_append_24 : decode cX0_append 24 = .ok (.iadd, 1) := by decide +kernel
theorem dX0_append_25 : decode cX0_append 25 = .ok (.putfield 28, 3) := by decide +kernel
theorem dX0_append_28 : decode cX0_append 28 = .ok (.aload_n 0, 1) := by decide +kernel
theorem dX0_append_29 : decode cX0_append 29 = .ok (.iload 5, 2) := by decide +kernel
theorem dX0_append_31 : decode cX0_append 31 = .ok (.iconst 0, 1) := by decide +kernel
theorem dX0_append_32 : decode cX0_append 32 = .ok (.iload_n 1, 1) := by decide +kernel
theorem dX0_append_33 : decode cX0_append 33 = .ok (.invokevirtual 41, 3) := by decide +kernel
theorem dX0_append_36 : decode cX0_append 36 = .ok (.aload_n 0, 1) := by decide +kernel
theorem dX0_append_37 : decode cX0_append 37 = .ok (.iload 5, 2) := by decide +kernel
theorem dX0_append_39 : decode cX0_append 39 = .ok (.iconst 1, 1) := by decide +kernel
theorem dX0_append_40 : decode cX0_append 40 = .ok (.iload_n 2, 1) := by decide +kernel
theorem dX0_append_41 : decode cX0_append 41 = .ok (.invokevirtual 41, 3) := by decide +kernel
theorem dX0_append_44 : decode cX0_append 44 = .ok (.aload_n 0, 1) := by decide +kernel
theorem dX0_append_45 : decode cX0_append 45 = .ok (.iload 5, 2) := by decide +kernel
theorem dX0_append_47 : decode cX0_append 47 = .ok (.iconst 2, 1) := by decide +kernel
theorem dX0_append_48 : decode cX0_append 48 = .ok (.iload_n 3, 1) := by decide +kernel
theorem dX0_append_49 : decode cX0_append 49 = .ok (.invokevirtual 41, 3) := by decide +kernel
theorem dX0_append_52 : decode cX0_append 52 = .ok (.aload_n 0, 1) := by decide +kernel
theorem dX0_append_53 : decode cX0_append 53 = .ok (.iload 5, 2) := by decide +kernel
theorem dX0_append_55 : decode cX0_append 55 = .ok (.iconst 3, 1) := by decide +kernel
theorem dX0_append_56 : decode cX0_append 56 = .ok (.iload 4, 2) := by decide +kernel
theorem dX0_append_58 : decode cX0_append 58 = .ok (.invokevirtual 41, 3) := by decide +kernel
theorem dX0_append_61 : decode cX0_append 61 = .ok (.iload 5, 2) := by decide +kernel
theorem dX0_append_63 : decode cX0_append 63 = .ok (.ireturn, 1) := by decide +kernel
theorem dX0_removeAll_0 : decode cX0_removeAll 0 = .ok (.aload_n 0, 1) := by decide +kernel
theorem dX0_removeAll_1 : decode cX0_removeAll 1 = .ok (.iconst 0, 1) := by decide +kernel
theorem dX0_removeAll_2 : decode cX0_removeAll 2 = .ok (.putfield 28, 3) := by decide +kernel
theorem dX0_removeAll_5 : decode cX0_removeAll 5 = .ok (.return_, 1) := by decide +kernel
set_option maxRecDepth 20000 in
theorem ggX0_rule_X5_isMember : GoodIn wsX0_rule wsX5_isMember := goodIn_r _ [6, 7, 8, 5, 9] (by decide +kernel) (by decide +kernel)
set_option maxRecDepth 20000 in
theorem gX0_rule_X5_isMember_n38 : GoodIn wsX0_rule (wsX5_isMember) := ggX0_rule_X5_isMember
theorem dX0_rule_0 : decode cX0_rule 0 = .ok (.iload_n 1, 1) := by decide +kernel
theorem dX0_rule_1 : decode cX0_rule 1 = .ok (.iconst 4, 1) := by decide +kernel
theorem dX0_rule_2 : decode cX0_rule 2 = .ok (.if_icmp .ne 8, 3) := by decide +kernel
theorem dX0_rule_5 : decode cX0_rule 5 = .ok (.aload_n 0, 1) := by decide +kernel
theorem dX0_rule_6 : decode cX0_rule 6 = .ok (.getfield 31, 3) := by decide +kernel
theorem dX0_rule_9 : decode cX0_rule 9 = .ok (.ireturn, 1) := by decide +kernel
theorem dX0_rule_10 : decode cX0_rule 10 = .ok (.iload_n 1, 1) := by decide +kernel
theorem dX0_rule_11 : decode cX0_rule 11 = .ok (.iconst 5, 1) := by decide +kernel
theorem dX0_rule_12 : decode cX0_rule 12 = .ok (.if_icmp .ne 8, 3) := by decide +kernel
theorem dX0_rule_15 : decode cX0_rule 15 = .ok (.aload_n 0, 1) := by decide +kernel
theorem dX0_rule_16 : decode cX0_rule 16 = .ok (.getfield 24, 3) := by decide +kernel
theorem dX0_rule_19 : decode cX0_rule 19 = .ok (.ireturn, 1) := by decide +kernel
theorem dX0_rule_20 : decode cX0_rule 20 = .ok (.iload_n 1, 1) := by decide +kernel
theorem dX0_rule_21 : decode cX0_rule 21 = .ok (.invokestatic 38, 3) := by decide +kernel
theorem dX0_rule_24 : decode cX0_rule 24 = .ok (.ifCond .eq 12, 3) := by decide +kernel
theorem dX0_rule_27 : decode cX0_rule 27 = .ok (.aload_n 0, 1) := by decide +kernel
theorem dX0_rule_28 : decode cX0_rule 28 = .ok (.getfield 15, 3) := by decide +kernel
theorem dX0_rule_31 : decode cX0_rule 31 = .ok (.iload_n 1, 1) := by decide +kernel
theorem dX0_rule_32 : decode cX0_rule 32 = .ok (.iaload, 1) := by decide +kernel
theorem dX0_rule_33 : decode cX0_rule 33 = .ok (.goto 4, 3) := by decide +kernel
theorem dX0_rule_36 : decode cX0_rule 36 = .ok (.iconst 0, 1) := by decide +kernel
theorem dX0_rule_37 : decode cX0_rule 37 = .ok (.ireturn, 1) := by decide +kernel
set_option maxRecDepth 20000 in
theorem ggX0_setRule_X5_isMember : GoodIn wsX0_setRule wsX5_isMember := goodIn_r _ [6, 7, 8, 5, 9] (by decide +kernel) (by decide +kernel)
set_option maxRecDepth 20000 in
theorem gX0_setRule_X5_isMember_n38 : GoodIn wsX0_setRule (wsX5_isMember) := ggX0_setRule_X5_isMember
theorem dX0_setRule_0 : decode cX0_setRule 0 = .ok (.iload_n 1, 1) := by decide +kernel
theorem dX0_setRule_1 : decode cX0_setRule 1 = .ok (.iconst 4, 1) := by decide +kernel
theorem dX0_setRule_2 : decode cX0_setRule 2 = .ok (.if_icmp .ne 11, 3) := by decide +kernel
theorem dX0_setRule_5 : decode cX0_setRule 5 = .ok (.aload_n 0, 1) := by decide +kernel
theorem dX0_setRule_6 : decode cX0_setRule 6 = .ok (.iload_n 2, 1) := by decide +kernel
theorem dX0_setRule_7 : decode cX0_setRule 7 = .ok (.putfield 31, 3) := by decide +kernel
theorem dX0_setRule_10 : decode cX0_setRule 10 = .ok (.goto 30, 3) := by decide +kernel
theorem dX0_setRule_13 : decode cX0_setRule 13 = .ok (.iload_n 1, 1) := by decide +kernel
theorem dX0_setRule_14 : decode cX0_setRule 14 = .ok (.iconst 5, 1) := by decide +kernel
theorem dX0_setRule_15 : decode cX0_setRule 15 = .ok (.if_icmp .ne 11, 3) := by decide +kernel
theorem dX0_setRule_18 : decode cX0_setRule 18 = .ok (.aload_n 0, 1) := by decide +kernel
theorem dX0_setRule_19 : decode cX0_setRule 19 = .ok (.iload_n 2, 1) := by decide +kernel
theorem dX0_setRule_20 : decode cX0_setRule 20 = .ok (.putfield 24, 3) := by decide +kernel
theorem dX0_setRule_23 : decode cX0_setRule 23 = .ok (.goto 17, 3) := by decide +kernel
theorem dX0_setRule_26 : decode cX0_setRule 26 = .ok (.iload_n 1, 1) := by decide +kernel
theorem dX0_setRule_27 : decode cX0_setRule 27 = .ok (.invokestatic 38, 3) := by decide +kernel
theorem dX0_setRule_30 : decode cX0_setRule 30 = .ok (.ifCond .eq 10, 3) := by decide +kernel
theorem dX0_setRule_33 : decode cX0_setRule 33 = .ok (.aload_n 0, 1) := by decide +kernel
theorem dX0_setRule_34 : decode cX0_setRule 34 = .ok (.getfield 15, 3) := by decide +kernel
theorem dX0_setRule_37 : decode cX0_setRule 37 = .ok (.iload_n 1, 1) := by decide +kernel
theorem dX0_setRule_38 : decode cX0_setRule 38 = .ok (.iload_n 2, 1) := by decide +kernel
theorem dX0_setRule_39 : decode cX0_setRule 39 = .ok (.iastore, 1) := by decide +kernel
theorem dX0_setRule_40 : decode cX0_setRule 40 = .ok (.return_, 1) := by decide +kernel
theorem dX0_copyFrom_0 : decode cX0_copyFrom 0 = .ok (.aload_n 1, 1) := by decide +kernel
theorem dX0_copyFrom_1 : decode cX0_copyFrom 1 = .ok (.getfield 9, 3) := by decide +kernel
theorem dX0_copyFrom_4 : decode cX0_copyFrom 4 = .ok (.iconst 0, 1) := by decide +kernel
theorem dX0_copyFrom_5 : decode cX0_copyFrom 5 = .ok (.aload_n 0, 1) := by decide +kernel
theorem dX0_copyFrom_6 : decode cX0_copyFrom 6 = .ok (.getfield 9, 3) := by decide +kernel
theorem dX0_copyFrom_9 : decode cX0_copyFrom 9 = .ok (.iconst 0, 1) := by decide +kernel
theorem dX0_copyFrom_10 : decode cX0_copyFrom 10 = .ok (.aload_n 0, 1) := by decide +kernel
theorem dX0_copyFrom_11 : decode cX0_copyFrom 11 = .ok (.getfield 9, 3) := by decide +kernel
theorem dX0_copyFrom_14 : decode cX0_copyFrom 14 = .ok (.arraylength, 1) := by decide +kernel
theorem dX0_copyFrom_15 : decode cX0_copyFrom 15 = .ok (.invokestatic 45, 3) := by decide +kernel
theorem dX0_copyFrom_18 : decode cX0_copyFrom 18 = .ok (.aload_n 1, 1) := by decide +kernel
theorem dX0_copyFrom_19 : decode cX0_copyFrom 19 = .ok (.getfield 15, 3) := by decide +kernel
theorem dX0_copyFrom_22 : decode cX0_copyFrom 22 = .ok (.iconst 0, 1) := by decide +kernel
theorem dX0_copyFrom_23 : decode cX0_copyFrom 23 = .ok (.aload_n 0, 1) := by decide +kernel
theorem dX0_copyFrom_24 : decode cX0_copyFrom 24 = .ok (.getfield 15, 3) := by decide +kernel
theorem dX0_copyFrom_27 : decode cX0_copyFrom 27 = .ok (.iconst 0, 1) := by decide +kernel
theorem dX0_copyFrom_28 : decode cX0_copyFrom 28 = .ok (.aload_n 0, 1) := by decide +kernel
theorem dX0_copyFrom_29 : decode cX0_copyFrom 29 = .ok (.getfield 15, 3) := by decide +kernel
theorem dX0_copyFrom_32 : decode cX0_copyFrom 32 = .ok (.arraylength, 1) := by decide +kernel
theorem dX0_copyFrom_33 : decode cX0_copyFrom 33 = .ok (.invokestatic 45, 3) := by decide +kernel
theorem dX0_copyFrom_36 : decode cX0_copyFrom 36 = .ok (.aload_n 0, 1) := by decide +kernel
theorem dX0_copyFrom_37 : decode cX0_copyFrom 37 = .ok (.aload_n 1, 1) := by decide +kernel
theorem dX0_copyFrom_38 : decode cX0_copyFrom 38 = .ok (.getfield 28, 3) := by decide +kernel
theorem dX0_copyFrom_41 : decode cX0_copyFrom 41 = .ok (.putfield 28, 3) := by decide +kernel
theorem dX0_copyFrom_44 : decode cX0_copyFrom 44 = .ok (.aload_n 0, 1) := by decide +kernel
theorem dX0_copyFrom_45 : decode cX0_copyFrom 45 = .ok (.aload_n 1, 1) := by decide +kernel
theorem dX0_copyFrom_46 : decode cX0_copyFrom 46 = .ok (.getfield 31, 3) := by decide +kernel
theorem dX0_copyFrom_49 : decode cX0_copyFrom 49 = .ok (.putfield 31, 3) := by decide +kernel
theorem dX0_copyFrom_52 : decode cX0_copyFrom 52 = .ok (.aload_n 0, 1) := by decide +kernel
theorem dX0_copyFrom_53 : decode cX0_copyFrom 53 = .ok (.aload_n 1, 1) := by decide +kernel
theorem dX0_copyFrom_54 : decode cX0_copyFrom 54 = .ok (.getfield 24, 3) := by decide +kernel
theorem dX0_copyFrom_57 : decode cX0_copyFrom 57 = .ok (.putfield 24, 3) := by decide +kernel
theorem dX0_copyFrom_60 : decode cX0_copyFrom 60 = .ok (.return_, 1) := by decide +kernel
set_option maxRecDepth 20000 in
theorem ggX0_fillByChance_X0_put : GoodIn wsX0_fillByChance wsX0_put := goodIn_r _ [20, 21, 22, 23, 24, 19, 25, 8, 26, 27, 28, 29, 30, 31, 40, 41, 42, 43, 44] (by decide +kernel) (by decide +kernel)
set_option maxRecDepth 20000 in
theorem gX0_fillByChance_X0_put : GoodIn wsX0_fillByChance (wsV RX0 41 RX0 yX0_put wsX0_put) := goodIn_app (goodIn_of _ (by decide +kernel)) ggX0_fillByChance_X0_put
set_option maxRecDepth 20000 in
theorem ggX0_fillByChance_X0_lastNoted : GoodIn wsX0_fillByChance wsX0_lastNoted := goodIn_r _ [35, 36, 37, 38, 19, 39, 21, 22, 23, 24, 25, 8, 26, 27, 28, 29, 30, 31, 40, 41, 42, 43, 44] (by decide +kernel) (by decide +kernel)
set_option maxRecDepth 20000 in
theorem gX0_fillByChance_X0_lastNoted : GoodIn wsX0_fillByChance (wsV RX0 74 RX0 yX0_lastNoted wsX0_lastNoted) := goodIn_app (goodIn_of _ (by decide +kernel)) ggX0_fillByChance_X0_lastNoted
theorem dX0_fillByChance_0 : decode cX0_fillByChance 0 = .ok (.aload_n 0, 1) := by decide +kernel
theorem dX0_fillByChance_1 : decode cX0_fillByChance 1 = .ok (.iconst 0, 1) := by decide +kernel
theorem dX0_fillByChance_2 : decode cX0_fillByChance 2 = .ok (.iload_n 2, 1) := by decide +kernel
theorem dX0_fillByChance_3 : decode cX0_fillByChance 3 = .ok (.bipush 50, 2) := by decide +kernel
theorem dX0_fillByChance_5 : decode cX0_fillByChance 5 = .ok (.invokestatic 51, 3) := by decide +kernel
theorem dX0_fillByChance_8 : decode cX0_fillByChance 8 = .ok (.invokestatic 57, 3) := by decide +kernel
theorem dX0_fillByChance_11 : decode cX0_fillByChance 11 = .ok (.putfield 28, 3) := by decide +kernel
theorem dX0_fillByChance_14 : decode cX0_fillByChance 14 = .ok (.iload_n 1, 1) := by decide +kernel
theorem dX0_fillByChance_15 : decode cX0_fillByChance 15 = .ok (.i2l, 1) := by decide +kernel
theorem dX0_fillByChance_16 : decode cX0_fillByChance 16 = .ok (.lstore_n 3, 1) := by decide +kernel
theorem dX0_fillByChance_17 : decode cX0_fillByChance 17 = .ok (.iconst 0, 1) := by decide +kernel
theorem dX0_fillByChance_18 : decode cX0_fillByChance 18 = .ok (.istore 5, 2) := by decide +kernel
theorem dX0_fillByChance_20 : decode cX0_fillByChance 20 = .ok (.iconst 0, 1) := by decide +kernel
theorem dX0_fillByChance_21 : decode cX0_fillByChance 21 = .ok (.istore 6, 2) := by decide +kernel
theorem dX0_fillByChance_23 : decode cX0_fillByChance 23 = .ok (.iload 6, 2) := by decide +kernel
theorem dX0_fillByChance_25 : decode cX0_fillByChance 25 = .ok (.aload_n 0, 1) := by decide +kernel
theorem dX0_fillByChance_26 : decode cX0_fillByChance 26 = .ok (.getfield 28, 3) := by decide +kernel
theorem dX0_fillByChance_29 : decode cX0_fillByChance 29 = .ok (.if_icmp .ge 115, 3) := by decide +kernel
theorem dX0_fillByChance_32 : decode cX0_fillByChance 32 = .ok (.iconst 0, 1) := by decide +kernel
theorem dX0_fillByChance_33 : decode cX0_fillByChance 33 = .ok (.istore 7, 2) := by decide +kernel
theorem dX0_fillByChance_35 : decode cX0_fillByChance 35 = .ok (.iload 7, 2) := by decide +kernel
theorem dX0_fillByChance_37 : decode cX0_fillByChance 37 = .ok (.iconst 4, 1) := by decide +kernel
theorem dX0_fillByChance_38 : decode cX0_fillByChance 38 = .ok (.if_icmp .ge 100, 3) := by decide +kernel
theorem dX0_fillByChance_41 : decode cX0_fillByChance 41 = .ok (.lload_n 3, 1) := by decide +kernel
theorem dX0_fillByChance_42 : decode cX0_fillByChance 42 = .ok (.ldc2_w 60, 3) := by decide +kernel
theorem dX0_fillByChance_45 : decode cX0_fillByChance 45 = .ok (.lmul, 1) := by decide +kernel
theorem dX0_fillByChance_46 : decode cX0_fillByChance 46 = .ok (.ldc2_w 62, 3) := by decide +kernel
theorem dX0_fillByChance_49 : decode cX0_fillByChance 49 = .ok (.ladd, 1) := by decide +kernel
theorem dX0_fillByChance_50 : decode cX0_fillByChance 50 = .ok (.ldc2_w 64, 3) := by decide +kernel
theorem dX0_fillByChance_53 : decode cX0_fillByChance 53 = .ok (.lrem, 1) := by decide +kernel
theorem dX0_fillByChance_54 : decode cX0_fillByChance 54 = .ok (.lstore_n 3, 1) := by decide +kernel
theorem dX0_fillByChance_55 : decode cX0_fillByChance 55 = .ok (.lload_n 3, 1) := by decide +kernel
theorem dX0_fillByChance_56 : decode cX0_fillByChance 56 = .ok (.ldc2_w 66, 3) := by decide +kernel
theorem dX0_fillByChance_59 : decode cX0_fillByChance 59 = .ok (.ldiv, 1) := by decide +kernel
theorem dX0_fillByChance_60 : decode cX0_fillByChance 60 = .ok (.ldc2_w 68, 3) := by decide +kernel
theorem dX0_fillByChance_63 : decode cX0_fillByChance 63 = .ok (.lrem, 1) := by decide +kernel
theorem dX0_fillByChance_64 : decode cX0_fillByChance 64 = .ok (.lconst 0, 1) := by decide +kernel
theorem dX0_fillByChance_65 : decode cX0_fillByChance 65 = .ok (.lcmp, 1) := by decide +kernel
theorem dX0_fillByChance_66 : decode cX0_fillByChance 66 = .ok (.ifCond .ne 20, 3) := by decide +kernel
theorem dX0_fillByChance_69 : decode cX0_fillByChance 69 = .ok (.aload_n 0, 1) := by decide +kernel
theorem dX0_fillByChance_70 : decode cX0_fillByChance 70 = .ok (.iload 6, 2) := by decide +kernel
theorem dX0_fillByChance_72 : decode cX0_fillByChance 72 = .ok (.iload 7, 2) := by decide +kernel
theorem dX0_fillByChance_74 : decode cX0_fillByChance 74 = .ok (.sipush (-10000), 3) := by decide +kernel
theorem dX0_fillByChance_77 : decode cX0_fillByChance 77 = .ok (.invokevirtual 41, 3) := by decide +kernel
theorem dX0_fillByChance_80 : decode cX0_fillByChance 80 = .ok (.iinc 5 1, 3) := by decide +kernel
theorem dX0_fillByChance_83 : decode cX0_fillByChance 83 = .ok (.goto 49, 3) := by decide +kernel
theorem dX0_fillByChance_86 : decode cX0_fillByChance 86 = .ok (.lload_n 3, 1) := by decide +kernel
theorem dX0_fillByChance_87 : decode cX0_fillByChance 87 = .ok (.ldc2_w 70, 3) := by decide +kernel
theorem dX0_fillByChance_90 : decode cX0_fillByChance 90 = .ok (.ldiv, 1) := by decide +kernel
theorem dX0_fillByChance_91 : decode cX0_fillByChance 91 = .ok (.ldc2_w 72, 3) := by decide +kernel
theorem dX0_fillByChance_94 : decode cX0_fillByChance 94 = .ok (.lrem, 1) := by decide +kernel
theorem dX0_fillByChance_95 : decode cX0_fillByChance 95 = .ok (.l2i, 1) := by decide +kernel
theorem dX0_fillByChance_96 : decode cX0_fillByChance 96 = .ok (.bipush 20, 2) := by decide +kernel
theorem dX0_fillByChance_98 : decode cX0_fillByChance 98 = .ok (.isub, 1) := by decide +kernel
theorem dX0_fillByChance_99 : decode cX0_fillByChance 99 = .ok (.istore 8, 2) := by decide +kernel
theorem dX0_fillByChance_101 : decode cX0_fillByChance 101 = .ok (.aload_n 0, 1) := by decide +kernel
theorem dX0_fillByChance_102 : decode cX0_fillByChance 102 = .ok (.iload 6, 2) := by decide +kernel
theorem dX0_fillByChance_104 : decode cX0_fillByChance 104 = .ok (.iload 7, 2) := by decide +kernel
theorem dX0_fillByChance_106 : decode cX0_fillByChance 106 = .ok (.sipush (-999), 3) := by decide +kernel
theorem dX0_fillByChance_109 : decode cX0_fillByChance 109 = .ok (.aload_n 0, 1) := by decide +kernel
theorem dX0_fillByChance_110 : decode cX0_fillByChance 110 = .ok (.iload 6, 2) := by decide +kernel
theorem dX0_fillByChance_112 : decode cX0_fillByChance 112 = .ok (.iload 7, 2) := by decide +kernel
theorem dX0_fillByChance_114 : decode cX0_fillByChance 114 = .ok (.invokevirtual 74, 3) := by decide +kernel
theorem dX0_fillByChance_117 : decode cX0_fillByChance 117 = .ok (.iload 8, 2) := by decide +kernel
theorem dX0_fillByChance_119 : decode cX0_fillByChance 119 = .ok (.iadd, 1) := by decide +kernel
theorem dX0_fillByChance_120 : decode cX0_fillByChance 120 = .ok (.sipush 999, 3) := by decide +kernel
theorem dX0_fillByChance_123 : decode cX0_fillByChance 123 = .ok (.invokestatic 51, 3) := by decide +kernel
theorem dX0_fillByChance_126 : decode cX0_fillByChance 126 = .ok (.invokestatic 57, 3) := by decide +kernel
theorem dX0_fillByChance_129 : decode cX0_fillByChance 129 = .ok (.invokevirtual 41, 3) := by decide +kernel
theorem dX0_fillByChance_132 : decode cX0_fillByChance 132 = .ok (.iinc 7 1, 3) := by decide +kernel
theorem dX0_fillByChance_135 : decode cX0_fillByChance 135 = .ok (.goto (-100), 3) := by decide +kernel
theorem dX0_fillByChance_138 : decode cX0_fillByChance 138 = .ok (.iinc 6 1, 3) := by decide +kernel
theorem dX0_fillByChance_141 : decode cX0_fillByChance 141 = .ok (.goto (-118), 3) := by decide +kernel
theorem dX0_fillByChance_144 : decode cX0_fillByChance 144 = .ok (.iload 5, 2) := by decide +kernel
theorem dX0_fillByChance_146 : decode cX0_fillByChance 146 = .ok (.ireturn, 1) := by decide +kernel
set_option maxRecDepth 20000 in
theorem ggX0_lastNoted_X0_member : GoodIn wsX0_lastNoted wsX0_member := goodIn_r _ [5, 6, 7, 8, 9, 4, 10, 11, 12, 13, 14, 15, 16, 17, 18, 19, 20, 21, 22] (by decide +kernel) (by decide +kernel)
set_option maxRecDepth 20000 in
theorem gX0_lastNoted_X0_member : GoodIn wsX0_lastNoted (wsV RX0 77 RX0 yX0_member wsX0_member) := goodIn_app (goodIn_of _ (by decide +kernel)) ggX0_lastNoted_X0_member
theorem dX0_lastNoted_0 : decode cX0_lastNoted 0 = .ok (.iload_n 1, 1) := by decide +kernel
theorem dX0_lastNoted_1 : decode cX0_lastNoted 1 = .ok (.iconst 1, 1) := by decide +kernel
theorem dX0_lastNoted_2 : decode cX0_lastNoted 2 = .ok (.isub, 1) := by decide +kernel
theorem dX0_lastNoted_3 : decode cX0_lastNoted 3 = .ok (.istore_n 3, 1) := by decide +kernel
theorem dX0_lastNoted_4 : decode cX0_lastNoted 4 = .ok (.iload_n 3, 1) := by decide +kernel
theorem dX0_lastNoted_5 : decode cX0_lastNoted 5 = .ok (.ifCond .lt 28, 3) := by decide +kernel
theorem dX0_lastNoted_8 : decode cX0_lastNoted 8 = .ok (.aload_n 0, 1) := by decide +kernel
theorem dX0_lastNoted_9 : decode cX0_lastNoted 9 = .ok (.iload_n 3, 1) := by decide +kernel
theorem dX0_lastNoted_10 : decode cX0_lastNoted 10 = .ok (.iload_n 2, 1) := by decide +kernel
theorem dX0_lastNoted_11 : decode cX0_lastNoted 11 = .ok (.invokevirtual 77, 3) := by decide +kernel
theorem dX0_lastNoted_14 : decode cX0_lastNoted 14 = .ok (.istore 4, 2) := by decide +kernel
theorem dX0_lastNoted_16 : decode cX0_lastNoted 16 = .ok (.iload 4, 2) := by decide +kernel
theorem dX0_lastNoted_18 : decode cX0_lastNoted 18 = .ok (.sipush (-10000), 3) := by decide +kernel
theorem dX0_lastNoted_21 : decode cX0_lastNoted 21 = .ok (.if_icmp .eq 6, 3) := by decide +kernel
theorem dX0_lastNoted_24 : decode cX0_lastNoted 24 = .ok (.iload 4, 2) := by decide +kernel
theorem dX0_lastNoted_26 : decode cX0_lastNoted 26 = .ok (.ireturn, 1) := by decide +kernel
theorem dX0_lastNoted_27 : decode cX0_lastNoted 27 = .ok (.iinc 3 (-1), 3) := by decide +kernel
theorem dX0_lastNoted_30 : decode cX0_lastNoted 30 = .ok (.goto (-26), 3) := by decide +kernel
theorem dX0_lastNoted_33 : decode cX0_lastNoted 33 = .ok (.iconst 0, 1) := by decide +kernel
theorem dX0_lastNoted_34 : decode cX0_lastNoted 34 = .ok (.ireturn, 1) := by decide +kernel
theorem dX1_init_0 : decode cX1_init 0 = .ok (.aload_n 0, 1) := by decide +kernel
theorem dX1_init_1 : decode cX1_init 1 = .ok (.invokespecial 3, 3) := by decide +kernel
theorem dX1_init_4 : decode cX1_init 4 = .ok (.aload_n 0, 1) := by decide +kernel
theorem dX1_init_5 : decode cX1_init 5 = .ok (.bipush 12, 2) := by decide +kernel
theorem dX1_init_7 : decode cX1_init 7 = .ok (.newarray .int, 2) := by decide +kernel
theorem dX1_init_9 : decode cX1_init 9 = .ok (.putfield 9, 3) := by decide +kernel
theorem dX1_init_12 : decode cX1_init 12 = .ok (.aload_n 0, 1) := by decide +kernel
theorem dX1_init_13 : decode cX1_init 13 = .ok (.bipush 12, 2) := by decide +kernel
theorem dX1_init_15 : decode cX1_init 15 = .ok (.newarray .float, 2) := by decide +kernel
theorem dX1_init_17 : decode cX1_init 17 = .ok (.putfield 15, 3) := by decide +kernel
theorem dX1_init_20 : decode cX1_init 20 = .ok (.aload_n 0, 1) := by decide +kernel
theorem dX1_init_21 : decode cX1_init 21 = .ok (.bipush 12, 2) := by decide +kernel
theorem dX1_init_23 : decode cX1_init 23 = .ok (.newarray .int, 2) := by decide +kernel
theorem dX1_init_25 : decode cX1_init 25 = .ok (.putfield 19, 3) := by decide +kernel
theorem dX1_init_28 : decode cX1_init 28 = .ok (.return_, 1) := by decide +kernel
set_option maxRecDepth 20000 in
theorem ggX1_gather_X2_nearOnes : GoodIn wsX1_gather wsX2_nearOnes := goodIn_r _ [6, 7, 8, 9, 10, 11, 12, 13, 14, 5, 15, 16, 57, 58, 59, 60, 61, 62, 63, 64, 65] (by decide +kernel) (by decide +kernel)
set_option maxRecDepth 20000 in
theorem gX1_gather_X2_nearOnes : GoodIn wsX1_gather (wsV RX1 26 RX2 yX2_nearOnes wsX2_nearOnes) := goodIn_app (goodIn_of _ (by decide +kernel)) ggX1_gather_X2_nearOnes
set_option maxRecDepth 20000 in
theorem ggX1_gather_X2_near : GoodIn wsX1_gather wsX2_near := goodIn_r _ [20, 7, 21, 12, 13, 14, 5, 15, 16, 57, 58, 59, 60, 61, 62, 63, 64, 65] (by decide +kernel) (by decide +kernel)
set_option maxRecDepth 20000 in
theorem gX1_gather_X2_near : GoodIn wsX1_gather (wsV RX1 32 RX2 yX2_near wsX2_near) := goodIn_app (goodIn_of _ (by decide +kernel)) ggX1_gather_X2_near
set_option maxRecDepth 20000 in
theorem ggX1_gather_X0_member : GoodIn wsX1_gather wsX0_member := goodIn_r _ [26, 27, 28, 29, 30, 25, 31, 32, 33, 34, 35, 36, 37, 38, 66, 67, 68, 69, 70] (by decide +kernel) (by decide +kernel)
set_option maxRecDepth 20000 in
theorem gX1_gather_X0_member : GoodIn wsX1_gather (wsV RX1 35 RX0 yX0_member wsX0_member) := goodIn_app (goodIn_of _ (by decide +kernel)) ggX1_gather_X0_member
set_option maxRecDepth 20000 in
theorem ggX1_gather_X2_between : GoodIn wsX1_gather wsX2_between := goodIn_r _ [42, 43, 44, 12, 13, 14, 5, 15, 16, 57, 58, 59, 60, 61, 62, 63, 64, 65] (by decide +kernel) (by decide +kernel)
set_option maxRecDepth 20000 in
theorem gX1_gather_X2_between : GoodIn wsX1_gather (wsV RX1 40 RX2 yX2_between wsX2_between) := goodIn_app (goodIn_of _ (by decide +kernel)) ggX1_gather_X2_between
set_option maxRecDepth 20000 in
theorem ggX1_gather_X1_add : GoodIn wsX1_gather wsX1_add := goodIn_r _ [49, 1, 50, 51, 52, 53, 54, 55, 56] (by decide +kernel) (by decide +kernel)
set_option maxRecDepth 20000 in
theorem gX1_gather_X1_add : GoodIn wsX1_gather (wsV RX1 44 RX1 yX1_add wsX1_add) := goodIn_app (goodIn_of _ (by decide +kernel)) ggX1_gather_X1_add
theorem dX1_gather_0 : decode cX1_gather 0 = .ok (.aload_n 0, 1) := by decide +kernel
theorem dX1_gather_1 : decode cX1_gather 1 = .ok (.iconst 0, 1) := by decide +kernel
theorem dX1_gather_2 : decode cX1_gather 2 = .ok (.putfield 22, 3) := by decide +kernel
theorem dX1_gather_5 : decode cX1_gather 5 = .ok (.iconst 0, 1) := by decide +kernel
theorem dX1_gather_6 : decode cX1_gather 6 = .ok (.istore 6, 2) := by decide +kernel
theorem dX1_gather_8 : decode cX1_gather 8 = .ok (.iload 6, 2) := by decide +kernel
theorem dX1_gather_10 : decode cX1_gather 10 = .ok (.aload_n 2, 1) := by decide +kernel
theorem dX1_gather_11 : decode cX1_gather 11 = .ok (.iload_n 3, 1) := by decide +kernel
theorem dX1_gather_12 : decode cX1_gather 12 = .ok (.iload 5, 2) := by decide +kernel
theorem dX1_gather_14 : decode cX1_gather 14 = .ok (.invokevirtual 26, 3) := by decide +kernel
theorem dX1_gather_17 : decode cX1_gather 17 = .ok (.if_icmp .ge 51, 3) := by decide +kernel
theorem dX1_gather_20 : decode cX1_gather 20 = .ok (.aload_n 2, 1) := by decide +kernel
theorem dX1_gather_21 : decode cX1_gather 21 = .ok (.iload_n 3, 1) := by decide +kernel
theorem dX1_gather_22 : decode cX1_gather 22 = .ok (.iload 6, 2) := by decide +kernel
theorem dX1_gather_24 : decode cX1_gather 24 = .ok (.invokevirtual 32, 3) := by decide +kernel
theorem dX1_gather_27 : decode cX1_gather 27 = .ok (.istore 7, 2) := by decide +kernel
theorem dX1_gather_29 : decode cX1_gather 29 = .ok (.aload_n 1, 1) := by decide +kernel
theorem dX1_gather_30 : decode cX1_gather 30 = .ok (.iload 7, 2) := by decide +kernel
theorem dX1_gather_32 : decode cX1_gather 32 = .ok (.iconst 1, 1) := by decide +kernel
theorem dX1_gather_33 : decode cX1_gather 33 = .ok (.iadd, 1) := by decide +kernel
theorem dX1_gather_34 : decode cX1_gather 34 = .ok (.iload 4, 2) := by decide +kernel
theorem dX1_gather_36 : decode cX1_gather 36 = .ok (.invokevirtual 35, 3) := by decide +kernel
theorem dX1_gather_39 : decode cX1_gather 39 = .ok (.istore 8, 2) := by decide +kernel
theorem dX1_gather_41 : decode cX1_gather 41 = .ok (.iload 8, 2) := by decide +kernel
theorem dX1_gather_43 : decode cX1_gather 43 = .ok (.sipush (-10000), 3) := by decide +kernel
theorem dX1_gather_46 : decode cX1_gather 46 = .ok (.if_icmp .eq 16, 3) := by decide +kernel
theorem dX1_gather_49 : decode cX1_gather 49 = .ok (.aload_n 0, 1) := by decide +kernel
theorem dX1_gather_50 : decode cX1_gather 50 = .ok (.iload 8, 2) := by decide +kernel
theorem dX1_gather_52 : decode cX1_gather 52 = .ok (.aload_n 2, 1) := by decide +kernel
theorem dX1_gather_53 : decode cX1_gather 53 = .ok (.iload_n 3, 1) := by decide +kernel
theorem dX1_gather_54 : decode cX1_gather 54 = .ok (.iload 7, 2) := by decide +kernel
theorem dX1_gather_56 : decode cX1_gather 56 = .ok (.invokevirtual 40, 3) := by decide +kernel
theorem dX1_gather_59 : decode cX1_gather 59 = .ok (.invokevirtual 44, 3) := by decide +kernel
theorem dX1_gather_62 : decode cX1_gather 62 = .ok (.iinc 6 1, 3) := by decide +kernel
theorem dX1_gather_65 : decode cX1_gather 65 = .ok (.goto (-57), 3) := by decide +kernel
theorem dX1_gather_68 : decode cX1_gather 68 = .ok (.return_, 1) := by decide +kernel
theorem dX1_size_0 : decode cX1_size 0 = .ok (.aload_n 0, 1) := by decide +kernel
theorem dX1_size_1 : decode cX1_size 1 = .ok (.getfield 22, 3) := by decide +kernel
theorem dX1_size_4 : decode cX1_size 4 = .ok (.ireturn, 1) := by decide +kernel
theorem dX1_spanSize_0 : decode cX1_spanSize 0 = .ok (.iconst 0, 1) := by decide +kernel
theorem dX1_spanSize_1 : decode cX1_spanSize 1 = .ok (.aload_n 0, 1) := by decide +kernel
theorem dX1_spanSize_2 : decode cX1_spanSize 2 = .ok (.getfield 22, 3) := by decide +kernel
theorem dX1_spanSize_5 : decode cX1_spanSize 5 = .ok (.iconst 2, 1) := by decide +kernel
theorem dX1_spanSize_6 : decode cX1_spanSize 6 = .ok (.iload_n 1, 1) := by decide +kernel
theorem dX1_spanSize_7 : decode cX1_spanSize 7 = .ok (.imul, 1) := by decide +kernel
theorem dX1_spanSize_8 : decode cX1_spanSize 8 = .ok (.isub, 1) := by decide +kernel
theorem dX1_spanSize_9 : decode cX1_spanSize 9 = .ok (.invokestatic 48, 3) := by decide +kernel
theorem dX1_spanSize_12 : decode cX1_spanSize 12 = .ok (.ireturn, 1) := by decide +kernel
set_option maxRecDepth 20000 in
theorem ggX1_least_X1_spanSize : GoodIn wsX1_least wsX1_spanSize := goodIn_r _ [6, 7, 8, 9, 10, 11, 12, 13, 14, 15] (by decide +kernel) (by decide +kernel)
set_option maxRecDepth 20000 in
theorem gX1_least_X1_spanSize : GoodIn wsX1_least (wsV RX1 53 RX1 yX1_spanSize wsX1_spanSize) := goodIn_app (goodIn_of _ (by decide +kernel)) ggX1_least_X1_spanSize
theorem dX1_least_0 : decode cX1_least 0 = .ok (.iload_n 1, 1) := by decide +kernel
theorem dX1_least_1 : decode cX1_least 1 = .ok (.ifCond .lt 20, 3) := by decide +kernel
theorem dX1_least_4 : decode cX1_least 4 = .ok (.aload_n 0, 1) := by decide +kernel
theorem dX1_least_5 : decode cX1_least 5 = .ok (.iload_n 1, 1) := by decide +kernel
theorem dX1_least_6 : decode cX1_least 6 = .ok (.invokevirtual 53, 3) := by decide +kernel
theorem dX1_least_9 : decode cX1_least 9 = .ok (.ifCond .le 12, 3) := by decide +kernel
theorem dX1_least_12 : decode cX1_least 12 = .ok (.aload_n 0, 1) := by decide +kernel
theorem dX1_least_13 : decode cX1_least 13 = .ok (.getfield 19, 3) := by decide +kernel
theorem dX1_least_16 : decode cX1_least 16 = .ok (.iload_n 1, 1) := by decide +kernel
theorem dX1_least_17 : decode cX1_least 17 = .ok (.iaload, 1) := by decide +kernel
theorem dX1_least_18 : decode cX1_least 18 = .ok (.goto 6, 3) := by decide +kernel
theorem dX1_least_21 : decode cX1_least 21 = .ok (.sipush (-10000), 3) := by decide +kernel
theorem dX1_least_24 : decode cX1_least 24 = .ok (.ireturn, 1) := by decide +kernel
set_option maxRecDepth 20000 in
theorem ggX1_greatest_X1_spanSize : GoodIn wsX1_greatest wsX1_spanSize := goodIn_r _ [7, 2, 8, 9, 10, 11, 12, 13, 14, 15] (by decide +kernel) (by decide +kernel)
set_option maxRecDepth 20000 in
theorem gX1_greatest_X1_spanSize : GoodIn wsX1_greatest (wsV RX1 53 RX1 yX1_spanSize wsX1_spanSize) := goodIn_app (goodIn_of _ (by decide +kernel)) ggX1_greatest_X1_spanSize
theorem dX1_greatest_0 : decode cX1_greatest 0 = .ok (.iload_n 1, 1) := by decide +kernel
theorem dX1_greatest_1 : decode cX1_greatest 1 = .ok (.ifCond .lt 27, 3) := by decide +kernel
theorem dX1_greatest_4 : decode cX1_greatest 4 = .ok (.aload_n 0, 1) := by decide +kernel
theorem dX1_greatest_5 : decode cX1_greatest 5 = .ok (.iload_n 1, 1) := by decide +kernel
theorem dX1_greatest_6 : decode cX1_greatest 6 = .ok (.invokevirtual 53, 3) := by decide +kernel
theorem dX1_greatest_9 : decode cX1_greatest 9 = .ok (.ifCond .le 19, 3) := by decide +kernel
theorem dX1_greatest_12 : decode cX1_greatest 12 = .ok (.aload_n 0, 1) := by decide +kernel
theorem dX1_greatest_13 : decode cX1_greatest 13 = .ok (.getfield 19, 3) := by decide +kernel
theorem dX1_greatest_16 : decode cX1_greatest 16 = .ok (.aload_n 0, 1) := by decide +kernel
theorem dX1_greatest_17 : decode cX1_greatest 17 = .ok (.getfield 22, 3) := by decide +kernel
theorem dX1_greatest_20 : decode cX1_greatest 20 = .ok (.iconst 1, 1) := by decide +kernel
theorem dX1_greatest_21 : decode cX1_greatest 21 = .ok (.isub, 1) := by decide +kernel
theorem dX1_greatest_22 : decode cX1_greatest 22 = .ok (.iload_n 1, 1) := by decide +kernel
theorem dX1_greatest_23 : decode cX1_greatest 23 = .ok (.isub, 1) := by decide +kernel
theorem dX1_greatest_24 : decode cX1_greatest 24 = .ok (.iaload, 1) := by decide +kernel
theorem dX1_greatest_25 : decode cX1_greatest 25 = .ok (.goto 6, 3) := by decide +kernel
theorem dX1_greatest_28 : decode cX1_greatest 28 = .ok (.sipush (-10000), 3) := by decide +kernel
theorem dX1_greatest_31 : decode cX1_greatest 31 = .ok (.ireturn, 1) := by decide +kernel
set_option maxRecDepth 20000 in
theorem ggX1_meanValue_X5_valueOf : GoodIn wsX1_meanValue wsX5_valueOf := goodIn_r _ [6, 7] (by decide +kernel) (by decide +kernel)
set_option maxRecDepth 20000 in
theorem gX1_meanValue_X5_valueOf_n57 : GoodIn wsX1_meanValue (wsX5_valueOf) := ggX1_meanValue_X5_valueOf
theorem dX1_meanValue_0 : decode cX1_meanValue 0 = .ok (.fconst 0, 1) := by decide +kernel
theorem dX1_meanValue_1 : decode cX1_meanValue 1 = .ok (.fstore_n 1, 1) := by decide +kernel
theorem dX1_meanValue_2 : decode cX1_meanValue 2 = .ok (.fconst 0, 1) := by decide +kernel
theorem dX1_meanValue_3 : decode cX1_meanValue 3 = .ok (.fstore_n 2, 1) := by decide +kernel
theorem dX1_meanValue_4 : decode cX1_meanValue 4 = .ok (.iconst 0, 1) := by decide +kernel
theorem dX1_meanValue_5 : decode cX1_meanValue 5 = .ok (.istore_n 3, 1) := by decide +kernel
theorem dX1_meanValue_6 : decode cX1_meanValue 6 = .ok (.iload_n 3, 1) := by decide +kernel
theorem dX1_meanValue_7 : decode cX1_meanValue 7 = .ok (.aload_n 0, 1) := by decide +kernel
theorem dX1_meanValue_8 : decode cX1_meanValue 8 = .ok (.getfield 22, 3) := by decide +kernel
theorem dX1_meanValue_11 : decode cX1_meanValue 11 = .ok (.if_icmp .ge 43, 3) := by decide +kernel
theorem dX1_meanValue_14 : decode cX1_meanValue 14 = .ok (.fload_n 1, 1) := by decide +kernel
theorem dX1_meanValue_15 : decode cX1_meanValue 15 = .ok (.aload_n 0, 1) := by decide +kernel
theorem dX1_meanValue_16 : decode cX1_meanValue 16 = .ok (.getfield 9, 3) := by decide +kernel
theorem dX1_meanValue_19 : decode cX1_meanValue 19 = .ok (.iload_n 3, 1) := by decide +kernel
theorem dX1_meanValue_20 : decode cX1_meanValue 20 = .ok (.iaload, 1) := by decide +kernel
theorem dX1_meanValue_21 : decode cX1_meanValue 21 = .ok (.invokestatic 57, 3) := by decide +kernel
theorem dX1_meanValue_24 : decode cX1_meanValue 24 = .ok (.fconst 1, 1) := by decide +kernel
theorem dX1_meanValue_25 : decode cX1_meanValue 25 = .ok (.aload_n 0, 1) := by decide +kernel
theorem dX1_meanValue_26 : decode cX1_meanValue 26 = .ok (.getfield 15, 3) := by decide +kernel
theorem dX1_meanValue_29 : decode cX1_meanValue 29 = .ok (.iload_n 3, 1) := by decide +kernel
theorem dX1_meanValue_30 : decode cX1_meanValue 30 = .ok (.faload, 1) := by decide +kernel
theorem dX1_meanValue_31 : decode cX1_meanValue 31 = .ok (.fadd, 1) := by decide +kernel
theorem dX1_meanValue_32 : decode cX1_meanValue 32 = .ok (.fdiv, 1) := by decide +kernel
theorem dX1_meanValue_33 : decode cX1_meanValue 33 = .ok (.fadd, 1) := by decide +kernel
theorem dX1_meanValue_34 : decode cX1_meanValue 34 = .ok (.fstore_n 1, 1) := by decide +kernel
theorem dX1_meanValue_35 : decode cX1_meanValue 35 = .ok (.fload_n 2, 1) := by decide +kernel
theorem dX1_meanValue_36 : decode cX1_meanValue 36 = .ok (.fconst 1, 1) := by decide +kernel
theorem dX1_meanValue_37 : decode cX1_meanValue 37 = .ok (.fconst 1, 1) := by decide +kernel
theorem dX1_meanValue_38 : decode cX1_meanValue 38 = .ok (.aload_n 0, 1) := by decide +kernel
theorem dX1_meanValue_39 : decode cX1_meanValue 39 = .ok (.getfield 15, 3) := by decide +kernel
theorem dX1_meanValue_42 : decode cX1_meanValue 42 = .ok (.iload_n 3, 1) := by decide +kernel
theorem dX1_meanValue_43 : decode cX1_meanValue 43 = .ok (.faload, 1) := by decide +kernel
theorem dX1_meanValue_44 : decode cX1_meanValue 44 = .ok (.fadd, 1) := by decide +kernel
theorem dX1_meanValue_45 : decode cX1_meanValue 45 = .ok (.fdiv, 1) := by decide +kernel
theorem dX1_meanValue_46 : decode cX1_meanValue 46 = .ok (.fadd, 1) := by decide +kernel
theorem dX1_meanValue_47 : decode cX1_meanValue 47 = .ok (.fstore_n 2, 1) := by decide +kernel
theorem dX1_meanValue_48 : decode cX1_meanValue 48 = .ok (.iinc 3 1, 3) := by decide +kernel
theorem dX1_meanValue_51 : decode cX1_meanValue 51 = .ok (.goto (-45), 3) := by decide +kernel
theorem dX1_meanValue_54 : decode cX1_meanValue 54 = .ok (.fload_n 2, 1) := by decide +kernel
theorem dX1_meanValue_55 : decode cX1_meanValue 55 = .ok (.fconst 0, 1) := by decide +kernel
theorem dX1_meanValue_56 : decode cX1_meanValue 56 = .ok (.fcmp .l, 1) := by decide +kernel
theorem dX1_meanValue_57 : decode cX1_meanValue 57 = .ok (.ifCond .le 9, 3) := by decide +kernel
theorem dX1_meanValue_60 : decode cX1_meanValue 60 = .ok (.fload_n 1, 1) := by decide +kernel
theorem dX1_meanValue_61 : decode cX1_meanValue 61 = .ok (.fload_n 2, 1) := by decide +kernel
theorem dX1_meanValue_62 : decode cX1_meanValue 62 = .ok (.fdiv, 1) := by decide +kernel
theorem dX1_meanValue_63 : decode cX1_meanValue 63 = .ok (.goto 4, 3) := by decide +kernel
theorem dX1_meanValue_66 : decode cX1_meanValue 66 = .ok (.fconst 0, 1) := by decide +kernel
theorem dX1_meanValue_67 : decode cX1_meanValue 67 = .ok (.freturn, 1) := by decide +kernel
set_option maxRecDepth 20000 in
theorem ggX1_spreadOfValues_X5_valueOf : GoodIn wsX1_spreadOfValues wsX5_valueOf := goodIn_r _ [5, 6] (by decide +kernel) (by decide +kernel)
set_option maxRecDepth 20000 in
theorem gX1_spreadOfValues_X5_valueOf_n57 : GoodIn wsX1_spreadOfValues (wsX5_valueOf) := ggX1_spreadOfValues_X5_valueOf
theorem dX1_spreadOfValues_0 : decode cX1_spreadOfValues 0 = .ok (.dconst 0, 1) := by decide +kernel
theorem dX1_spreadOfValues_1 : decode cX1_spreadOfValues 1 = .ok (.dstore_n 1, 1) := by decide +kernel
theorem dX1_spreadOfValues_2 : decode cX1_spreadOfValues 2 = .ok (.dconst 0, 1) := by decide +kernel
theorem dX1_spreadOfValues_3 : decode cX1_spreadOfValues 3 = .ok (.dstore_n 3, 1) := by decide +kernel
theorem dX1_spreadOfValues_4 : decode cX1_spreadOfValues 4 = .ok (.iconst 0, 1) := by decide +kernel
theorem dX1_spreadOfValues_5 : decode cX1_spreadOfValues 5 = .ok (.istore 5, 2) := by decide +kernel
theorem dX1_spreadOfValues_7 : decode cX1_spreadOfValues 7 = .ok (.iload 5, 2) := by decide +kernel
theorem dX1_spreadOfValues_9 : decode cX1_spreadOfValues 9 = .ok (.aload_n 0, 1) := by decide +kernel
theorem dX1_spreadOfValues_10 : decode cX1_spreadOfValues 10 = .ok (.getfield 22, 3) := by decide +kernel
theorem dX1_spreadOfValues_13 : decode cX1_spreadOfValues 13 = .ok (.if_icmp .ge 35, 3) := by decide +kernel
theorem dX1_spreadOfValues_16 : decode cX1_spreadOfValues 16 = .ok (.aload_n 0, 1) := by decide +kernel
theorem dX1_spreadOfValues_17 : decode cX1_spreadOfValues 17 = .ok (.getfield 9, 3) := by decide +kernel
theorem dX1_spreadOfValues_20 : decode cX1_spreadOfValues 20 = .ok (.iload 5, 2) := by decide +kernel
theorem dX1_spreadOfValues_22 : decode cX1_spreadOfValues 22 = .ok (.iaload, 1) := by decide +kernel
theorem dX1_spreadOfValues_23 : decode cX1_spreadOfValues 23 = .ok (.invokestatic 57, 3) := by decide +kernel
theorem dX1_spreadOfValues_26 : decode cX1_spreadOfValues 26 = .ok (.f2d, 1) := by decide +kernel
theorem dX1_spreadOfValues_27 : decode cX1_spreadOfValues 27 = .ok (.dstore 6, 2) := by decide +kernel
theorem dX1_spreadOfValues_29 : decode cX1_spreadOfValues 29 = .ok (.dload_n 1, 1) := by decide +kernel
theorem dX1_spreadOfValues_30 : decode cX1_spreadOfValues 30 = .ok (.dload 6, 2) := by decide +kernel
theorem dX1_spreadOfValues_32 : decode cX1_spreadOfValues 32 = .ok (.dadd, 1) := by decide +kernel
theorem dX1_spreadOfValues_33 : decode cX1_spreadOfValues 33 = .ok (.dstore_n 1, 1) := by decide +kernel
theorem dX1_spreadOfValues_34 : decode cX1_spreadOfValues 34 = .ok (.dload_n 3, 1) := by decide +kernel
theorem dX1_spreadOfValues_35 : decode cX1_spreadOfValues 35 = .ok (.dload 6, 2) := by decide +kernel
theorem dX1_spreadOfValues_37 : decode cX1_spreadOfValues 37 = .ok (.dload 6, 2) := by decide +kernel
theorem dX1_spreadOfValues_39 : decode cX1_spreadOfValues 39 = .ok (.dmul, 1) := by decide +kernel
theorem dX1_spreadOfValues_40 : decode cX1_spreadOfValues 40 = .ok (.dadd, 1) := by decide +kernel
theorem dX1_spreadOfValues_41 : decode cX1_spreadOfValues 41 = .ok (.dstore_n 3, 1) := by decide +kernel
theorem dX1_spreadOfValues_42 : decode cX1_spreadOfValues 42 = .ok (.iinc 5 1, 3) := by decide +kernel
theorem dX1_spreadOfValues_45 : decode cX1_spreadOfValues 45 = .ok (.goto (-38), 3) := by decide +kernel
theorem dX1_spreadOfValues_48 : decode cX1_spreadOfValues 48 = .ok (.aload_n 0, 1) := by decide +kernel
theorem dX1_spreadOfValues_49 : decode cX1_spreadOfValues 49 = .ok (.getfield 22, 3) := by decide +kernel
theorem dX1_spreadOfValues_52 : decode cX1_spreadOfValues 52 = .ok (.i2d, 1) := by decide +kernel
theorem dX1_spreadOfValues_53 : decode cX1_spreadOfValues 53 = .ok (.dstore 5, 2) := by decide +kernel
theorem dX1_spreadOfValues_55 : decode cX1_spreadOfValues 55 = .ok (.aload_n 0, 1) := by decide +kernel
theorem dX1_spreadOfValues_56 : decode cX1_spreadOfValues 56 = .ok (.getfield 22, 3) := by decide +kernel
theorem dX1_spreadOfValues_59 : decode cX1_spreadOfValues 59 = .ok (.ifCond .le 20, 3) := by decide +kernel
theorem dX1_spreadOfValues_62 : decode cX1_spreadOfValues 62 = .ok (.dload_n 3, 1) := by decide +kernel
theorem dX1_spreadOfValues_63 : decode cX1_spreadOfValues 63 = .ok (.dload 5, 2) := by decide +kernel
theorem dX1_spreadOfValues_65 : decode cX1_spreadOfValues 65 = .ok (.ddiv, 1) := by decide +kernel
theorem dX1_spreadOfValues_66 : decode cX1_spreadOfValues 66 = .ok (.dload_n 1, 1) := by decide +kernel
theorem dX1_spreadOfValues_67 : decode cX1_spreadOfValues 67 = .ok (.dload 5, 2) := by decide +kernel
theorem dX1_spreadOfValues_69 : decode cX1_spreadOfValues 69 = .ok (.ddiv, 1) := by decide +kernel
theorem dX1_spreadOfValues_70 : decode cX1_spreadOfValues 70 = .ok (.dload_n 1, 1) := by decide +kernel
theorem dX1_spreadOfValues_71 : decode cX1_spreadOfValues 71 = .ok (.dload 5, 2) := by decide +kernel
theorem dX1_spreadOfValues_73 : decode cX1_spreadOfValues 73 = .ok (.ddiv, 1) := by decide +kernel
theorem dX1_spreadOfValues_74 : decode cX1_spreadOfValues 74 = .ok (.dmul, 1) := by decide +kernel
theorem dX1_spreadOfValues_75 : decode cX1_spreadOfValues 75 = .ok (.dsub, 1) := by decide +kernel
theorem dX1_spreadOfValues_76 : decode cX1_spreadOfValues 76 = .ok (.goto 4, 3) := by decide +kernel
theorem dX1_spreadOfValues_79 : decode cX1_spreadOfValues 79 = .ok (.dconst 0, 1) := by decide +kernel
theorem dX1_spreadOfValues_80 : decode cX1_spreadOfValues 80 = .ok (.dreturn, 1) := by decide +kernel
theorem dX1_add_0 : decode cX1_add 0 = .ok (.aload_n 0, 1) := by decide +kernel
theorem dX1_add_1 : decode cX1_add 1 = .ok (.getfield 22, 3) := by decide +kernel
theorem dX1_add_4 : decode cX1_add 4 = .ok (.bipush 12, 2) := by decide +kernel
theorem dX1_add_6 : decode cX1_add 6 = .ok (.if_icmp .ge 81, 3) := by decide +kernel
theorem dX1_add_9 : decode cX1_add 9 = .ok (.aload_n 0, 1) := by decide +kernel
theorem dX1_add_10 : decode cX1_add 10 = .ok (.getfield 9, 3) := by decide +kernel
theorem dX1_add_13 : decode cX1_add 13 = .ok (.aload_n 0, 1) := by decide +kernel
theorem dX1_add_14 : decode cX1_add 14 = .ok (.getfield 22, 3) := by decide +kernel
theorem dX1_add_17 : decode cX1_add 17 = .ok (.iload_n 1, 1) := by decide +kernel
theorem dX1_add_18 : decode cX1_add 18 = .ok (.iastore, 1) := by decide +kernel
theorem dX1_add_19 : decode cX1_add 19 = .ok (.aload_n 0, 1) := by decide +kernel
theorem dX1_add_20 : decode cX1_add 20 = .ok (.getfield 15, 3) := by decide +kernel
theorem dX1_add_23 : decode cX1_add 23 = .ok (.aload_n 0, 1) := by decide +kernel
theorem dX1_add_24 : decode cX1_add 24 = .ok (.getfield 22, 3) := by decide +kernel
theorem dX1_add_27 : decode cX1_add 27 = .ok (.fload_n 2, 1) := by decide +kernel
theorem dX1_add_28 : decode cX1_add 28 = .ok (.fastore, 1) := by decide +kernel
theorem dX1_add_29 : decode cX1_add 29 = .ok (.aload_n 0, 1) := by decide +kernel
theorem dX1_add_30 : decode cX1_add 30 = .ok (.getfield 22, 3) := by decide +kernel
theorem dX1_add_33 : decode cX1_add 33 = .ok (.istore_n 3, 1) := by decide +kernel
theorem dX1_add_34 : decode cX1_add 34 = .ok (.iload_n 3, 1) := by decide +kernel
theorem dX1_add_35 : decode cX1_add 35 = .ok (.ifCond .le 35, 3) := by decide +kernel
theorem dX1_add_38 : decode cX1_add 38 = .ok (.iload_n 1, 1) := by decide +kernel
theorem dX1_add_39 : decode cX1_add 39 = .ok (.aload_n 0, 1) := by decide +kernel
theorem dX1_add_40 : decode cX1_add 40 = .ok (.getfield 19, 3) := by decide +kernel
theorem dX1_add_43 : decode cX1_add 43 = .ok (.iload_n 3, 1) := by decide +kernel
theorem dX1_add_44 : decode cX1_add 44 = .ok (.iconst 1, 1) := by decide +kernel
theorem dX1_add_45 : decode cX1_add 45 = .ok (.isub, 1) := by decide +kernel
theorem dX1_add_46 : decode cX1_add 46 = .ok (.iaload, 1) := by decide +kernel
theorem dX1_add_47 : decode cX1_add 47 = .ok (.if_icmp .ge 23, 3) := by decide +kernel
theorem dX1_add_50 : decode cX1_add 50 = .ok (.aload_n 0, 1) := by decide +kernel
theorem dX1_add_51 : decode cX1_add 51 = .ok (.getfield 19, 3) := by decide +kernel
theorem dX1_add_54 : decode cX1_add 54 = .ok (.iload_n 3, 1) := by decide +kernel
theorem dX1_add_55 : decode cX1_add 55 = .ok (.aload_n 0, 1) := by decide +kernel
theorem dX1_add_56 : decode cX1_add 56 = .ok (.getfield 19, 3) := by decide +kernel
theorem dX1_add_59 : decode cX1_add 59 = .ok (.iload_n 3, 1) := by decide +kernel
theorem dX1_add_60 : decode cX1_add 60 = .ok (.iconst 1, 1) := by decide +kernel
theorem dX1_add_61 : decode cX1_add 61 = .ok (.isub, 1) := by decide +kernel
theorem dX1_add_62 : decode cX1_add 62 = .ok (.iaload, 1) := by decide +kernel
theorem dX1_add_63 : decode cX1_add 63 = .ok (.iastore, 1) := by decide +kernel
theorem dX1_add_64 : decode cX1_add 64 = .ok (.iinc 3 (-1), 3) := by decide +kernel
theorem dX1_add_67 : decode cX1_add 67 = .ok (.goto (-33), 3) := by decide +kernel
theorem dX1_add_70 : decode cX1_add 70 = .ok (.aload_n 0, 1) := by decide +kernel
theorem dX1_add_71 : decode cX1_add 71 = .ok (.getfield 19, 3) := by decide +kernel
theorem dX1_add_74 : decode cX1_add 74 = .ok (.iload_n 3, 1) := by decide +kernel
theorem dX1_add_75 : decode cX1_add 75 = .ok (.iload_n 1, 1) := by decide +kernel
theorem dX1_add_76 : decode cX1_add 76 = .ok (.iastore, 1) := by decide +kernel
theorem dX1_add_77 : decode cX1_add 77 = .ok (.aload_n 0, 1) := by decide +kernel
theorem dX1_add_78 : decode cX1_add 78 = .ok (.dup, 1) := by decide +kernel
theorem dX1_add_79 : decode cX1_add 79 = .ok (.getfield 22, 3) := by decide +kernel
theorem dX1_add_82 : decode cX1_add 82 = .ok (.iconst 1, 1) := by decide +kernel
theorem dX1_add_83 : decode cX1_add 83 = .ok (.iadd, 1) := by decide +kernel
theorem dX1_add_84 : decode cX1_add 84 = .ok (.putfield 22, 3) := by decide +kernel
theorem dX1_add_87 : decode cX1_add 87 = .ok (.return_, 1) := by decide +kernel
theorem dX2_init_0 : decode cX2_init 0 = .ok (.aload_n 0, 1) := by decide +kernel
theorem dX2_init_1 : decode cX2_init 1 = .ok (.invokespecial 3, 3) := by decide +kernel
theorem dX2_init_4 : decode cX2_init 4 = .ok (.aload_n 0, 1) := by decide +kernel
theorem dX2_init_5 : decode cX2_init 5 = .ok (.sipush 200, 3) := by decide +kernel
theorem dX2_init_8 : decode cX2_init 8 = .ok (.newarray .float, 2) := by decide +kernel
theorem dX2_init_10 : decode cX2_init 10 = .ok (.putfield 9, 3) := by decide +kernel
theorem dX2_init_13 : decode cX2_init 13 = .ok (.aload_n 0, 1) := by decide +kernel
theorem dX2_init_14 : decode cX2_init 14 = .ok (.sipush 200, 3) := by decide +kernel
theorem dX2_init_17 : decode cX2_init 17 = .ok (.newarray .boolean, 2) := by decide +kernel
theorem dX2_init_19 : decode cX2_init 19 = .ok (.putfield 15, 3) := by decide +kernel
theorem dX2_init_22 : decode cX2_init 22 = .ok (.aload_n 0, 1) := by decide +kernel
theorem dX2_init_23 : decode cX2_init 23 = .ok (.iconst 4, 1) := by decide +kernel
theorem dX2_init_24 : decode cX2_init 24 = .ok (.newarray .float, 2) := by decide +kernel
theorem dX2_init_26 : decode cX2_init 26 = .ok (.putfield 19, 3) := by decide +kernel
theorem dX2_init_29 : decode cX2_init 29 = .ok (.aload_n 0, 1) := by decide +kernel
theorem dX2_init_30 : decode cX2_init 30 = .ok (.sipush 2500, 3) := by decide +kernel
theorem dX2_init_33 : decode cX2_init 33 = .ok (.newarray .float, 2) := by decide +kernel
theorem dX2_init_35 : decode cX2_init 35 = .ok (.putfield 22, 3) := by decide +kernel
theorem dX2_init_38 : decode cX2_init 38 = .ok (.aload_n 0, 1) := by decide +kernel
theorem dX2_init_39 : decode cX2_init 39 = .ok (.sipush 600, 3) := by decide +kernel
theorem dX2_init_42 : decode cX2_init 42 = .ok (.newarray .int, 2) := by decide +kernel
theorem dX2_init_44 : decode cX2_init 44 = .ok (.putfield 25, 3) := by decide +kernel
theorem dX2_init_47 : decode cX2_init 47 = .ok (.aload_n 0, 1) := by decide +kernel
theorem dX2_init_48 : decode cX2_init 48 = .ok (.bipush 50, 2) := by decide +kernel
theorem dX2_init_50 : decode cX2_init 50 = .ok (.newarray .int, 2) := by decide +kernel
theorem dX2_init_52 : decode cX2_init 52 = .ok (.putfield 29, 3) := by decide +kernel
theorem dX2_init_55 : decode cX2_init 55 = .ok (.aload_n 0, 1) := by decide +kernel
theorem dX2_init_56 : decode cX2_init 56 = .ok (.bipush 50, 2) := by decide +kernel
theorem dX2_init_58 : decode cX2_init 58 = .ok (.newarray .int, 2) := by decide +kernel
theorem dX2_init_60 : decode cX2_init 60 = .ok (.putfield 32, 3) := by decide +kernel
theorem dX2_init_63 : decode cX2_init 63 = .ok (.aload_n 0, 1) := by decide +kernel
theorem dX2_init_64 : decode cX2_init 64 = .ok (.bipush (-2), 2) := by decide +kernel
theorem dX2_init_66 : decode cX2_init 66 = .ok (.putfield 35, 3) := by decide +kernel
theorem dX2_init_69 : decode cX2_init 69 = .ok (.return_, 1) := by decide +kernel
theorem dX2_forget_0 : decode cX2_forget 0 = .ok (.aload_n 0, 1) := by decide +kernel
theorem dX2_forget_1 : decode cX2_forget 1 = .ok (.bipush (-2), 2) := by decide +kernel
theorem dX2_forget_3 : decode cX2_forget 3 = .ok (.putfield 35, 3) := by decide +kernel
theorem dX2_forget_6 : decode cX2_forget 6 = .ok (.return_, 1) := by decide +kernel
set_option maxRecDepth 20000 in
theorem ggX2_learn_X0_days : GoodIn wsX2_learn wsX0_days := goodIn_r _ [14, 15, 88, 89, 90, 91, 92] (by decide +kernel) (by decide +kernel)
set_option maxRecDepth 20000 in
theorem gX2_learn_X0_days : GoodIn wsX2_learn (wsV RX2 39 RX0 yX0_days wsX0_days) := goodIn_app (goodIn_of _ (by decide +kernel)) ggX2_learn_X0_days
set_option maxRecDepth 20000 in
theorem ggX2_learn_X2_takeNotes : GoodIn wsX2_learn wsX2_takeNotes := goodIn_r _ [20, 6, 21, 22, 23, 24, 25, 13, 26, 27, 28, 29, 30, 31, 15, 32, 33, 34, 35, 36, 37, 38, 39, 40, 79, 80, 81, 82, 83, 84, 85, 86, 87, 88, 89, 90, 91, 92] (by decide +kernel) (by decide +kernel)
set_option maxRecDepth 20000 in
theorem gX2_learn_X2_takeNotes : GoodIn wsX2_learn (wsV RX2 53 RX2 yX2_takeNotes wsX2_takeNotes) := goodIn_app (goodIn_of _ (by decide +kernel)) ggX2_learn_X2_takeNotes
set_option maxRecDepth 20000 in
theorem ggX2_learn_X0_rule : GoodIn wsX2_learn wsX0_rule := goodIn_r _ [44, 45, 46, 47, 32, 33, 34, 35, 36, 37, 88, 89, 90, 91, 92] (by decide +kernel) (by decide +kernel)
set_option maxRecDepth 20000 in
theorem gX2_learn_X0_rule : GoodIn wsX2_learn (wsV RX2 57 RX0 yX0_rule wsX0_rule) := goodIn_app (goodIn_of _ (by decide +kernel)) ggX2_learn_X0_rule
set_option maxRecDepth 20000 in
theorem ggX2_learn_X2_measure : GoodIn wsX2_learn wsX2_measure := goodIn_r _ [51, 21, 7, 22, 52, 79, 80, 81, 82, 83, 84, 85, 86, 87] (by decide +kernel) (by decide +kernel)
set_option maxRecDepth 20000 in
theorem gX2_learn_X2_measure : GoodIn wsX2_learn (wsV RX2 62 RX2 yX2_measure wsX2_measure) := goodIn_app (goodIn_of _ (by decide +kernel)) ggX2_learn_X2_measure
set_option maxRecDepth 20000 in
theorem ggX2_learn_X0_gap : GoodIn wsX2_learn wsX0_gap := goodIn_r _ [56, 45, 88, 89, 90, 91, 92] (by decide +kernel) (by decide +kernel)
set_option maxRecDepth 20000 in
theorem gX2_learn_X0_gap : GoodIn wsX2_learn (wsV RX2 66 RX0 yX0_gap wsX0_gap) := goodIn_app (goodIn_of _ (by decide +kernel)) ggX2_learn_X0_gap
set_option maxRecDepth 20000 in
theorem ggX2_learn_X2_rank : GoodIn wsX2_learn wsX2_rank := goodIn_r _ [60, 6, 61, 62, 4, 63, 9, 64, 65, 66, 67, 68, 19, 69, 70, 2, 3, 5, 71, 72, 73, 74, 52, 75, 76, 77, 78, 79, 80, 81, 82, 83, 84, 85, 86, 87] (by decide +kernel) (by decide +kernel)
set_option maxRecDepth 20000 in
theorem gX2_learn_X2_rank : GoodIn wsX2_learn (wsV RX2 69 RX2 yX2_rank wsX2_rank) := goodIn_app (goodIn_of _ (by decide +kernel)) ggX2_learn_X2_rank
theorem dX2_learn_0 : decode cX2_learn 0 = .ok (.aload_n 0, 1) := by decide +kernel
theorem dX2_learn_1 : decode cX2_learn 1 = .ok (.getfield 35, 3) := by decide +kernel
theorem dX2_learn_4 : decode cX2_learn 4 = .ok (.iload_n 2, 1) := by decide +kernel
theorem dX2_learn_5 : decode cX2_learn 5 = .ok (.if_icmp .ne 4, 3) := by decide +kernel
theorem dX2_learn_8 : decode cX2_learn 8 = .ok (.return_, 1) := by decide +kernel
theorem dX2_learn_9 : decode cX2_learn 9 = .ok (.aload_n 0, 1) := by decide +kernel
theorem dX2_learn_10 : decode cX2_learn 10 = .ok (.iload_n 2, 1) := by decide +kernel
theorem dX2_learn_11 : decode cX2_learn 11 = .ok (.putfield 35, 3) := by decide +kernel
theorem dX2_learn_14 : decode cX2_learn 14 = .ok (.aload_n 0, 1) := by decide +kernel
theorem dX2_learn_15 : decode cX2_learn 15 = .ok (.aload_n 1, 1) := by decide +kernel
theorem dX2_learn_16 : decode cX2_learn 16 = .ok (.invokevirtual 39, 3) := by decide +kernel
theorem dX2_learn_19 : decode cX2_learn 19 = .ok (.bipush 50, 2) := by decide +kernel
theorem dX2_learn_21 : decode cX2_learn 21 = .ok (.invokestatic 45, 3) := by decide +kernel
theorem dX2_learn_24 : decode cX2_learn 24 = .ok (.putfield 51, 3) := by decide +kernel
theorem dX2_learn_27 : decode cX2_learn 27 = .ok (.aload_n 0, 1) := by decide +kernel
theorem dX2_learn_28 : decode cX2_learn 28 = .ok (.aload_n 1, 1) := by decide +kernel
theorem dX2_learn_29 : decode cX2_learn 29 = .ok (.invokevirtual 53, 3) := by decide +kernel
theorem dX2_learn_32 : decode cX2_learn 32 = .ok (.iconst 0, 1) := by decide +kernel
theorem dX2_learn_33 : decode cX2_learn 33 = .ok (.istore_n 3, 1) := by decide +kernel
theorem dX2_learn_34 : decode cX2_learn 34 = .ok (.iload_n 3, 1) := by decide +kernel
theorem dX2_learn_35 : decode cX2_learn 35 = .ok (.iconst 4, 1) := by decide +kernel
theorem dX2_learn_36 : decode cX2_learn 36 = .ok (.if_icmp .ge 33, 3) := by decide +kernel
theorem dX2_learn_39 : decode cX2_learn 39 = .ok (.aload_n 0, 1) := by decide +kernel
theorem dX2_learn_40 : decode cX2_learn 40 = .ok (.getfield 19, 3) := by decide +kernel
theorem dX2_learn_43 : decode cX2_learn 43 = .ok (.iload_n 3, 1) := by decide +kernel
theorem dX2_learn_44 : decode cX2_learn 44 = .ok (.iload_n 3, 1) := by decide +kernel
theorem dX2_learn_45 : decode cX2_learn 45 = .ok (.iload_n 2, 1) := by decide +kernel
theorem dX2_learn_46 : decode cX2_learn 46 = .ok (.if_icmp .ne 7, 3) := by decide +kernel
theorem dX2_learn_49 : decode cX2_learn 49 = .ok (.fconst 0, 1) := by decide +kernel
theorem dX2_learn_50 : decode cX2_learn 50 = .ok (.goto 12, 3) := by decide +kernel
theorem dX2_learn_53 : decode cX2_learn 53 = .ok (.aload_n 1, 1) := by decide +kernel
theorem dX2_learn_54 : decode cX2_learn 54 = .ok (.iload_n 3, 1) := by decide +kernel
theorem dX2_learn_55 : decode cX2_learn 55 = .ok (.invokevirtual 57, 3) := by decide +kernel
theorem dX2_learn_58 : decode cX2_learn 58 = .ok (.i2f, 1) := by decide +kernel
theorem dX2_learn_59 : decode cX2_learn 59 = .ok (.ldc 61, 2) := by decide +kernel
theorem dX2_learn_61 : decode cX2_learn 61 = .ok (.fdiv, 1) := by decide +kernel
theorem dX2_learn_62 : decode cX2_learn 62 = .ok (.fastore, 1) := by decide +kernel
theorem dX2_learn_63 : decode cX2_learn 63 = .ok (.iinc 3 1, 3) := by decide +kernel
theorem dX2_learn_66 : decode cX2_learn 66 = .ok (.goto (-32), 3) := by decide +kernel
theorem dX2_learn_69 : decode cX2_learn 69 = .ok (.iconst 0, 1) := by decide +kernel
theorem dX2_learn_70 : decode cX2_learn 70 = .ok (.istore_n 3, 1) := by decide +kernel
theorem dX2_learn_71 : decode cX2_learn 71 = .ok (.iload_n 3, 1) := by decide +kernel
theorem dX2_learn_72 : decode cX2_learn 72 = .ok (.aload_n 0, 1) := by decide +kernel
theorem dX2_learn_73 : decode cX2_learn 73 = .ok (.getfield 51, 3) := by decide +kernel
theorem dX2_learn_76 : decode cX2_learn 76 = .ok (.if_icmp .ge 66, 3) := by decide +kernel
theorem dX2_learn_79 : decode cX2_learn 79 = .ok (.iload_n 3, 1) := by decide +kernel
theorem dX2_learn_80 : decode cX2_learn 80 = .ok (.iconst 1, 1) := by decide +kernel
theorem dX2_learn_81 : decode cX2_learn 81 = .ok (.iadd, 1) := by decide +kernel
theorem dX2_learn_82 : decode cX2_learn 82 = .ok (.istore 4, 2) := by decide +kernel
theorem dX2_learn_84 : decode cX2_learn 84 = .ok (.iload 4, 2) := by decide +kernel
theorem dX2_learn_86 : decode cX2_learn 86 = .ok (.aload_n 0, 1) := by decide +kernel
theorem dX2_learn_87 : decode cX2_learn 87 = .ok (.getfield 51, 3) := by decide +kernel
theorem dX2_learn_90 : decode cX2_learn 90 = .ok (.if_icmp .ge 46, 3) := by decide +kernel
theorem dX2_learn_93 : decode cX2_learn 93 = .ok (.aload_n 0, 1) := by decide +kernel
theorem dX2_learn_94 : decode cX2_learn 94 = .ok (.iload_n 3, 1) := by decide +kernel
theorem dX2_learn_95 : decode cX2_learn 95 = .ok (.iload 4, 2) := by decide +kernel
theorem dX2_learn_97 : decode cX2_learn 97 = .ok (.invokevirtual 62, 3) := by decide +kernel
theorem dX2_learn_100 : decode cX2_learn 100 = .ok (.fstore 5, 2) := by decide +kernel
theorem dX2_learn_102 : decode cX2_learn 102 = .ok (.aload_n 0, 1) := by decide +kernel
theorem dX2_learn_103 : decode cX2_learn 103 = .ok (.getfield 22, 3) := by decide +kernel
theorem dX2_learn_106 : decode cX2_learn 106 = .ok (.iload_n 3, 1) := by decide +kernel
theorem dX2_learn_107 : decode cX2_learn 107 = .ok (.bipush 50, 2) := by decide +kernel
theorem dX2_learn_109 : decode cX2_learn 109 = .ok (.imul, 1) := by decide +kernel
theorem dX2_learn_110 : decode cX2_learn 110 = .ok (.iload 4, 2) := by decide +kernel
theorem dX2_learn_112 : decode cX2_learn 112 = .ok (.iadd, 1) := by decide +kernel
theorem dX2_learn_113 : decode cX2_learn 113 = .ok (.fload 5, 2) := by decide +kernel
theorem dX2_learn_115 : decode cX2_learn 115 = .ok (.fastore, 1) := by decide +kernel
theorem dX2_learn_116 : decode cX2_learn 116 = .ok (.aload_n 0, 1) := by decide +kernel
theorem dX2_learn_117 : decode cX2_learn 117 = .ok (.getfield 22, 3) := by decide +kernel
theorem dX2_learn_120 : decode cX2_learn 120 = .ok (.iload 4, 2) := by decide +kernel
theorem dX2_learn_122 : decode cX2_learn 122 = .ok (.bipush 50, 2) := by decide +kernel
theorem dX2_learn_124 : decode cX2_learn 124 = .ok (.imul, 1) := by decide +kernel
theorem dX2_learn_125 : decode cX2_learn 125 = .ok (.iload_n 3, 1) := by decide +kernel
theorem dX2_learn_126 : decode cX2_learn 126 = .ok (.iadd, 1) := by decide +kernel
theorem dX2_learn_127 : decode cX2_learn 127 = .ok (.fload 5, 2) := by decide +kernel
theorem dX2_learn_129 : decode cX2_learn 129 = .ok (.fastore, 1) := by decide +kernel
theorem dX2_learn_130 : decode cX2_learn 130 = .ok (.iinc 4 1, 3) := by decide +kernel
theorem dX2_learn_133 : decode cX2_learn 133 = .ok (.goto (-49), 3) := by decide +kernel
theorem dX2_learn_136 : decode cX2_learn 136 = .ok (.iinc 3 1, 3) := by decide +kernel
theorem dX2_learn_139 : decode cX2_learn 139 = .ok (.goto (-68), 3) := by decide +kernel
theorem dX2_learn_142 : decode cX2_learn 142 = .ok (.iconst 0, 1) := by decide +kernel
theorem dX2_learn_143 : decode cX2_learn 143 = .ok (.istore_n 3, 1) := by decide +kernel
theorem dX2_learn_144 : decode cX2_learn 144 = .ok (.iload_n 3, 1) := by decide +kernel
theorem dX2_learn_145 : decode cX2_learn 145 = .ok (.aload_n 0, 1) := by decide +kernel
theorem dX2_learn_146 : decode cX2_learn 146 = .ok (.getfield 51, 3) := by decide +kernel
theorem dX2_learn_149 : decode cX2_learn 149 = .ok (.if_icmp .ge 18, 3) := by decide +kernel
theorem dX2_learn_152 : decode cX2_learn 152 = .ok (.aload_n 0, 1) := by decide +kernel
theorem dX2_learn_153 : decode cX2_learn 153 = .ok (.iload_n 3, 1) := by decide +kernel
theorem dX2_learn_154 : decode cX2_learn 154 = .ok (.aload_n 1, 1) := by decide +kernel
theorem dX2_learn_155 : decode cX2_learn 155 = .ok (.invokevirtual 66, 3) := by decide +kernel
theorem dX2_learn_158 : decode cX2_learn 158 = .ok (.invokevirtual 69, 3) := by decide +kernel
theorem dX2_learn_161 : decode cX2_learn 161 = .ok (.iinc 3 1, 3) := by decide +kernel
theorem dX2_learn_164 : decode cX2_learn 164 = .ok (.goto (-20), 3) := by decide +kernel
theorem dX2_learn_167 : decode cX2_learn 167 = .ok (.return_, 1) := by decide +kernel
set_option maxRecDepth 20000 in
theorem ggX2_between_X2_has : GoodIn wsX2_between wsX2_has := goodIn_r _ [7, 8, 9, 10, 11, 12, 13, 14, 15, 16, 17] (by decide +kernel) (by decide +kernel)
set_option maxRecDepth 20000 in
theorem gX2_between_X2_has : GoodIn wsX2_between (wsV RX2 73 RX2 yX2_has wsX2_has) := goodIn_app (goodIn_of _ (by decide +kernel)) ggX2_between_X2_has
theorem dX2_between_0 : decode cX2_between 0 = .ok (.aload_n 0, 1) := by decide +kernel
theorem dX2_between_1 : decode cX2_between 1 = .ok (.iload_n 1, 1) := by decide +kernel
theorem dX2_between_2 : decode cX2_between 2 = .ok (.invokevirtual 73, 3) := by decide +kernel
theorem dX2_between_5 : decode cX2_between 5 = .ok (.ifCond .eq 30, 3) := by decide +kernel
theorem dX2_between_8 : decode cX2_between 8 = .ok (.aload_n 0, 1) := by decide +kernel
theorem dX2_between_9 : decode cX2_between 9 = .ok (.iload_n 2, 1) := by decide +kernel
theorem dX2_between_10 : decode cX2_between 10 = .ok (.invokevirtual 73, 3) := by decide +kernel
theorem dX2_between_13 : decode cX2_between 13 = .ok (.ifCond .eq 22, 3) := by decide +kernel
theorem dX2_between_16 : decode cX2_between 16 = .ok (.iload_n 1, 1) := by decide +kernel
theorem dX2_between_17 : decode cX2_between 17 = .ok (.iload_n 2, 1) := by decide +kernel
theorem dX2_between_18 : decode cX2_between 18 = .ok (.if_icmp .eq 17, 3) := by decide +kernel
theorem dX2_between_21 : decode cX2_between 21 = .ok (.aload_n 0, 1) := by decide +kernel
theorem dX2_between_22 : decode cX2_between 22 = .ok (.getfield 22, 3) := by decide +kernel
theorem dX2_between_25 : decode cX2_between 25 = .ok (.iload_n 1, 1) := by decide +kernel
theorem dX2_between_26 : decode cX2_between 26 = .ok (.bipush 50, 2) := by decide +kernel
theorem dX2_between_28 : decode cX2_between 28 = .ok (.imul, 1) := by decide +kernel
theorem dX2_between_29 : decode cX2_between 29 = .ok (.iload_n 2, 1) := by decide +kernel
theorem dX2_between_30 : decode cX2_between 30 = .ok (.iadd, 1) := by decide +kernel
theorem dX2_between_31 : decode cX2_between 31 = .ok (.faload, 1) := by decide +kernel
theorem dX2_between_32 : decode cX2_between 32 = .ok (.goto 5, 3) := by decide +kernel
theorem dX2_between_35 : decode cX2_between 35 = .ok (.ldc 77, 2) := by decide +kernel
theorem dX2_between_37 : decode cX2_between 37 = .ok (.freturn, 1) := by decide +kernel
set_option maxRecDepth 20000 in
theorem ggX2_likeOnes_X2_has : GoodIn wsX2_likeOnes wsX2_has := goodIn_r _ [6, 7, 8, 9, 10, 11, 12, 13, 14, 15, 16] (by decide +kernel) (by decide +kernel)
set_option maxRecDepth 20000 in
theorem gX2_likeOnes_X2_has : GoodIn wsX2_likeOnes (wsV RX2 73 RX2 yX2_has wsX2_has) := goodIn_app (goodIn_of _ (by decide +kernel)) ggX2_likeOnes_X2_has
theorem dX2_likeOnes_0 : decode cX2_likeOnes 0 = .ok (.aload_n 0, 1) := by decide +kernel
theorem dX2_likeOnes_1 : decode cX2_likeOnes 1 = .ok (.iload_n 1, 1) := by decide +kernel
theorem dX2_likeOnes_2 : decode cX2_likeOnes 2 = .ok (.invokevirtual 73, 3) := by decide +kernel
theorem dX2_likeOnes_5 : decode cX2_likeOnes 5 = .ok (.ifCond .eq 12, 3) := by decide +kernel
theorem dX2_likeOnes_8 : decode cX2_likeOnes 8 = .ok (.aload_n 0, 1) := by decide +kernel
theorem dX2_likeOnes_9 : decode cX2_likeOnes 9 = .ok (.getfield 32, 3) := by decide +kernel
theorem dX2_likeOnes_12 : decode cX2_likeOnes 12 = .ok (.iload_n 1, 1) := by decide +kernel
theorem dX2_likeOnes_13 : decode cX2_likeOnes 13 = .ok (.iaload, 1) := by decide +kernel
theorem dX2_likeOnes_14 : decode cX2_likeOnes 14 = .ok (.goto 4, 3) := by decide +kernel
theorem dX2_likeOnes_17 : decode cX2_likeOnes 17 = .ok (.iconst 0, 1) := by decide +kernel
theorem dX2_likeOnes_18 : decode cX2_likeOnes 18 = .ok (.ireturn, 1) := by decide +kernel
set_option maxRecDepth 20000 in
theorem ggX2_nearOnes_X2_has : GoodIn wsX2_nearOnes wsX2_has := goodIn_r _ [10, 11, 12, 13, 14, 15, 16, 17, 18, 19, 20] (by decide +kernel) (by decide +kernel)
set_option maxRecDepth 20000 in
theorem gX2_nearOnes_X2_has : GoodIn wsX2_nearOnes (wsV RX2 73 RX2 yX2_has wsX2_has) := goodIn_app (goodIn_of _ (by decide +kernel)) ggX2_nearOnes_X2_has
theorem dX2_nearOnes_0 : decode cX2_nearOnes 0 = .ok (.aload_n 0, 1) := by decide +kernel
theorem dX2_nearOnes_1 : decode cX2_nearOnes 1 = .ok (.iload_n 1, 1) := by decide +kernel
theorem dX2_nearOnes_2 : decode cX2_nearOnes 2 = .ok (.invokevirtual 73, 3) := by decide +kernel
theorem dX2_nearOnes_5 : decode cX2_nearOnes 5 = .ok (.ifCond .eq 16, 3) := by decide +kernel
theorem dX2_nearOnes_8 : decode cX2_nearOnes 8 = .ok (.aload_n 0, 1) := by decide +kernel
theorem dX2_nearOnes_9 : decode cX2_nearOnes 9 = .ok (.getfield 29, 3) := by decide +kernel
theorem dX2_nearOnes_12 : decode cX2_nearOnes 12 = .ok (.iload_n 1, 1) := by decide +kernel
theorem dX2_nearOnes_13 : decode cX2_nearOnes 13 = .ok (.iaload, 1) := by decide +kernel
theorem dX2_nearOnes_14 : decode cX2_nearOnes 14 = .ok (.iload_n 2, 1) := by decide +kernel
theorem dX2_nearOnes_15 : decode cX2_nearOnes 15 = .ok (.invokestatic 45, 3) := by decide +kernel
theorem dX2_nearOnes_18 : decode cX2_nearOnes 18 = .ok (.goto 4, 3) := by decide +kernel
theorem dX2_nearOnes_21 : decode cX2_nearOnes 21 = .ok (.iconst 0, 1) := by decide +kernel
theorem dX2_nearOnes_22 : decode cX2_nearOnes 22 = .ok (.ireturn, 1) := by decide +kernel
set_option maxRecDepth 20000 in
theorem ggX2_near_X2_has : GoodIn wsX2_near wsX2_has := goodIn_r _ [7, 8, 9, 10, 11, 12, 13, 14, 15, 16, 17] (by decide +kernel) (by decide +kernel)
set_option maxRecDepth 20000 in
theorem gX2_near_X2_has : GoodIn wsX2_near (wsV RX2 73 RX2 yX2_has wsX2_has) := goodIn_app (goodIn_of _ (by decide +kernel)) ggX2_near_X2_has
theorem dX2_near_0 : decode cX2_near 0 = .ok (.aload_n 0, 1) := by decide +kernel
theorem dX2_near_1 : decode cX2_near 1 = .ok (.iload_n 1, 1) := by decide +kernel
theorem dX2_near_2 : decode cX2_near 2 = .ok (.invokevirtual 73, 3) := by decide +kernel
theorem dX2_near_5 : decode cX2_near 5 = .ok (.ifCond .eq 31, 3) := by decide +kernel
theorem dX2_near_8 : decode cX2_near 8 = .ok (.iload_n 2, 1) := by decide +kernel
theorem dX2_near_9 : decode cX2_near 9 = .ok (.ifCond .lt 27, 3) := by decide +kernel
theorem dX2_near_12 : decode cX2_near 12 = .ok (.iload_n 2, 1) := by decide +kernel
theorem dX2_near_13 : decode cX2_near 13 = .ok (.aload_n 0, 1) := by decide +kernel
theorem dX2_near_14 : decode cX2_near 14 = .ok (.getfield 29, 3) := by decide +kernel
theorem dX2_near_17 : decode cX2_near 17 = .ok (.iload_n 1, 1) := by decide +kernel
theorem dX2_near_18 : decode cX2_near 18 = .ok (.iaload, 1) := by decide +kernel
theorem dX2_near_19 : decode cX2_near 19 = .ok (.if_icmp .ge 17, 3) := by decide +kernel
theorem dX2_near_22 : decode cX2_near 22 = .ok (.aload_n 0, 1) := by decide +kernel
theorem dX2_near_23 : decode cX2_near 23 = .ok (.getfield 25, 3) := by decide +kernel
theorem dX2_near_26 : decode cX2_near 26 = .ok (.iload_n 1, 1) := by decide +kernel
theorem dX2_near_27 : decode cX2_near 27 = .ok (.bipush 12, 2) := by decide +kernel
theorem dX2_near_29 : decode cX2_near 29 = .ok (.imul, 1) := by decide +kernel
theorem dX2_near_30 : decode cX2_near 30 = .ok (.iload_n 2, 1) := by decide +kernel
theorem dX2_near_31 : decode cX2_near 31 = .ok (.iadd, 1) := by decide +kernel
theorem dX2_near_32 : decode cX2_near 32 = .ok (.iaload, 1) := by decide +kernel
theorem dX2_near_33 : decode cX2_near 33 = .ok (.goto 4, 3) := by decide +kernel
theorem dX2_near_36 : decode cX2_near 36 = .ok (.iconst (-1), 1) := by decide +kernel
theorem dX2_near_37 : decode cX2_near 37 = .ok (.ireturn, 1) := by decide +kernel
set_option maxRecDepth 20000 in
theorem ggX2_isNear_X2_nearOnes : GoodIn wsX2_isNear wsX2_nearOnes := goodIn_r _ [5, 6, 7, 8, 9, 10, 11, 12, 13, 4, 14, 15, 21, 22, 23, 24, 25, 26, 27, 28, 29] (by decide +kernel) (by decide +kernel)
set_option maxRecDepth 20000 in
theorem gX2_isNear_X2_nearOnes : GoodIn wsX2_isNear (wsV RX2 78 RX2 yX2_nearOnes wsX2_nearOnes) := goodIn_app (goodIn_of _ (by decide +kernel)) ggX2_isNear_X2_nearOnes
set_option maxRecDepth 20000 in
theorem ggX2_isNear_X2_near : GoodIn wsX2_isNear wsX2_near := goodIn_r _ [19, 6, 20, 11, 12, 13, 4, 14, 15, 21, 22, 23, 24, 25, 26, 27, 28, 29] (by decide +kernel) (by decide +kernel)
set_option maxRecDepth 20000 in
theorem gX2_isNear_X2_near : GoodIn wsX2_isNear (wsV RX2 81 RX2 yX2_near wsX2_near) := goodIn_app (goodIn_of _ (by decide +kernel)) ggX2_isNear_X2_near
theorem dX2_isNear_0 : decode cX2_isNear 0 = .ok (.iconst 0, 1) := by decide +kernel
theorem dX2_isNear_1 : decode cX2_isNear 1 = .ok (.istore 4, 2) := by decide +kernel
theorem dX2_isNear_3 : decode cX2_isNear 3 = .ok (.iload 4, 2) := by decide +kernel
theorem dX2_isNear_5 : decode cX2_isNear 5 = .ok (.aload_n 0, 1) := by decide +kernel
theorem dX2_isNear_6 : decode cX2_isNear 6 = .ok (.iload_n 1, 1) := by decide +kernel
theorem dX2_isNear_7 : decode cX2_isNear 7 = .ok (.iload_n 3, 1) := by decide +kernel
theorem dX2_isNear_8 : decode cX2_isNear 8 = .ok (.invokevirtual 78, 3) := by decide +kernel
theorem dX2_isNear_11 : decode cX2_isNear 11 = .ok (.if_icmp .ge 22, 3) := by decide +kernel
theorem dX2_isNear_14 : decode cX2_isNear 14 = .ok (.aload_n 0, 1) := by decide +kernel
theorem dX2_isNear_15 : decode cX2_isNear 15 = .ok (.iload_n 1, 1) := by decide +kernel
theorem dX2_isNear_16 : decode cX2_isNear 16 = .ok (.iload 4, 2) := by decide +kernel
theorem dX2_isNear_18 : decode cX2_isNear 18 = .ok (.invokevirtual 81, 3) := by decide +kernel
theorem dX2_isNear_21 : decode cX2_isNear 21 = .ok (.iload_n 2, 1) := by decide +kernel
theorem dX2_isNear_22 : decode cX2_isNear 22 = .ok (.if_icmp .ne 5, 3) := by decide +kernel
theorem dX2_isNear_25 : decode cX2_isNear 25 = .ok (.iconst 1, 1) := by decide +kernel
theorem dX2_isNear_26 : decode cX2_isNear 26 = .ok (.ireturn, 1) := by decide +kernel
theorem dX2_isNear_27 : decode cX2_isNear 27 = .ok (.iinc 4 1, 3) := by decide +kernel
theorem dX2_isNear_30 : decode cX2_isNear 30 = .ok (.goto (-27), 3) := by decide +kernel
theorem dX2_isNear_33 : decode cX2_isNear 33 = .ok (.iconst 0, 1) := by decide +kernel
theorem dX2_isNear_34 : decode cX2_isNear 34 = .ok (.ireturn, 1) := by decide +kernel
theorem dX2_has_0 : decode cX2_has 0 = .ok (.iload_n 1, 1) := by decide +kernel
theorem dX2_has_1 : decode cX2_has 1 = .ok (.ifCond .lt 15, 3) := by decide +kernel
theorem dX2_has_4 : decode cX2_has 4 = .ok (.iload_n 1, 1) := by decide +kernel
theorem dX2_has_5 : decode cX2_has 5 = .ok (.aload_n 0, 1) := by decide +kernel
theorem dX2_has_6 : decode cX2_has 6 = .ok (.getfield 51, 3) := by decide +kernel
theorem dX2_has_9 : decode cX2_has 9 = .ok (.if_icmp .ge 7, 3) := by decide +kernel
theorem dX2_has_12 : decode cX2_has 12 = .ok (.iconst 1, 1) := by decide +kernel
theorem dX2_has_13 : decode cX2_has 13 = .ok (.goto 4, 3) := by decide +kernel
theorem dX2_has_16 : decode cX2_has 16 = .ok (.iconst 0, 1) := by decide +kernel
theorem dX2_has_17 : decode cX2_has 17 = .ok (.ireturn, 1) := by decide +kernel
set_option maxRecDepth 20000 in
theorem ggX2_takeNotes_X0_member : GoodIn wsX2_takeNotes wsX0_member := goodIn_r _ [8, 9, 10, 11, 12, 7, 13, 14, 15, 16, 17, 18, 19, 20, 33, 34, 35, 36, 37] (by decide +kernel) (by decide +kernel)
set_option maxRecDepth 20000 in
theorem gX2_takeNotes_X0_member : GoodIn wsX2_takeNotes (wsV RX2 84 RX0 yX0_member wsX0_member) := goodIn_app (goodIn_of _ (by decide +kernel)) ggX2_takeNotes_X0_member
set_option maxRecDepth 20000 in
theorem ggX2_takeNotes_X5_valueOf : GoodIn wsX2_takeNotes wsX5_valueOf := goodIn_r _ [22, 23] (by decide +kernel) (by decide +kernel)
set_option maxRecDepth 20000 in
theorem gX2_takeNotes_X5_valueOf_n87 : GoodIn wsX2_takeNotes (wsX5_valueOf) := ggX2_takeNotes_X5_valueOf
theorem dX2_takeNotes_0 : decode cX2_takeNotes 0 = .ok (.iconst 0, 1) := by decide +kernel
theorem dX2_takeNotes_1 : decode cX2_takeNotes 1 = .ok (.istore_n 2, 1) := by decide +kernel
theorem dX2_takeNotes_2 : decode cX2_takeNotes 2 = .ok (.iload_n 2, 1) := by decide +kernel
theorem dX2_takeNotes_3 : decode cX2_takeNotes 3 = .ok (.aload_n 0, 1) := by decide +kernel
theorem dX2_takeNotes_4 : decode cX2_takeNotes 4 = .ok (.getfield 51, 3) := by decide +kernel
theorem dX2_takeNotes_7 : decode cX2_takeNotes 7 = .ok (.if_icmp .ge 68, 3) := by decide +kernel
theorem dX2_takeNotes_10 : decode cX2_takeNotes 10 = .ok (.iconst 0, 1) := by decide +kernel
theorem dX2_takeNotes_11 : decode cX2_takeNotes 11 = .ok (.istore_n 3, 1) := by decide +kernel
theorem dX2_takeNotes_12 : decode cX2_takeNotes 12 = .ok (.iload_n 3, 1) := by decide +kernel
theorem dX2_takeNotes_13 : decode cX2_takeNotes 13 = .ok (.iconst 4, 1) := by decide +kernel
theorem dX2_takeNotes_14 : decode cX2_takeNotes 14 = .ok (.if_icmp .ge 55, 3) := by decide +kernel
theorem dX2_takeNotes_17 : decode cX2_takeNotes 17 = .ok (.aload_n 1, 1) := by decide +kernel
theorem dX2_takeNotes_18 : decode cX2_takeNotes 18 = .ok (.iload_n 2, 1) := by decide +kernel
theorem dX2_takeNotes_19 : decode cX2_takeNotes 19 = .ok (.iload_n 3, 1) := by decide +kernel
theorem dX2_takeNotes_20 : decode cX2_takeNotes 20 = .ok (.invokevirtual 84, 3) := by decide +kernel
theorem dX2_takeNotes_23 : decode cX2_takeNotes 23 = .ok (.istore 4, 2) := by decide +kernel
theorem dX2_takeNotes_25 : decode cX2_takeNotes 25 = .ok (.aload_n 0, 1) := by decide +kernel
theorem dX2_takeNotes_26 : decode cX2_takeNotes 26 = .ok (.getfield 15, 3) := by decide +kernel
theorem dX2_takeNotes_29 : decode cX2_takeNotes 29 = .ok (.iload_n 2, 1) := by decide +kernel
theorem dX2_takeNotes_30 : decode cX2_takeNotes 30 = .ok (.iconst 4, 1) := by decide +kernel
theorem dX2_takeNotes_31 : decode cX2_takeNotes 31 = .ok (.imul, 1) := by decide +kernel
theorem dX2_takeNotes_32 : decode cX2_takeNotes 32 = .ok (.iload_n 3, 1) := by decide +kernel
theorem dX2_takeNotes_33 : decode cX2_takeNotes 33 = .ok (.iadd, 1) := by decide +kernel
theorem dX2_takeNotes_34 : decode cX2_takeNotes 34 = .ok (.iload 4, 2) := by decide +kernel
theorem dX2_takeNotes_36 : decode cX2_takeNotes 36 = .ok (.sipush (-10000), 3) := by decide +kernel
theorem dX2_takeNotes_39 : decode cX2_takeNotes 39 = .ok (.if_icmp .eq 7, 3) := by decide +kernel
theorem dX2_takeNotes_42 : decode cX2_takeNotes 42 = .ok (.iconst 1, 1) := by decide +kernel
theorem dX2_takeNotes_43 : decode cX2_takeNotes 43 = .ok (.goto 4, 3) := by decide +kernel
theorem dX2_takeNotes_46 : decode cX2_takeNotes 46 = .ok (.iconst 0, 1) := by decide +kernel
theorem dX2_takeNotes_47 : decode cX2_takeNotes 47 = .ok (.bastore, 1) := by decide +kernel
theorem dX2_takeNotes_48 : decode cX2_takeNotes 48 = .ok (.aload_n 0, 1) := by decide +kernel
theorem dX2_takeNotes_49 : decode cX2_takeNotes 49 = .ok (.getfield 9, 3) := by decide +kernel
theorem dX2_takeNotes_52 : decode cX2_takeNotes 52 = .ok (.iload_n 2, 1) := by decide +kernel
theorem dX2_takeNotes_53 : decode cX2_takeNotes 53 = .ok (.iconst 4, 1) := by decide +kernel
theorem dX2_takeNotes_54 : decode cX2_takeNotes 54 = .ok (.imul, 1) := by decide +kernel
theorem dX2_takeNotes_55 : decode cX2_takeNotes 55 = .ok (.iload_n 3, 1) := by decide +kernel
theorem dX2_takeNotes_56 : decode cX2_takeNotes 56 = .ok (.iadd, 1) := by decide +kernel
theorem dX2_takeNotes_57 : decode cX2_takeNotes 57 = .ok (.iload 4, 2) := by decide +kernel
theorem dX2_takeNotes_59 : decode cX2_takeNotes 59 = .ok (.invokestatic 87, 3) := by decide +kernel
theorem dX2_takeNotes_62 : decode cX2_takeNotes 62 = .ok (.fastore, 1) := by decide +kernel
theorem dX2_takeNotes_63 : decode cX2_takeNotes 63 = .ok (.iinc 3 1, 3) := by decide +kernel
theorem dX2_takeNotes_66 : decode cX2_takeNotes 66 = .ok (.goto (-54), 3) := by decide +kernel
theorem dX2_takeNotes_69 : decode cX2_takeNotes 69 = .ok (.iinc 2 1, 3) := by decide +kernel
theorem dX2_takeNotes_72 : decode cX2_takeNotes 72 = .ok (.goto (-70), 3) := by decide +kernel
theorem dX2_takeNotes_75 : decode cX2_takeNotes 75 = .ok (.return_, 1) := by decide +kernel
theorem dX2_measure_0 : decode cX2_measure 0 = .ok (.fconst 0, 1) := by decide +kernel
theorem dX2_measure_1 : decode cX2_measure 1 = .ok (.fstore_n 3, 1) := by decide +kernel
theorem dX2_measure_2 : decode cX2_measure 2 = .ok (.fconst 0, 1) := by decide +kernel
theorem dX2_measure_3 : decode cX2_measure 3 = .ok (.fstore 4, 2) := by decide +kernel
theorem dX2_measure_5 : decode cX2_measure 5 = .ok (.iconst 0, 1) := by decide +kernel
theorem dX2_measure_6 : decode cX2_measure 6 = .ok (.istore 5, 2) := by decide +kernel
theorem dX2_measure_8 : decode cX2_measure 8 = .ok (.iload 5, 2) := by decide +kernel
theorem dX2_measure_10 : decode cX2_measure 10 = .ok (.iconst 4, 1) := by decide +kernel
theorem dX2_measure_11 : decode cX2_measure 11 = .ok (.if_icmp .ge 102, 3) := by decide +kernel
theorem dX2_measure_14 : decode cX2_measure 14 = .ok (.iload_n 1, 1) := by decide +kernel
theorem dX2_measure_15 : decode cX2_measure 15 = .ok (.iconst 4, 1) := by decide +kernel
theorem dX2_measure_16 : decode cX2_measure 16 = .ok (.imul, 1) := by decide +kernel
theorem dX2_measure_17 : decode cX2_measure 17 = .ok (.iload 5, 2) := by decide +kernel
theorem dX2_measure_19 : decode cX2_measure 19 = .ok (.iadd, 1) := by decide +kernel
theorem dX2_measure_20 : decode cX2_measure 20 = .ok (.istore 6, 2) := by decide +kernel
theorem dX2_measure_22 : decode cX2_measure 22 = .ok (.iload_n 2, 1) := by decide +kernel
theorem dX2_measure_23 : decode cX2_measure 23 = .ok (.iconst 4, 1) := by decide +kernel
theorem dX2_measure_24 : decode cX2_measure 24 = .ok (.imul, 1) := by decide +kernel
theorem dX2_measure_25 : decode cX2_measure 25 = .ok (.iload 5, 2) := by decide +kernel
theorem dX2_measure_27 : decode cX2_measure 27 = .ok (.iadd, 1) := by decide +kernel
theorem dX2_measure_28 : decode cX2_measure 28 = .ok (.istore 7, 2) := by decide +kernel
theorem dX2_measure_30 : decode cX2_measure 30 = .ok (.aload_n 0, 1) := by decide +kernel
theorem dX2_measure_31 : decode cX2_measure 31 = .ok (.getfield 15, 3) := by decide +kernel
theorem dX2_measure_34 : decode cX2_measure 34 = .ok (.iload 6, 2) := by decide +kernel
theorem dX2_measure_36 : decode cX2_measure 36 = .ok (.baload, 1) := by decide +kernel
theorem dX2_measure_37 : decode cX2_measure 37 = .ok (.ifCond .eq 70, 3) := by decide +kernel
theorem dX2_measure_40 : decode cX2_measure 40 = .ok (.aload_n 0, 1) := by decide +kernel
theorem dX2_measure_41 : decode cX2_measure 41 = .ok (.getfield 15, 3) := by decide +kernel
theorem dX2_measure_44 : decode cX2_measure 44 = .ok (.iload 7, 2) := by decide +kernel
theorem dX2_measure_46 : decode cX2_measure 46 = .ok (.baload, 1) := by decide +kernel
theorem dX2_measure_47 : decode cX2_measure 47 = .ok (.ifCond .eq 60, 3) := by decide +kernel
theorem dX2_measure_50 : decode cX2_measure 50 = .ok (.aload_n 0, 1) := by decide +kernel
theorem dX2_measure_51 : decode cX2_measure 51 = .ok (.getfield 19, 3) := by decide +kernel
theorem dX2_measure_54 : decode cX2_measure 54 = .ok (.iload 5, 2) := by decide +kernel
theorem dX2_measure_56 : decode cX2_measure 56 = .ok (.faload, 1) := by decide +kernel
theorem dX2_measure_57 : decode cX2_measure 57 = .ok (.fconst 0, 1) := by decide +kernel
theorem dX2_measure_58 : decode cX2_measure 58 = .ok (.fcmp .l, 1) := by decide +kernel
theorem dX2_measure_59 : decode cX2_measure 59 = .ok (.ifCond .le 48, 3) := by decide +kernel
theorem dX2_measure_62 : decode cX2_measure 62 = .ok (.aload_n 0, 1) := by decide +kernel
theorem dX2_measure_63 : decode cX2_measure 63 = .ok (.getfield 9, 3) := by decide +kernel
theorem dX2_measure_66 : decode cX2_measure 66 = .ok (.iload 6, 2) := by decide +kernel
theorem dX2_measure_68 : decode cX2_measure 68 = .ok (.faload, 1) := by decide +kernel
theorem dX2_measure_69 : decode cX2_measure 69 = .ok (.aload_n 0, 1) := by decide +kernel
theorem dX2_measure_70 : decode cX2_measure 70 = .ok (.getfield 9, 3) := by decide +kernel
theorem dX2_measure_73 : decode cX2_measure 73 = .ok (.iload 7, 2) := by decide +kernel
theorem dX2_measure_75 : decode cX2_measure 75 = .ok (.faload, 1) := by decide +kernel
theorem dX2_measure_76 : decode cX2_measure 76 = .ok (.fsub, 1) := by decide +kernel
theorem dX2_measure_77 : decode cX2_measure 77 = .ok (.fstore 8, 2) := by decide +kernel
theorem dX2_measure_79 : decode cX2_measure 79 = .ok (.fload_n 3, 1) := by decide +kernel
theorem dX2_measure_80 : decode cX2_measure 80 = .ok (.aload_n 0, 1) := by decide +kernel
theorem dX2_measure_81 : decode cX2_measure 81 = .ok (.getfield 19, 3) := by decide +kernel
theorem dX2_measure_84 : decode cX2_measure 84 = .ok (.iload 5, 2) := by decide +kernel
theorem dX2_measure_86 : decode cX2_measure 86 = .ok (.faload, 1) := by decide +kernel
theorem dX2_measure_87 : decode cX2_measure 87 = .ok (.fload 8, 2) := by decide +kernel
theorem dX2_measure_89 : decode cX2_measure 89 = .ok (.fload 8, 2) := by decide +kernel
theorem dX2_measure_91 : decode cX2_measure 91 = .ok (.fmul, 1) := by decide +kernel
theorem dX2_measure_92 : decode cX2_measure 92 = .ok (.fmul, 1) := by decide +kernel
theorem dX2_measure_93 : decode cX2_measure 93 = .ok (.fadd, 1) := by decide +kernel
theorem dX2_measure_94 : decode cX2_measure 94 = .ok (.fstore_n 3, 1) := by decide +kernel
theorem dX2_measure_95 : decode cX2_measure 95 = .ok (.fload 4, 2) := by decide +kernel
theorem dX2_measure_97 : decode cX2_measure 97 = .ok (.aload_n 0, 1) := by decide +kernel
theorem dX2_measure_98 : decode cX2_measure 98 = .ok (.getfield 19, 3) := by decide +kernel
theorem dX2_measure_101 : decode cX2_measure 101 = .ok (.iload 5, 2) := by decide +kernel
theorem dX2_measure_103 : decode cX2_measure 103 = .ok (.faload, 1) := by decide +kernel
theorem dX2_measure_104 : decode cX2_measure 104 = .ok (.fadd, 1) := by decide +kernel
theorem dX2_measure_105 : decode cX2_measure 105 = .ok (.fstore 4, 2) := by decide +kernel
theorem dX2_measure_107 : decode cX2_measure 107 = .ok (.iinc 5 1, 3) := by decide +kernel
theorem dX2_measure_110 : decode cX2_measure 110 = .ok (.goto (-102), 3) := by decide +kernel
theorem dX2_measure_113 : decode cX2_measure 113 = .ok (.fload 4, 2) := by decide +kernel
theorem dX2_measure_115 : decode cX2_measure 115 = .ok (.fconst 0, 1) := by decide +kernel
theorem dX2_measure_116 : decode cX2_measure 116 = .ok (.fcmp .l, 1) := by decide +kernel
theorem dX2_measure_117 : decode cX2_measure 117 = .ok (.ifCond .le 10, 3) := by decide +kernel
theorem dX2_measure_120 : decode cX2_measure 120 = .ok (.fload_n 3, 1) := by decide +kernel
theorem dX2_measure_121 : decode cX2_measure 121 = .ok (.fload 4, 2) := by decide +kernel
theorem dX2_measure_123 : decode cX2_measure 123 = .ok (.fdiv, 1) := by decide +kernel
theorem dX2_measure_124 : decode cX2_measure 124 = .ok (.goto 5, 3) := by decide +kernel
theorem dX2_measure_127 : decode cX2_measure 127 = .ok (.ldc 77, 2) := by decide +kernel
theorem dX2_measure_129 : decode cX2_measure 129 = .ok (.freturn, 1) := by decide +kernel
set_option maxRecDepth 20000 in
theorem ggX2_rank_X2_enter : GoodIn wsX2_rank wsX2_enter := goodIn_r _ [13, 14, 15, 16, 4, 17, 18, 19, 20, 12, 21, 6, 22, 23, 24, 25, 26, 1, 27, 28, 29, 30, 31, 32, 33, 34, 35] (by decide +kernel) (by decide +kernel)
set_option maxRecDepth 20000 in
theorem gX2_rank_X2_enter : GoodIn wsX2_rank (wsV RX2 94 RX2 yX2_enter wsX2_enter) := goodIn_app (goodIn_of _ (by decide +kernel)) ggX2_rank_X2_enter
theorem dX2_rank_0 : decode cX2_rank 0 = .ok (.iconst 0, 1) := by decide +kernel
theorem dX2_rank_1 : decode cX2_rank 1 = .ok (.istore_n 3, 1) := by decide +kernel
theorem dX2_rank_2 : decode cX2_rank 2 = .ok (.iconst 0, 1) := by decide +kernel
theorem dX2_rank_3 : decode cX2_rank 3 = .ok (.istore 4, 2) := by decide +kernel
theorem dX2_rank_5 : decode cX2_rank 5 = .ok (.iconst 0, 1) := by decide +kernel
theorem dX2_rank_6 : decode cX2_rank 6 = .ok (.istore 5, 2) := by decide +kernel
theorem dX2_rank_8 : decode cX2_rank 8 = .ok (.iload 5, 2) := by decide +kernel
theorem dX2_rank_10 : decode cX2_rank 10 = .ok (.iconst 1, 1) := by decide +kernel
theorem dX2_rank_11 : decode cX2_rank 11 = .ok (.iadd, 1) := by decide +kernel
theorem dX2_rank_12 : decode cX2_rank 12 = .ok (.aload_n 0, 1) := by decide +kernel
theorem dX2_rank_13 : decode cX2_rank 13 = .ok (.getfield 51, 3) := by decide +kernel
theorem dX2_rank_16 : decode cX2_rank 16 = .ok (.if_icmp .ge 77, 3) := by decide +kernel
theorem dX2_rank_19 : decode cX2_rank 19 = .ok (.iload 5, 2) := by decide +kernel
theorem dX2_rank_21 : decode cX2_rank 21 = .ok (.iload_n 1, 1) := by decide +kernel
theorem dX2_rank_22 : decode cX2_rank 22 = .ok (.isub, 1) := by decide +kernel
theorem dX2_rank_23 : decode cX2_rank 23 = .ok (.invokestatic 91, 3) := by decide +kernel
theorem dX2_rank_26 : decode cX2_rank 26 = .ok (.iload_n 2, 1) := by decide +kernel
theorem dX2_rank_27 : decode cX2_rank 27 = .ok (.if_icmp .le 11, 3) := by decide +kernel
theorem dX2_rank_30 : decode cX2_rank 30 = .ok (.iload 5, 2) := by decide +kernel
theorem dX2_rank_32 : decode cX2_rank 32 = .ok (.iconst 1, 1) := by decide +kernel
theorem dX2_rank_33 : decode cX2_rank 33 = .ok (.iadd, 1) := by decide +kernel
theorem dX2_rank_34 : decode cX2_rank 34 = .ok (.iload_n 1, 1) := by decide +kernel
theorem dX2_rank_35 : decode cX2_rank 35 = .ok (.if_icmp .ne 7, 3) := by decide +kernel
theorem dX2_rank_38 : decode cX2_rank 38 = .ok (.iconst 1, 1) := by decide +kernel
theorem dX2_rank_39 : decode cX2_rank 39 = .ok (.goto 4, 3) := by decide +kernel
theorem dX2_rank_42 : decode cX2_rank 42 = .ok (.iconst 0, 1) := by decide +kernel
theorem dX2_rank_43 : decode cX2_rank 43 = .ok (.istore 6, 2) := by decide +kernel
theorem dX2_rank_45 : decode cX2_rank 45 = .ok (.aload_n 0, 1) := by decide +kernel
theorem dX2_rank_46 : decode cX2_rank 46 = .ok (.getfield 22, 3) := by decide +kernel
theorem dX2_rank_49 : decode cX2_rank 49 = .ok (.iload_n 1, 1) := by decide +kernel
theorem dX2_rank_50 : decode cX2_rank 50 = .ok (.bipush 50, 2) := by decide +kernel
theorem dX2_rank_52 : decode cX2_rank 52 = .ok (.imul, 1) := by decide +kernel
theorem dX2_rank_53 : decode cX2_rank 53 = .ok (.iload 5, 2) := by decide +kernel
theorem dX2_rank_55 : decode cX2_rank 55 = .ok (.iadd, 1) := by decide +kernel
theorem dX2_rank_56 : decode cX2_rank 56 = .ok (.faload, 1) := by decide +kernel
theorem dX2_rank_57 : decode cX2_rank 57 = .ok (.fstore 7, 2) := by decide +kernel
theorem dX2_rank_59 : decode cX2_rank 59 = .ok (.iload 6, 2) := by decide +kernel
theorem dX2_rank_61 : decode cX2_rank 61 = .ok (.ifCond .ne 26, 3) := by decide +kernel
theorem dX2_rank_64 : decode cX2_rank 64 = .ok (.fload 7, 2) := by decide +kernel
theorem dX2_rank_66 : decode cX2_rank 66 = .ok (.fconst 0, 1) := by decide +kernel
theorem dX2_rank_67 : decode cX2_rank 67 = .ok (.fcmp .l, 1) := by decide +kernel
theorem dX2_rank_68 : decode cX2_rank 68 = .ok (.ifCond .lt 19, 3) := by decide +kernel
theorem dX2_rank_71 : decode cX2_rank 71 = .ok (.iinc 3 1, 3) := by decide +kernel
theorem dX2_rank_74 : decode cX2_rank 74 = .ok (.aload_n 0, 1) := by decide +kernel
theorem dX2_rank_75 : decode cX2_rank 75 = .ok (.iload_n 1, 1) := by decide +kernel
theorem dX2_rank_76 : decode cX2_rank 76 = .ok (.iload 5, 2) := by decide +kernel
theorem dX2_rank_78 : decode cX2_rank 78 = .ok (.fload 7, 2) := by decide +kernel
theorem dX2_rank_80 : decode cX2_rank 80 = .ok (.iload 4, 2) := by decide +kernel
theorem dX2_rank_82 : decode cX2_rank 82 = .ok (.invokevirtual 94, 3) := by decide +kernel
theorem dX2_rank_85 : decode cX2_rank 85 = .ok (.istore 4, 2) := by decide +kernel
theorem dX2_rank_87 : decode cX2_rank 87 = .ok (.iinc 5 1, 3) := by decide +kernel
theorem dX2_rank_90 : decode cX2_rank 90 = .ok (.goto (-82), 3) := by decide +kernel
theorem dX2_rank_93 : decode cX2_rank 93 = .ok (.aload_n 0, 1) := by decide +kernel
theorem dX2_rank_94 : decode cX2_rank 94 = .ok (.getfield 32, 3) := by decide +kernel
theorem dX2_rank_97 : decode cX2_rank 97 = .ok (.iload_n 1, 1) := by decide +kernel
theorem dX2_rank_98 : decode cX2_rank 98 = .ok (.iload_n 3, 1) := by decide +kernel
theorem dX2_rank_99 : decode cX2_rank 99 = .ok (.iastore, 1) := by decide +kernel
theorem dX2_rank_100 : decode cX2_rank 100 = .ok (.aload_n 0, 1) := by decide +kernel
theorem dX2_rank_101 : decode cX2_rank 101 = .ok (.getfield 29, 3) := by decide +kernel
theorem dX2_rank_104 : decode cX2_rank 104 = .ok (.iload_n 1, 1) := by decide +kernel
theorem dX2_rank_105 : decode cX2_rank 105 = .ok (.iload 4, 2) := by decide +kernel
theorem dX2_rank_107 : decode cX2_rank 107 = .ok (.iastore, 1) := by decide +kernel
theorem dX2_rank_108 : decode cX2_rank 108 = .ok (.return_, 1) := by decide +kernel
set_option maxRecDepth 20000 in
theorem ggX2_enter_X2_between : GoodIn wsX2_enter wsX2_between := goodIn_r _ [10, 11, 12, 13, 14, 15, 9, 16, 17, 18, 19, 20, 21, 22, 23, 24, 25, 26] (by decide +kernel) (by decide +kernel)
set_option maxRecDepth 20000 in
theorem gX2_enter_X2_between : GoodIn wsX2_enter (wsV RX2 98 RX2 yX2_between wsX2_between) := goodIn_app (goodIn_of _ (by decide +kernel)) ggX2_enter_X2_between
theorem dX2_enter_0 : decode cX2_enter 0 = .ok (.iload_n 1, 1) := by decide +kernel
theorem dX2_enter_1 : decode cX2_enter 1 = .ok (.bipush 12, 2) := by decide +kernel
theorem dX2_enter_3 : decode cX2_enter 3 = .ok (.imul, 1) := by decide +kernel
theorem dX2_enter_4 : decode cX2_enter 4 = .ok (.istore 5, 2) := by decide +kernel
theorem dX2_enter_6 : decode cX2_enter 6 = .ok (.iload 4, 2) := by decide +kernel
theorem dX2_enter_8 : decode cX2_enter 8 = .ok (.istore 6, 2) := by decide +kernel
theorem dX2_enter_10 : decode cX2_enter 10 = .ok (.iload 6, 2) := by decide +kernel
theorem dX2_enter_12 : decode cX2_enter 12 = .ok (.ifCond .le 60, 3) := by decide +kernel
theorem dX2_enter_15 : decode cX2_enter 15 = .ok (.fload_n 3, 1) := by decide +kernel
theorem dX2_enter_16 : decode cX2_enter 16 = .ok (.aload_n 0, 1) := by decide +kernel
theorem dX2_enter_17 : decode cX2_enter 17 = .ok (.iload_n 1, 1) := by decide +kernel
theorem dX2_enter_18 : decode cX2_enter 18 = .ok (.aload_n 0, 1) := by decide +kernel
theorem dX2_enter_19 : decode cX2_enter 19 = .ok (.getfield 25, 3) := by decide +kernel
theorem dX2_enter_22 : decode cX2_enter 22 = .ok (.iload 5, 2) := by decide +kernel
theorem dX2_enter_24 : decode cX2_enter 24 = .ok (.iload 6, 2) := by decide +kernel
theorem dX2_enter_26 : decode cX2_enter 26 = .ok (.iadd, 1) := by decide +kernel
theorem dX2_enter_27 : decode cX2_enter 27 = .ok (.iconst 1, 1) := by decide +kernel
theorem dX2_enter_28 : decode cX2_enter 28 = .ok (.isub, 1) := by decide +kernel
theorem dX2_enter_29 : decode cX2_enter 29 = .ok (.iaload, 1) := by decide +kernel
theorem dX2_enter_30 : decode cX2_enter 30 = .ok (.invokevirtual 98, 3) := by decide +kernel
theorem dX2_enter_33 : decode cX2_enter 33 = .ok (.fcmp .g, 1) := by decide +kernel
theorem dX2_enter_34 : decode cX2_enter 34 = .ok (.ifCond .ge 38, 3) := by decide +kernel
theorem dX2_enter_37 : decode cX2_enter 37 = .ok (.iload 6, 2) := by decide +kernel
theorem dX2_enter_39 : decode cX2_enter 39 = .ok (.bipush 12, 2) := by decide +kernel
theorem dX2_enter_41 : decode cX2_enter 41 = .ok (.if_icmp .ge 25, 3) := by decide +kernel
theorem dX2_enter_44 : decode cX2_enter 44 = .ok (.aload_n 0, 1) := by decide +kernel
theorem dX2_enter_45 : decode cX2_enter 45 = .ok (.getfield 25, 3) := by decide +kernel
theorem dX2_enter_48 : decode cX2_enter 48 = .ok (.iload 5, 2) := by decide +kernel
theorem dX2_enter_50 : decode cX2_enter 50 = .ok (.iload 6, 2) := by decide +kernel
theorem dX2_enter_52 : decode cX2_enter 52 = .ok (.iadd, 1) := by decide +kernel
theorem dX2_enter_53 : decode cX2_enter 53 = .ok (.aload_n 0, 1) := by decide +kernel
theorem dX2_enter_54 : decode cX2_enter 54 = .ok (.getfield 25, 3) := by decide +kernel
theorem dX2_enter_57 : decode cX2_enter 57 = .ok (.iload 5, 2) := by decide +kernel
theorem dX2_enter_59 : decode cX2_enter 59 = .ok (.iload 6, 2) := by decide +kernel
theorem dX2_enter_61 : decode cX2_enter 61 = .ok (.iadd, 1) := by decide +kernel
theorem dX2_enter_62 : decode cX2_enter 62 = .ok (.iconst 1, 1) := by decide +kernel
theorem dX2_enter_63 : decode cX2_enter 63 = .ok (.isub, 1) := by decide +kernel
theorem dX2_enter_64 : decode cX2_enter 64 = .ok (.iaload, 1) := by decide +kernel
theorem dX2_enter_65 : decode cX2_enter 65 = .ok (.iastore, 1) := by decide +kernel
theorem dX2_enter_66 : decode cX2_enter 66 = .ok (.iinc 6 (-1), 3) := by decide +kernel
theorem dX2_enter_69 : decode cX2_enter 69 = .ok (.goto (-59), 3) := by decide +kernel
theorem dX2_enter_72 : decode cX2_enter 72 = .ok (.iload 6, 2) := by decide +kernel
theorem dX2_enter_74 : decode cX2_enter 74 = .ok (.bipush 12, 2) := by decide +kernel
theorem dX2_enter_76 : decode cX2_enter 76 = .ok (.if_icmp .ge 14, 3) := by decide +kernel
theorem dX2_enter_79 : decode cX2_enter 79 = .ok (.aload_n 0, 1) := by decide +kernel
theorem dX2_enter_80 : decode cX2_enter 80 = .ok (.getfield 25, 3) := by decide +kernel
theorem dX2_enter_83 : decode cX2_enter 83 = .ok (.iload 5, 2) := by decide +kernel
theorem dX2_enter_85 : decode cX2_enter 85 = .ok (.iload 6, 2) := by decide +kernel
theorem dX2_enter_87 : decode cX2_enter 87 = .ok (.iadd, 1) := by decide +kernel
theorem dX2_enter_88 : decode cX2_enter 88 = .ok (.iload_n 2, 1) := by decide +kernel
theorem dX2_enter_89 : decode cX2_enter 89 = .ok (.iastore, 1) := by decide +kernel
theorem dX2_enter_90 : decode cX2_enter 90 = .ok (.iload 4, 2) := by decide +kernel
theorem dX2_enter_92 : decode cX2_enter 92 = .ok (.iconst 1, 1) := by decide +kernel
theorem dX2_enter_93 : decode cX2_enter 93 = .ok (.iadd, 1) := by decide +kernel
theorem dX2_enter_94 : decode cX2_enter 94 = .ok (.bipush 12, 2) := by decide +kernel
theorem dX2_enter_96 : decode cX2_enter 96 = .ok (.invokestatic 45, 3) := by decide +kernel
theorem dX2_enter_99 : decode cX2_enter 99 = .ok (.ireturn, 1) := by decide +kernel
set_option maxRecDepth 20000 in
theorem ggX3_init_X0_init : GoodIn wsX3_init wsX0_init := goodIn_r _ [10, 11, 2, 3, 12, 13, 14, 15, 16, 17, 18, 19, 23, 24, 25, 26, 27] (by decide +kernel) (by decide +kernel)
set_option maxRecDepth 20000 in
theorem gX3_init_X0_init : GoodIn wsX3_init (wsX0_init) := ggX3_init_X0_init
theorem dX3_init_0 : decode cX3_init 0 = .ok (.aload_n 0, 1) := by decide +kernel
theorem dX3_init_1 : decode cX3_init 1 = .ok (.invokespecial 3, 3) := by decide +kernel
theorem dX3_init_4 : decode cX3_init 4 = .ok (.aload_n 0, 1) := by decide +kernel
theorem dX3_init_5 : decode cX3_init 5 = .ok (.iconst 5, 1) := by decide +kernel
theorem dX3_init_6 : decode cX3_init 6 = .ok (.anewarray 9, 3) := by decide +kernel
theorem dX3_init_9 : decode cX3_init 9 = .ok (.putfield 11, 3) := by decide +kernel
theorem dX3_init_12 : decode cX3_init 12 = .ok (.iconst 0, 1) := by decide +kernel
theorem dX3_init_13 : decode cX3_init 13 = .ok (.istore_n 1, 1) := by decide +kernel
theorem dX3_init_14 : decode cX3_init 14 = .ok (.iload_n 1, 1) := by decide +kernel
theorem dX3_init_15 : decode cX3_init 15 = .ok (.iconst 5, 1) := by decide +kernel
theorem dX3_init_16 : decode cX3_init 16 = .ok (.if_icmp .ge 22, 3) := by decide +kernel
theorem dX3_init_19 : decode cX3_init 19 = .ok (.aload_n 0, 1) := by decide +kernel
theorem dX3_init_20 : decode cX3_init 20 = .ok (.getfield 11, 3) := by decide +kernel
theorem dX3_init_23 : decode cX3_init 23 = .ok (.iload_n 1, 1) := by decide +kernel
theorem dX3_init_24 : decode cX3_init 24 = .ok (.new 9, 3) := by decide +kernel
theorem dX3_init_27 : decode cX3_init 27 = .ok (.dup, 1) := by decide +kernel
theorem dX3_init_28 : decode cX3_init 28 = .ok (.invokespecial 17, 3) := by decide +kernel
theorem dX3_init_31 : decode cX3_init 31 = .ok (.aastore, 1) := by decide +kernel
theorem dX3_init_32 : decode cX3_init 32 = .ok (.iinc 1 1, 3) := by decide +kernel
theorem dX3_init_35 : decode cX3_init 35 = .ok (.goto (-21), 3) := by decide +kernel
theorem dX3_init_38 : decode cX3_init 38 = .ok (.return_, 1) := by decide +kernel
theorem dX3_count_0 : decode cX3_count 0 = .ok (.aload_n 0, 1) := by decide +kernel
theorem dX3_count_1 : decode cX3_count 1 = .ok (.getfield 18, 3) := by decide +kernel
theorem dX3_count_4 : decode cX3_count 4 = .ok (.ireturn, 1) := by decide +kernel
set_option maxRecDepth 20000 in
theorem ggX3_push_X0_copyFrom : GoodIn wsX3_push wsX0_copyFrom := goodIn_r _ [12, 13, 14, 15, 16, 17, 18, 19, 20, 21, 25, 26, 27, 28, 29] (by decide +kernel) (by decide +kernel)
set_option maxRecDepth 20000 in
theorem gX3_push_X0_copyFrom : GoodIn wsX3_push (wsV RX3 31 RX0 yX0_copyFrom wsX0_copyFrom) := goodIn_app (goodIn_of _ (by decide +kernel)) ggX3_push_X0_copyFrom
theorem dX3_push_0 : decode cX3_push 0 = .ok (.aload_n 0, 1) := by decide +kernel
theorem dX3_push_1 : decode cX3_push 1 = .ok (.aload_n 0, 1) := by decide +kernel
theorem dX3_push_2 : decode cX3_push 2 = .ok (.getfield 22, 3) := by decide +kernel
theorem dX3_push_5 : decode cX3_push 5 = .ok (.iconst 1, 1) := by decide +kernel
theorem dX3_push_6 : decode cX3_push 6 = .ok (.iadd, 1) := by decide +kernel
theorem dX3_push_7 : decode cX3_push 7 = .ok (.iconst 5, 1) := by decide +kernel
theorem dX3_push_8 : decode cX3_push 8 = .ok (.irem, 1) := by decide +kernel
theorem dX3_push_9 : decode cX3_push 9 = .ok (.putfield 22, 3) := by decide +kernel
theorem dX3_push_12 : decode cX3_push 12 = .ok (.aload_n 0, 1) := by decide +kernel
theorem dX3_push_13 : decode cX3_push 13 = .ok (.aload_n 0, 1) := by decide +kernel
theorem dX3_push_14 : decode cX3_push 14 = .ok (.getfield 18, 3) := by decide +kernel
theorem dX3_push_17 : decode cX3_push 17 = .ok (.iconst 1, 1) := by decide +kernel
theorem dX3_push_18 : decode cX3_push 18 = .ok (.iadd, 1) := by decide +kernel
theorem dX3_push_19 : decode cX3_push 19 = .ok (.iconst 5, 1) := by decide +kernel
theorem dX3_push_20 : decode cX3_push 20 = .ok (.invokestatic 25, 3) := by decide +kernel
theorem dX3_push_23 : decode cX3_push 23 = .ok (.putfield 18, 3) := by decide +kernel
theorem dX3_push_26 : decode cX3_push 26 = .ok (.aload_n 0, 1) := by decide +kernel
theorem dX3_push_27 : decode cX3_push 27 = .ok (.getfield 11, 3) := by decide +kernel
theorem dX3_push_30 : decode cX3_push 30 = .ok (.aload_n 0, 1) := by decide +kernel
theorem dX3_push_31 : decode cX3_push 31 = .ok (.getfield 22, 3) := by decide +kernel
theorem dX3_push_34 : decode cX3_push 34 = .ok (.aaload, 1) := by decide +kernel
theorem dX3_push_35 : decode cX3_push 35 = .ok (.aload_n 1, 1) := by decide +kernel
theorem dX3_push_36 : decode cX3_push 36 = .ok (.invokevirtual 31, 3) := by decide +kernel
theorem dX3_push_39 : decode cX3_push 39 = .ok (.return_, 1) := by decide +kernel
set_option maxRecDepth 20000 in
theorem ggX3_pop_X0_copyFrom : GoodIn wsX3_pop wsX0_copyFrom := goodIn_r _ [8, 9, 10, 11, 12, 13, 14, 15, 16, 17, 21, 22, 23, 24, 25] (by decide +kernel) (by decide +kernel)
set_option maxRecDepth 20000 in
theorem gX3_pop_X0_copyFrom : GoodIn wsX3_pop (wsV RX3 31 RX0 yX0_copyFrom wsX0_copyFrom) := goodIn_app (goodIn_of _ (by decide +kernel)) ggX3_pop_X0_copyFrom
theorem dX3_pop_0 : decode cX3_pop 0 = .ok (.aload_n 0, 1) := by decide +kernel
theorem dX3_pop_1 : decode cX3_pop 1 = .ok (.getfield 18, 3) := by decide +kernel
theorem dX3_pop_4 : decode cX3_pop 4 = .ok (.ifCond .le 40, 3) := by decide +kernel
theorem dX3_pop_7 : decode cX3_pop 7 = .ok (.aload_n 1, 1) := by decide +kernel
theorem dX3_pop_8 : decode cX3_pop 8 = .ok (.aload_n 0, 1) := by decide +kernel
theorem dX3_pop_9 : decode cX3_pop 9 = .ok (.getfield 11, 3) := by decide +kernel
theorem dX3_pop_12 : decode cX3_pop 12 = .ok (.aload_n 0, 1) := by decide +kernel
theorem dX3_pop_13 : decode cX3_pop 13 = .ok (.getfield 22, 3) := by decide +kernel
theorem dX3_pop_16 : decode cX3_pop 16 = .ok (.aaload, 1) := by decide +kernel
theorem dX3_pop_17 : decode cX3_pop 17 = .ok (.invokevirtual 31, 3) := by decide +kernel
theorem dX3_pop_20 : decode cX3_pop 20 = .ok (.aload_n 0, 1) := by decide +kernel
theorem dX3_pop_21 : decode cX3_pop 21 = .ok (.aload_n 0, 1) := by decide +kernel
theorem dX3_pop_22 : decode cX3_pop 22 = .ok (.getfield 22, 3) := by decide +kernel
theorem dX3_pop_25 : decode cX3_pop 25 = .ok (.iconst 5, 1) := by decide +kernel
theorem dX3_pop_26 : decode cX3_pop 26 = .ok (.iadd, 1) := by decide +kernel
theorem dX3_pop_27 : decode cX3_pop 27 = .ok (.iconst 1, 1) := by decide +kernel
theorem dX3_pop_28 : decode cX3_pop 28 = .ok (.isub, 1) := by decide +kernel
theorem dX3_pop_29 : decode cX3_pop 29 = .ok (.iconst 5, 1) := by decide +kernel
theorem dX3_pop_30 : decode cX3_pop 30 = .ok (.irem, 1) := by decide +kernel
theorem dX3_pop_31 : decode cX3_pop 31 = .ok (.putfield 22, 3) := by decide +kernel
theorem dX3_pop_34 : decode cX3_pop 34 = .ok (.aload_n 0, 1) := by decide +kernel
theorem dX3_pop_35 : decode cX3_pop 35 = .ok (.dup, 1) := by decide +kernel
theorem dX3_pop_36 : decode cX3_pop 36 = .ok (.getfield 18, 3) := by decide +kernel
theorem dX3_pop_39 : decode cX3_pop 39 = .ok (.iconst 1, 1) := by decide +kernel
theorem dX3_pop_40 : decode cX3_pop 40 = .ok (.isub, 1) := by decide +kernel
theorem dX3_pop_41 : decode cX3_pop 41 = .ok (.putfield 18, 3) := by decide +kernel
theorem dX3_pop_44 : decode cX3_pop 44 = .ok (.return_, 1) := by decide +kernel
theorem dX4_init_0 : decode cX4_init 0 = .ok (.aload_n 0, 1) := by decide +kernel
theorem dX4_init_1 : decode cX4_init 1 = .ok (.invokespecial 3, 3) := by decide +kernel
theorem dX4_init_4 : decode cX4_init 4 = .ok (.aload_n 0, 1) := by decide +kernel
theorem dX4_init_5 : decode cX4_init 5 = .ok (.bipush 120, 2) := by decide +kernel
theorem dX4_init_7 : decode cX4_init 7 = .ok (.newarray .int, 2) := by decide +kernel
theorem dX4_init_9 : decode cX4_init 9 = .ok (.putfield 9, 3) := by decide +kernel
theorem dX4_init_12 : decode cX4_init 12 = .ok (.aload_n 0, 1) := by decide +kernel
theorem dX4_init_13 : decode cX4_init 13 = .ok (.sipush 200, 3) := by decide +kernel
theorem dX4_init_16 : decode cX4_init 16 = .ok (.newarray .int, 2) := by decide +kernel
theorem dX4_init_18 : decode cX4_init 18 = .ok (.putfield 15, 3) := by decide +kernel
theorem dX4_init_21 : decode cX4_init 21 = .ok (.return_, 1) := by decide +kernel
theorem dX4_length_0 : decode cX4_length 0 = .ok (.aload_n 0, 1) := by decide +kernel
theorem dX4_length_1 : decode cX4_length 1 = .ok (.getfield 18, 3) := by decide +kernel
theorem dX4_length_4 : decode cX4_length 4 = .ok (.ireturn, 1) := by decide +kernel
theorem dX4_append_0 : decode cX4_append 0 = .ok (.aload_n 0, 1) := by decide +kernel
theorem dX4_append_1 : decode cX4_append 1 = .ok (.getfield 18, 3) := by decide +kernel
theorem dX4_append_4 : decode cX4_append 4 = .ok (.bipush 120, 2) := by decide +kernel
theorem dX4_append_6 : decode cX4_append 6 = .ok (.if_icmp .ge 23, 3) := by decide +kernel
theorem dX4_append_9 : decode cX4_append 9 = .ok (.aload_n 0, 1) := by decide +kernel
theorem dX4_append_10 : decode cX4_append 10 = .ok (.getfield 9, 3) := by decide +kernel
theorem dX4_append_13 : decode cX4_append 13 = .ok (.aload_n 0, 1) := by decide +kernel
theorem dX4_append_14 : decode cX4_append 14 = .ok (.getfield 18, 3) := by decide +kernel
theorem dX4_append_17 : decode cX4_append 17 = .ok (.iload_n 1, 1) := by decide +kernel
theorem dX4_append_18 : decode cX4_append 18 = .ok (.iastore, 1) := by decide +kernel
theorem dX4_append_19 : decode cX4_append 19 = .ok (.aload_n 0, 1) := by decide +kernel
theorem dX4_append_20 : decode cX4_append 20 = .ok (.dup, 1) := by decide +kernel
theorem dX4_append_21 : decode cX4_append 21 = .ok (.getfield 18, 3) := by decide +kernel
theorem dX4_append_24 : decode cX4_append 24 = .ok (.iconst 1, 1) := by decide +kernel
theorem dX4_append_25 : decode cX4_append 25 = .ok (.iadd, 1) := by decide +kernel
theorem dX4_append_26 : decode cX4_append 26 = .ok (.putfield 18, 3) := by decide +kernel
theorem dX4_append_29 : decode cX4_append 29 = .ok (.aload_n 0, 1) := by decide +kernel
theorem dX4_append_30 : decode cX4_append 30 = .ok (.getfield 18, 3) := by decide +kernel
theorem dX4_append_33 : decode cX4_append 33 = .ok (.ireturn, 1) := by decide +kernel
theorem dX4_wipe_0 : decode cX4_wipe 0 = .ok (.aload_n 0, 1) := by decide +kernel
theorem dX4_wipe_1 : decode cX4_wipe 1 = .ok (.getfield 18, 3) := by decide +kernel
theorem dX4_wipe_4 : decode cX4_wipe 4 = .ok (.istore_n 1, 1) := by decide +kernel
theorem dX4_wipe_5 : decode cX4_wipe 5 = .ok (.aload_n 0, 1) := by decide +kernel
theorem dX4_wipe_6 : decode cX4_wipe 6 = .ok (.iconst 0, 1) := by decide +kernel
theorem dX4_wipe_7 : decode cX4_wipe 7 = .ok (.putfield 18, 3) := by decide +kernel
theorem dX4_wipe_10 : decode cX4_wipe 10 = .ok (.iload_n 1, 1) := by decide +kernel
theorem dX4_wipe_11 : decode cX4_wipe 11 = .ok (.ireturn, 1) := by decide +kernel
theorem dX4_daysTold_0 : decode cX4_daysTold 0 = .ok (.aload_n 0, 1) := by decide +kernel
theorem dX4_daysTold_1 : decode cX4_daysTold 1 = .ok (.getfield 22, 3) := by decide +kernel
theorem dX4_daysTold_4 : decode cX4_daysTold 4 = .ok (.ireturn, 1) := by decide +kernel
set_option maxRecDepth 20000 in
theorem ggX4_note_X5_isMember : GoodIn wsX4_note wsX5_isMember := goodIn_r _ [5, 6, 7, 4, 8] (by decide +kernel) (by decide +kernel)
set_option maxRecDepth 20000 in
theorem gX4_note_X5_isMember_n25 : GoodIn wsX4_note (wsX5_isMember) := ggX4_note_X5_isMember
theorem dX4_note_0 : decode cX4_note 0 = .ok (.iload_n 1, 1) := by decide +kernel
theorem dX4_note_1 : decode cX4_note 1 = .ok (.ifCond .lt 31, 3) := by decide +kernel
theorem dX4_note_4 : decode cX4_note 4 = .ok (.iload_n 1, 1) := by decide +kernel
theorem dX4_note_5 : decode cX4_note 5 = .ok (.aload_n 0, 1) := by decide +kernel
theorem dX4_note_6 : decode cX4_note 6 = .ok (.getfield 22, 3) := by decide +kernel
theorem dX4_note_9 : decode cX4_note 9 = .ok (.if_icmp .ge 23, 3) := by decide +kernel
theorem dX4_note_12 : decode cX4_note 12 = .ok (.iload_n 2, 1) := by decide +kernel
theorem dX4_note_13 : decode cX4_note 13 = .ok (.invokestatic 25, 3) := by decide +kernel
theorem dX4_note_16 : decode cX4_note 16 = .ok (.ifCond .eq 16, 3) := by decide +kernel
theorem dX4_note_19 : decode cX4_note 19 = .ok (.aload_n 0, 1) := by decide +kernel
theorem dX4_note_20 : decode cX4_note 20 = .ok (.getfield 15, 3) := by decide +kernel
theorem dX4_note_23 : decode cX4_note 23 = .ok (.iload_n 1, 1) := by decide +kernel
theorem dX4_note_24 : decode cX4_note 24 = .ok (.iconst 4, 1) := by decide +kernel
theorem dX4_note_25 : decode cX4_note 25 = .ok (.imul, 1) := by decide +kernel
theorem dX4_note_26 : decode cX4_note 26 = .ok (.iload_n 2, 1) := by decide +kernel
theorem dX4_note_27 : decode cX4_note 27 = .ok (.iadd, 1) := by decide +kernel
theorem dX4_note_28 : decode cX4_note 28 = .ok (.iaload, 1) := by decide +kernel
theorem dX4_note_29 : decode cX4_note 29 = .ok (.goto 6, 3) := by decide +kernel
theorem dX4_note_32 : decode cX4_note 32 = .ok (.sipush (-10000), 3) := by decide +kernel
theorem dX4_note_35 : decode cX4_note 35 = .ok (.ireturn, 1) := by decide +kernel
set_option maxRecDepth 20000 in
theorem ggX4_parse_X4_skipBlanks : GoodIn wsX4_parse wsX4_skipBlanks := goodIn_r _ [8, 1, 3, 9, 10, 11, 7, 12, 13, 38, 39, 40, 41, 42] (by decide +kernel) (by decide +kernel)
set_option maxRecDepth 20000 in
theorem gX4_parse_X4_skipBlanks : GoodIn wsX4_parse (wsV RX4 32 RX4 yX4_skipBlanks wsX4_skipBlanks) := goodIn_app (goodIn_of _ (by decide +kernel)) ggX4_parse_X4_skipBlanks
set_option maxRecDepth 20000 in
theorem ggX4_parse_X4_parseDay : GoodIn wsX4_parse wsX4_parseDay := goodIn_r _ [17, 18, 19, 20, 7, 21, 1, 3, 4, 5, 6, 8, 9, 10, 11, 12, 13, 22, 23, 24, 25, 26, 27, 28, 29, 30, 31, 32, 33, 34, 35, 36, 37, 38, 39, 40, 41, 42] (by decide +kernel) (by decide +kernel)
set_option maxRecDepth 20000 in
theorem gX4_parse_X4_parseDay : GoodIn wsX4_parse (wsV RX4 35 RX4 yX4_parseDay wsX4_parseDay) := goodIn_app (goodIn_of _ (by decide +kernel)) ggX4_parse_X4_parseDay
theorem dX4_parse_0 : decode cX4_parse 0 = .ok (.aload_n 0, 1) := by decide +kernel
theorem dX4_parse_1 : decode cX4_parse 1 = .ok (.iconst 0, 1) := by decide +kernel
theorem dX4_parse_2 : decode cX4_parse 2 = .ok (.putfield 29, 3) := by decide +kernel
theorem dX4_parse_5 : decode cX4_parse 5 = .ok (.aload_n 0, 1) := by decide +kernel
theorem dX4_parse_6 : decode cX4_parse 6 = .ok (.iconst 0, 1) := by decide +kernel
theorem dX4_parse_7 : decode cX4_parse 7 = .ok (.putfield 22, 3) := by decide +kernel
theorem dX4_parse_10 : decode cX4_parse 10 = .ok (.aload_n 0, 1) := by decide +kernel
theorem dX4_parse_11 : decode cX4_parse 11 = .ok (.invokevirtual 32, 3) := by decide +kernel
theorem dX4_parse_14 : decode cX4_parse 14 = .ok (.aload_n 0, 1) := by decide +kernel
theorem dX4_parse_15 : decode cX4_parse 15 = .ok (.getfield 29, 3) := by decide +kernel
theorem dX4_parse_18 : decode cX4_parse 18 = .ok (.aload_n 0, 1) := by decide +kernel
theorem dX4_parse_19 : decode cX4_parse 19 = .ok (.getfield 18, 3) := by decide +kernel
theorem dX4_parse_22 : decode cX4_parse 22 = .ok (.if_icmp .ge 7, 3) := by decide +kernel
theorem dX4_parse_25 : decode cX4_parse 25 = .ok (.iconst (-1), 1) := by decide +kernel
theorem dX4_parse_26 : decode cX4_parse 26 = .ok (.goto 7, 3) := by decide +kernel
theorem dX4_parse_29 : decode cX4_parse 29 = .ok (.aload_n 0, 1) := by decide +kernel
theorem dX4_parse_30 : decode cX4_parse 30 = .ok (.getfield 18, 3) := by decide +kernel
theorem dX4_parse_33 : decode cX4_parse 33 = .ok (.istore_n 2, 1) := by decide +kernel
theorem dX4_parse_34 : decode cX4_parse 34 = .ok (.iconst 0, 1) := by decide +kernel
theorem dX4_parse_35 : decode cX4_parse 35 = .ok (.istore_n 3, 1) := by decide +kernel
theorem dX4_parse_36 : decode cX4_parse 36 = .ok (.iload_n 3, 1) := by decide +kernel
theorem dX4_parse_37 : decode cX4_parse 37 = .ok (.bipush 120, 2) := by decide +kernel
theorem dX4_parse_39 : decode cX4_parse 39 = .ok (.if_icmp .ge 77, 3) := by decide +kernel
theorem dX4_parse_42 : decode cX4_parse 42 = .ok (.aload_n 0, 1) := by decide +kernel
theorem dX4_parse_43 : decode cX4_parse 43 = .ok (.getfield 29, 3) := by decide +kernel
theorem dX4_parse_46 : decode cX4_parse 46 = .ok (.aload_n 0, 1) := by decide +kernel
theorem dX4_parse_47 : decode cX4_parse 47 = .ok (.getfield 18, 3) := by decide +kernel
theorem dX4_parse_50 : decode cX4_parse 50 = .ok (.if_icmp .ge 66, 3) := by decide +kernel
theorem dX4_parse_53 : decode cX4_parse 53 = .ok (.iload_n 2, 1) := by decide +kernel
theorem dX4_parse_54 : decode cX4_parse 54 = .ok (.iconst (-1), 1) := by decide +kernel
theorem dX4_parse_55 : decode cX4_parse 55 = .ok (.if_icmp .ne 61, 3) := by decide +kernel
theorem dX4_parse_58 : decode cX4_parse 58 = .ok (.aload_n 0, 1) := by decide +kernel
theorem dX4_parse_59 : decode cX4_parse 59 = .ok (.getfield 22, 3) := by decide +kernel
theorem dX4_parse_62 : decode cX4_parse 62 = .ok (.iload_n 1, 1) := by decide +kernel
theorem dX4_parse_63 : decode cX4_parse 63 = .ok (.if_icmp .ge 23, 3) := by decide +kernel
theorem dX4_parse_66 : decode cX4_parse 66 = .ok (.aload_n 0, 1) := by decide +kernel
theorem dX4_parse_67 : decode cX4_parse 67 = .ok (.getfield 22, 3) := by decide +kernel
theorem dX4_parse_70 : decode cX4_parse 70 = .ok (.bipush 50, 2) := by decide +kernel
theorem dX4_parse_72 : decode cX4_parse 72 = .ok (.if_icmp .ge 14, 3) := by decide +kernel
theorem dX4_parse_75 : decode cX4_parse 75 = .ok (.aload_n 0, 1) := by decide +kernel
theorem dX4_parse_76 : decode cX4_parse 76 = .ok (.aload_n 0, 1) := by decide +kernel
theorem dX4_parse_77 : decode cX4_parse 77 = .ok (.getfield 22, 3) := by decide +kernel
theorem dX4_parse_80 : decode cX4_parse 80 = .ok (.invokevirtual 35, 3) := by decide +kernel
theorem dX4_parse_83 : decode cX4_parse 83 = .ok (.goto 7, 3) := by decide +kernel
theorem dX4_parse_86 : decode cX4_parse 86 = .ok (.aload_n 0, 1) := by decide +kernel
theorem dX4_parse_87 : decode cX4_parse 87 = .ok (.getfield 29, 3) := by decide +kernel
theorem dX4_parse_90 : decode cX4_parse 90 = .ok (.istore_n 2, 1) := by decide +kernel
theorem dX4_parse_91 : decode cX4_parse 91 = .ok (.iload_n 2, 1) := by decide +kernel
theorem dX4_parse_92 : decode cX4_parse 92 = .ok (.iconst (-1), 1) := by decide +kernel
theorem dX4_parse_93 : decode cX4_parse 93 = .ok (.if_icmp .ne 17, 3) := by decide +kernel
theorem dX4_parse_96 : decode cX4_parse 96 = .ok (.aload_n 0, 1) := by decide +kernel
theorem dX4_parse_97 : decode cX4_parse 97 = .ok (.dup, 1) := by decide +kernel
theorem dX4_parse_98 : decode cX4_parse 98 = .ok (.getfield 22, 3) := by decide +kernel
theorem dX4_parse_101 : decode cX4_parse 101 = .ok (.iconst 1, 1) := by decide +kernel
theorem dX4_parse_102 : decode cX4_parse 102 = .ok (.iadd, 1) := by decide +kernel
theorem dX4_parse_103 : decode cX4_parse 103 = .ok (.putfield 22, 3) := by decide +kernel
theorem dX4_parse_106 : decode cX4_parse 106 = .ok (.aload_n 0, 1) := by decide +kernel
theorem dX4_parse_107 : decode cX4_parse 107 = .ok (.invokevirtual 32, 3) := by decide +kernel
theorem dX4_parse_110 : decode cX4_parse 110 = .ok (.iinc 3 1, 3) := by decide +kernel
theorem dX4_parse_113 : decode cX4_parse 113 = .ok (.goto (-77), 3) := by decide +kernel
theorem dX4_parse_116 : decode cX4_parse 116 = .ok (.iload_n 2, 1) := by decide +kernel
theorem dX4_parse_117 : decode cX4_parse 117 = .ok (.ireturn, 1) := by decide +kernel
set_option maxRecDepth 20000 in
theorem ggX4_parseDay_X4_parseMember : GoodIn wsX4_parseDay wsX4_parseMember := goodIn_r _ [5, 6, 7, 8, 9, 10, 4, 11, 12, 13, 14, 15, 16, 17, 18, 19, 20, 21, 22, 23, 24, 25, 26, 27, 28, 33, 34, 35, 36, 37] (by decide +kernel) (by decide +kernel)
set_option maxRecDepth 20000 in
theorem gX4_parseDay_X4_parseMember : GoodIn wsX4_parseDay (wsV RX4 39 RX4 yX4_parseMember wsX4_parseMember) := goodIn_app (goodIn_of _ (by decide +kernel)) ggX4_parseDay_X4_parseMember
set_option maxRecDepth 20000 in
theorem ggX4_parseDay_X4_parseMark : GoodIn wsX4_parseDay wsX4_parseMark := goodIn_r _ [32, 6, 8, 9, 10, 4, 11, 7, 12, 13, 14, 15, 16, 33, 34, 35, 36, 37] (by decide +kernel) (by decide +kernel)
set_option maxRecDepth 20000 in
theorem gX4_parseDay_X4_parseMark : GoodIn wsX4_parseDay (wsV RX4 42 RX4 yX4_parseMark wsX4_parseMark) := goodIn_app (goodIn_of _ (by decide +kernel)) ggX4_parseDay_X4_parseMark
theorem dX4_parseDay_0 : decode cX4_parseDay 0 = .ok (.iconst (-1), 1) := by decide +kernel
theorem dX4_parseDay_1 : decode cX4_parseDay 1 = .ok (.istore_n 2, 1) := by decide +kernel
theorem dX4_parseDay_2 : decode cX4_parseDay 2 = .ok (.iconst 0, 1) := by decide +kernel
theorem dX4_parseDay_3 : decode cX4_parseDay 3 = .ok (.istore_n 3, 1) := by decide +kernel
theorem dX4_parseDay_4 : decode cX4_parseDay 4 = .ok (.iload_n 3, 1) := by decide +kernel
theorem dX4_parseDay_5 : decode cX4_parseDay 5 = .ok (.iconst 4, 1) := by decide +kernel
theorem dX4_parseDay_6 : decode cX4_parseDay 6 = .ok (.if_icmp .ge 46, 3) := by decide +kernel
theorem dX4_parseDay_9 : decode cX4_parseDay 9 = .ok (.iload_n 2, 1) := by decide +kernel
theorem dX4_parseDay_10 : decode cX4_parseDay 10 = .ok (.iconst (-1), 1) := by decide +kernel
theorem dX4_parseDay_11 : decode cX4_parseDay 11 = .ok (.if_icmp .ne 41, 3) := by decide +kernel
theorem dX4_parseDay_14 : decode cX4_parseDay 14 = .ok (.aload_n 0, 1) := by decide +kernel
theorem dX4_parseDay_15 : decode cX4_parseDay 15 = .ok (.iload_n 1, 1) := by decide +kernel
theorem dX4_parseDay_16 : decode cX4_parseDay 16 = .ok (.iconst 4, 1) := by decide +kernel
theorem dX4_parseDay_17 : decode cX4_parseDay 17 = .ok (.imul, 1) := by decide +kernel
theorem dX4_parseDay_18 : decode cX4_parseDay 18 = .ok (.iload_n 3, 1) := by decide +kernel
theorem dX4_parseDay_19 : decode cX4_parseDay 19 = .ok (.iadd, 1) := by decide +kernel
theorem dX4_parseDay_20 : decode cX4_parseDay 20 = .ok (.invokevirtual 39, 3) := by decide +kernel
theorem dX4_parseDay_23 : decode cX4_parseDay 23 = .ok (.istore_n 2, 1) := by decide +kernel
end
section
theorem dX4_parseDay_24 : decode cX4_parseDay 24 = .ok (.iload_n 2, 1) := by decide +kernel
theorem dX4_parseDay_25 : decode cX4_parseDay 25 = .ok (.iconst (-1), 1) := by decide +kernel
theorem dX4_parseDay_26 : decode cX4_parseDay 26 = .ok (.if_icmp .ne 20, 3) := by decide +kernel
theorem dX4_parseDay_29 : decode cX4_parseDay 29 = .ok (.aload_n 0, 1) := by decide +kernel
theorem dX4_parseDay_30 : decode cX4_parseDay 30 = .ok (.iload_n 3, 1) := by decide +kernel
theorem dX4_parseDay_31 : decode cX4_parseDay 31 = .ok (.iconst 3, 1) := by decide +kernel
theorem dX4_parseDay_32 : decode cX4_parseDay 32 = .ok (.if_icmp .ge 8, 3) := by decide +kernel
theorem dX4_parseDay_35 : decode cX4_parseDay 35 = .ok (.bipush 44, 2) := by decide +kernel
theorem dX4_parseDay_37 : decode cX4_parseDay 37 = .ok (.goto 5, 3) := by decide +kernel
theorem dX4_parseDay_40 : decode cX4_parseDay 40 = .ok (.bipush 59, 2) := by decide +kernel
theorem dX4_parseDay_42 : decode cX4_parseDay 42 = .ok (.invokevirtual 42, 3) := by decide +kernel
theorem dX4_parseDay_45 : decode cX4_parseDay 45 = .ok (.istore_n 2, 1) := by decide +kernel
theorem dX4_parseDay_46 : decode cX4_parseDay 46 = .ok (.iinc 3 1, 3) := by decide +kernel
theorem dX4_parseDay_49 : decode cX4_parseDay 49 = .ok (.goto (-45), 3) := by decide +kernel
theorem dX4_parseDay_52 : decode cX4_parseDay 52 = .ok (.iload_n 2, 1) := by decide +kernel
theorem dX4_parseDay_53 : decode cX4_parseDay 53 = .ok (.ireturn, 1) := by decide +kernel
set_option maxRecDepth 20000 in
theorem ggX4_parseMember_X4_skipBlanks : GoodIn wsX4_parseMember wsX4_skipBlanks := goodIn_r _ [7, 1, 2, 8, 9, 10, 6, 11, 12, 25, 26, 27, 28, 29] (by decide +kernel) (by decide +kernel)
set_option maxRecDepth 20000 in
theorem gX4_parseMember_X4_skipBlanks : GoodIn wsX4_parseMember (wsV RX4 32 RX4 yX4_skipBlanks wsX4_skipBlanks) := goodIn_app (goodIn_of _ (by decide +kernel)) ggX4_parseMember_X4_skipBlanks
set_option maxRecDepth 20000 in
theorem ggX4_parseMember_X4_here : GoodIn wsX4_parseMember wsX4_here := goodIn_r _ [11, 1, 2, 12, 25, 26, 27, 28, 29] (by decide +kernel) (by decide +kernel)
set_option maxRecDepth 20000 in
theorem gX4_parseMember_X4_here : GoodIn wsX4_parseMember (wsV RX4 45 RX4 yX4_here wsX4_here) := goodIn_app (goodIn_of _ (by decide +kernel)) ggX4_parseMember_X4_here
set_option maxRecDepth 20000 in
theorem ggX4_parseMember_X4_keepNote : GoodIn wsX4_parseMember wsX4_keepNote := goodIn_r _ [16, 17, 25, 26, 27, 28, 29] (by decide +kernel) (by decide +kernel)
set_option maxRecDepth 20000 in
theorem gX4_parseMember_X4_keepNote : GoodIn wsX4_parseMember (wsV RX4 49 RX4 yX4_keepNote wsX4_keepNote) := goodIn_app (goodIn_of _ (by decide +kernel)) ggX4_parseMember_X4_keepNote
set_option maxRecDepth 20000 in
theorem ggX4_parseMember_X4_parseNumber : GoodIn wsX4_parseMember wsX4_parseNumber := goodIn_r _ [21, 1, 2, 8, 9, 10, 6, 11, 12, 22, 23, 24, 13, 14, 15, 16, 17, 25, 26, 27, 28, 29] (by decide +kernel) (by decide +kernel)
set_option maxRecDepth 20000 in
theorem gX4_parseMember_X4_parseNumber : GoodIn wsX4_parseMember (wsV RX4 53 RX4 yX4_parseNumber wsX4_parseNumber) := goodIn_app (goodIn_of _ (by decide +kernel)) ggX4_parseMember_X4_parseNumber
theorem dX4_parseMember_0 : decode cX4_parseMember 0 = .ok (.aload_n 0, 1) := by decide +kernel
theorem dX4_parseMember_1 : decode cX4_parseMember 1 = .ok (.invokevirtual 32, 3) := by decide +kernel
theorem dX4_parseMember_4 : decode cX4_parseMember 4 = .ok (.aload_n 0, 1) := by decide +kernel
theorem dX4_parseMember_5 : decode cX4_parseMember 5 = .ok (.invokevirtual 45, 3) := by decide +kernel
theorem dX4_parseMember_8 : decode cX4_parseMember 8 = .ok (.bipush 46, 2) := by decide +kernel
theorem dX4_parseMember_10 : decode cX4_parseMember 10 = .ok (.if_icmp .ne 22, 3) := by decide +kernel
theorem dX4_parseMember_13 : decode cX4_parseMember 13 = .ok (.aload_n 0, 1) := by decide +kernel
theorem dX4_parseMember_14 : decode cX4_parseMember 14 = .ok (.dup, 1) := by decide +kernel
theorem dX4_parseMember_15 : decode cX4_parseMember 15 = .ok (.getfield 29, 3) := by decide +kernel
theorem dX4_parseMember_18 : decode cX4_parseMember 18 = .ok (.iconst 1, 1) := by decide +kernel
theorem dX4_parseMember_19 : decode cX4_parseMember 19 = .ok (.iadd, 1) := by decide +kernel
theorem dX4_parseMember_20 : decode cX4_parseMember 20 = .ok (.putfield 29, 3) := by decide +kernel
theorem dX4_parseMember_23 : decode cX4_parseMember 23 = .ok (.aload_n 0, 1) := by decide +kernel
theorem dX4_parseMember_24 : decode cX4_parseMember 24 = .ok (.iload_n 1, 1) := by decide +kernel
theorem dX4_parseMember_25 : decode cX4_parseMember 25 = .ok (.sipush (-10000), 3) := by decide +kernel
theorem dX4_parseMember_28 : decode cX4_parseMember 28 = .ok (.invokevirtual 49, 3) := by decide +kernel
theorem dX4_parseMember_31 : decode cX4_parseMember 31 = .ok (.ireturn, 1) := by decide +kernel
theorem dX4_parseMember_32 : decode cX4_parseMember 32 = .ok (.aload_n 0, 1) := by decide +kernel
theorem dX4_parseMember_33 : decode cX4_parseMember 33 = .ok (.getfield 29, 3) := by decide +kernel
theorem dX4_parseMember_36 : decode cX4_parseMember 36 = .ok (.aload_n 0, 1) := by decide +kernel
theorem dX4_parseMember_37 : decode cX4_parseMember 37 = .ok (.getfield 18, 3) := by decide +kernel
theorem dX4_parseMember_40 : decode cX4_parseMember 40 = .ok (.if_icmp .ge 11, 3) := by decide +kernel
theorem dX4_parseMember_43 : decode cX4_parseMember 43 = .ok (.aload_n 0, 1) := by decide +kernel
theorem dX4_parseMember_44 : decode cX4_parseMember 44 = .ok (.iload_n 1, 1) := by decide +kernel
theorem dX4_parseMember_45 : decode cX4_parseMember 45 = .ok (.invokevirtual 53, 3) := by decide +kernel
theorem dX4_parseMember_48 : decode cX4_parseMember 48 = .ok (.goto 7, 3) := by decide +kernel
theorem dX4_parseMember_51 : decode cX4_parseMember 51 = .ok (.aload_n 0, 1) := by decide +kernel
theorem dX4_parseMember_52 : decode cX4_parseMember 52 = .ok (.getfield 18, 3) := by decide +kernel
theorem dX4_parseMember_55 : decode cX4_parseMember 55 = .ok (.ireturn, 1) := by decide +kernel
set_option maxRecDepth 20000 in
theorem ggX4_parseMark_X4_skipBlanks : GoodIn wsX4_parseMark wsX4_skipBlanks := goodIn_r _ [6, 1, 7, 8, 9, 10, 5, 11, 12, 13, 14, 15, 16, 17] (by decide +kernel) (by decide +kernel)
set_option maxRecDepth 20000 in
theorem gX4_parseMark_X4_skipBlanks : GoodIn wsX4_parseMark (wsV RX4 32 RX4 yX4_skipBlanks wsX4_skipBlanks) := goodIn_app (goodIn_of _ (by decide +kernel)) ggX4_parseMark_X4_skipBlanks
set_option maxRecDepth 20000 in
theorem ggX4_parseMark_X4_here : GoodIn wsX4_parseMark wsX4_here := goodIn_r _ [11, 1, 7, 12, 13, 14, 15, 16, 17] (by decide +kernel) (by decide +kernel)
set_option maxRecDepth 20000 in
theorem gX4_parseMark_X4_here : GoodIn wsX4_parseMark (wsV RX4 45 RX4 yX4_here wsX4_here) := goodIn_app (goodIn_of _ (by decide +kernel)) ggX4_parseMark_X4_here
theorem dX4_parseMark_0 : decode cX4_parseMark 0 = .ok (.aload_n 0, 1) := by decide +kernel
theorem dX4_parseMark_1 : decode cX4_parseMark 1 = .ok (.invokevirtual 32, 3) := by decide +kernel
theorem dX4_parseMark_4 : decode cX4_parseMark 4 = .ok (.aload_n 0, 1) := by decide +kernel
theorem dX4_parseMark_5 : decode cX4_parseMark 5 = .ok (.invokevirtual 45, 3) := by decide +kernel
theorem dX4_parseMark_8 : decode cX4_parseMark 8 = .ok (.iload_n 1, 1) := by decide +kernel
theorem dX4_parseMark_9 : decode cX4_parseMark 9 = .ok (.if_icmp .eq 8, 3) := by decide +kernel
theorem dX4_parseMark_12 : decode cX4_parseMark 12 = .ok (.aload_n 0, 1) := by decide +kernel
theorem dX4_parseMark_13 : decode cX4_parseMark 13 = .ok (.getfield 29, 3) := by decide +kernel
theorem dX4_parseMark_16 : decode cX4_parseMark 16 = .ok (.ireturn, 1) := by decide +kernel
theorem dX4_parseMark_17 : decode cX4_parseMark 17 = .ok (.aload_n 0, 1) := by decide +kernel
theorem dX4_parseMark_18 : decode cX4_parseMark 18 = .ok (.dup, 1) := by decide +kernel
theorem dX4_parseMark_19 : decode cX4_parseMark 19 = .ok (.getfield 29, 3) := by decide +kernel
theorem dX4_parseMark_22 : decode cX4_parseMark 22 = .ok (.iconst 1, 1) := by decide +kernel
theorem dX4_parseMark_23 : decode cX4_parseMark 23 = .ok (.iadd, 1) := by decide +kernel
theorem dX4_parseMark_24 : decode cX4_parseMark 24 = .ok (.putfield 29, 3) := by decide +kernel
theorem dX4_parseMark_27 : decode cX4_parseMark 27 = .ok (.iconst (-1), 1) := by decide +kernel
theorem dX4_parseMark_28 : decode cX4_parseMark 28 = .ok (.ireturn, 1) := by decide +kernel
set_option maxRecDepth 20000 in
theorem ggX4_parseNumber_X4_here : GoodIn wsX4_parseNumber wsX4_here := goodIn_r _ [7, 1, 2, 8, 17, 18, 19, 20, 21] (by decide +kernel) (by decide +kernel)
set_option maxRecDepth 20000 in
theorem gX4_parseNumber_X4_here : GoodIn wsX4_parseNumber (wsV RX4 45 RX4 yX4_here wsX4_here) := goodIn_app (goodIn_of _ (by decide +kernel)) ggX4_parseNumber_X4_here
set_option maxRecDepth 20000 in
theorem ggX4_parseNumber_X5_isWithin : GoodIn wsX4_parseNumber wsX5_isWithin := goodIn_r _ [11] (by decide +kernel) (by decide +kernel)
set_option maxRecDepth 20000 in
theorem gX4_parseNumber_X5_isWithin_n56 : GoodIn wsX4_parseNumber (wsX5_isWithin) := ggX4_parseNumber_X5_isWithin
set_option maxRecDepth 20000 in
theorem ggX4_parseNumber_X4_keepNote : GoodIn wsX4_parseNumber wsX4_keepNote := goodIn_r _ [15, 16, 17, 18, 19, 20, 21] (by decide +kernel) (by decide +kernel)
set_option maxRecDepth 20000 in
theorem gX4_parseNumber_X4_keepNote : GoodIn wsX4_parseNumber (wsV RX4 49 RX4 yX4_keepNote wsX4_keepNote) := goodIn_app (goodIn_of _ (by decide +kernel)) ggX4_parseNumber_X4_keepNote
theorem dX4_parseNumber_0 : decode cX4_parseNumber 0 = .ok (.aload_n 0, 1) := by decide +kernel
theorem dX4_parseNumber_1 : decode cX4_parseNumber 1 = .ok (.getfield 29, 3) := by decide +kernel
theorem dX4_parseNumber_4 : decode cX4_parseNumber 4 = .ok (.istore_n 2, 1) := by decide +kernel
theorem dX4_parseNumber_5 : decode cX4_parseNumber 5 = .ok (.aload_n 0, 1) := by decide +kernel
theorem dX4_parseNumber_6 : decode cX4_parseNumber 6 = .ok (.invokevirtual 45, 3) := by decide +kernel
theorem dX4_parseNumber_9 : decode cX4_parseNumber 9 = .ok (.bipush 45, 2) := by decide +kernel
theorem dX4_parseNumber_11 : decode cX4_parseNumber 11 = .ok (.if_icmp .ne 7, 3) := by decide +kernel
theorem dX4_parseNumber_14 : decode cX4_parseNumber 14 = .ok (.iconst 1, 1) := by decide +kernel
theorem dX4_parseNumber_15 : decode cX4_parseNumber 15 = .ok (.goto 4, 3) := by decide +kernel
theorem dX4_parseNumber_18 : decode cX4_parseNumber 18 = .ok (.iconst 0, 1) := by decide +kernel
theorem dX4_parseNumber_19 : decode cX4_parseNumber 19 = .ok (.istore_n 3, 1) := by decide +kernel
theorem dX4_parseNumber_20 : decode cX4_parseNumber 20 = .ok (.iload_n 3, 1) := by decide +kernel
theorem dX4_parseNumber_21 : decode cX4_parseNumber 21 = .ok (.ifCond .eq 13, 3) := by decide +kernel
theorem dX4_parseNumber_24 : decode cX4_parseNumber 24 = .ok (.aload_n 0, 1) := by decide +kernel
theorem dX4_parseNumber_25 : decode cX4_parseNumber 25 = .ok (.dup, 1) := by decide +kernel
theorem dX4_parseNumber_26 : decode cX4_parseNumber 26 = .ok (.getfield 29, 3) := by decide +kernel
theorem dX4_parseNumber_29 : decode cX4_parseNumber 29 = .ok (.iconst 1, 1) := by decide +kernel
theorem dX4_parseNumber_30 : decode cX4_parseNumber 30 = .ok (.iadd, 1) := by decide +kernel
theorem dX4_parseNumber_31 : decode cX4_parseNumber 31 = .ok (.putfield 29, 3) := by decide +kernel
theorem dX4_parseNumber_34 : decode cX4_parseNumber 34 = .ok (.iconst 0, 1) := by decide +kernel
theorem dX4_parseNumber_35 : decode cX4_parseNumber 35 = .ok (.istore 4, 2) := by decide +kernel
theorem dX4_parseNumber_37 : decode cX4_parseNumber 37 = .ok (.iconst 0, 1) := by decide +kernel
theorem dX4_parseNumber_38 : decode cX4_parseNumber 38 = .ok (.istore 5, 2) := by decide +kernel
theorem dX4_parseNumber_40 : decode cX4_parseNumber 40 = .ok (.aload_n 0, 1) := by decide +kernel
theorem dX4_parseNumber_41 : decode cX4_parseNumber 41 = .ok (.getfield 29, 3) := by decide +kernel
theorem dX4_parseNumber_44 : decode cX4_parseNumber 44 = .ok (.aload_n 0, 1) := by decide +kernel
theorem dX4_parseNumber_45 : decode cX4_parseNumber 45 = .ok (.getfield 18, 3) := by decide +kernel
theorem dX4_parseNumber_48 : decode cX4_parseNumber 48 = .ok (.if_icmp .ge 48, 3) := by decide +kernel
theorem dX4_parseNumber_51 : decode cX4_parseNumber 51 = .ok (.aload_n 0, 1) := by decide +kernel
theorem dX4_parseNumber_52 : decode cX4_parseNumber 52 = .ok (.invokevirtual 45, 3) := by decide +kernel
theorem dX4_parseNumber_55 : decode cX4_parseNumber 55 = .ok (.bipush 48, 2) := by decide +kernel
theorem dX4_parseNumber_57 : decode cX4_parseNumber 57 = .ok (.bipush 57, 2) := by decide +kernel
theorem dX4_parseNumber_59 : decode cX4_parseNumber 59 = .ok (.invokestatic 56, 3) := by decide +kernel
theorem dX4_parseNumber_62 : decode cX4_parseNumber 62 = .ok (.ifCond .eq 34, 3) := by decide +kernel
theorem dX4_parseNumber_65 : decode cX4_parseNumber 65 = .ok (.iload 5, 2) := by decide +kernel
theorem dX4_parseNumber_67 : decode cX4_parseNumber 67 = .ok (.bipush 10, 2) := by decide +kernel
theorem dX4_parseNumber_69 : decode cX4_parseNumber 69 = .ok (.imul, 1) := by decide +kernel
theorem dX4_parseNumber_70 : decode cX4_parseNumber 70 = .ok (.aload_n 0, 1) := by decide +kernel
theorem dX4_parseNumber_71 : decode cX4_parseNumber 71 = .ok (.invokevirtual 45, 3) := by decide +kernel
theorem dX4_parseNumber_74 : decode cX4_parseNumber 74 = .ok (.iadd, 1) := by decide +kernel
theorem dX4_parseNumber_75 : decode cX4_parseNumber 75 = .ok (.bipush 48, 2) := by decide +kernel
theorem dX4_parseNumber_77 : decode cX4_parseNumber 77 = .ok (.isub, 1) := by decide +kernel
theorem dX4_parseNumber_78 : decode cX4_parseNumber 78 = .ok (.istore 5, 2) := by decide +kernel
theorem dX4_parseNumber_80 : decode cX4_parseNumber 80 = .ok (.iinc 4 1, 3) := by decide +kernel
theorem dX4_parseNumber_83 : decode cX4_parseNumber 83 = .ok (.aload_n 0, 1) := by decide +kernel
theorem dX4_parseNumber_84 : decode cX4_parseNumber 84 = .ok (.dup, 1) := by decide +kernel
theorem dX4_parseNumber_85 : decode cX4_parseNumber 85 = .ok (.getfield 29, 3) := by decide +kernel
theorem dX4_parseNumber_88 : decode cX4_parseNumber 88 = .ok (.iconst 1, 1) := by decide +kernel
theorem dX4_parseNumber_89 : decode cX4_parseNumber 89 = .ok (.iadd, 1) := by decide +kernel
theorem dX4_parseNumber_90 : decode cX4_parseNumber 90 = .ok (.putfield 29, 3) := by decide +kernel
theorem dX4_parseNumber_93 : decode cX4_parseNumber 93 = .ok (.goto (-53), 3) := by decide +kernel
theorem dX4_parseNumber_96 : decode cX4_parseNumber 96 = .ok (.iload 4, 2) := by decide +kernel
theorem dX4_parseNumber_98 : decode cX4_parseNumber 98 = .ok (.iconst 1, 1) := by decide +kernel
theorem dX4_parseNumber_99 : decode cX4_parseNumber 99 = .ok (.iconst 3, 1) := by decide +kernel
theorem dX4_parseNumber_100 : decode cX4_parseNumber 100 = .ok (.invokestatic 56, 3) := by decide +kernel
theorem dX4_parseNumber_103 : decode cX4_parseNumber 103 = .ok (.ifCond .ne 5, 3) := by decide +kernel
theorem dX4_parseNumber_106 : decode cX4_parseNumber 106 = .ok (.iload_n 2, 1) := by decide +kernel
theorem dX4_parseNumber_107 : decode cX4_parseNumber 107 = .ok (.ireturn, 1) := by decide +kernel
theorem dX4_parseNumber_108 : decode cX4_parseNumber 108 = .ok (.aload_n 0, 1) := by decide +kernel
theorem dX4_parseNumber_109 : decode cX4_parseNumber 109 = .ok (.iload_n 1, 1) := by decide +kernel
theorem dX4_parseNumber_110 : decode cX4_parseNumber 110 = .ok (.iload_n 3, 1) := by decide +kernel
theorem dX4_parseNumber_111 : decode cX4_parseNumber 111 = .ok (.ifCond .eq 9, 3) := by decide +kernel
theorem dX4_parseNumber_114 : decode cX4_parseNumber 114 = .ok (.iload 5, 2) := by decide +kernel
theorem dX4_parseNumber_116 : decode cX4_parseNumber 116 = .ok (.ineg, 1) := by decide +kernel
theorem dX4_parseNumber_117 : decode cX4_parseNumber 117 = .ok (.goto 5, 3) := by decide +kernel
theorem dX4_parseNumber_120 : decode cX4_parseNumber 120 = .ok (.iload 5, 2) := by decide +kernel
theorem dX4_parseNumber_122 : decode cX4_parseNumber 122 = .ok (.invokevirtual 49, 3) := by decide +kernel
theorem dX4_parseNumber_125 : decode cX4_parseNumber 125 = .ok (.ireturn, 1) := by decide +kernel
theorem dX4_keepNote_0 : decode cX4_keepNote 0 = .ok (.iload_n 1, 1) := by decide +kernel
theorem dX4_keepNote_1 : decode cX4_keepNote 1 = .ok (.ifCond .lt 19, 3) := by decide +kernel
theorem dX4_keepNote_4 : decode cX4_keepNote 4 = .ok (.iload_n 1, 1) := by decide +kernel
theorem dX4_keepNote_5 : decode cX4_keepNote 5 = .ok (.aload_n 0, 1) := by decide +kernel
theorem dX4_keepNote_6 : decode cX4_keepNote 6 = .ok (.getfield 15, 3) := by decide +kernel
theorem dX4_keepNote_9 : decode cX4_keepNote 9 = .ok (.arraylength, 1) := by decide +kernel
theorem dX4_keepNote_10 : decode cX4_keepNote 10 = .ok (.if_icmp .ge 10, 3) := by decide +kernel
theorem dX4_keepNote_13 : decode cX4_keepNote 13 = .ok (.aload_n 0, 1) := by decide +kernel
theorem dX4_keepNote_14 : decode cX4_keepNote 14 = .ok (.getfield 15, 3) := by decide +kernel
theorem dX4_keepNote_17 : decode cX4_keepNote 17 = .ok (.iload_n 1, 1) := by decide +kernel
theorem dX4_keepNote_18 : decode cX4_keepNote 18 = .ok (.iload_n 2, 1) := by decide +kernel
theorem dX4_keepNote_19 : decode cX4_keepNote 19 = .ok (.iastore, 1) := by decide +kernel
theorem dX4_keepNote_20 : decode cX4_keepNote 20 = .ok (.iconst (-1), 1) := by decide +kernel
theorem dX4_keepNote_21 : decode cX4_keepNote 21 = .ok (.ireturn, 1) := by decide +kernel
set_option maxRecDepth 20000 in
theorem ggX4_skipBlanks_X4_here : GoodIn wsX4_skipBlanks wsX4_here := goodIn_r _ [7, 1, 2, 8, 9, 10, 11, 12, 13] (by decide +kernel) (by decide +kernel)
set_option maxRecDepth 20000 in
theorem gX4_skipBlanks_X4_here : GoodIn wsX4_skipBlanks (wsV RX4 45 RX4 yX4_here wsX4_here) := goodIn_app (goodIn_of _ (by decide +kernel)) ggX4_skipBlanks_X4_here
theorem dX4_skipBlanks_0 : decode cX4_skipBlanks 0 = .ok (.aload_n 0, 1) := by decide +kernel
theorem dX4_skipBlanks_1 : decode cX4_skipBlanks 1 = .ok (.getfield 29, 3) := by decide +kernel
theorem dX4_skipBlanks_4 : decode cX4_skipBlanks 4 = .ok (.aload_n 0, 1) := by decide +kernel
theorem dX4_skipBlanks_5 : decode cX4_skipBlanks 5 = .ok (.getfield 18, 3) := by decide +kernel
theorem dX4_skipBlanks_8 : decode cX4_skipBlanks 8 = .ok (.if_icmp .ge 25, 3) := by decide +kernel
theorem dX4_skipBlanks_11 : decode cX4_skipBlanks 11 = .ok (.aload_n 0, 1) := by decide +kernel
theorem dX4_skipBlanks_12 : decode cX4_skipBlanks 12 = .ok (.invokevirtual 45, 3) := by decide +kernel
theorem dX4_skipBlanks_15 : decode cX4_skipBlanks 15 = .ok (.bipush 32, 2) := by decide +kernel
theorem dX4_skipBlanks_17 : decode cX4_skipBlanks 17 = .ok (.if_icmp .ne 16, 3) := by decide +kernel
theorem dX4_skipBlanks_20 : decode cX4_skipBlanks 20 = .ok (.aload_n 0, 1) := by decide +kernel
theorem dX4_skipBlanks_21 : decode cX4_skipBlanks 21 = .ok (.dup, 1) := by decide +kernel
theorem dX4_skipBlanks_22 : decode cX4_skipBlanks 22 = .ok (.getfield 29, 3) := by decide +kernel
theorem dX4_skipBlanks_25 : decode cX4_skipBlanks 25 = .ok (.iconst 1, 1) := by decide +kernel
theorem dX4_skipBlanks_26 : decode cX4_skipBlanks 26 = .ok (.iadd, 1) := by decide +kernel
theorem dX4_skipBlanks_27 : decode cX4_skipBlanks 27 = .ok (.putfield 29, 3) := by decide +kernel
theorem dX4_skipBlanks_30 : decode cX4_skipBlanks 30 = .ok (.goto (-30), 3) := by decide +kernel
theorem dX4_skipBlanks_33 : decode cX4_skipBlanks 33 = .ok (.return_, 1) := by decide +kernel
theorem dX4_here_0 : decode cX4_here 0 = .ok (.aload_n 0, 1) := by decide +kernel
theorem dX4_here_1 : decode cX4_here 1 = .ok (.getfield 29, 3) := by decide +kernel
theorem dX4_here_4 : decode cX4_here 4 = .ok (.ifCond .lt 26, 3) := by decide +kernel
theorem dX4_here_7 : decode cX4_here 7 = .ok (.aload_n 0, 1) := by decide +kernel
theorem dX4_here_8 : decode cX4_here 8 = .ok (.getfield 29, 3) := by decide +kernel
theorem dX4_here_11 : decode cX4_here 11 = .ok (.aload_n 0, 1) := by decide +kernel
theorem dX4_here_12 : decode cX4_here 12 = .ok (.getfield 18, 3) := by decide +kernel
theorem dX4_here_15 : decode cX4_here 15 = .ok (.if_icmp .ge 15, 3) := by decide +kernel
theorem dX4_here_18 : decode cX4_here 18 = .ok (.aload_n 0, 1) := by decide +kernel
theorem dX4_here_19 : decode cX4_here 19 = .ok (.getfield 9, 3) := by decide +kernel
theorem dX4_here_22 : decode cX4_here 22 = .ok (.aload_n 0, 1) := by decide +kernel
theorem dX4_here_23 : decode cX4_here 23 = .ok (.getfield 29, 3) := by decide +kernel
theorem dX4_here_26 : decode cX4_here 26 = .ok (.iaload, 1) := by decide +kernel
theorem dX4_here_27 : decode cX4_here 27 = .ok (.goto 4, 3) := by decide +kernel
theorem dX4_here_30 : decode cX4_here 30 = .ok (.iconst (-1), 1) := by decide +kernel
theorem dX4_here_31 : decode cX4_here 31 = .ok (.ireturn, 1) := by decide +kernel
set_option maxRecDepth 20000 in
theorem ggX5_init_X0_init : GoodIn wsX5_init wsX0_init := goodIn_r _ [26, 27, 2, 3, 28, 29, 30, 31, 32, 33, 34, 35, 70, 71, 72, 73, 74] (by decide +kernel) (by decide +kernel)
set_option maxRecDepth 20000 in
theorem gX5_init_X0_init : GoodIn wsX5_init (wsX0_init) := ggX5_init_X0_init
set_option maxRecDepth 20000 in
theorem ggX5_init_X3_init : GoodIn wsX5_init wsX3_init := goodIn_r _ [38, 39, 2, 3, 40, 41, 5, 6, 42, 25, 26, 27, 28, 29, 30, 31, 32, 33, 34, 35, 83, 84, 85, 70, 71, 72, 73, 74] (by decide +kernel) (by decide +kernel)
set_option maxRecDepth 20000 in
theorem gX5_init_X3_init : GoodIn wsX5_init (wsX3_init) := ggX5_init_X3_init
set_option maxRecDepth 20000 in
theorem ggX5_init_X2_init : GoodIn wsX5_init wsX2_init := goodIn_r _ [45, 46, 2, 3, 47, 48, 49, 50, 51, 52, 28, 53, 54, 55, 56, 86, 87, 88, 89, 90, 91, 92, 93, 94] (by decide +kernel) (by decide +kernel)
set_option maxRecDepth 20000 in
theorem gX5_init_X2_init : GoodIn wsX5_init (wsX2_init) := ggX5_init_X2_init
set_option maxRecDepth 20000 in
theorem ggX5_init_X1_init : GoodIn wsX5_init wsX1_init := goodIn_r _ [59, 60, 2, 3, 28, 61, 47, 62, 63, 95, 96, 97, 98] (by decide +kernel) (by decide +kernel)
set_option maxRecDepth 20000 in
theorem gX5_init_X1_init : GoodIn wsX5_init (wsX1_init) := ggX5_init_X1_init
set_option maxRecDepth 20000 in
theorem ggX5_init_X4_init : GoodIn wsX5_init wsX4_init := goodIn_r _ [66, 67, 2, 3, 28, 68, 69, 99, 100, 101, 102, 103] (by decide +kernel) (by decide +kernel)
set_option maxRecDepth 20000 in
theorem gX5_init_X4_init : GoodIn wsX5_init (wsX4_init) := ggX5_init_X4_init
theorem dX5_init_0 : decode cX5_init 0 = .ok (.aload_n 0, 1) := by decide +kernel
theorem dX5_init_1 : decode cX5_init 1 = .ok (.invokespecial 1, 3) := by decide +kernel
theorem dX5_init_4 : decode cX5_init 4 = .ok (.aload_n 0, 1) := by decide +kernel
theorem dX5_init_5 : decode cX5_init 5 = .ok (.new 7, 3) := by decide +kernel
theorem dX5_init_8 : decode cX5_init 8 = .ok (.dup, 1) := by decide +kernel
theorem dX5_init_9 : decode cX5_init 9 = .ok (.invokespecial 9, 3) := by decide +kernel
theorem dX5_init_12 : decode cX5_init 12 = .ok (.putfield 10, 3) := by decide +kernel
theorem dX5_init_15 : decode cX5_init 15 = .ok (.aload_n 0, 1) := by decide +kernel
theorem dX5_init_16 : decode cX5_init 16 = .ok (.new 16, 3) := by decide +kernel
theorem dX5_init_19 : decode cX5_init 19 = .ok (.dup, 1) := by decide +kernel
theorem dX5_init_20 : decode cX5_init 20 = .ok (.invokespecial 18, 3) := by decide +kernel
theorem dX5_init_23 : decode cX5_init 23 = .ok (.putfield 19, 3) := by decide +kernel
theorem dX5_init_26 : decode cX5_init 26 = .ok (.aload_n 0, 1) := by decide +kernel
theorem dX5_init_27 : decode cX5_init 27 = .ok (.new 23, 3) := by decide +kernel
theorem dX5_init_30 : decode cX5_init 30 = .ok (.dup, 1) := by decide +kernel
theorem dX5_init_31 : decode cX5_init 31 = .ok (.invokespecial 25, 3) := by decide +kernel
theorem dX5_init_34 : decode cX5_init 34 = .ok (.putfield 26, 3) := by decide +kernel
theorem dX5_init_37 : decode cX5_init 37 = .ok (.aload_n 0, 1) := by decide +kernel
theorem dX5_init_38 : decode cX5_init 38 = .ok (.new 30, 3) := by decide +kernel
theorem dX5_init_41 : decode cX5_init 41 = .ok (.dup, 1) := by decide +kernel
theorem dX5_init_42 : decode cX5_init 42 = .ok (.invokespecial 32, 3) := by decide +kernel
theorem dX5_init_45 : decode cX5_init 45 = .ok (.putfield 33, 3) := by decide +kernel
theorem dX5_init_48 : decode cX5_init 48 = .ok (.aload_n 0, 1) := by decide +kernel
theorem dX5_init_49 : decode cX5_init 49 = .ok (.new 37, 3) := by decide +kernel
theorem dX5_init_52 : decode cX5_init 52 = .ok (.dup, 1) := by decide +kernel
theorem dX5_init_53 : decode cX5_init 53 = .ok (.invokespecial 39, 3) := by decide +kernel
theorem dX5_init_56 : decode cX5_init 56 = .ok (.putfield 40, 3) := by decide +kernel
theorem dX5_init_59 : decode cX5_init 59 = .ok (.return_, 1) := by decide +kernel
set_option maxRecDepth 20000 in
theorem ggX5_day_X5_isNote : GoodIn wsX5_day wsX5_isNote := goodIn_r _ [5, 6, 7, 4, 8] (by decide +kernel) (by decide +kernel)
set_option maxRecDepth 20000 in
theorem gX5_day_X5_isNote : GoodIn wsX5_day (va_wsS RX5 44 yX5_isNote wsX5_isNote) := goodIn_app (goodIn_of _ (by decide +kernel)) ggX5_day_X5_isNote
set_option maxRecDepth 20000 in
theorem ggX5_day_X5_refuseBad : GoodIn wsX5_day wsX5_refuseBad := goodIn_r _ [12, 13, 75, 76, 77, 78, 79, 80, 81, 82] (by decide +kernel) (by decide +kernel)
set_option maxRecDepth 20000 in
theorem gX5_day_X5_refuseBad : GoodIn wsX5_day (wsV RX5 48 RX5 yX5_refuseBad wsX5_refuseBad) := goodIn_app (goodIn_of _ (by decide +kernel)) ggX5_day_X5_refuseBad
set_option maxRecDepth 20000 in
theorem ggX5_day_X0_days : GoodIn wsX5_day wsX0_days := goodIn_r _ [18, 19, 83, 84, 85, 86, 87] (by decide +kernel) (by decide +kernel)
set_option maxRecDepth 20000 in
theorem gX5_day_X0_days : GoodIn wsX5_day (wsV RX5 52 RX0 yX0_days wsX0_days) := goodIn_app (goodIn_of _ (by decide +kernel)) ggX5_day_X0_days
set_option maxRecDepth 20000 in
theorem ggX5_day_X5_refuseFull : GoodIn wsX5_day wsX5_refuseFull := goodIn_r _ [23, 24, 75, 76, 77, 78, 79, 80, 81, 82] (by decide +kernel) (by decide +kernel)
set_option maxRecDepth 20000 in
theorem gX5_day_X5_refuseFull : GoodIn wsX5_day (wsV RX5 56 RX5 yX5_refuseFull wsX5_refuseFull) := goodIn_app (goodIn_of _ (by decide +kernel)) ggX5_day_X5_refuseFull
set_option maxRecDepth 20000 in
theorem ggX5_day_X5_keepState : GoodIn wsX5_day wsX5_keepState := goodIn_r _ [28, 29, 1, 30, 31, 32, 33, 34, 35, 36, 37, 38, 39, 40, 41, 42, 43, 44, 45, 17, 46, 47, 48, 49, 50, 51, 52, 19, 53, 54, 55, 56, 57, 58, 59, 60, 75, 76, 77, 78, 79, 80, 81, 82, 88, 89, 90, 83, 84, 85, 86, 87, 91, 92, 93, 94, 95, 96, 97, 98, 99] (by decide +kernel) (by decide +kernel)
set_option maxRecDepth 20000 in
theorem gX5_day_X5_keepState : GoodIn wsX5_day (wsV RX5 59 RX5 yX5_keepState wsX5_keepState) := goodIn_app (goodIn_of _ (by decide +kernel)) ggX5_day_X5_keepState
set_option maxRecDepth 20000 in
theorem ggX5_day_X0_append : GoodIn wsX5_day wsX0_append := goodIn_r _ [64, 19, 65, 66, 67, 17, 68, 47, 69, 70, 71, 72, 73, 4, 74, 6, 7, 8, 83, 84, 85, 86, 87] (by decide +kernel) (by decide +kernel)
set_option maxRecDepth 20000 in
theorem gX5_day_X0_append : GoodIn wsX5_day (wsV RX5 62 RX0 yX0_append wsX0_append) := goodIn_app (goodIn_of _ (by decide +kernel)) ggX5_day_X0_append
theorem dX5_day_0 : decode cX5_day 0 = .ok (.iload_n 1, 1) := by decide +kernel
theorem dX5_day_1 : decode cX5_day 1 = .ok (.invokestatic 44, 3) := by decide +kernel
theorem dX5_day_4 : decode cX5_day 4 = .ok (.ifCond .eq 25, 3) := by decide +kernel
theorem dX5_day_7 : decode cX5_day 7 = .ok (.iload_n 2, 1) := by decide +kernel
theorem dX5_day_8 : decode cX5_day 8 = .ok (.invokestatic 44, 3) := by decide +kernel
theorem dX5_day_11 : decode cX5_day 11 = .ok (.ifCond .eq 18, 3) := by decide +kernel
theorem dX5_day_14 : decode cX5_day 14 = .ok (.iload_n 3, 1) := by decide +kernel
theorem dX5_day_15 : decode cX5_day 15 = .ok (.invokestatic 44, 3) := by decide +kernel
theorem dX5_day_18 : decode cX5_day 18 = .ok (.ifCond .eq 11, 3) := by decide +kernel
theorem dX5_day_21 : decode cX5_day 21 = .ok (.iload 4, 2) := by decide +kernel
theorem dX5_day_23 : decode cX5_day 23 = .ok (.invokestatic 44, 3) := by decide +kernel
theorem dX5_day_26 : decode cX5_day 26 = .ok (.ifCond .ne 10, 3) := by decide +kernel
theorem dX5_day_29 : decode cX5_day 29 = .ok (.aload_n 0, 1) := by decide +kernel
theorem dX5_day_30 : decode cX5_day 30 = .ok (.bipush (-2), 2) := by decide +kernel
theorem dX5_day_32 : decode cX5_day 32 = .ok (.invokevirtual 48, 3) := by decide +kernel
theorem dX5_day_35 : decode cX5_day 35 = .ok (.ireturn, 1) := by decide +kernel
theorem dX5_day_36 : decode cX5_day 36 = .ok (.aload_n 0, 1) := by decide +kernel
theorem dX5_day_37 : decode cX5_day 37 = .ok (.getfield 10, 3) := by decide +kernel
theorem dX5_day_40 : decode cX5_day 40 = .ok (.invokevirtual 52, 3) := by decide +kernel
theorem dX5_day_43 : decode cX5_day 43 = .ok (.bipush 50, 2) := by decide +kernel
theorem dX5_day_45 : decode cX5_day 45 = .ok (.if_icmp .lt 8, 3) := by decide +kernel
theorem dX5_day_48 : decode cX5_day 48 = .ok (.aload_n 0, 1) := by decide +kernel
theorem dX5_day_49 : decode cX5_day 49 = .ok (.invokevirtual 56, 3) := by decide +kernel
theorem dX5_day_52 : decode cX5_day 52 = .ok (.ireturn, 1) := by decide +kernel
theorem dX5_day_53 : decode cX5_day 53 = .ok (.aload_n 0, 1) := by decide +kernel
theorem dX5_day_54 : decode cX5_day 54 = .ok (.invokevirtual 59, 3) := by decide +kernel
theorem dX5_day_57 : decode cX5_day 57 = .ok (.aload_n 0, 1) := by decide +kernel
theorem dX5_day_58 : decode cX5_day 58 = .ok (.getfield 10, 3) := by decide +kernel
theorem dX5_day_61 : decode cX5_day 61 = .ok (.iload_n 1, 1) := by decide +kernel
theorem dX5_day_62 : decode cX5_day 62 = .ok (.iload_n 2, 1) := by decide +kernel
theorem dX5_day_63 : decode cX5_day 63 = .ok (.iload_n 3, 1) := by decide +kernel
theorem dX5_day_64 : decode cX5_day 64 = .ok (.iload 4, 2) := by decide +kernel
theorem dX5_day_66 : decode cX5_day 66 = .ok (.invokevirtual 62, 3) := by decide +kernel
theorem dX5_day_69 : decode cX5_day 69 = .ok (.ireturn, 1) := by decide +kernel
set_option maxRecDepth 20000 in
theorem ggX5_sets_X0_has : GoodIn wsX5_sets wsX0_has := goodIn_r _ [6, 7, 76, 77, 78, 79, 80] (by decide +kernel) (by decide +kernel)
set_option maxRecDepth 20000 in
theorem gX5_sets_X0_has : GoodIn wsX5_sets (wsV RX5 66 RX0 yX0_has wsX0_has) := goodIn_app (goodIn_of _ (by decide +kernel)) ggX5_sets_X0_has
set_option maxRecDepth 20000 in
theorem ggX5_sets_X5_isMember : GoodIn wsX5_sets wsX5_isMember := goodIn_r _ [11, 12, 13, 10, 14] (by decide +kernel) (by decide +kernel)
set_option maxRecDepth 20000 in
theorem gX5_sets_X5_isMember : GoodIn wsX5_sets (va_wsS RX5 69 yX5_isMember wsX5_isMember) := goodIn_app (goodIn_of _ (by decide +kernel)) ggX5_sets_X5_isMember
set_option maxRecDepth 20000 in
theorem ggX5_sets_X5_isNote : GoodIn wsX5_sets wsX5_isNote := goodIn_r _ [17, 12, 13, 10, 14] (by decide +kernel) (by decide +kernel)
set_option maxRecDepth 20000 in
theorem gX5_sets_X5_isNote : GoodIn wsX5_sets (va_wsS RX5 44 yX5_isNote wsX5_isNote) := goodIn_app (goodIn_of _ (by decide +kernel)) ggX5_sets_X5_isNote
set_option maxRecDepth 20000 in
theorem ggX5_sets_X5_refuseBad : GoodIn wsX5_sets wsX5_refuseBad := goodIn_r _ [21, 22, 68, 69, 70, 71, 72, 73, 74, 75] (by decide +kernel) (by decide +kernel)
set_option maxRecDepth 20000 in
theorem gX5_sets_X5_refuseBad : GoodIn wsX5_sets (wsV RX5 48 RX5 yX5_refuseBad wsX5_refuseBad) := goodIn_app (goodIn_of _ (by decide +kernel)) ggX5_sets_X5_refuseBad
set_option maxRecDepth 20000 in
theorem ggX5_sets_X0_member : GoodIn wsX5_sets wsX0_member := goodIn_r _ [26, 27, 28, 3, 4, 5, 6, 7, 9, 10, 11, 12, 13, 14, 76, 77, 78, 79, 80] (by decide +kernel) (by decide +kernel)
set_option maxRecDepth 20000 in
theorem gX5_sets_X0_member : GoodIn wsX5_sets (wsV RX5 72 RX0 yX0_member wsX0_member) := goodIn_app (goodIn_of _ (by decide +kernel)) ggX5_sets_X0_member
set_option maxRecDepth 20000 in
theorem ggX5_sets_X5_keepState : GoodIn wsX5_sets wsX5_keepState := goodIn_r _ [32, 33, 1, 34, 35, 36, 37, 38, 39, 40, 41, 42, 43, 44, 45, 46, 47, 48, 49, 5, 50, 27, 51, 52, 53, 54, 55, 7, 56, 57, 58, 59, 60, 61, 62, 63, 68, 69, 70, 71, 72, 73, 74, 75, 81, 82, 83, 76, 77, 78, 79, 80, 84, 85, 86, 87, 88, 89, 90, 91, 92] (by decide +kernel) (by decide +kernel)
set_option maxRecDepth 20000 in
theorem gX5_sets_X5_keepState : GoodIn wsX5_sets (wsV RX5 59 RX5 yX5_keepState wsX5_keepState) := goodIn_app (goodIn_of _ (by decide +kernel)) ggX5_sets_X5_keepState
set_option maxRecDepth 20000 in
theorem ggX5_sets_X0_put : GoodIn wsX5_sets wsX0_put := goodIn_r _ [67, 27, 28, 3, 4, 5, 6, 7, 9, 10, 11, 12, 13, 14, 76, 77, 78, 79, 80] (by decide +kernel) (by decide +kernel)
set_option maxRecDepth 20000 in
theorem gX5_sets_X0_put : GoodIn wsX5_sets (wsV RX5 76 RX0 yX0_put wsX0_put) := goodIn_app (goodIn_of _ (by decide +kernel)) ggX5_sets_X0_put
theorem dX5_sets_0 : decode cX5_sets 0 = .ok (.aload_n 0, 1) := by decide +kernel
theorem dX5_sets_1 : decode cX5_sets 1 = .ok (.getfield 10, 3) := by decide +kernel
theorem dX5_sets_4 : decode cX5_sets 4 = .ok (.iload_n 1, 1) := by decide +kernel
theorem dX5_sets_5 : decode cX5_sets 5 = .ok (.invokevirtual 66, 3) := by decide +kernel
theorem dX5_sets_8 : decode cX5_sets 8 = .ok (.ifCond .eq 17, 3) := by decide +kernel
theorem dX5_sets_11 : decode cX5_sets 11 = .ok (.iload_n 2, 1) := by decide +kernel
theorem dX5_sets_12 : decode cX5_sets 12 = .ok (.invokestatic 69, 3) := by decide +kernel
theorem dX5_sets_15 : decode cX5_sets 15 = .ok (.ifCond .eq 10, 3) := by decide +kernel
theorem dX5_sets_18 : decode cX5_sets 18 = .ok (.iload_n 3, 1) := by decide +kernel
theorem dX5_sets_19 : decode cX5_sets 19 = .ok (.invokestatic 44, 3) := by decide +kernel
theorem dX5_sets_22 : decode cX5_sets 22 = .ok (.ifCond .ne 11, 3) := by decide +kernel
theorem dX5_sets_25 : decode cX5_sets 25 = .ok (.aload_n 0, 1) := by decide +kernel
theorem dX5_sets_26 : decode cX5_sets 26 = .ok (.sipush (-20000), 3) := by decide +kernel
theorem dX5_sets_29 : decode cX5_sets 29 = .ok (.invokevirtual 48, 3) := by decide +kernel
theorem dX5_sets_32 : decode cX5_sets 32 = .ok (.ireturn, 1) := by decide +kernel
theorem dX5_sets_33 : decode cX5_sets 33 = .ok (.aload_n 0, 1) := by decide +kernel
theorem dX5_sets_34 : decode cX5_sets 34 = .ok (.getfield 10, 3) := by decide +kernel
theorem dX5_sets_37 : decode cX5_sets 37 = .ok (.iload_n 1, 1) := by decide +kernel
theorem dX5_sets_38 : decode cX5_sets 38 = .ok (.iload_n 2, 1) := by decide +kernel
theorem dX5_sets_39 : decode cX5_sets 39 = .ok (.invokevirtual 72, 3) := by decide +kernel
theorem dX5_sets_42 : decode cX5_sets 42 = .ok (.istore 4, 2) := by decide +kernel
theorem dX5_sets_44 : decode cX5_sets 44 = .ok (.aload_n 0, 1) := by decide +kernel
theorem dX5_sets_45 : decode cX5_sets 45 = .ok (.invokevirtual 59, 3) := by decide +kernel
theorem dX5_sets_48 : decode cX5_sets 48 = .ok (.aload_n 0, 1) := by decide +kernel
theorem dX5_sets_49 : decode cX5_sets 49 = .ok (.getfield 10, 3) := by decide +kernel
theorem dX5_sets_52 : decode cX5_sets 52 = .ok (.iload_n 1, 1) := by decide +kernel
theorem dX5_sets_53 : decode cX5_sets 53 = .ok (.iload_n 2, 1) := by decide +kernel
theorem dX5_sets_54 : decode cX5_sets 54 = .ok (.iload_n 3, 1) := by decide +kernel
theorem dX5_sets_55 : decode cX5_sets 55 = .ok (.invokevirtual 76, 3) := by decide +kernel
theorem dX5_sets_58 : decode cX5_sets 58 = .ok (.iload 4, 2) := by decide +kernel
theorem dX5_sets_60 : decode cX5_sets 60 = .ok (.ireturn, 1) := by decide +kernel
set_option maxRecDepth 20000 in
theorem ggX5_draw_X5_isWithin : GoodIn wsX5_draw wsX5_isWithin := goodIn_r _ [6] (by decide +kernel) (by decide +kernel)
set_option maxRecDepth 20000 in
theorem gX5_draw_X5_isWithin : GoodIn wsX5_draw (va_wsS RX5 81 yX5_isWithin wsX5_isWithin) := goodIn_app (goodIn_of _ (by decide +kernel)) ggX5_draw_X5_isWithin
set_option maxRecDepth 20000 in
theorem ggX5_draw_X5_refuseBad : GoodIn wsX5_draw wsX5_refuseBad := goodIn_r _ [10, 11, 83, 84, 85, 86, 87, 88, 89, 90] (by decide +kernel) (by decide +kernel)
set_option maxRecDepth 20000 in
theorem gX5_draw_X5_refuseBad : GoodIn wsX5_draw (wsV RX5 48 RX5 yX5_refuseBad wsX5_refuseBad) := goodIn_app (goodIn_of _ (by decide +kernel)) ggX5_draw_X5_refuseBad
set_option maxRecDepth 20000 in
theorem ggX5_draw_X5_keepState : GoodIn wsX5_draw wsX5_keepState := goodIn_r _ [15, 16, 2, 17, 18, 19, 20, 21, 22, 23, 24, 25, 26, 27, 28, 29, 30, 31, 32, 33, 34, 35, 36, 37, 38, 39, 40, 41, 42, 43, 44, 45, 46, 47, 48, 49, 83, 84, 85, 86, 87, 88, 89, 90, 91, 92, 93, 94, 95, 96, 97, 98, 99, 100, 101, 102, 103, 104, 105, 106, 107] (by decide +kernel) (by decide +kernel)
set_option maxRecDepth 20000 in
theorem gX5_draw_X5_keepState : GoodIn wsX5_draw (wsV RX5 59 RX5 yX5_keepState wsX5_keepState) := goodIn_app (goodIn_of _ (by decide +kernel)) ggX5_draw_X5_keepState
set_option maxRecDepth 20000 in
theorem ggX5_draw_X0_fillByChance : GoodIn wsX5_draw wsX0_fillByChance := goodIn_r _ [53, 54, 26, 27, 28, 55, 56, 57, 41, 58, 59, 60, 61, 62, 63, 64, 65, 66, 67, 33, 68, 35, 69, 70, 71, 72, 73, 5, 74, 3, 4, 6, 75, 76, 77, 78, 79, 80, 81, 82, 94, 95, 96, 97, 98] (by decide +kernel) (by decide +kernel)
set_option maxRecDepth 20000 in
theorem gX5_draw_X0_fillByChance : GoodIn wsX5_draw (wsV RX5 85 RX0 yX0_fillByChance wsX0_fillByChance) := goodIn_app (goodIn_of _ (by decide +kernel)) ggX5_draw_X0_fillByChance
theorem dX5_draw_0 : decode cX5_draw 0 = .ok (.iload_n 1, 1) := by decide +kernel
theorem dX5_draw_1 : decode cX5_draw 1 = .ok (.iconst 0, 1) := by decide +kernel
theorem dX5_draw_2 : decode cX5_draw 2 = .ok (.ldc 80, 2) := by decide +kernel
theorem dX5_draw_4 : decode cX5_draw 4 = .ok (.invokestatic 81, 3) := by decide +kernel
theorem dX5_draw_7 : decode cX5_draw 7 = .ok (.ifCond .eq 13, 3) := by decide +kernel
theorem dX5_draw_10 : decode cX5_draw 10 = .ok (.iload_n 2, 1) := by decide +kernel
theorem dX5_draw_11 : decode cX5_draw 11 = .ok (.iconst 1, 1) := by decide +kernel
theorem dX5_draw_12 : decode cX5_draw 12 = .ok (.bipush 50, 2) := by decide +kernel
theorem dX5_draw_14 : decode cX5_draw 14 = .ok (.invokestatic 81, 3) := by decide +kernel
theorem dX5_draw_17 : decode cX5_draw 17 = .ok (.ifCond .ne 10, 3) := by decide +kernel
theorem dX5_draw_20 : decode cX5_draw 20 = .ok (.aload_n 0, 1) := by decide +kernel
theorem dX5_draw_21 : decode cX5_draw 21 = .ok (.bipush (-2), 2) := by decide +kernel
theorem dX5_draw_23 : decode cX5_draw 23 = .ok (.invokevirtual 48, 3) := by decide +kernel
theorem dX5_draw_26 : decode cX5_draw 26 = .ok (.ireturn, 1) := by decide +kernel
theorem dX5_draw_27 : decode cX5_draw 27 = .ok (.aload_n 0, 1) := by decide +kernel
theorem dX5_draw_28 : decode cX5_draw 28 = .ok (.invokevirtual 59, 3) := by decide +kernel
theorem dX5_draw_31 : decode cX5_draw 31 = .ok (.aload_n 0, 1) := by decide +kernel
theorem dX5_draw_32 : decode cX5_draw 32 = .ok (.getfield 10, 3) := by decide +kernel
theorem dX5_draw_35 : decode cX5_draw 35 = .ok (.iload_n 1, 1) := by decide +kernel
theorem dX5_draw_36 : decode cX5_draw 36 = .ok (.iload_n 2, 1) := by decide +kernel
theorem dX5_draw_37 : decode cX5_draw 37 = .ok (.invokevirtual 85, 3) := by decide +kernel
theorem dX5_draw_40 : decode cX5_draw 40 = .ok (.ireturn, 1) := by decide +kernel
set_option maxRecDepth 20000 in
theorem ggX5_empties_X0_days : GoodIn wsX5_empties wsX0_days := goodIn_r _ [6, 7, 57, 58, 59, 60, 61] (by decide +kernel) (by decide +kernel)
set_option maxRecDepth 20000 in
theorem gX5_empties_X0_days : GoodIn wsX5_empties (wsV RX5 52 RX0 yX0_days wsX0_days) := goodIn_app (goodIn_of _ (by decide +kernel)) ggX5_empties_X0_days
set_option maxRecDepth 20000 in
theorem ggX5_empties_X5_keepState : GoodIn wsX5_empties wsX5_keepState := goodIn_r _ [12, 13, 1, 14, 15, 16, 17, 18, 19, 20, 21, 22, 23, 24, 25, 26, 27, 28, 29, 5, 30, 31, 32, 33, 34, 35, 36, 7, 37, 38, 39, 40, 41, 42, 43, 44, 49, 50, 51, 52, 53, 54, 55, 56, 62, 63, 64, 57, 58, 59, 60, 61, 65, 66, 67, 68, 69, 70, 71, 72, 73] (by decide +kernel) (by decide +kernel)
set_option maxRecDepth 20000 in
theorem gX5_empties_X5_keepState : GoodIn wsX5_empties (wsV RX5 59 RX5 yX5_keepState wsX5_keepState) := goodIn_app (goodIn_of _ (by decide +kernel)) ggX5_empties_X5_keepState
set_option maxRecDepth 20000 in
theorem ggX5_empties_X0_removeAll : GoodIn wsX5_empties wsX0_removeAll := goodIn_r _ [48, 7, 57, 58, 59, 60, 61] (by decide +kernel) (by decide +kernel)
set_option maxRecDepth 20000 in
theorem gX5_empties_X0_removeAll : GoodIn wsX5_empties (wsV RX5 88 RX0 yX0_removeAll wsX0_removeAll) := goodIn_app (goodIn_of _ (by decide +kernel)) ggX5_empties_X0_removeAll
theorem dX5_empties_0 : decode cX5_empties 0 = .ok (.aload_n 0, 1) := by decide +kernel
theorem dX5_empties_1 : decode cX5_empties 1 = .ok (.getfield 10, 3) := by decide +kernel
theorem dX5_empties_4 : decode cX5_empties 4 = .ok (.invokevirtual 52, 3) := by decide +kernel
theorem dX5_empties_7 : decode cX5_empties 7 = .ok (.istore_n 1, 1) := by decide +kernel
theorem dX5_empties_8 : decode cX5_empties 8 = .ok (.aload_n 0, 1) := by decide +kernel
theorem dX5_empties_9 : decode cX5_empties 9 = .ok (.invokevirtual 59, 3) := by decide +kernel
theorem dX5_empties_12 : decode cX5_empties 12 = .ok (.aload_n 0, 1) := by decide +kernel
theorem dX5_empties_13 : decode cX5_empties 13 = .ok (.getfield 10, 3) := by decide +kernel
theorem dX5_empties_16 : decode cX5_empties 16 = .ok (.invokevirtual 88, 3) := by decide +kernel
theorem dX5_empties_19 : decode cX5_empties 19 = .ok (.iload_n 1, 1) := by decide +kernel
theorem dX5_empties_20 : decode cX5_empties 20 = .ok (.ireturn, 1) := by decide +kernel
set_option maxRecDepth 20000 in
theorem ggX5_rules_X5_isRule : GoodIn wsX5_rules wsX5_isRule := goodIn_r _ [5, 6, 7, 4, 8, 9, 10, 11] (by decide +kernel) (by decide +kernel)
set_option maxRecDepth 20000 in
theorem gX5_rules_X5_isRule : GoodIn wsX5_rules (va_wsS RX5 91 yX5_isRule wsX5_isRule) := goodIn_app (goodIn_of _ (by decide +kernel)) ggX5_rules_X5_isRule
set_option maxRecDepth 20000 in
theorem ggX5_rules_X5_refuseBad : GoodIn wsX5_rules wsX5_refuseBad := goodIn_r _ [15, 16, 63, 64, 65, 66, 67, 68, 69, 70] (by decide +kernel) (by decide +kernel)
set_option maxRecDepth 20000 in
theorem gX5_rules_X5_refuseBad : GoodIn wsX5_rules (wsV RX5 48 RX5 yX5_refuseBad wsX5_refuseBad) := goodIn_app (goodIn_of _ (by decide +kernel)) ggX5_rules_X5_refuseBad
set_option maxRecDepth 20000 in
theorem ggX5_rules_X0_rule : GoodIn wsX5_rules wsX0_rule := goodIn_r _ [21, 22, 23, 24, 10, 4, 11, 6, 7, 8, 71, 72, 73, 74, 75] (by decide +kernel) (by decide +kernel)
set_option maxRecDepth 20000 in
theorem gX5_rules_X0_rule : GoodIn wsX5_rules (wsV RX5 95 RX0 yX0_rule wsX0_rule) := goodIn_app (goodIn_of _ (by decide +kernel)) ggX5_rules_X0_rule
set_option maxRecDepth 20000 in
theorem ggX5_rules_X5_keepState : GoodIn wsX5_rules wsX5_keepState := goodIn_r _ [28, 29, 1, 30, 31, 32, 33, 34, 35, 36, 37, 38, 39, 40, 41, 42, 43, 44, 45, 20, 46, 47, 48, 49, 50, 51, 24, 52, 22, 23, 53, 54, 55, 56, 57, 58, 63, 64, 65, 66, 67, 68, 69, 70, 76, 77, 78, 71, 72, 73, 74, 75, 79, 80, 81, 82, 83, 84, 85, 86, 87] (by decide +kernel) (by decide +kernel)
set_option maxRecDepth 20000 in
theorem gX5_rules_X5_keepState : GoodIn wsX5_rules (wsV RX5 59 RX5 yX5_keepState wsX5_keepState) := goodIn_app (goodIn_of _ (by decide +kernel)) ggX5_rules_X5_keepState
set_option maxRecDepth 20000 in
theorem ggX5_rules_X0_setRule : GoodIn wsX5_rules wsX0_setRule := goodIn_r _ [62, 22, 23, 24, 10, 4, 11, 6, 7, 8, 71, 72, 73, 74, 75] (by decide +kernel) (by decide +kernel)
set_option maxRecDepth 20000 in
theorem gX5_rules_X0_setRule : GoodIn wsX5_rules (wsV RX5 98 RX0 yX0_setRule wsX0_setRule) := goodIn_app (goodIn_of _ (by decide +kernel)) ggX5_rules_X0_setRule
theorem dX5_rules_0 : decode cX5_rules 0 = .ok (.iload_n 1, 1) := by decide +kernel
theorem dX5_rules_1 : decode cX5_rules 1 = .ok (.iload_n 2, 1) := by decide +kernel
theorem dX5_rules_2 : decode cX5_rules 2 = .ok (.invokestatic 91, 3) := by decide +kernel
theorem dX5_rules_5 : decode cX5_rules 5 = .ok (.ifCond .ne 10, 3) := by decide +kernel
theorem dX5_rules_8 : decode cX5_rules 8 = .ok (.aload_n 0, 1) := by decide +kernel
theorem dX5_rules_9 : decode cX5_rules 9 = .ok (.bipush (-2), 2) := by decide +kernel
theorem dX5_rules_11 : decode cX5_rules 11 = .ok (.invokevirtual 48, 3) := by decide +kernel
theorem dX5_rules_14 : decode cX5_rules 14 = .ok (.ireturn, 1) := by decide +kernel
theorem dX5_rules_15 : decode cX5_rules 15 = .ok (.aload_n 0, 1) := by decide +kernel
theorem dX5_rules_16 : decode cX5_rules 16 = .ok (.getfield 10, 3) := by decide +kernel
theorem dX5_rules_19 : decode cX5_rules 19 = .ok (.iload_n 1, 1) := by decide +kernel
theorem dX5_rules_20 : decode cX5_rules 20 = .ok (.invokevirtual 95, 3) := by decide +kernel
theorem dX5_rules_23 : decode cX5_rules 23 = .ok (.istore_n 3, 1) := by decide +kernel
theorem dX5_rules_24 : decode cX5_rules 24 = .ok (.aload_n 0, 1) := by decide +kernel
theorem dX5_rules_25 : decode cX5_rules 25 = .ok (.invokevirtual 59, 3) := by decide +kernel
theorem dX5_rules_28 : decode cX5_rules 28 = .ok (.aload_n 0, 1) := by decide +kernel
theorem dX5_rules_29 : decode cX5_rules 29 = .ok (.getfield 10, 3) := by decide +kernel
theorem dX5_rules_32 : decode cX5_rules 32 = .ok (.iload_n 1, 1) := by decide +kernel
theorem dX5_rules_33 : decode cX5_rules 33 = .ok (.iload_n 2, 1) := by decide +kernel
theorem dX5_rules_34 : decode cX5_rules 34 = .ok (.invokevirtual 98, 3) := by decide +kernel
theorem dX5_rules_37 : decode cX5_rules 37 = .ok (.iload_n 3, 1) := by decide +kernel
theorem dX5_rules_38 : decode cX5_rules 38 = .ok (.ireturn, 1) := by decide +kernel
set_option maxRecDepth 20000 in
theorem ggX5_at_X0_has : GoodIn wsX5_at wsX0_has := goodIn_r _ [6, 7, 34, 35, 36, 37, 38] (by decide +kernel) (by decide +kernel)
set_option maxRecDepth 20000 in
theorem gX5_at_X0_has : GoodIn wsX5_at (wsV RX5 66 RX0 yX0_has wsX0_has) := goodIn_app (goodIn_of _ (by decide +kernel)) ggX5_at_X0_has
set_option maxRecDepth 20000 in
theorem ggX5_at_X5_isMember : GoodIn wsX5_at wsX5_isMember := goodIn_r _ [11, 12, 13, 10, 14] (by decide +kernel) (by decide +kernel)
set_option maxRecDepth 20000 in
theorem gX5_at_X5_isMember : GoodIn wsX5_at (va_wsS RX5 69 yX5_isMember wsX5_isMember) := goodIn_app (goodIn_of _ (by decide +kernel)) ggX5_at_X5_isMember
set_option maxRecDepth 20000 in
theorem ggX5_at_X5_refuseBad : GoodIn wsX5_at wsX5_refuseBad := goodIn_r _ [18, 19, 26, 27, 28, 29, 30, 31, 32, 33] (by decide +kernel) (by decide +kernel)
set_option maxRecDepth 20000 in
theorem gX5_at_X5_refuseBad : GoodIn wsX5_at (wsV RX5 48 RX5 yX5_refuseBad wsX5_refuseBad) := goodIn_app (goodIn_of _ (by decide +kernel)) ggX5_at_X5_refuseBad
set_option maxRecDepth 20000 in
theorem ggX5_at_X0_member : GoodIn wsX5_at wsX0_member := goodIn_r _ [23, 24, 25, 3, 4, 5, 6, 7, 9, 10, 11, 12, 13, 14, 34, 35, 36, 37, 38] (by decide +kernel) (by decide +kernel)
set_option maxRecDepth 20000 in
theorem gX5_at_X0_member : GoodIn wsX5_at (wsV RX5 72 RX0 yX0_member wsX0_member) := goodIn_app (goodIn_of _ (by decide +kernel)) ggX5_at_X0_member
theorem dX5_at_0 : decode cX5_at 0 = .ok (.aload_n 0, 1) := by decide +kernel
theorem dX5_at_1 : decode cX5_at 1 = .ok (.getfield 10, 3) := by decide +kernel
theorem dX5_at_4 : decode cX5_at 4 = .ok (.iload_n 1, 1) := by decide +kernel
theorem dX5_at_5 : decode cX5_at 5 = .ok (.invokevirtual 66, 3) := by decide +kernel
theorem dX5_at_8 : decode cX5_at 8 = .ok (.ifCond .eq 10, 3) := by decide +kernel
theorem dX5_at_11 : decode cX5_at 11 = .ok (.iload_n 2, 1) := by decide +kernel
theorem dX5_at_12 : decode cX5_at 12 = .ok (.invokestatic 69, 3) := by decide +kernel
theorem dX5_at_15 : decode cX5_at 15 = .ok (.ifCond .ne 11, 3) := by decide +kernel
theorem dX5_at_18 : decode cX5_at 18 = .ok (.aload_n 0, 1) := by decide +kernel
theorem dX5_at_19 : decode cX5_at 19 = .ok (.sipush (-20000), 3) := by decide +kernel
theorem dX5_at_22 : decode cX5_at 22 = .ok (.invokevirtual 48, 3) := by decide +kernel
theorem dX5_at_25 : decode cX5_at 25 = .ok (.ireturn, 1) := by decide +kernel
theorem dX5_at_26 : decode cX5_at 26 = .ok (.aload_n 0, 1) := by decide +kernel
theorem dX5_at_27 : decode cX5_at 27 = .ok (.getfield 10, 3) := by decide +kernel
theorem dX5_at_30 : decode cX5_at 30 = .ok (.iload_n 1, 1) := by decide +kernel
theorem dX5_at_31 : decode cX5_at 31 = .ok (.iload_n 2, 1) := by decide +kernel
theorem dX5_at_32 : decode cX5_at 32 = .ok (.invokevirtual 72, 3) := by decide +kernel
theorem dX5_at_35 : decode cX5_at 35 = .ok (.ireturn, 1) := by decide +kernel
set_option maxRecDepth 20000 in
theorem ggX5_distance_X0_has : GoodIn wsX5_distance wsX0_has := goodIn_r _ [7, 8, 108, 109, 110, 111, 112] (by decide +kernel) (by decide +kernel)
set_option maxRecDepth 20000 in
theorem gX5_distance_X0_has : GoodIn wsX5_distance (wsV RX5 66 RX0 yX0_has wsX0_has) := goodIn_app (goodIn_of _ (by decide +kernel)) ggX5_distance_X0_has
set_option maxRecDepth 20000 in
theorem ggX5_distance_X5_refuseBad : GoodIn wsX5_distance wsX5_refuseBad := goodIn_r _ [13, 14, 100, 101, 102, 103, 104, 105, 106, 107] (by decide +kernel) (by decide +kernel)
set_option maxRecDepth 20000 in
theorem gX5_distance_X5_refuseBad : GoodIn wsX5_distance (wsV RX5 48 RX5 yX5_refuseBad wsX5_refuseBad) := goodIn_app (goodIn_of _ (by decide +kernel)) ggX5_distance_X5_refuseBad
set_option maxRecDepth 20000 in
theorem ggX5_distance_X2_learn : GoodIn wsX5_distance wsX2_learn := goodIn_r _ [19, 20, 21, 22, 23, 24, 25, 26, 27, 28, 29, 30, 31, 6, 32, 8, 33, 34, 35, 18, 36, 37, 38, 39, 40, 41, 42, 43, 44, 4, 5, 7, 45, 12, 46, 47, 48, 49, 50, 51, 52, 53, 54, 55, 56, 57, 58, 59, 60, 61, 62, 63, 64, 65, 66, 67, 68, 69, 70, 71, 72, 73, 74, 75, 76, 77, 78, 79, 80, 81, 82, 83, 84, 85, 86, 87, 88, 89, 90, 113, 114, 115, 116, 117, 118, 119, 120, 121, 108, 109, 110, 111, 112] (by decide +kernel) (by decide +kernel)
set_option maxRecDepth 20000 in
theorem gX5_distance_X2_learn : GoodIn wsX5_distance (wsV RX5 102 RX2 yX2_learn wsX2_learn) := goodIn_app (goodIn_of _ (by decide +kernel)) ggX5_distance_X2_learn
set_option maxRecDepth 20000 in
theorem ggX5_distance_X2_between : GoodIn wsX5_distance wsX2_between := goodIn_r _ [86, 28, 64, 87, 88, 89, 18, 90, 25, 113, 114, 115, 116, 117, 118, 119, 120, 121] (by decide +kernel) (by decide +kernel)
set_option maxRecDepth 20000 in
theorem gX5_distance_X2_between : GoodIn wsX5_distance (wsV RX5 106 RX2 yX2_between wsX2_between) := goodIn_app (goodIn_of _ (by decide +kernel)) ggX5_distance_X2_between
set_option maxRecDepth 20000 in
theorem ggX5_distance_X5_bitsOrNone : GoodIn wsX5_distance wsX5_bitsOrNone := goodIn_r _ [94, 95, 96, 12, 97, 98, 99] (by decide +kernel) (by decide +kernel)
set_option maxRecDepth 20000 in
theorem gX5_distance_X5_bitsOrNone : GoodIn wsX5_distance (va_wsS RX5 110 yX5_bitsOrNone wsX5_bitsOrNone) := goodIn_app (goodIn_of _ (by decide +kernel)) ggX5_distance_X5_bitsOrNone
theorem dX5_distance_0 : decode cX5_distance 0 = .ok (.aload_n 0, 1) := by decide +kernel
theorem dX5_distance_1 : decode cX5_distance 1 = .ok (.getfield 10, 3) := by decide +kernel
theorem dX5_distance_4 : decode cX5_distance 4 = .ok (.iload_n 1, 1) := by decide +kernel
theorem dX5_distance_5 : decode cX5_distance 5 = .ok (.invokevirtual 66, 3) := by decide +kernel
theorem dX5_distance_8 : decode cX5_distance 8 = .ok (.ifCond .eq 19, 3) := by decide +kernel
theorem dX5_distance_11 : decode cX5_distance 11 = .ok (.aload_n 0, 1) := by decide +kernel
theorem dX5_distance_12 : decode cX5_distance 12 = .ok (.getfield 10, 3) := by decide +kernel
theorem dX5_distance_15 : decode cX5_distance 15 = .ok (.iload_n 2, 1) := by decide +kernel
theorem dX5_distance_16 : decode cX5_distance 16 = .ok (.invokevirtual 66, 3) := by decide +kernel
theorem dX5_distance_19 : decode cX5_distance 19 = .ok (.ifCond .eq 8, 3) := by decide +kernel
theorem dX5_distance_22 : decode cX5_distance 22 = .ok (.iload_n 1, 1) := by decide +kernel
theorem dX5_distance_23 : decode cX5_distance 23 = .ok (.iload_n 2, 1) := by decide +kernel
theorem dX5_distance_24 : decode cX5_distance 24 = .ok (.if_icmp .ne 10, 3) := by decide +kernel
theorem dX5_distance_27 : decode cX5_distance 27 = .ok (.aload_n 0, 1) := by decide +kernel
theorem dX5_distance_28 : decode cX5_distance 28 = .ok (.bipush (-2), 2) := by decide +kernel
theorem dX5_distance_30 : decode cX5_distance 30 = .ok (.invokevirtual 48, 3) := by decide +kernel
theorem dX5_distance_33 : decode cX5_distance 33 = .ok (.ireturn, 1) := by decide +kernel
theorem dX5_distance_34 : decode cX5_distance 34 = .ok (.aload_n 0, 1) := by decide +kernel
theorem dX5_distance_35 : decode cX5_distance 35 = .ok (.getfield 26, 3) := by decide +kernel
theorem dX5_distance_38 : decode cX5_distance 38 = .ok (.aload_n 0, 1) := by decide +kernel
theorem dX5_distance_39 : decode cX5_distance 39 = .ok (.getfield 10, 3) := by decide +kernel
theorem dX5_distance_42 : decode cX5_distance 42 = .ok (.iconst (-1), 1) := by decide +kernel
theorem dX5_distance_43 : decode cX5_distance 43 = .ok (.invokevirtual 102, 3) := by decide +kernel
theorem dX5_distance_46 : decode cX5_distance 46 = .ok (.aload_n 0, 1) := by decide +kernel
theorem dX5_distance_47 : decode cX5_distance 47 = .ok (.getfield 26, 3) := by decide +kernel
theorem dX5_distance_50 : decode cX5_distance 50 = .ok (.iload_n 1, 1) := by decide +kernel
theorem dX5_distance_51 : decode cX5_distance 51 = .ok (.iload_n 2, 1) := by decide +kernel
theorem dX5_distance_52 : decode cX5_distance 52 = .ok (.invokevirtual 106, 3) := by decide +kernel
theorem dX5_distance_55 : decode cX5_distance 55 = .ok (.invokestatic 110, 3) := by decide +kernel
theorem dX5_distance_58 : decode cX5_distance 58 = .ok (.ireturn, 1) := by decide +kernel
set_option maxRecDepth 20000 in
theorem ggX5_nearest_X0_has : GoodIn wsX5_nearest wsX0_has := goodIn_r _ [7, 8, 120, 121, 122, 123, 124] (by decide +kernel) (by decide +kernel)
set_option maxRecDepth 20000 in
theorem gX5_nearest_X0_has : GoodIn wsX5_nearest (wsV RX5 66 RX0 yX0_has wsX0_has) := goodIn_app (goodIn_of _ (by decide +kernel)) ggX5_nearest_X0_has
set_option maxRecDepth 20000 in
theorem ggX5_nearest_X5_isWithin : GoodIn wsX5_nearest wsX5_isWithin := goodIn_r _ [12] (by decide +kernel) (by decide +kernel)
set_option maxRecDepth 20000 in
theorem gX5_nearest_X5_isWithin : GoodIn wsX5_nearest (va_wsS RX5 81 yX5_isWithin wsX5_isWithin) := goodIn_app (goodIn_of _ (by decide +kernel)) ggX5_nearest_X5_isWithin
set_option maxRecDepth 20000 in
theorem ggX5_nearest_X5_refuseBad : GoodIn wsX5_nearest wsX5_refuseBad := goodIn_r _ [16, 17, 112, 113, 114, 115, 116, 117, 118, 119] (by decide +kernel) (by decide +kernel)
set_option maxRecDepth 20000 in
theorem gX5_nearest_X5_refuseBad : GoodIn wsX5_nearest (wsV RX5 48 RX5 yX5_refuseBad wsX5_refuseBad) := goodIn_app (goodIn_of _ (by decide +kernel)) ggX5_nearest_X5_refuseBad
set_option maxRecDepth 20000 in
theorem ggX5_nearest_X2_learn : GoodIn wsX5_nearest wsX2_learn := goodIn_r _ [22, 23, 24, 25, 26, 27, 28, 29, 30, 31, 32, 33, 34, 6, 35, 8, 36, 37, 38, 21, 39, 40, 41, 42, 43, 44, 45, 46, 47, 4, 5, 7, 48, 11, 49, 9, 10, 12, 50, 51, 52, 53, 54, 55, 56, 57, 58, 59, 60, 61, 62, 63, 64, 65, 66, 67, 68, 69, 70, 71, 72, 73, 74, 75, 76, 77, 78, 79, 80, 81, 82, 83, 84, 85, 86, 87, 88, 89, 90, 125, 126, 127, 128, 129, 130, 131, 132, 133, 120, 121, 122, 123, 124] (by decide +kernel) (by decide +kernel)
set_option maxRecDepth 20000 in
theorem gX5_nearest_X2_learn : GoodIn wsX5_nearest (wsV RX5 102 RX2 yX2_learn wsX2_learn) := goodIn_app (goodIn_of _ (by decide +kernel)) ggX5_nearest_X2_learn
set_option maxRecDepth 20000 in
theorem ggX5_nearest_X0_few : GoodIn wsX5_nearest wsX0_few := goodIn_r _ [94, 58, 120, 121, 122, 123, 124] (by decide +kernel) (by decide +kernel)
set_option maxRecDepth 20000 in
theorem gX5_nearest_X0_few : GoodIn wsX5_nearest (wsV RX5 114 RX0 yX0_few wsX0_few) := goodIn_app (goodIn_of _ (by decide +kernel)) ggX5_nearest_X0_few
set_option maxRecDepth 20000 in
theorem ggX5_nearest_X2_nearOnes : GoodIn wsX5_nearest wsX2_nearOnes := goodIn_r _ [98, 77, 24, 25, 26, 27, 87, 88, 89, 21, 90, 28, 125, 126, 127, 128, 129, 130, 131, 132, 133] (by decide +kernel) (by decide +kernel)
set_option maxRecDepth 20000 in
theorem gX5_nearest_X2_nearOnes : GoodIn wsX5_nearest (wsV RX5 117 RX2 yX2_nearOnes wsX2_nearOnes) := goodIn_app (goodIn_of _ (by decide +kernel)) ggX5_nearest_X2_nearOnes
set_option maxRecDepth 20000 in
theorem ggX5_nearest_X2_near : GoodIn wsX5_nearest wsX2_near := goodIn_r _ [102, 77, 82, 87, 88, 89, 21, 90, 28, 125, 126, 127, 128, 129, 130, 131, 132, 133] (by decide +kernel) (by decide +kernel)
set_option maxRecDepth 20000 in
theorem gX5_nearest_X2_near : GoodIn wsX5_nearest (wsV RX5 120 RX2 yX2_near wsX2_near) := goodIn_app (goodIn_of _ (by decide +kernel)) ggX5_nearest_X2_near
set_option maxRecDepth 20000 in
theorem ggX5_nearest_X2_between : GoodIn wsX5_nearest wsX2_between := goodIn_r _ [86, 31, 64, 87, 88, 89, 21, 90, 28, 125, 126, 127, 128, 129, 130, 131, 132, 133] (by decide +kernel) (by decide +kernel)
set_option maxRecDepth 20000 in
theorem gX5_nearest_X2_between : GoodIn wsX5_nearest (wsV RX5 106 RX2 yX2_between wsX2_between) := goodIn_app (goodIn_of _ (by decide +kernel)) ggX5_nearest_X2_between
set_option maxRecDepth 20000 in
theorem ggX5_nearest_X5_bitsOrNone : GoodIn wsX5_nearest wsX5_bitsOrNone := goodIn_r _ [106, 107, 108, 11, 109, 110, 111] (by decide +kernel) (by decide +kernel)
set_option maxRecDepth 20000 in
theorem gX5_nearest_X5_bitsOrNone : GoodIn wsX5_nearest (va_wsS RX5 110 yX5_bitsOrNone wsX5_bitsOrNone) := goodIn_app (goodIn_of _ (by decide +kernel)) ggX5_nearest_X5_bitsOrNone
theorem dX5_nearest_0 : decode cX5_nearest 0 = .ok (.aload_n 0, 1) := by decide +kernel
theorem dX5_nearest_1 : decode cX5_nearest 1 = .ok (.getfield 10, 3) := by decide +kernel
theorem dX5_nearest_4 : decode cX5_nearest 4 = .ok (.iload_n 1, 1) := by decide +kernel
theorem dX5_nearest_5 : decode cX5_nearest 5 = .ok (.invokevirtual 66, 3) := by decide +kernel
theorem dX5_nearest_8 : decode cX5_nearest 8 = .ok (.ifCond .eq 16, 3) := by decide +kernel
theorem dX5_nearest_11 : decode cX5_nearest 11 = .ok (.iload_n 2, 1) := by decide +kernel
theorem dX5_nearest_12 : decode cX5_nearest 12 = .ok (.ifCond .lt 12, 3) := by decide +kernel
theorem dX5_nearest_15 : decode cX5_nearest 15 = .ok (.iload_n 3, 1) := by decide +kernel
theorem dX5_nearest_16 : decode cX5_nearest 16 = .ok (.iconst 0, 1) := by decide +kernel
theorem dX5_nearest_17 : decode cX5_nearest 17 = .ok (.iconst 1, 1) := by decide +kernel
theorem dX5_nearest_18 : decode cX5_nearest 18 = .ok (.invokestatic 81, 3) := by decide +kernel
theorem dX5_nearest_21 : decode cX5_nearest 21 = .ok (.ifCond .ne 10, 3) := by decide +kernel
theorem dX5_nearest_24 : decode cX5_nearest 24 = .ok (.aload_n 0, 1) := by decide +kernel
theorem dX5_nearest_25 : decode cX5_nearest 25 = .ok (.bipush (-2), 2) := by decide +kernel
theorem dX5_nearest_27 : decode cX5_nearest 27 = .ok (.invokevirtual 48, 3) := by decide +kernel
theorem dX5_nearest_30 : decode cX5_nearest 30 = .ok (.ireturn, 1) := by decide +kernel
theorem dX5_nearest_31 : decode cX5_nearest 31 = .ok (.aload_n 0, 1) := by decide +kernel
theorem dX5_nearest_32 : decode cX5_nearest 32 = .ok (.getfield 26, 3) := by decide +kernel
theorem dX5_nearest_35 : decode cX5_nearest 35 = .ok (.aload_n 0, 1) := by decide +kernel
theorem dX5_nearest_36 : decode cX5_nearest 36 = .ok (.getfield 10, 3) := by decide +kernel
theorem dX5_nearest_39 : decode cX5_nearest 39 = .ok (.iconst (-1), 1) := by decide +kernel
theorem dX5_nearest_40 : decode cX5_nearest 40 = .ok (.invokevirtual 102, 3) := by decide +kernel
theorem dX5_nearest_43 : decode cX5_nearest 43 = .ok (.iload_n 2, 1) := by decide +kernel
theorem dX5_nearest_44 : decode cX5_nearest 44 = .ok (.aload_n 0, 1) := by decide +kernel
theorem dX5_nearest_45 : decode cX5_nearest 45 = .ok (.getfield 26, 3) := by decide +kernel
theorem dX5_nearest_48 : decode cX5_nearest 48 = .ok (.iload_n 1, 1) := by decide +kernel
theorem dX5_nearest_49 : decode cX5_nearest 49 = .ok (.aload_n 0, 1) := by decide +kernel
theorem dX5_nearest_50 : decode cX5_nearest 50 = .ok (.getfield 10, 3) := by decide +kernel
theorem dX5_nearest_53 : decode cX5_nearest 53 = .ok (.invokevirtual 114, 3) := by decide +kernel
theorem dX5_nearest_56 : decode cX5_nearest 56 = .ok (.invokevirtual 117, 3) := by decide +kernel
theorem dX5_nearest_59 : decode cX5_nearest 59 = .ok (.if_icmp .lt 5, 3) := by decide +kernel
theorem dX5_nearest_62 : decode cX5_nearest 62 = .ok (.iconst (-1), 1) := by decide +kernel
theorem dX5_nearest_63 : decode cX5_nearest 63 = .ok (.ireturn, 1) := by decide +kernel
theorem dX5_nearest_64 : decode cX5_nearest 64 = .ok (.aload_n 0, 1) := by decide +kernel
theorem dX5_nearest_65 : decode cX5_nearest 65 = .ok (.getfield 26, 3) := by decide +kernel
theorem dX5_nearest_68 : decode cX5_nearest 68 = .ok (.iload_n 1, 1) := by decide +kernel
theorem dX5_nearest_69 : decode cX5_nearest 69 = .ok (.iload_n 2, 1) := by decide +kernel
theorem dX5_nearest_70 : decode cX5_nearest 70 = .ok (.invokevirtual 120, 3) := by decide +kernel
theorem dX5_nearest_73 : decode cX5_nearest 73 = .ok (.istore 4, 2) := by decide +kernel
theorem dX5_nearest_75 : decode cX5_nearest 75 = .ok (.iload_n 3, 1) := by decide +kernel
theorem dX5_nearest_76 : decode cX5_nearest 76 = .ok (.ifCond .ne 8, 3) := by decide +kernel
theorem dX5_nearest_79 : decode cX5_nearest 79 = .ok (.iload 4, 2) := by decide +kernel
theorem dX5_nearest_81 : decode cX5_nearest 81 = .ok (.goto 16, 3) := by decide +kernel
theorem dX5_nearest_84 : decode cX5_nearest 84 = .ok (.aload_n 0, 1) := by decide +kernel
theorem dX5_nearest_85 : decode cX5_nearest 85 = .ok (.getfield 26, 3) := by decide +kernel
theorem dX5_nearest_88 : decode cX5_nearest 88 = .ok (.iload_n 1, 1) := by decide +kernel
theorem dX5_nearest_89 : decode cX5_nearest 89 = .ok (.iload 4, 2) := by decide +kernel
theorem dX5_nearest_91 : decode cX5_nearest 91 = .ok (.invokevirtual 106, 3) := by decide +kernel
theorem dX5_nearest_94 : decode cX5_nearest 94 = .ok (.invokestatic 110, 3) := by decide +kernel
theorem dX5_nearest_97 : decode cX5_nearest 97 = .ok (.ireturn, 1) := by decide +kernel
set_option maxRecDepth 20000 in
theorem ggX5_likes_X0_has : GoodIn wsX5_likes wsX0_has := goodIn_r _ [7, 8, 103, 104, 105, 106, 107] (by decide +kernel) (by decide +kernel)
set_option maxRecDepth 20000 in
theorem gX5_likes_X0_has : GoodIn wsX5_likes (wsV RX5 66 RX0 yX0_has wsX0_has) := goodIn_app (goodIn_of _ (by decide +kernel)) ggX5_likes_X0_has
set_option maxRecDepth 20000 in
theorem ggX5_likes_X5_refuseBad : GoodIn wsX5_likes wsX5_refuseBad := goodIn_r _ [13, 14, 95, 96, 97, 98, 99, 100, 101, 102] (by decide +kernel) (by decide +kernel)
set_option maxRecDepth 20000 in
theorem gX5_likes_X5_refuseBad : GoodIn wsX5_likes (wsV RX5 48 RX5 yX5_refuseBad wsX5_refuseBad) := goodIn_app (goodIn_of _ (by decide +kernel)) ggX5_likes_X5_refuseBad
set_option maxRecDepth 20000 in
theorem ggX5_likes_X2_learn : GoodIn wsX5_likes wsX2_learn := goodIn_r _ [19, 20, 21, 22, 23, 24, 25, 26, 27, 28, 29, 30, 31, 6, 32, 8, 33, 34, 35, 18, 36, 37, 38, 39, 40, 41, 42, 43, 44, 4, 5, 7, 45, 12, 46, 47, 48, 49, 50, 51, 52, 53, 54, 55, 56, 57, 58, 59, 60, 61, 62, 63, 64, 65, 66, 67, 68, 69, 70, 71, 72, 73, 74, 75, 76, 77, 78, 79, 80, 81, 82, 83, 84, 85, 86, 87, 88, 89, 90, 108, 109, 110, 111, 112, 113, 114, 115, 116, 103, 104, 105, 106, 107] (by decide +kernel) (by decide +kernel)
set_option maxRecDepth 20000 in
theorem gX5_likes_X2_learn : GoodIn wsX5_likes (wsV RX5 102 RX2 yX2_learn wsX2_learn) := goodIn_app (goodIn_of _ (by decide +kernel)) ggX5_likes_X2_learn
set_option maxRecDepth 20000 in
theorem ggX5_likes_X2_likeOnes : GoodIn wsX5_likes wsX2_likeOnes := goodIn_r _ [94, 76, 87, 88, 89, 18, 90, 25, 108, 109, 110, 111, 112, 113, 114, 115, 116] (by decide +kernel) (by decide +kernel)
set_option maxRecDepth 20000 in
theorem gX5_likes_X2_likeOnes : GoodIn wsX5_likes (wsV RX5 123 RX2 yX2_likeOnes wsX2_likeOnes) := goodIn_app (goodIn_of _ (by decide +kernel)) ggX5_likes_X2_likeOnes
theorem dX5_likes_0 : decode cX5_likes 0 = .ok (.aload_n 0, 1) := by decide +kernel
theorem dX5_likes_1 : decode cX5_likes 1 = .ok (.getfield 10, 3) := by decide +kernel
theorem dX5_likes_4 : decode cX5_likes 4 = .ok (.iload_n 1, 1) := by decide +kernel
theorem dX5_likes_5 : decode cX5_likes 5 = .ok (.invokevirtual 66, 3) := by decide +kernel
theorem dX5_likes_8 : decode cX5_likes 8 = .ok (.ifCond .ne 10, 3) := by decide +kernel
theorem dX5_likes_11 : decode cX5_likes 11 = .ok (.aload_n 0, 1) := by decide +kernel
theorem dX5_likes_12 : decode cX5_likes 12 = .ok (.bipush (-2), 2) := by decide +kernel
theorem dX5_likes_14 : decode cX5_likes 14 = .ok (.invokevirtual 48, 3) := by decide +kernel
theorem dX5_likes_17 : decode cX5_likes 17 = .ok (.ireturn, 1) := by decide +kernel
theorem dX5_likes_18 : decode cX5_likes 18 = .ok (.aload_n 0, 1) := by decide +kernel
theorem dX5_likes_19 : decode cX5_likes 19 = .ok (.getfield 26, 3) := by decide +kernel
theorem dX5_likes_22 : decode cX5_likes 22 = .ok (.aload_n 0, 1) := by decide +kernel
theorem dX5_likes_23 : decode cX5_likes 23 = .ok (.getfield 10, 3) := by decide +kernel
theorem dX5_likes_26 : decode cX5_likes 26 = .ok (.iconst (-1), 1) := by decide +kernel
theorem dX5_likes_27 : decode cX5_likes 27 = .ok (.invokevirtual 102, 3) := by decide +kernel
theorem dX5_likes_30 : decode cX5_likes 30 = .ok (.aload_n 0, 1) := by decide +kernel
theorem dX5_likes_31 : decode cX5_likes 31 = .ok (.getfield 26, 3) := by decide +kernel
theorem dX5_likes_34 : decode cX5_likes 34 = .ok (.iload_n 1, 1) := by decide +kernel
theorem dX5_likes_35 : decode cX5_likes 35 = .ok (.invokevirtual 123, 3) := by decide +kernel
theorem dX5_likes_38 : decode cX5_likes 38 = .ok (.ireturn, 1) := by decide +kernel
set_option maxRecDepth 20000 in
theorem ggX5_serves_X0_has : GoodIn wsX5_serves wsX0_has := goodIn_r _ [7, 8, 116, 117, 118, 119, 120] (by decide +kernel) (by decide +kernel)
set_option maxRecDepth 20000 in
theorem gX5_serves_X0_has : GoodIn wsX5_serves (wsV RX5 66 RX0 yX0_has wsX0_has) := goodIn_app (goodIn_of _ (by decide +kernel)) ggX5_serves_X0_has
set_option maxRecDepth 20000 in
theorem ggX5_serves_X5_refuseBad : GoodIn wsX5_serves wsX5_refuseBad := goodIn_r _ [13, 14, 108, 109, 110, 111, 112, 113, 114, 115] (by decide +kernel) (by decide +kernel)
set_option maxRecDepth 20000 in
theorem gX5_serves_X5_refuseBad : GoodIn wsX5_serves (wsV RX5 48 RX5 yX5_refuseBad wsX5_refuseBad) := goodIn_app (goodIn_of _ (by decide +kernel)) ggX5_serves_X5_refuseBad
set_option maxRecDepth 20000 in
theorem ggX5_serves_X2_learn : GoodIn wsX5_serves wsX2_learn := goodIn_r _ [19, 20, 21, 22, 23, 24, 25, 26, 27, 28, 29, 30, 31, 6, 32, 8, 33, 34, 35, 18, 36, 37, 38, 39, 40, 41, 42, 43, 44, 4, 5, 7, 45, 12, 46, 47, 48, 49, 50, 51, 52, 53, 54, 55, 56, 57, 58, 59, 60, 61, 62, 63, 64, 65, 66, 67, 68, 69, 70, 71, 72, 73, 74, 75, 76, 77, 78, 79, 80, 81, 82, 83, 84, 85, 86, 87, 88, 89, 90, 121, 122, 123, 124, 125, 126, 127, 128, 129, 116, 117, 118, 119, 120] (by decide +kernel) (by decide +kernel)
set_option maxRecDepth 20000 in
theorem gX5_serves_X2_learn : GoodIn wsX5_serves (wsV RX5 102 RX2 yX2_learn wsX2_learn) := goodIn_app (goodIn_of _ (by decide +kernel)) ggX5_serves_X2_learn
set_option maxRecDepth 20000 in
theorem ggX5_serves_X0_days : GoodIn wsX5_serves wsX0_days := goodIn_r _ [32, 8, 116, 117, 118, 119, 120] (by decide +kernel) (by decide +kernel)
set_option maxRecDepth 20000 in
theorem gX5_serves_X0_days : GoodIn wsX5_serves (wsV RX5 52 RX0 yX0_days wsX0_days) := goodIn_app (goodIn_of _ (by decide +kernel)) ggX5_serves_X0_days
set_option maxRecDepth 20000 in
theorem ggX5_serves_X0_few : GoodIn wsX5_serves wsX0_few := goodIn_r _ [95, 58, 116, 117, 118, 119, 120] (by decide +kernel) (by decide +kernel)
set_option maxRecDepth 20000 in
theorem gX5_serves_X0_few : GoodIn wsX5_serves (wsV RX5 114 RX0 yX0_few wsX0_few) := goodIn_app (goodIn_of _ (by decide +kernel)) ggX5_serves_X0_few
set_option maxRecDepth 20000 in
theorem ggX5_serves_X2_isNear : GoodIn wsX5_serves wsX2_isNear := goodIn_r _ [99, 100, 101, 102, 18, 103, 77, 21, 22, 23, 24, 87, 88, 89, 90, 25, 104, 105, 106, 107, 82, 121, 122, 123, 124, 125, 126, 127, 128, 129] (by decide +kernel) (by decide +kernel)
set_option maxRecDepth 20000 in
theorem gX5_serves_X2_isNear : GoodIn wsX5_serves (wsV RX5 126 RX2 yX2_isNear wsX2_isNear) := goodIn_app (goodIn_of _ (by decide +kernel)) ggX5_serves_X2_isNear
theorem dX5_serves_0 : decode cX5_serves 0 = .ok (.aload_n 0, 1) := by decide +kernel
theorem dX5_serves_1 : decode cX5_serves 1 = .ok (.getfield 10, 3) := by decide +kernel
theorem dX5_serves_4 : decode cX5_serves 4 = .ok (.iload_n 1, 1) := by decide +kernel
theorem dX5_serves_5 : decode cX5_serves 5 = .ok (.invokevirtual 66, 3) := by decide +kernel
theorem dX5_serves_8 : decode cX5_serves 8 = .ok (.ifCond .ne 10, 3) := by decide +kernel
theorem dX5_serves_11 : decode cX5_serves 11 = .ok (.aload_n 0, 1) := by decide +kernel
theorem dX5_serves_12 : decode cX5_serves 12 = .ok (.bipush (-2), 2) := by decide +kernel
theorem dX5_serves_14 : decode cX5_serves 14 = .ok (.invokevirtual 48, 3) := by decide +kernel
theorem dX5_serves_17 : decode cX5_serves 17 = .ok (.ireturn, 1) := by decide +kernel
theorem dX5_serves_18 : decode cX5_serves 18 = .ok (.aload_n 0, 1) := by decide +kernel
theorem dX5_serves_19 : decode cX5_serves 19 = .ok (.getfield 26, 3) := by decide +kernel
theorem dX5_serves_22 : decode cX5_serves 22 = .ok (.aload_n 0, 1) := by decide +kernel
theorem dX5_serves_23 : decode cX5_serves 23 = .ok (.getfield 10, 3) := by decide +kernel
theorem dX5_serves_26 : decode cX5_serves 26 = .ok (.iconst (-1), 1) := by decide +kernel
theorem dX5_serves_27 : decode cX5_serves 27 = .ok (.invokevirtual 102, 3) := by decide +kernel
theorem dX5_serves_30 : decode cX5_serves 30 = .ok (.iconst 0, 1) := by decide +kernel
theorem dX5_serves_31 : decode cX5_serves 31 = .ok (.istore_n 2, 1) := by decide +kernel
theorem dX5_serves_32 : decode cX5_serves 32 = .ok (.iconst 0, 1) := by decide +kernel
theorem dX5_serves_33 : decode cX5_serves 33 = .ok (.istore_n 3, 1) := by decide +kernel
theorem dX5_serves_34 : decode cX5_serves 34 = .ok (.iload_n 3, 1) := by decide +kernel
theorem dX5_serves_35 : decode cX5_serves 35 = .ok (.aload_n 0, 1) := by decide +kernel
theorem dX5_serves_36 : decode cX5_serves 36 = .ok (.getfield 10, 3) := by decide +kernel
theorem dX5_serves_39 : decode cX5_serves 39 = .ok (.invokevirtual 52, 3) := by decide +kernel
theorem dX5_serves_42 : decode cX5_serves 42 = .ok (.if_icmp .ge 31, 3) := by decide +kernel
theorem dX5_serves_45 : decode cX5_serves 45 = .ok (.aload_n 0, 1) := by decide +kernel
theorem dX5_serves_46 : decode cX5_serves 46 = .ok (.getfield 26, 3) := by decide +kernel
theorem dX5_serves_49 : decode cX5_serves 49 = .ok (.iload_n 3, 1) := by decide +kernel
theorem dX5_serves_50 : decode cX5_serves 50 = .ok (.iload_n 1, 1) := by decide +kernel
theorem dX5_serves_51 : decode cX5_serves 51 = .ok (.aload_n 0, 1) := by decide +kernel
theorem dX5_serves_52 : decode cX5_serves 52 = .ok (.getfield 10, 3) := by decide +kernel
theorem dX5_serves_55 : decode cX5_serves 55 = .ok (.invokevirtual 114, 3) := by decide +kernel
theorem dX5_serves_58 : decode cX5_serves 58 = .ok (.invokevirtual 126, 3) := by decide +kernel
theorem dX5_serves_61 : decode cX5_serves 61 = .ok (.ifCond .eq 6, 3) := by decide +kernel
theorem dX5_serves_64 : decode cX5_serves 64 = .ok (.iinc 2 1, 3) := by decide +kernel
theorem dX5_serves_67 : decode cX5_serves 67 = .ok (.iinc 3 1, 3) := by decide +kernel
theorem dX5_serves_70 : decode cX5_serves 70 = .ok (.goto (-36), 3) := by decide +kernel
theorem dX5_serves_73 : decode cX5_serves 73 = .ok (.iload_n 2, 1) := by decide +kernel
theorem dX5_serves_74 : decode cX5_serves 74 = .ok (.ireturn, 1) := by decide +kernel
set_option maxRecDepth 20000 in
theorem ggX5_twins_X5_isWithin : GoodIn wsX5_twins wsX5_isWithin := goodIn_r _ [7] (by decide +kernel) (by decide +kernel)
set_option maxRecDepth 20000 in
theorem gX5_twins_X5_isWithin : GoodIn wsX5_twins (va_wsS RX5 81 yX5_isWithin wsX5_isWithin) := goodIn_app (goodIn_of _ (by decide +kernel)) ggX5_twins_X5_isWithin
set_option maxRecDepth 20000 in
theorem ggX5_twins_X5_refuseBad : GoodIn wsX5_twins wsX5_refuseBad := goodIn_r _ [11, 12, 104, 105, 106, 107, 108, 109, 110, 111] (by decide +kernel) (by decide +kernel)
set_option maxRecDepth 20000 in
theorem gX5_twins_X5_refuseBad : GoodIn wsX5_twins (wsV RX5 48 RX5 yX5_refuseBad wsX5_refuseBad) := goodIn_app (goodIn_of _ (by decide +kernel)) ggX5_twins_X5_refuseBad
set_option maxRecDepth 20000 in
theorem ggX5_twins_X2_learn : GoodIn wsX5_twins wsX2_learn := goodIn_r _ [17, 18, 19, 20, 21, 22, 23, 24, 25, 26, 27, 28, 29, 30, 31, 32, 33, 34, 35, 16, 36, 37, 38, 39, 40, 41, 42, 43, 44, 45, 46, 47, 48, 6, 49, 4, 5, 7, 50, 51, 52, 53, 54, 55, 56, 57, 58, 59, 60, 61, 62, 63, 64, 65, 66, 67, 68, 69, 70, 71, 72, 73, 74, 75, 76, 77, 78, 79, 80, 81, 82, 83, 84, 85, 86, 87, 88, 89, 90, 112, 113, 114, 115, 116, 117, 118, 119, 120, 121, 122, 123, 124, 125] (by decide +kernel) (by decide +kernel)
set_option maxRecDepth 20000 in
theorem gX5_twins_X2_learn : GoodIn wsX5_twins (wsV RX5 102 RX2 yX2_learn wsX2_learn) := goodIn_app (goodIn_of _ (by decide +kernel)) ggX5_twins_X2_learn
set_option maxRecDepth 20000 in
theorem ggX5_twins_X0_days : GoodIn wsX5_twins wsX0_days := goodIn_r _ [31, 32, 121, 122, 123, 124, 125] (by decide +kernel) (by decide +kernel)
set_option maxRecDepth 20000 in
theorem gX5_twins_X0_days : GoodIn wsX5_twins (wsV RX5 52 RX0 yX0_days wsX0_days) := goodIn_app (goodIn_of _ (by decide +kernel)) ggX5_twins_X0_days
set_option maxRecDepth 20000 in
theorem ggX5_twins_X2_between : GoodIn wsX5_twins wsX2_between := goodIn_r _ [86, 26, 64, 87, 88, 89, 16, 90, 23, 112, 113, 114, 115, 116, 117, 118, 119, 120] (by decide +kernel) (by decide +kernel)
set_option maxRecDepth 20000 in
theorem gX5_twins_X2_between : GoodIn wsX5_twins (wsV RX5 106 RX2 yX2_between wsX2_between) := goodIn_app (goodIn_of _ (by decide +kernel)) ggX5_twins_X2_between
set_option maxRecDepth 20000 in
theorem ggX5_twins_X5_isLess : GoodIn wsX5_twins wsX5_isLess := goodIn_r _ [95] (by decide +kernel) (by decide +kernel)
set_option maxRecDepth 20000 in
theorem gX5_twins_X5_isLess : GoodIn wsX5_twins (va_wsS RX5 130 yX5_isLess wsX5_isLess) := goodIn_app (goodIn_of _ (by decide +kernel)) ggX5_twins_X5_isLess
set_option maxRecDepth 20000 in
theorem ggX5_twins_X5_bitsOrNone : GoodIn wsX5_twins wsX5_bitsOrNone := goodIn_r _ [98, 99, 100, 6, 101, 102, 103] (by decide +kernel) (by decide +kernel)
set_option maxRecDepth 20000 in
theorem gX5_twins_X5_bitsOrNone : GoodIn wsX5_twins (va_wsS RX5 110 yX5_bitsOrNone wsX5_bitsOrNone) := goodIn_app (goodIn_of _ (by decide +kernel)) ggX5_twins_X5_bitsOrNone
theorem dX5_twins_0 : decode cX5_twins 0 = .ok (.iload_n 1, 1) := by decide +kernel
theorem dX5_twins_1 : decode cX5_twins 1 = .ok (.iconst 0, 1) := by decide +kernel
theorem dX5_twins_2 : decode cX5_twins 2 = .ok (.iconst 2, 1) := by decide +kernel
theorem dX5_twins_3 : decode cX5_twins 3 = .ok (.invokestatic 81, 3) := by decide +kernel
theorem dX5_twins_6 : decode cX5_twins 6 = .ok (.ifCond .ne 10, 3) := by decide +kernel
theorem dX5_twins_9 : decode cX5_twins 9 = .ok (.aload_n 0, 1) := by decide +kernel
theorem dX5_twins_10 : decode cX5_twins 10 = .ok (.bipush (-2), 2) := by decide +kernel
theorem dX5_twins_12 : decode cX5_twins 12 = .ok (.invokevirtual 48, 3) := by decide +kernel
theorem dX5_twins_15 : decode cX5_twins 15 = .ok (.ireturn, 1) := by decide +kernel
theorem dX5_twins_16 : decode cX5_twins 16 = .ok (.aload_n 0, 1) := by decide +kernel
theorem dX5_twins_17 : decode cX5_twins 17 = .ok (.getfield 26, 3) := by decide +kernel
theorem dX5_twins_20 : decode cX5_twins 20 = .ok (.aload_n 0, 1) := by decide +kernel
theorem dX5_twins_21 : decode cX5_twins 21 = .ok (.getfield 10, 3) := by decide +kernel
theorem dX5_twins_24 : decode cX5_twins 24 = .ok (.iconst (-1), 1) := by decide +kernel
theorem dX5_twins_25 : decode cX5_twins 25 = .ok (.invokevirtual 102, 3) := by decide +kernel
theorem dX5_twins_28 : decode cX5_twins 28 = .ok (.iconst (-1), 1) := by decide +kernel
theorem dX5_twins_29 : decode cX5_twins 29 = .ok (.istore_n 2, 1) := by decide +kernel
theorem dX5_twins_30 : decode cX5_twins 30 = .ok (.iconst (-1), 1) := by decide +kernel
theorem dX5_twins_31 : decode cX5_twins 31 = .ok (.istore_n 3, 1) := by decide +kernel
theorem dX5_twins_32 : decode cX5_twins 32 = .ok (.ldc 129, 2) := by decide +kernel
theorem dX5_twins_34 : decode cX5_twins 34 = .ok (.fstore 4, 2) := by decide +kernel
theorem dX5_twins_36 : decode cX5_twins 36 = .ok (.iconst 0, 1) := by decide +kernel
theorem dX5_twins_37 : decode cX5_twins 37 = .ok (.istore 5, 2) := by decide +kernel
theorem dX5_twins_39 : decode cX5_twins 39 = .ok (.iload 5, 2) := by decide +kernel
theorem dX5_twins_41 : decode cX5_twins 41 = .ok (.aload_n 0, 1) := by decide +kernel
theorem dX5_twins_42 : decode cX5_twins 42 = .ok (.getfield 10, 3) := by decide +kernel
theorem dX5_twins_45 : decode cX5_twins 45 = .ok (.invokevirtual 52, 3) := by decide +kernel
theorem dX5_twins_48 : decode cX5_twins 48 = .ok (.if_icmp .ge 66, 3) := by decide +kernel
theorem dX5_twins_51 : decode cX5_twins 51 = .ok (.iload 5, 2) := by decide +kernel
theorem dX5_twins_53 : decode cX5_twins 53 = .ok (.iconst 1, 1) := by decide +kernel
theorem dX5_twins_54 : decode cX5_twins 54 = .ok (.iadd, 1) := by decide +kernel
theorem dX5_twins_55 : decode cX5_twins 55 = .ok (.istore 6, 2) := by decide +kernel
theorem dX5_twins_57 : decode cX5_twins 57 = .ok (.iload 6, 2) := by decide +kernel
theorem dX5_twins_59 : decode cX5_twins 59 = .ok (.aload_n 0, 1) := by decide +kernel
theorem dX5_twins_60 : decode cX5_twins 60 = .ok (.getfield 10, 3) := by decide +kernel
theorem dX5_twins_63 : decode cX5_twins 63 = .ok (.invokevirtual 52, 3) := by decide +kernel
theorem dX5_twins_66 : decode cX5_twins 66 = .ok (.if_icmp .ge 42, 3) := by decide +kernel
theorem dX5_twins_69 : decode cX5_twins 69 = .ok (.aload_n 0, 1) := by decide +kernel
theorem dX5_twins_70 : decode cX5_twins 70 = .ok (.getfield 26, 3) := by decide +kernel
theorem dX5_twins_73 : decode cX5_twins 73 = .ok (.iload 5, 2) := by decide +kernel
theorem dX5_twins_75 : decode cX5_twins 75 = .ok (.iload 6, 2) := by decide +kernel
theorem dX5_twins_77 : decode cX5_twins 77 = .ok (.invokevirtual 106, 3) := by decide +kernel
theorem dX5_twins_80 : decode cX5_twins 80 = .ok (.fstore 7, 2) := by decide +kernel
theorem dX5_twins_82 : decode cX5_twins 82 = .ok (.fload 7, 2) := by decide +kernel
theorem dX5_twins_84 : decode cX5_twins 84 = .ok (.fload 4, 2) := by decide +kernel
theorem dX5_twins_86 : decode cX5_twins 86 = .ok (.invokestatic 130, 3) := by decide +kernel
theorem dX5_twins_89 : decode cX5_twins 89 = .ok (.ifCond .eq 13, 3) := by decide +kernel
theorem dX5_twins_92 : decode cX5_twins 92 = .ok (.fload 7, 2) := by decide +kernel
theorem dX5_twins_94 : decode cX5_twins 94 = .ok (.fstore 4, 2) := by decide +kernel
theorem dX5_twins_96 : decode cX5_twins 96 = .ok (.iload 5, 2) := by decide +kernel
theorem dX5_twins_98 : decode cX5_twins 98 = .ok (.istore_n 2, 1) := by decide +kernel
theorem dX5_twins_99 : decode cX5_twins 99 = .ok (.iload 6, 2) := by decide +kernel
theorem dX5_twins_101 : decode cX5_twins 101 = .ok (.istore_n 3, 1) := by decide +kernel
theorem dX5_twins_102 : decode cX5_twins 102 = .ok (.iinc 6 1, 3) := by decide +kernel
theorem dX5_twins_105 : decode cX5_twins 105 = .ok (.goto (-48), 3) := by decide +kernel
theorem dX5_twins_108 : decode cX5_twins 108 = .ok (.iinc 5 1, 3) := by decide +kernel
theorem dX5_twins_111 : decode cX5_twins 111 = .ok (.goto (-72), 3) := by decide +kernel
theorem dX5_twins_114 : decode cX5_twins 114 = .ok (.iload_n 1, 1) := by decide +kernel
theorem dX5_twins_115 : decode cX5_twins 115 = .ok (.iconst 2, 1) := by decide +kernel
theorem dX5_twins_116 : decode cX5_twins 116 = .ok (.if_icmp .ne 9, 3) := by decide +kernel
theorem dX5_twins_119 : decode cX5_twins 119 = .ok (.fload 4, 2) := by decide +kernel
theorem dX5_twins_121 : decode cX5_twins 121 = .ok (.invokestatic 110, 3) := by decide +kernel
theorem dX5_twins_124 : decode cX5_twins 124 = .ok (.ireturn, 1) := by decide +kernel
theorem dX5_twins_125 : decode cX5_twins 125 = .ok (.iload_n 1, 1) := by decide +kernel
theorem dX5_twins_126 : decode cX5_twins 126 = .ok (.ifCond .ne 7, 3) := by decide +kernel
theorem dX5_twins_129 : decode cX5_twins 129 = .ok (.iload_n 2, 1) := by decide +kernel
theorem dX5_twins_130 : decode cX5_twins 130 = .ok (.goto 4, 3) := by decide +kernel
theorem dX5_twins_133 : decode cX5_twins 133 = .ok (.iload_n 3, 1) := by decide +kernel
theorem dX5_twins_134 : decode cX5_twins 134 = .ok (.ireturn, 1) := by decide +kernel
set_option maxRecDepth 20000 in
theorem ggX5_strangers_X0_has : GoodIn wsX5_strangers wsX0_has := goodIn_r _ [7, 8, 101, 102, 103, 104, 105] (by decide +kernel) (by decide +kernel)
set_option maxRecDepth 20000 in
theorem gX5_strangers_X0_has : GoodIn wsX5_strangers (wsV RX5 66 RX0 yX0_has wsX0_has) := goodIn_app (goodIn_of _ (by decide +kernel)) ggX5_strangers_X0_has
set_option maxRecDepth 20000 in
theorem ggX5_strangers_X5_refuseBad : GoodIn wsX5_strangers wsX5_refuseBad := goodIn_r _ [13, 14, 93, 94, 95, 96, 97, 98, 99, 100] (by decide +kernel) (by decide +kernel)
set_option maxRecDepth 20000 in
theorem gX5_strangers_X5_refuseBad : GoodIn wsX5_strangers (wsV RX5 48 RX5 yX5_refuseBad wsX5_refuseBad) := goodIn_app (goodIn_of _ (by decide +kernel)) ggX5_strangers_X5_refuseBad
set_option maxRecDepth 20000 in
theorem ggX5_strangers_X2_learn : GoodIn wsX5_strangers wsX2_learn := goodIn_r _ [19, 20, 21, 22, 23, 24, 25, 26, 27, 28, 29, 30, 31, 6, 32, 8, 33, 34, 35, 18, 36, 37, 38, 39, 40, 41, 42, 43, 44, 4, 5, 7, 45, 12, 46, 47, 48, 49, 50, 51, 52, 53, 54, 55, 56, 57, 58, 59, 60, 61, 62, 63, 64, 65, 66, 67, 68, 69, 70, 71, 72, 73, 74, 75, 76, 77, 78, 79, 80, 81, 82, 83, 84, 85, 86, 87, 88, 89, 90, 106, 107, 108, 109, 110, 111, 112, 113, 114, 101, 102, 103, 104, 105] (by decide +kernel) (by decide +kernel)
set_option maxRecDepth 20000 in
theorem gX5_strangers_X2_learn : GoodIn wsX5_strangers (wsV RX5 102 RX2 yX2_learn wsX2_learn) := goodIn_app (goodIn_of _ (by decide +kernel)) ggX5_strangers_X2_learn
set_option maxRecDepth 20000 in
theorem ggX5_strangers_X0_days : GoodIn wsX5_strangers wsX0_days := goodIn_r _ [32, 8, 101, 102, 103, 104, 105] (by decide +kernel) (by decide +kernel)
set_option maxRecDepth 20000 in
theorem gX5_strangers_X0_days : GoodIn wsX5_strangers (wsV RX5 52 RX0 yX0_days wsX0_days) := goodIn_app (goodIn_of _ (by decide +kernel)) ggX5_strangers_X0_days
set_option maxRecDepth 20000 in
theorem ggX5_strangers_X2_between : GoodIn wsX5_strangers wsX2_between := goodIn_r _ [86, 28, 64, 87, 88, 89, 18, 90, 25, 106, 107, 108, 109, 110, 111, 112, 113, 114] (by decide +kernel) (by decide +kernel)
set_option maxRecDepth 20000 in
theorem gX5_strangers_X2_between : GoodIn wsX5_strangers (wsV RX5 106 RX2 yX2_between wsX2_between) := goodIn_app (goodIn_of _ (by decide +kernel)) ggX5_strangers_X2_between
theorem dX5_strangers_0 : decode cX5_strangers 0 = .ok (.aload_n 0, 1) := by decide +kernel
theorem dX5_strangers_1 : decode cX5_strangers 1 = .ok (.getfield 10, 3) := by decide +kernel
theorem dX5_strangers_4 : decode cX5_strangers 4 = .ok (.iload_n 1, 1) := by decide +kernel
theorem dX5_strangers_5 : decode cX5_strangers 5 = .ok (.invokevirtual 66, 3) := by decide +kernel
theorem dX5_strangers_8 : decode cX5_strangers 8 = .ok (.ifCond .ne 10, 3) := by decide +kernel
theorem dX5_strangers_11 : decode cX5_strangers 11 = .ok (.aload_n 0, 1) := by decide +kernel
theorem dX5_strangers_12 : decode cX5_strangers 12 = .ok (.bipush (-2), 2) := by decide +kernel
theorem dX5_strangers_14 : decode cX5_strangers 14 = .ok (.invokevirtual 48, 3) := by decide +kernel
theorem dX5_strangers_17 : decode cX5_strangers 17 = .ok (.ireturn, 1) := by decide +kernel
theorem dX5_strangers_18 : decode cX5_strangers 18 = .ok (.aload_n 0, 1) := by decide +kernel
theorem dX5_strangers_19 : decode cX5_strangers 19 = .ok (.getfield 26, 3) := by decide +kernel
theorem dX5_strangers_22 : decode cX5_strangers 22 = .ok (.aload_n 0, 1) := by decide +kernel
theorem dX5_strangers_23 : decode cX5_strangers 23 = .ok (.getfield 10, 3) := by decide +kernel
theorem dX5_strangers_26 : decode cX5_strangers 26 = .ok (.iconst (-1), 1) := by decide +kernel
theorem dX5_strangers_27 : decode cX5_strangers 27 = .ok (.invokevirtual 102, 3) := by decide +kernel
theorem dX5_strangers_30 : decode cX5_strangers 30 = .ok (.iconst 0, 1) := by decide +kernel
theorem dX5_strangers_31 : decode cX5_strangers 31 = .ok (.istore_n 2, 1) := by decide +kernel
theorem dX5_strangers_32 : decode cX5_strangers 32 = .ok (.iconst 0, 1) := by decide +kernel
theorem dX5_strangers_33 : decode cX5_strangers 33 = .ok (.istore_n 3, 1) := by decide +kernel
theorem dX5_strangers_34 : decode cX5_strangers 34 = .ok (.iload_n 3, 1) := by decide +kernel
theorem dX5_strangers_35 : decode cX5_strangers 35 = .ok (.aload_n 0, 1) := by decide +kernel
theorem dX5_strangers_36 : decode cX5_strangers 36 = .ok (.getfield 10, 3) := by decide +kernel
theorem dX5_strangers_39 : decode cX5_strangers 39 = .ok (.invokevirtual 52, 3) := by decide +kernel
theorem dX5_strangers_42 : decode cX5_strangers 42 = .ok (.if_icmp .ge 31, 3) := by decide +kernel
theorem dX5_strangers_45 : decode cX5_strangers 45 = .ok (.iload_n 3, 1) := by decide +kernel
theorem dX5_strangers_46 : decode cX5_strangers 46 = .ok (.iload_n 1, 1) := by decide +kernel
theorem dX5_strangers_47 : decode cX5_strangers 47 = .ok (.if_icmp .eq 20, 3) := by decide +kernel
theorem dX5_strangers_50 : decode cX5_strangers 50 = .ok (.aload_n 0, 1) := by decide +kernel
theorem dX5_strangers_51 : decode cX5_strangers 51 = .ok (.getfield 26, 3) := by decide +kernel
theorem dX5_strangers_54 : decode cX5_strangers 54 = .ok (.iload_n 1, 1) := by decide +kernel
theorem dX5_strangers_55 : decode cX5_strangers 55 = .ok (.iload_n 3, 1) := by decide +kernel
theorem dX5_strangers_56 : decode cX5_strangers 56 = .ok (.invokevirtual 106, 3) := by decide +kernel
theorem dX5_strangers_59 : decode cX5_strangers 59 = .ok (.fconst 0, 1) := by decide +kernel
theorem dX5_strangers_60 : decode cX5_strangers 60 = .ok (.fcmp .g, 1) := by decide +kernel
theorem dX5_strangers_61 : decode cX5_strangers 61 = .ok (.ifCond .ge 6, 3) := by decide +kernel
theorem dX5_strangers_64 : decode cX5_strangers 64 = .ok (.iinc 2 1, 3) := by decide +kernel
theorem dX5_strangers_67 : decode cX5_strangers 67 = .ok (.iinc 3 1, 3) := by decide +kernel
theorem dX5_strangers_70 : decode cX5_strangers 70 = .ok (.goto (-36), 3) := by decide +kernel
theorem dX5_strangers_73 : decode cX5_strangers 73 = .ok (.iload_n 2, 1) := by decide +kernel
theorem dX5_strangers_74 : decode cX5_strangers 74 = .ok (.ireturn, 1) := by decide +kernel
set_option maxRecDepth 20000 in
theorem ggX5_follows_X0_has : GoodIn wsX5_follows wsX0_has := goodIn_r _ [7, 8, 152, 153, 154, 155, 156] (by decide +kernel) (by decide +kernel)
set_option maxRecDepth 20000 in
theorem gX5_follows_X0_has : GoodIn wsX5_follows (wsV RX5 66 RX0 yX0_has wsX0_has) := goodIn_app (goodIn_of _ (by decide +kernel)) ggX5_follows_X0_has
set_option maxRecDepth 20000 in
theorem ggX5_follows_X5_isMember : GoodIn wsX5_follows wsX5_isMember := goodIn_r _ [12, 13, 14, 11, 15] (by decide +kernel) (by decide +kernel)
set_option maxRecDepth 20000 in
theorem gX5_follows_X5_isMember : GoodIn wsX5_follows (va_wsS RX5 69 yX5_isMember wsX5_isMember) := goodIn_app (goodIn_of _ (by decide +kernel)) ggX5_follows_X5_isMember
set_option maxRecDepth 20000 in
theorem ggX5_follows_X5_isWithin : GoodIn wsX5_follows wsX5_isWithin := goodIn_r _ [15] (by decide +kernel) (by decide +kernel)
set_option maxRecDepth 20000 in
theorem gX5_follows_X5_isWithin : GoodIn wsX5_follows (va_wsS RX5 81 yX5_isWithin wsX5_isWithin) := goodIn_app (goodIn_of _ (by decide +kernel)) ggX5_follows_X5_isWithin
set_option maxRecDepth 20000 in
theorem ggX5_follows_X5_refuseBad : GoodIn wsX5_follows wsX5_refuseBad := goodIn_r _ [19, 20, 144, 145, 146, 147, 148, 149, 150, 151] (by decide +kernel) (by decide +kernel)
set_option maxRecDepth 20000 in
theorem gX5_follows_X5_refuseBad : GoodIn wsX5_follows (wsV RX5 48 RX5 yX5_refuseBad wsX5_refuseBad) := goodIn_app (goodIn_of _ (by decide +kernel)) ggX5_follows_X5_refuseBad
set_option maxRecDepth 20000 in
theorem ggX5_follows_X5_gatherFollowers : GoodIn wsX5_follows wsX5_gatherFollowers := goodIn_r _ [24, 25, 1, 2, 26, 27, 28, 29, 30, 31, 32, 33, 34, 35, 36, 37, 38, 39, 40, 41, 42, 6, 43, 8, 44, 45, 46, 47, 48, 49, 50, 51, 52, 53, 54, 55, 4, 5, 7, 10, 11, 12, 13, 14, 15, 56, 57, 58, 59, 60, 61, 62, 63, 64, 65, 66, 67, 68, 69, 70, 71, 72, 73, 74, 75, 76, 77, 78, 79, 80, 81, 82, 83, 84, 85, 86, 87, 88, 89, 90, 91, 92, 93, 94, 95, 96, 97, 98, 99, 100, 101, 102, 103, 104, 105, 106, 107, 108, 109, 110, 111, 112, 113, 114, 115, 116, 117, 118, 119, 120, 121, 122, 123, 144, 145, 146, 147, 148, 149, 150, 151, 157, 158, 159, 160, 161, 162, 163, 164, 165, 152, 153, 154, 155, 156, 166, 167, 168, 169] (by decide +kernel) (by decide +kernel)
set_option maxRecDepth 20000 in
theorem gX5_follows_X5_gatherFollowers : GoodIn wsX5_follows (wsV RX5 134 RX5 yX5_gatherFollowers wsX5_gatherFollowers) := goodIn_app (goodIn_of _ (by decide +kernel)) ggX5_follows_X5_gatherFollowers
set_option maxRecDepth 20000 in
theorem ggX5_follows_X1_size : GoodIn wsX5_follows wsX1_size := goodIn_r _ [127, 106, 166, 167, 168, 169] (by decide +kernel) (by decide +kernel)
set_option maxRecDepth 20000 in
theorem gX5_follows_X1_size : GoodIn wsX5_follows (wsV RX5 137 RX1 yX1_size wsX1_size) := goodIn_app (goodIn_of _ (by decide +kernel)) ggX5_follows_X1_size
set_option maxRecDepth 20000 in
theorem ggX5_follows_X1_least : GoodIn wsX5_follows wsX1_least := goodIn_r _ [131, 123, 132, 133, 134, 104, 135, 106, 136, 137, 34, 138, 166, 167, 168, 169] (by decide +kernel) (by decide +kernel)
set_option maxRecDepth 20000 in
theorem gX5_follows_X1_least : GoodIn wsX5_follows (wsV RX5 140 RX1 yX1_least wsX1_least) := goodIn_app (goodIn_of _ (by decide +kernel)) ggX5_follows_X1_least
set_option maxRecDepth 20000 in
theorem ggX5_follows_X1_greatest : GoodIn wsX5_follows wsX1_greatest := goodIn_r _ [142, 123, 106, 132, 133, 134, 104, 135, 136, 137, 34, 138, 166, 167, 168, 169] (by decide +kernel) (by decide +kernel)
set_option maxRecDepth 20000 in
theorem gX5_follows_X1_greatest : GoodIn wsX5_follows (wsV RX5 143 RX1 yX1_greatest wsX1_greatest) := goodIn_app (goodIn_of _ (by decide +kernel)) ggX5_follows_X1_greatest
set_option maxRecDepth 20000 in
theorem ggX5_follows_X1_spanSize : GoodIn wsX5_follows wsX1_spanSize := goodIn_r _ [135, 106, 136, 137, 34, 138, 166, 167, 168, 169] (by decide +kernel) (by decide +kernel)
set_option maxRecDepth 20000 in
theorem gX5_follows_X1_spanSize : GoodIn wsX5_follows (wsV RX5 146 RX1 yX1_spanSize wsX1_spanSize) := goodIn_app (goodIn_of _ (by decide +kernel)) ggX5_follows_X1_spanSize
theorem dX5_follows_0 : decode cX5_follows 0 = .ok (.aload_n 0, 1) := by decide +kernel
theorem dX5_follows_1 : decode cX5_follows 1 = .ok (.getfield 10, 3) := by decide +kernel
theorem dX5_follows_4 : decode cX5_follows 4 = .ok (.iload_n 1, 1) := by decide +kernel
theorem dX5_follows_5 : decode cX5_follows 5 = .ok (.invokevirtual 66, 3) := by decide +kernel
theorem dX5_follows_8 : decode cX5_follows 8 = .ok (.ifCond .eq 29, 3) := by decide +kernel
theorem dX5_follows_11 : decode cX5_follows 11 = .ok (.iload_n 2, 1) := by decide +kernel
theorem dX5_follows_12 : decode cX5_follows 12 = .ok (.invokestatic 69, 3) := by decide +kernel
theorem dX5_follows_15 : decode cX5_follows 15 = .ok (.ifCond .eq 22, 3) := by decide +kernel
theorem dX5_follows_18 : decode cX5_follows 18 = .ok (.iload_n 3, 1) := by decide +kernel
theorem dX5_follows_19 : decode cX5_follows 19 = .ok (.iconst 0, 1) := by decide +kernel
theorem dX5_follows_20 : decode cX5_follows 20 = .ok (.iconst 5, 1) := by decide +kernel
theorem dX5_follows_21 : decode cX5_follows 21 = .ok (.invokestatic 81, 3) := by decide +kernel
theorem dX5_follows_24 : decode cX5_follows 24 = .ok (.ifCond .eq 13, 3) := by decide +kernel
theorem dX5_follows_27 : decode cX5_follows 27 = .ok (.iload 4, 2) := by decide +kernel
theorem dX5_follows_29 : decode cX5_follows 29 = .ok (.iconst 0, 1) := by decide +kernel
theorem dX5_follows_30 : decode cX5_follows 30 = .ok (.iconst 3, 1) := by decide +kernel
theorem dX5_follows_31 : decode cX5_follows 31 = .ok (.invokestatic 81, 3) := by decide +kernel
theorem dX5_follows_34 : decode cX5_follows 34 = .ok (.ifCond .ne 11, 3) := by decide +kernel
theorem dX5_follows_37 : decode cX5_follows 37 = .ok (.aload_n 0, 1) := by decide +kernel
theorem dX5_follows_38 : decode cX5_follows 38 = .ok (.sipush (-20000), 3) := by decide +kernel
theorem dX5_follows_41 : decode cX5_follows 41 = .ok (.invokevirtual 48, 3) := by decide +kernel
theorem dX5_follows_44 : decode cX5_follows 44 = .ok (.ireturn, 1) := by decide +kernel
theorem dX5_follows_45 : decode cX5_follows 45 = .ok (.aload_n 0, 1) := by decide +kernel
theorem dX5_follows_46 : decode cX5_follows 46 = .ok (.iload_n 1, 1) := by decide +kernel
theorem dX5_follows_47 : decode cX5_follows 47 = .ok (.iload_n 2, 1) := by decide +kernel
theorem dX5_follows_48 : decode cX5_follows 48 = .ok (.invokevirtual 134, 3) := by decide +kernel
theorem dX5_follows_51 : decode cX5_follows 51 = .ok (.iload 4, 2) := by decide +kernel
theorem dX5_follows_53 : decode cX5_follows 53 = .ok (.tableswitch 53 0 2 #[27, 35, 44], 27) := by decide +kernel
theorem dX5_follows_80 : decode cX5_follows 80 = .ok (.aload_n 0, 1) := by decide +kernel
theorem dX5_follows_81 : decode cX5_follows 81 = .ok (.getfield 33, 3) := by decide +kernel
theorem dX5_follows_84 : decode cX5_follows 84 = .ok (.invokevirtual 137, 3) := by decide +kernel
theorem dX5_follows_87 : decode cX5_follows 87 = .ok (.ireturn, 1) := by decide +kernel
theorem dX5_follows_88 : decode cX5_follows 88 = .ok (.aload_n 0, 1) := by decide +kernel
theorem dX5_follows_89 : decode cX5_follows 89 = .ok (.getfield 33, 3) := by decide +kernel
theorem dX5_follows_92 : decode cX5_follows 92 = .ok (.iload_n 3, 1) := by decide +kernel
theorem dX5_follows_93 : decode cX5_follows 93 = .ok (.invokevirtual 140, 3) := by decide +kernel
theorem dX5_follows_96 : decode cX5_follows 96 = .ok (.ireturn, 1) := by decide +kernel
theorem dX5_follows_97 : decode cX5_follows 97 = .ok (.aload_n 0, 1) := by decide +kernel
theorem dX5_follows_98 : decode cX5_follows 98 = .ok (.getfield 33, 3) := by decide +kernel
theorem dX5_follows_101 : decode cX5_follows 101 = .ok (.iload_n 3, 1) := by decide +kernel
theorem dX5_follows_102 : decode cX5_follows 102 = .ok (.invokevirtual 143, 3) := by decide +kernel
theorem dX5_follows_105 : decode cX5_follows 105 = .ok (.ireturn, 1) := by decide +kernel
theorem dX5_follows_106 : decode cX5_follows 106 = .ok (.aload_n 0, 1) := by decide +kernel
theorem dX5_follows_107 : decode cX5_follows 107 = .ok (.getfield 33, 3) := by decide +kernel
theorem dX5_follows_110 : decode cX5_follows 110 = .ok (.iload_n 3, 1) := by decide +kernel
theorem dX5_follows_111 : decode cX5_follows 111 = .ok (.invokevirtual 146, 3) := by decide +kernel
theorem dX5_follows_114 : decode cX5_follows 114 = .ok (.ireturn, 1) := by decide +kernel
set_option maxRecDepth 20000 in
theorem ggX5_mean_X0_has : GoodIn wsX5_mean wsX0_has := goodIn_r _ [7, 8, 145, 146, 147, 148, 149] (by decide +kernel) (by decide +kernel)
set_option maxRecDepth 20000 in
theorem gX5_mean_X0_has : GoodIn wsX5_mean (wsV RX5 66 RX0 yX0_has wsX0_has) := goodIn_app (goodIn_of _ (by decide +kernel)) ggX5_mean_X0_has
set_option maxRecDepth 20000 in
theorem ggX5_mean_X5_isMember : GoodIn wsX5_mean wsX5_isMember := goodIn_r _ [12, 13, 14, 11, 15] (by decide +kernel) (by decide +kernel)
set_option maxRecDepth 20000 in
theorem gX5_mean_X5_isMember : GoodIn wsX5_mean (va_wsS RX5 69 yX5_isMember wsX5_isMember) := goodIn_app (goodIn_of _ (by decide +kernel)) ggX5_mean_X5_isMember
set_option maxRecDepth 20000 in
theorem ggX5_mean_X5_refuseBad : GoodIn wsX5_mean wsX5_refuseBad := goodIn_r _ [19, 20, 137, 138, 139, 140, 141, 142, 143, 144] (by decide +kernel) (by decide +kernel)
set_option maxRecDepth 20000 in
theorem gX5_mean_X5_refuseBad : GoodIn wsX5_mean (wsV RX5 48 RX5 yX5_refuseBad wsX5_refuseBad) := goodIn_app (goodIn_of _ (by decide +kernel)) ggX5_mean_X5_refuseBad
set_option maxRecDepth 20000 in
theorem ggX5_mean_X5_gatherFollowers : GoodIn wsX5_mean wsX5_gatherFollowers := goodIn_r _ [24, 25, 1, 2, 26, 27, 28, 29, 30, 31, 32, 33, 34, 35, 36, 37, 38, 39, 40, 41, 42, 6, 43, 8, 44, 45, 46, 47, 48, 49, 50, 51, 52, 53, 54, 55, 4, 5, 7, 10, 11, 12, 13, 14, 15, 56, 57, 58, 59, 60, 61, 62, 63, 64, 65, 66, 67, 68, 69, 70, 71, 72, 73, 74, 75, 76, 77, 78, 79, 80, 81, 82, 83, 84, 85, 86, 87, 88, 89, 90, 91, 92, 93, 94, 95, 96, 97, 98, 99, 100, 101, 102, 103, 104, 105, 106, 107, 108, 109, 110, 111, 112, 113, 114, 115, 116, 117, 118, 119, 120, 121, 122, 123, 137, 138, 139, 140, 141, 142, 143, 144, 150, 151, 152, 153, 154, 155, 156, 157, 158, 145, 146, 147, 148, 149, 159, 160, 161, 162] (by decide +kernel) (by decide +kernel)
set_option maxRecDepth 20000 in
theorem gX5_mean_X5_gatherFollowers : GoodIn wsX5_mean (wsV RX5 134 RX5 yX5_gatherFollowers wsX5_gatherFollowers) := goodIn_app (goodIn_of _ (by decide +kernel)) ggX5_mean_X5_gatherFollowers
set_option maxRecDepth 20000 in
theorem ggX5_mean_X1_size : GoodIn wsX5_mean wsX1_size := goodIn_r _ [127, 106, 159, 160, 161, 162] (by decide +kernel) (by decide +kernel)
set_option maxRecDepth 20000 in
theorem gX5_mean_X1_size : GoodIn wsX5_mean (wsV RX5 137 RX1 yX1_size wsX1_size) := goodIn_app (goodIn_of _ (by decide +kernel)) ggX5_mean_X1_size
set_option maxRecDepth 20000 in
theorem ggX5_mean_X1_meanValue : GoodIn wsX5_mean wsX1_meanValue := goodIn_r _ [131, 106, 121, 122, 56, 11, 57, 58, 159, 160, 161, 162] (by decide +kernel) (by decide +kernel)
set_option maxRecDepth 20000 in
theorem gX5_mean_X1_meanValue : GoodIn wsX5_mean (wsV RX5 149 RX1 yX1_meanValue wsX1_meanValue) := goodIn_app (goodIn_of _ (by decide +kernel)) ggX5_mean_X1_meanValue
set_option maxRecDepth 20000 in
theorem ggX5_mean_X5_floatBits : GoodIn wsX5_mean wsX5_floatBits := goodIn_r _ [134, 135, 136] (by decide +kernel) (by decide +kernel)
set_option maxRecDepth 20000 in
theorem gX5_mean_X5_floatBits : GoodIn wsX5_mean (va_wsS RX5 153 yX5_floatBits wsX5_floatBits) := goodIn_app (goodIn_of _ (by decide +kernel)) ggX5_mean_X5_floatBits
theorem dX5_mean_0 : decode cX5_mean 0 = .ok (.aload_n 0, 1) := by decide +kernel
theorem dX5_mean_1 : decode cX5_mean 1 = .ok (.getfield 10, 3) := by decide +kernel
theorem dX5_mean_4 : decode cX5_mean 4 = .ok (.iload_n 1, 1) := by decide +kernel
theorem dX5_mean_5 : decode cX5_mean 5 = .ok (.invokevirtual 66, 3) := by decide +kernel
theorem dX5_mean_8 : decode cX5_mean 8 = .ok (.ifCond .eq 10, 3) := by decide +kernel
theorem dX5_mean_11 : decode cX5_mean 11 = .ok (.iload_n 2, 1) := by decide +kernel
theorem dX5_mean_12 : decode cX5_mean 12 = .ok (.invokestatic 69, 3) := by decide +kernel
theorem dX5_mean_15 : decode cX5_mean 15 = .ok (.ifCond .ne 10, 3) := by decide +kernel
theorem dX5_mean_18 : decode cX5_mean 18 = .ok (.aload_n 0, 1) := by decide +kernel
theorem dX5_mean_19 : decode cX5_mean 19 = .ok (.bipush (-2), 2) := by decide +kernel
theorem dX5_mean_21 : decode cX5_mean 21 = .ok (.invokevirtual 48, 3) := by decide +kernel
theorem dX5_mean_24 : decode cX5_mean 24 = .ok (.ireturn, 1) := by decide +kernel
theorem dX5_mean_25 : decode cX5_mean 25 = .ok (.aload_n 0, 1) := by decide +kernel
theorem dX5_mean_26 : decode cX5_mean 26 = .ok (.iload_n 1, 1) := by decide +kernel
theorem dX5_mean_27 : decode cX5_mean 27 = .ok (.iload_n 2, 1) := by decide +kernel
theorem dX5_mean_28 : decode cX5_mean 28 = .ok (.invokevirtual 134, 3) := by decide +kernel
theorem dX5_mean_31 : decode cX5_mean 31 = .ok (.aload_n 0, 1) := by decide +kernel
theorem dX5_mean_32 : decode cX5_mean 32 = .ok (.getfield 33, 3) := by decide +kernel
theorem dX5_mean_35 : decode cX5_mean 35 = .ok (.invokevirtual 137, 3) := by decide +kernel
theorem dX5_mean_38 : decode cX5_mean 38 = .ok (.ifCond .ne 7, 3) := by decide +kernel
theorem dX5_mean_41 : decode cX5_mean 41 = .ok (.iconst (-1), 1) := by decide +kernel
theorem dX5_mean_42 : decode cX5_mean 42 = .ok (.goto 13, 3) := by decide +kernel
theorem dX5_mean_45 : decode cX5_mean 45 = .ok (.aload_n 0, 1) := by decide +kernel
theorem dX5_mean_46 : decode cX5_mean 46 = .ok (.getfield 33, 3) := by decide +kernel
theorem dX5_mean_49 : decode cX5_mean 49 = .ok (.invokevirtual 149, 3) := by decide +kernel
theorem dX5_mean_52 : decode cX5_mean 52 = .ok (.invokestatic 153, 3) := by decide +kernel
theorem dX5_mean_55 : decode cX5_mean 55 = .ok (.ireturn, 1) := by decide +kernel
set_option maxRecDepth 20000 in
theorem ggX5_spread_X0_has : GoodIn wsX5_spread wsX0_has := goodIn_r _ [8, 9, 147, 148, 149, 150, 151] (by decide +kernel) (by decide +kernel)
set_option maxRecDepth 20000 in
theorem gX5_spread_X0_has : GoodIn wsX5_spread (wsV RX5 66 RX0 yX0_has wsX0_has) := goodIn_app (goodIn_of _ (by decide +kernel)) ggX5_spread_X0_has
set_option maxRecDepth 20000 in
theorem ggX5_spread_X5_isMember : GoodIn wsX5_spread wsX5_isMember := goodIn_r _ [13, 14, 15, 12, 16] (by decide +kernel) (by decide +kernel)
set_option maxRecDepth 20000 in
theorem gX5_spread_X5_isMember : GoodIn wsX5_spread (va_wsS RX5 69 yX5_isMember wsX5_isMember) := goodIn_app (goodIn_of _ (by decide +kernel)) ggX5_spread_X5_isMember
set_option maxRecDepth 20000 in
theorem ggX5_spread_X5_refuseBad : GoodIn wsX5_spread wsX5_refuseBad := goodIn_r _ [20, 21, 139, 140, 141, 142, 143, 144, 145, 146] (by decide +kernel) (by decide +kernel)
set_option maxRecDepth 20000 in
theorem gX5_spread_X5_refuseBad : GoodIn wsX5_spread (wsV RX5 48 RX5 yX5_refuseBad wsX5_refuseBad) := goodIn_app (goodIn_of _ (by decide +kernel)) ggX5_spread_X5_refuseBad
set_option maxRecDepth 20000 in
theorem ggX5_spread_X5_gatherFollowers : GoodIn wsX5_spread wsX5_gatherFollowers := goodIn_r _ [25, 26, 1, 2, 27, 28, 29, 30, 31, 32, 33, 34, 35, 36, 37, 38, 39, 40, 41, 42, 43, 7, 44, 9, 45, 46, 47, 48, 49, 50, 51, 52, 53, 54, 55, 56, 5, 6, 8, 11, 12, 13, 14, 15, 16, 57, 58, 59, 60, 61, 62, 63, 64, 65, 66, 67, 68, 69, 70, 71, 72, 73, 74, 75, 76, 77, 78, 79, 80, 81, 82, 83, 84, 85, 86, 87, 88, 89, 90, 91, 92, 93, 94, 95, 96, 97, 98, 99, 100, 101, 102, 103, 104, 105, 106, 107, 108, 109, 110, 111, 112, 113, 114, 115, 116, 117, 118, 119, 120, 121, 122, 123, 124, 139, 140, 141, 142, 143, 144, 145, 146, 152, 153, 154, 155, 156, 157, 158, 159, 160, 147, 148, 149, 150, 151, 161, 162, 163, 164] (by decide +kernel) (by decide +kernel)
set_option maxRecDepth 20000 in
theorem gX5_spread_X5_gatherFollowers : GoodIn wsX5_spread (wsV RX5 134 RX5 yX5_gatherFollowers wsX5_gatherFollowers) := goodIn_app (goodIn_of _ (by decide +kernel)) ggX5_spread_X5_gatherFollowers
set_option maxRecDepth 20000 in
theorem ggX5_spread_X1_size : GoodIn wsX5_spread wsX1_size := goodIn_r _ [128, 107, 161, 162, 163, 164] (by decide +kernel) (by decide +kernel)
set_option maxRecDepth 20000 in
theorem gX5_spread_X1_size : GoodIn wsX5_spread (wsV RX5 137 RX1 yX1_size wsX1_size) := goodIn_app (goodIn_of _ (by decide +kernel)) ggX5_spread_X1_size
set_option maxRecDepth 20000 in
theorem ggX5_spread_X1_spreadOfValues : GoodIn wsX5_spread wsX1_spreadOfValues := goodIn_r _ [132, 107, 122, 57, 12, 58, 59, 161, 162, 163, 164] (by decide +kernel) (by decide +kernel)
set_option maxRecDepth 20000 in
theorem gX5_spread_X1_spreadOfValues : GoodIn wsX5_spread (wsV RX5 158 RX1 yX1_spreadOfValues wsX1_spreadOfValues) := goodIn_app (goodIn_of _ (by decide +kernel)) ggX5_spread_X1_spreadOfValues
set_option maxRecDepth 20000 in
theorem ggX5_spread_X5_doubleBits : GoodIn wsX5_spread wsX5_doubleBits := goodIn_r _ [135, 136, 137, 138] (by decide +kernel) (by decide +kernel)
set_option maxRecDepth 20000 in
theorem gX5_spread_X5_doubleBits : GoodIn wsX5_spread (va_wsS RX5 162 yX5_doubleBits wsX5_doubleBits) := goodIn_app (goodIn_of _ (by decide +kernel)) ggX5_spread_X5_doubleBits
theorem dX5_spread_0 : decode cX5_spread 0 = .ok (.aload_n 0, 1) := by decide +kernel
theorem dX5_spread_1 : decode cX5_spread 1 = .ok (.getfield 10, 3) := by decide +kernel
theorem dX5_spread_4 : decode cX5_spread 4 = .ok (.iload_n 1, 1) := by decide +kernel
theorem dX5_spread_5 : decode cX5_spread 5 = .ok (.invokevirtual 66, 3) := by decide +kernel
theorem dX5_spread_8 : decode cX5_spread 8 = .ok (.ifCond .eq 10, 3) := by decide +kernel
theorem dX5_spread_11 : decode cX5_spread 11 = .ok (.iload_n 2, 1) := by decide +kernel
theorem dX5_spread_12 : decode cX5_spread 12 = .ok (.invokestatic 69, 3) := by decide +kernel
theorem dX5_spread_15 : decode cX5_spread 15 = .ok (.ifCond .ne 11, 3) := by decide +kernel
theorem dX5_spread_18 : decode cX5_spread 18 = .ok (.aload_n 0, 1) := by decide +kernel
theorem dX5_spread_19 : decode cX5_spread 19 = .ok (.bipush (-2), 2) := by decide +kernel
theorem dX5_spread_21 : decode cX5_spread 21 = .ok (.invokevirtual 48, 3) := by decide +kernel
theorem dX5_spread_24 : decode cX5_spread 24 = .ok (.i2l, 1) := by decide +kernel
theorem dX5_spread_25 : decode cX5_spread 25 = .ok (.lreturn, 1) := by decide +kernel
theorem dX5_spread_26 : decode cX5_spread 26 = .ok (.aload_n 0, 1) := by decide +kernel
theorem dX5_spread_27 : decode cX5_spread 27 = .ok (.iload_n 1, 1) := by decide +kernel
theorem dX5_spread_28 : decode cX5_spread 28 = .ok (.iload_n 2, 1) := by decide +kernel
theorem dX5_spread_29 : decode cX5_spread 29 = .ok (.invokevirtual 134, 3) := by decide +kernel
theorem dX5_spread_32 : decode cX5_spread 32 = .ok (.aload_n 0, 1) := by decide +kernel
theorem dX5_spread_33 : decode cX5_spread 33 = .ok (.getfield 33, 3) := by decide +kernel
theorem dX5_spread_36 : decode cX5_spread 36 = .ok (.invokevirtual 137, 3) := by decide +kernel
theorem dX5_spread_39 : decode cX5_spread 39 = .ok (.ifCond .ne 9, 3) := by decide +kernel
theorem dX5_spread_42 : decode cX5_spread 42 = .ok (.ldc2_w 156, 3) := by decide +kernel
theorem dX5_spread_45 : decode cX5_spread 45 = .ok (.goto 13, 3) := by decide +kernel
theorem dX5_spread_48 : decode cX5_spread 48 = .ok (.aload_n 0, 1) := by decide +kernel
theorem dX5_spread_49 : decode cX5_spread 49 = .ok (.getfield 33, 3) := by decide +kernel
theorem dX5_spread_52 : decode cX5_spread 52 = .ok (.invokevirtual 158, 3) := by decide +kernel
theorem dX5_spread_55 : decode cX5_spread 55 = .ok (.invokestatic 162, 3) := by decide +kernel
theorem dX5_spread_58 : decode cX5_spread 58 = .ok (.lreturn, 1) := by decide +kernel
set_option maxRecDepth 20000 in
theorem ggX5_holds_X5_isMember : GoodIn wsX5_holds wsX5_isMember := goodIn_r _ [6, 7, 8, 5, 9] (by decide +kernel) (by decide +kernel)
set_option maxRecDepth 20000 in
theorem gX5_holds_X5_isMember : GoodIn wsX5_holds (va_wsS RX5 69 yX5_isMember wsX5_isMember) := goodIn_app (goodIn_of _ (by decide +kernel)) ggX5_holds_X5_isMember
set_option maxRecDepth 20000 in
theorem ggX5_holds_X5_isWithin : GoodIn wsX5_holds wsX5_isWithin := goodIn_r _ [9] (by decide +kernel) (by decide +kernel)
set_option maxRecDepth 20000 in
theorem gX5_holds_X5_isWithin : GoodIn wsX5_holds (va_wsS RX5 81 yX5_isWithin wsX5_isWithin) := goodIn_app (goodIn_of _ (by decide +kernel)) ggX5_holds_X5_isWithin
set_option maxRecDepth 20000 in
theorem ggX5_holds_X5_refuseBad : GoodIn wsX5_holds wsX5_refuseBad := goodIn_r _ [13, 14, 141, 142, 143, 144, 145, 146, 147, 148] (by decide +kernel) (by decide +kernel)
set_option maxRecDepth 20000 in
theorem gX5_holds_X5_refuseBad : GoodIn wsX5_holds (wsV RX5 48 RX5 yX5_refuseBad wsX5_refuseBad) := goodIn_app (goodIn_of _ (by decide +kernel)) ggX5_holds_X5_refuseBad
set_option maxRecDepth 20000 in
theorem ggX5_holds_X0_days : GoodIn wsX5_holds wsX0_days := goodIn_r _ [19, 20, 149, 150, 151, 152, 153] (by decide +kernel) (by decide +kernel)
set_option maxRecDepth 20000 in
theorem gX5_holds_X0_days : GoodIn wsX5_holds (wsV RX5 52 RX0 yX0_days wsX0_days) := goodIn_app (goodIn_of _ (by decide +kernel)) ggX5_holds_X0_days
set_option maxRecDepth 20000 in
theorem ggX5_holds_X0_member : GoodIn wsX5_holds wsX0_member := goodIn_r _ [24, 25, 26, 27, 28, 18, 29, 20, 4, 5, 6, 7, 8, 9, 149, 150, 151, 152, 153] (by decide +kernel) (by decide +kernel)
set_option maxRecDepth 20000 in
theorem gX5_holds_X0_member : GoodIn wsX5_holds (wsV RX5 72 RX0 yX0_member wsX0_member) := goodIn_app (goodIn_of _ (by decide +kernel)) ggX5_holds_X0_member
set_option maxRecDepth 20000 in
theorem ggX5_holds_X5_gatherFollowers : GoodIn wsX5_holds wsX5_gatherFollowers := goodIn_r _ [33, 34, 1, 2, 35, 36, 37, 38, 39, 40, 41, 42, 43, 44, 45, 46, 47, 48, 49, 16, 17, 18, 19, 20, 50, 51, 52, 53, 54, 55, 56, 22, 23, 24, 25, 26, 27, 28, 29, 4, 5, 6, 7, 8, 9, 57, 58, 59, 60, 61, 62, 63, 64, 65, 66, 67, 68, 69, 70, 71, 72, 73, 74, 75, 76, 77, 78, 79, 80, 81, 82, 83, 84, 85, 86, 87, 88, 89, 90, 91, 92, 93, 94, 95, 96, 97, 98, 99, 100, 101, 102, 103, 104, 105, 106, 107, 108, 109, 110, 111, 112, 113, 114, 115, 116, 117, 118, 119, 120, 121, 122, 123, 124, 141, 142, 143, 144, 145, 146, 147, 148, 154, 155, 156, 157, 158, 159, 160, 161, 162, 149, 150, 151, 152, 153, 163, 164, 165, 166] (by decide +kernel) (by decide +kernel)
set_option maxRecDepth 20000 in
theorem gX5_holds_X5_gatherFollowers : GoodIn wsX5_holds (wsV RX5 134 RX5 yX5_gatherFollowers wsX5_gatherFollowers) := goodIn_app (goodIn_of _ (by decide +kernel)) ggX5_holds_X5_gatherFollowers
set_option maxRecDepth 20000 in
theorem ggX5_holds_X1_spanSize : GoodIn wsX5_holds wsX1_spanSize := goodIn_r _ [128, 107, 129, 130, 43, 131, 163, 164, 165, 166] (by decide +kernel) (by decide +kernel)
set_option maxRecDepth 20000 in
theorem gX5_holds_X1_spanSize : GoodIn wsX5_holds (wsV RX5 146 RX1 yX1_spanSize wsX1_spanSize) := goodIn_app (goodIn_of _ (by decide +kernel)) ggX5_holds_X1_spanSize
set_option maxRecDepth 20000 in
theorem ggX5_holds_X1_least : GoodIn wsX5_holds wsX1_least := goodIn_r _ [135, 124, 136, 126, 127, 105, 128, 107, 129, 130, 43, 131, 163, 164, 165, 166] (by decide +kernel) (by decide +kernel)
set_option maxRecDepth 20000 in
theorem gX5_holds_X1_least : GoodIn wsX5_holds (wsV RX5 140 RX1 yX1_least wsX1_least) := goodIn_app (goodIn_of _ (by decide +kernel)) ggX5_holds_X1_least
set_option maxRecDepth 20000 in
theorem ggX5_holds_X1_greatest : GoodIn wsX5_holds wsX1_greatest := goodIn_r _ [140, 124, 107, 136, 126, 127, 105, 128, 129, 130, 43, 131, 163, 164, 165, 166] (by decide +kernel) (by decide +kernel)
set_option maxRecDepth 20000 in
theorem gX5_holds_X1_greatest : GoodIn wsX5_holds (wsV RX5 143 RX1 yX1_greatest wsX1_greatest) := goodIn_app (goodIn_of _ (by decide +kernel)) ggX5_holds_X1_greatest
theorem dX5_holds_0 : decode cX5_holds 0 = .ok (.iload_n 1, 1) := by decide +kernel
theorem dX5_holds_1 : decode cX5_holds 1 = .ok (.invokestatic 69, 3) := by decide +kernel
theorem dX5_holds_4 : decode cX5_holds 4 = .ok (.ifCond .eq 21, 3) := by decide +kernel
theorem dX5_holds_7 : decode cX5_holds 7 = .ok (.iload_n 2, 1) := by decide +kernel
theorem dX5_holds_8 : decode cX5_holds 8 = .ok (.iconst 0, 1) := by decide +kernel
theorem dX5_holds_9 : decode cX5_holds 9 = .ok (.iconst 5, 1) := by decide +kernel
theorem dX5_holds_10 : decode cX5_holds 10 = .ok (.invokestatic 81, 3) := by decide +kernel
theorem dX5_holds_13 : decode cX5_holds 13 = .ok (.ifCond .eq 12, 3) := by decide +kernel
theorem dX5_holds_16 : decode cX5_holds 16 = .ok (.iload_n 3, 1) := by decide +kernel
theorem dX5_holds_17 : decode cX5_holds 17 = .ok (.iconst 0, 1) := by decide +kernel
theorem dX5_holds_18 : decode cX5_holds 18 = .ok (.iconst 2, 1) := by decide +kernel
theorem dX5_holds_19 : decode cX5_holds 19 = .ok (.invokestatic 81, 3) := by decide +kernel
theorem dX5_holds_22 : decode cX5_holds 22 = .ok (.ifCond .ne 10, 3) := by decide +kernel
theorem dX5_holds_25 : decode cX5_holds 25 = .ok (.aload_n 0, 1) := by decide +kernel
theorem dX5_holds_26 : decode cX5_holds 26 = .ok (.bipush (-2), 2) := by decide +kernel
theorem dX5_holds_28 : decode cX5_holds 28 = .ok (.invokevirtual 48, 3) := by decide +kernel
theorem dX5_holds_31 : decode cX5_holds 31 = .ok (.ireturn, 1) := by decide +kernel
theorem dX5_holds_32 : decode cX5_holds 32 = .ok (.iconst 0, 1) := by decide +kernel
theorem dX5_holds_33 : decode cX5_holds 33 = .ok (.istore 4, 2) := by decide +kernel
theorem dX5_holds_35 : decode cX5_holds 35 = .ok (.iconst 0, 1) := by decide +kernel
theorem dX5_holds_36 : decode cX5_holds 36 = .ok (.istore 5, 2) := by decide +kernel
theorem dX5_holds_38 : decode cX5_holds 38 = .ok (.iconst 0, 1) := by decide +kernel
theorem dX5_holds_39 : decode cX5_holds 39 = .ok (.istore 6, 2) := by decide +kernel
theorem dX5_holds_41 : decode cX5_holds 41 = .ok (.iload 6, 2) := by decide +kernel
theorem dX5_holds_43 : decode cX5_holds 43 = .ok (.iconst 1, 1) := by decide +kernel
theorem dX5_holds_44 : decode cX5_holds 44 = .ok (.iadd, 1) := by decide +kernel
theorem dX5_holds_45 : decode cX5_holds 45 = .ok (.aload_n 0, 1) := by decide +kernel
theorem dX5_holds_46 : decode cX5_holds 46 = .ok (.getfield 10, 3) := by decide +kernel
theorem dX5_holds_49 : decode cX5_holds 49 = .ok (.invokevirtual 52, 3) := by decide +kernel
theorem dX5_holds_52 : decode cX5_holds 52 = .ok (.if_icmp .ge 88, 3) := by decide +kernel
theorem dX5_holds_55 : decode cX5_holds 55 = .ok (.aload_n 0, 1) := by decide +kernel
theorem dX5_holds_56 : decode cX5_holds 56 = .ok (.getfield 10, 3) := by decide +kernel
theorem dX5_holds_59 : decode cX5_holds 59 = .ok (.iload 6, 2) := by decide +kernel
theorem dX5_holds_61 : decode cX5_holds 61 = .ok (.iconst 1, 1) := by decide +kernel
theorem dX5_holds_62 : decode cX5_holds 62 = .ok (.iadd, 1) := by decide +kernel
theorem dX5_holds_63 : decode cX5_holds 63 = .ok (.iload_n 1, 1) := by decide +kernel
theorem dX5_holds_64 : decode cX5_holds 64 = .ok (.invokevirtual 72, 3) := by decide +kernel
theorem dX5_holds_67 : decode cX5_holds 67 = .ok (.istore 7, 2) := by decide +kernel
theorem dX5_holds_69 : decode cX5_holds 69 = .ok (.aload_n 0, 1) := by decide +kernel
theorem dX5_holds_70 : decode cX5_holds 70 = .ok (.iload 6, 2) := by decide +kernel
theorem dX5_holds_72 : decode cX5_holds 72 = .ok (.iload_n 1, 1) := by decide +kernel
theorem dX5_holds_73 : decode cX5_holds 73 = .ok (.invokevirtual 134, 3) := by decide +kernel
theorem dX5_holds_76 : decode cX5_holds 76 = .ok (.iload 7, 2) := by decide +kernel
theorem dX5_holds_78 : decode cX5_holds 78 = .ok (.sipush (-10000), 3) := by decide +kernel
theorem dX5_holds_81 : decode cX5_holds 81 = .ok (.if_icmp .eq 53, 3) := by decide +kernel
theorem dX5_holds_84 : decode cX5_holds 84 = .ok (.aload_n 0, 1) := by decide +kernel
theorem dX5_holds_85 : decode cX5_holds 85 = .ok (.getfield 33, 3) := by decide +kernel
theorem dX5_holds_88 : decode cX5_holds 88 = .ok (.iload_n 2, 1) := by decide +kernel
theorem dX5_holds_89 : decode cX5_holds 89 = .ok (.invokevirtual 146, 3) := by decide +kernel
theorem dX5_holds_92 : decode cX5_holds 92 = .ok (.ifCond .le 42, 3) := by decide +kernel
theorem dX5_holds_95 : decode cX5_holds 95 = .ok (.iinc 4 1, 3) := by decide +kernel
theorem dX5_holds_98 : decode cX5_holds 98 = .ok (.iload 5, 2) := by decide +kernel
theorem dX5_holds_100 : decode cX5_holds 100 = .ok (.aload_n 0, 1) := by decide +kernel
theorem dX5_holds_101 : decode cX5_holds 101 = .ok (.getfield 33, 3) := by decide +kernel
theorem dX5_holds_104 : decode cX5_holds 104 = .ok (.iload_n 2, 1) := by decide +kernel
theorem dX5_holds_105 : decode cX5_holds 105 = .ok (.invokevirtual 140, 3) := by decide +kernel
theorem dX5_holds_108 : decode cX5_holds 108 = .ok (.iload 7, 2) := by decide +kernel
theorem dX5_holds_110 : decode cX5_holds 110 = .ok (.if_icmp .gt 20, 3) := by decide +kernel
theorem dX5_holds_113 : decode cX5_holds 113 = .ok (.iload 7, 2) := by decide +kernel
theorem dX5_holds_115 : decode cX5_holds 115 = .ok (.aload_n 0, 1) := by decide +kernel
theorem dX5_holds_116 : decode cX5_holds 116 = .ok (.getfield 33, 3) := by decide +kernel
theorem dX5_holds_119 : decode cX5_holds 119 = .ok (.iload_n 2, 1) := by decide +kernel
theorem dX5_holds_120 : decode cX5_holds 120 = .ok (.invokevirtual 143, 3) := by decide +kernel
theorem dX5_holds_123 : decode cX5_holds 123 = .ok (.if_icmp .gt 7, 3) := by decide +kernel
theorem dX5_holds_126 : decode cX5_holds 126 = .ok (.iconst 1, 1) := by decide +kernel
theorem dX5_holds_127 : decode cX5_holds 127 = .ok (.goto 4, 3) := by decide +kernel
theorem dX5_holds_130 : decode cX5_holds 130 = .ok (.iconst 0, 1) := by decide +kernel
theorem dX5_holds_131 : decode cX5_holds 131 = .ok (.iadd, 1) := by decide +kernel
theorem dX5_holds_132 : decode cX5_holds 132 = .ok (.istore 5, 2) := by decide +kernel
theorem dX5_holds_134 : decode cX5_holds 134 = .ok (.iinc 6 1, 3) := by decide +kernel
theorem dX5_holds_137 : decode cX5_holds 137 = .ok (.goto (-96), 3) := by decide +kernel
theorem dX5_holds_140 : decode cX5_holds 140 = .ok (.iload_n 3, 1) := by decide +kernel
theorem dX5_holds_141 : decode cX5_holds 141 = .ok (.iconst 2, 1) := by decide +kernel
theorem dX5_holds_142 : decode cX5_holds 142 = .ok (.if_icmp .ne 22, 3) := by decide +kernel
theorem dX5_holds_145 : decode cX5_holds 145 = .ok (.iload 4, 2) := by decide +kernel
theorem dX5_holds_147 : decode cX5_holds 147 = .ok (.ifCond .ne 7, 3) := by decide +kernel
theorem dX5_holds_150 : decode cX5_holds 150 = .ok (.iconst 0, 1) := by decide +kernel
theorem dX5_holds_151 : decode cX5_holds 151 = .ok (.goto 12, 3) := by decide +kernel
theorem dX5_holds_154 : decode cX5_holds 154 = .ok (.iload 5, 2) := by decide +kernel
theorem dX5_holds_156 : decode cX5_holds 156 = .ok (.sipush 1000, 3) := by decide +kernel
theorem dX5_holds_159 : decode cX5_holds 159 = .ok (.imul, 1) := by decide +kernel
theorem dX5_holds_160 : decode cX5_holds 160 = .ok (.iload 4, 2) := by decide +kernel
theorem dX5_holds_162 : decode cX5_holds 162 = .ok (.idiv, 1) := by decide +kernel
theorem dX5_holds_163 : decode cX5_holds 163 = .ok (.ireturn, 1) := by decide +kernel
theorem dX5_holds_164 : decode cX5_holds 164 = .ok (.iload_n 3, 1) := by decide +kernel
theorem dX5_holds_165 : decode cX5_holds 165 = .ok (.ifCond .ne 8, 3) := by decide +kernel
theorem dX5_holds_168 : decode cX5_holds 168 = .ok (.iload 4, 2) := by decide +kernel
theorem dX5_holds_170 : decode cX5_holds 170 = .ok (.goto 5, 3) := by decide +kernel
theorem dX5_holds_173 : decode cX5_holds 173 = .ok (.iload 5, 2) := by decide +kernel
theorem dX5_holds_175 : decode cX5_holds 175 = .ok (.ireturn, 1) := by decide +kernel
set_option maxRecDepth 20000 in
theorem ggX5_errs_X5_isMember : GoodIn wsX5_errs wsX5_isMember := goodIn_r _ [6, 7, 8, 5, 9] (by decide +kernel) (by decide +kernel)
set_option maxRecDepth 20000 in
theorem gX5_errs_X5_isMember : GoodIn wsX5_errs (va_wsS RX5 69 yX5_isMember wsX5_isMember) := goodIn_app (goodIn_of _ (by decide +kernel)) ggX5_errs_X5_isMember
set_option maxRecDepth 20000 in
theorem ggX5_errs_X5_refuseBad : GoodIn wsX5_errs wsX5_refuseBad := goodIn_r _ [13, 14, 143, 144, 145, 146, 147, 148, 149, 150] (by decide +kernel) (by decide +kernel)
set_option maxRecDepth 20000 in
theorem gX5_errs_X5_refuseBad : GoodIn wsX5_errs (wsV RX5 48 RX5 yX5_refuseBad wsX5_refuseBad) := goodIn_app (goodIn_of _ (by decide +kernel)) ggX5_errs_X5_refuseBad
set_option maxRecDepth 20000 in
theorem ggX5_errs_X2_learn : GoodIn wsX5_errs wsX2_learn := goodIn_r _ [19, 20, 21, 22, 23, 24, 25, 26, 27, 28, 29, 30, 31, 32, 33, 34, 35, 36, 37, 18, 38, 39, 40, 41, 42, 43, 44, 45, 46, 47, 48, 49, 4, 5, 6, 7, 8, 9, 50, 51, 52, 53, 54, 55, 56, 57, 58, 59, 60, 61, 62, 63, 64, 65, 66, 67, 68, 69, 70, 71, 72, 73, 74, 75, 76, 77, 78, 79, 80, 81, 82, 83, 84, 85, 86, 87, 88, 89, 90, 151, 152, 153, 154, 155, 156, 157, 158, 159, 160, 161, 162, 163, 164] (by decide +kernel) (by decide +kernel)
set_option maxRecDepth 20000 in
theorem gX5_errs_X2_learn : GoodIn wsX5_errs (wsV RX5 102 RX2 yX2_learn wsX2_learn) := goodIn_app (goodIn_of _ (by decide +kernel)) ggX5_errs_X2_learn
set_option maxRecDepth 20000 in
theorem ggX5_errs_X0_few : GoodIn wsX5_errs wsX0_few := goodIn_r _ [94, 58, 160, 161, 162, 163, 164] (by decide +kernel) (by decide +kernel)
set_option maxRecDepth 20000 in
theorem gX5_errs_X0_few : GoodIn wsX5_errs (wsV RX5 114 RX0 yX0_few wsX0_few) := goodIn_app (goodIn_of _ (by decide +kernel)) ggX5_errs_X0_few
set_option maxRecDepth 20000 in
theorem ggX5_errs_X5_meanError : GoodIn wsX5_errs wsX5_meanError := goodIn_r _ [98, 2, 99, 1, 100, 101, 30, 31, 32, 33, 34, 102, 42, 43, 44, 45, 46, 47, 48, 49, 4, 5, 6, 7, 8, 9, 103, 104, 105, 106, 107, 108, 109, 110, 111, 18, 112, 77, 21, 22, 23, 24, 87, 88, 89, 90, 25, 113, 114, 115, 116, 82, 117, 118, 84, 85, 86, 28, 64, 119, 120, 121, 122, 123, 124, 125, 126, 127, 128, 129, 130, 131, 132, 133, 50, 51, 52, 134, 143, 144, 145, 146, 147, 148, 149, 150, 160, 161, 162, 163, 164, 165, 166, 167, 168, 151, 152, 153, 154, 155, 156, 157, 158, 159] (by decide +kernel) (by decide +kernel)
set_option maxRecDepth 20000 in
theorem gX5_errs_X5_meanError : GoodIn wsX5_errs (wsV RX5 166 RX5 yX5_meanError wsX5_meanError) := goodIn_app (goodIn_of _ (by decide +kernel)) ggX5_errs_X5_meanError
set_option maxRecDepth 20000 in
theorem ggX5_errs_X5_bitsOrNone : GoodIn wsX5_errs wsX5_bitsOrNone := goodIn_r _ [137, 138, 139, 5, 140, 141, 142] (by decide +kernel) (by decide +kernel)
set_option maxRecDepth 20000 in
theorem gX5_errs_X5_bitsOrNone : GoodIn wsX5_errs (va_wsS RX5 110 yX5_bitsOrNone wsX5_bitsOrNone) := goodIn_app (goodIn_of _ (by decide +kernel)) ggX5_errs_X5_bitsOrNone
theorem dX5_errs_0 : decode cX5_errs 0 = .ok (.iload_n 1, 1) := by decide +kernel
theorem dX5_errs_1 : decode cX5_errs 1 = .ok (.invokestatic 69, 3) := by decide +kernel
theorem dX5_errs_4 : decode cX5_errs 4 = .ok (.ifCond .ne 10, 3) := by decide +kernel
theorem dX5_errs_7 : decode cX5_errs 7 = .ok (.aload_n 0, 1) := by decide +kernel
theorem dX5_errs_8 : decode cX5_errs 8 = .ok (.bipush (-2), 2) := by decide +kernel
theorem dX5_errs_10 : decode cX5_errs 10 = .ok (.invokevirtual 48, 3) := by decide +kernel
theorem dX5_errs_13 : decode cX5_errs 13 = .ok (.ireturn, 1) := by decide +kernel
theorem dX5_errs_14 : decode cX5_errs 14 = .ok (.aload_n 0, 1) := by decide +kernel
theorem dX5_errs_15 : decode cX5_errs 15 = .ok (.getfield 26, 3) := by decide +kernel
theorem dX5_errs_18 : decode cX5_errs 18 = .ok (.aload_n 0, 1) := by decide +kernel
theorem dX5_errs_19 : decode cX5_errs 19 = .ok (.getfield 10, 3) := by decide +kernel
theorem dX5_errs_22 : decode cX5_errs 22 = .ok (.iconst (-1), 1) := by decide +kernel
theorem dX5_errs_23 : decode cX5_errs 23 = .ok (.invokevirtual 102, 3) := by decide +kernel
theorem dX5_errs_26 : decode cX5_errs 26 = .ok (.aload_n 0, 1) := by decide +kernel
theorem dX5_errs_27 : decode cX5_errs 27 = .ok (.iload_n 1, 1) := by decide +kernel
theorem dX5_errs_28 : decode cX5_errs 28 = .ok (.aload_n 0, 1) := by decide +kernel
theorem dX5_errs_29 : decode cX5_errs 29 = .ok (.getfield 10, 3) := by decide +kernel
theorem dX5_errs_32 : decode cX5_errs 32 = .ok (.invokevirtual 114, 3) := by decide +kernel
theorem dX5_errs_35 : decode cX5_errs 35 = .ok (.invokevirtual 166, 3) := by decide +kernel
theorem dX5_errs_38 : decode cX5_errs 38 = .ok (.invokestatic 110, 3) := by decide +kernel
theorem dX5_errs_41 : decode cX5_errs 41 = .ok (.ireturn, 1) := by decide +kernel
set_option maxRecDepth 20000 in
theorem ggX5_best_X5_isMember : GoodIn wsX5_best wsX5_isMember := goodIn_r _ [7, 8, 9, 6, 10] (by decide +kernel) (by decide +kernel)
set_option maxRecDepth 20000 in
theorem gX5_best_X5_isMember : GoodIn wsX5_best (va_wsS RX5 69 yX5_isMember wsX5_isMember) := goodIn_app (goodIn_of _ (by decide +kernel)) ggX5_best_X5_isMember
set_option maxRecDepth 20000 in
theorem ggX5_best_X5_isWithin : GoodIn wsX5_best wsX5_isWithin := goodIn_r _ [10] (by decide +kernel) (by decide +kernel)
set_option maxRecDepth 20000 in
theorem gX5_best_X5_isWithin : GoodIn wsX5_best (va_wsS RX5 81 yX5_isWithin wsX5_isWithin) := goodIn_app (goodIn_of _ (by decide +kernel)) ggX5_best_X5_isWithin
set_option maxRecDepth 20000 in
theorem ggX5_best_X5_refuseBad : GoodIn wsX5_best wsX5_refuseBad := goodIn_r _ [14, 15, 142, 143, 144, 145, 146, 147, 148, 149] (by decide +kernel) (by decide +kernel)
set_option maxRecDepth 20000 in
theorem gX5_best_X5_refuseBad : GoodIn wsX5_best (wsV RX5 48 RX5 yX5_refuseBad wsX5_refuseBad) := goodIn_app (goodIn_of _ (by decide +kernel)) ggX5_best_X5_refuseBad
set_option maxRecDepth 20000 in
theorem ggX5_best_X2_learn : GoodIn wsX5_best wsX2_learn := goodIn_r _ [20, 21, 22, 23, 24, 25, 26, 27, 28, 29, 30, 31, 32, 33, 34, 35, 36, 37, 38, 19, 39, 40, 41, 42, 43, 44, 45, 46, 47, 48, 49, 50, 5, 6, 7, 8, 9, 10, 51, 52, 53, 54, 55, 56, 57, 58, 59, 60, 61, 62, 63, 64, 65, 66, 67, 68, 69, 70, 71, 72, 73, 74, 75, 76, 77, 78, 79, 80, 81, 82, 83, 84, 85, 86, 87, 88, 89, 90, 91, 150, 151, 152, 153, 154, 155, 156, 157, 158, 159, 160, 161, 162, 163] (by decide +kernel) (by decide +kernel)
set_option maxRecDepth 20000 in
theorem gX5_best_X2_learn : GoodIn wsX5_best (wsV RX5 102 RX2 yX2_learn wsX2_learn) := goodIn_app (goodIn_of _ (by decide +kernel)) ggX5_best_X2_learn
set_option maxRecDepth 20000 in
theorem ggX5_best_X5_meanError : GoodIn wsX5_best wsX5_meanError := goodIn_r _ [95, 2, 96, 1, 3, 97, 31, 32, 33, 34, 35, 98, 43, 44, 45, 46, 47, 48, 49, 50, 5, 6, 7, 8, 9, 10, 99, 100, 101, 102, 103, 104, 105, 106, 107, 19, 108, 78, 22, 23, 24, 25, 88, 89, 90, 91, 26, 109, 110, 111, 112, 83, 113, 114, 85, 86, 87, 29, 65, 115, 116, 117, 118, 119, 120, 121, 122, 123, 124, 125, 126, 127, 128, 129, 51, 52, 53, 130, 142, 143, 144, 145, 146, 147, 148, 149, 159, 160, 161, 162, 163, 164, 165, 166, 167, 150, 151, 152, 153, 154, 155, 156, 157, 158] (by decide +kernel) (by decide +kernel)
set_option maxRecDepth 20000 in
theorem gX5_best_X5_meanError : GoodIn wsX5_best (wsV RX5 166 RX5 yX5_meanError wsX5_meanError) := goodIn_app (goodIn_of _ (by decide +kernel)) ggX5_best_X5_meanError
set_option maxRecDepth 20000 in
theorem ggX5_best_X5_isLess : GoodIn wsX5_best wsX5_isLess := goodIn_r _ [133] (by decide +kernel) (by decide +kernel)
set_option maxRecDepth 20000 in
theorem gX5_best_X5_isLess : GoodIn wsX5_best (va_wsS RX5 130 yX5_isLess wsX5_isLess) := goodIn_app (goodIn_of _ (by decide +kernel)) ggX5_best_X5_isLess
set_option maxRecDepth 20000 in
theorem ggX5_best_X5_bitsOrNone : GoodIn wsX5_best wsX5_bitsOrNone := goodIn_r _ [136, 137, 138, 6, 139, 140, 141] (by decide +kernel) (by decide +kernel)
set_option maxRecDepth 20000 in
theorem gX5_best_X5_bitsOrNone : GoodIn wsX5_best (va_wsS RX5 110 yX5_bitsOrNone wsX5_bitsOrNone) := goodIn_app (goodIn_of _ (by decide +kernel)) ggX5_best_X5_bitsOrNone
theorem dX5_best_0 : decode cX5_best 0 = .ok (.iload_n 1, 1) := by decide +kernel
theorem dX5_best_1 : decode cX5_best 1 = .ok (.invokestatic 69, 3) := by decide +kernel
theorem dX5_best_4 : decode cX5_best 4 = .ok (.ifCond .eq 12, 3) := by decide +kernel
theorem dX5_best_7 : decode cX5_best 7 = .ok (.iload_n 2, 1) := by decide +kernel
theorem dX5_best_8 : decode cX5_best 8 = .ok (.iconst 0, 1) := by decide +kernel
theorem dX5_best_9 : decode cX5_best 9 = .ok (.iconst 1, 1) := by decide +kernel
theorem dX5_best_10 : decode cX5_best 10 = .ok (.invokestatic 81, 3) := by decide +kernel
theorem dX5_best_13 : decode cX5_best 13 = .ok (.ifCond .ne 10, 3) := by decide +kernel
theorem dX5_best_16 : decode cX5_best 16 = .ok (.aload_n 0, 1) := by decide +kernel
theorem dX5_best_17 : decode cX5_best 17 = .ok (.bipush (-2), 2) := by decide +kernel
theorem dX5_best_19 : decode cX5_best 19 = .ok (.invokevirtual 48, 3) := by decide +kernel
theorem dX5_best_22 : decode cX5_best 22 = .ok (.ireturn, 1) := by decide +kernel
theorem dX5_best_23 : decode cX5_best 23 = .ok (.aload_n 0, 1) := by decide +kernel
theorem dX5_best_24 : decode cX5_best 24 = .ok (.getfield 26, 3) := by decide +kernel
theorem dX5_best_27 : decode cX5_best 27 = .ok (.aload_n 0, 1) := by decide +kernel
theorem dX5_best_28 : decode cX5_best 28 = .ok (.getfield 10, 3) := by decide +kernel
theorem dX5_best_31 : decode cX5_best 31 = .ok (.iconst (-1), 1) := by decide +kernel
theorem dX5_best_32 : decode cX5_best 32 = .ok (.invokevirtual 102, 3) := by decide +kernel
theorem dX5_best_35 : decode cX5_best 35 = .ok (.iconst (-1), 1) := by decide +kernel
theorem dX5_best_36 : decode cX5_best 36 = .ok (.istore_n 3, 1) := by decide +kernel
theorem dX5_best_37 : decode cX5_best 37 = .ok (.ldc 129, 2) := by decide +kernel
theorem dX5_best_39 : decode cX5_best 39 = .ok (.fstore 4, 2) := by decide +kernel
theorem dX5_best_41 : decode cX5_best 41 = .ok (.iconst 1, 1) := by decide +kernel
theorem dX5_best_42 : decode cX5_best 42 = .ok (.istore 5, 2) := by decide +kernel
theorem dX5_best_44 : decode cX5_best 44 = .ok (.iload 5, 2) := by decide +kernel
theorem dX5_best_46 : decode cX5_best 46 = .ok (.bipush 12, 2) := by decide +kernel
theorem dX5_best_48 : decode cX5_best 48 = .ok (.if_icmp .gt 35, 3) := by decide +kernel
theorem dX5_best_51 : decode cX5_best 51 = .ok (.aload_n 0, 1) := by decide +kernel
theorem dX5_best_52 : decode cX5_best 52 = .ok (.iload_n 1, 1) := by decide +kernel
theorem dX5_best_53 : decode cX5_best 53 = .ok (.iload 5, 2) := by decide +kernel
theorem dX5_best_55 : decode cX5_best 55 = .ok (.invokevirtual 166, 3) := by decide +kernel
theorem dX5_best_58 : decode cX5_best 58 = .ok (.fstore 6, 2) := by decide +kernel
theorem dX5_best_60 : decode cX5_best 60 = .ok (.fload 6, 2) := by decide +kernel
theorem dX5_best_62 : decode cX5_best 62 = .ok (.fload 4, 2) := by decide +kernel
theorem dX5_best_64 : decode cX5_best 64 = .ok (.invokestatic 130, 3) := by decide +kernel
theorem dX5_best_67 : decode cX5_best 67 = .ok (.ifCond .eq 10, 3) := by decide +kernel
theorem dX5_best_70 : decode cX5_best 70 = .ok (.fload 6, 2) := by decide +kernel
theorem dX5_best_72 : decode cX5_best 72 = .ok (.fstore 4, 2) := by decide +kernel
theorem dX5_best_74 : decode cX5_best 74 = .ok (.iload 5, 2) := by decide +kernel
theorem dX5_best_76 : decode cX5_best 76 = .ok (.istore_n 3, 1) := by decide +kernel
theorem dX5_best_77 : decode cX5_best 77 = .ok (.iinc 5 1, 3) := by decide +kernel
theorem dX5_best_80 : decode cX5_best 80 = .ok (.goto (-36), 3) := by decide +kernel
theorem dX5_best_83 : decode cX5_best 83 = .ok (.iload_n 2, 1) := by decide +kernel
theorem dX5_best_84 : decode cX5_best 84 = .ok (.ifCond .ne 7, 3) := by decide +kernel
theorem dX5_best_87 : decode cX5_best 87 = .ok (.iload_n 3, 1) := by decide +kernel
theorem dX5_best_88 : decode cX5_best 88 = .ok (.goto 8, 3) := by decide +kernel
theorem dX5_best_91 : decode cX5_best 91 = .ok (.fload 4, 2) := by decide +kernel
theorem dX5_best_93 : decode cX5_best 93 = .ok (.invokestatic 110, 3) := by decide +kernel
theorem dX5_best_96 : decode cX5_best 96 = .ok (.ireturn, 1) := by decide +kernel
set_option maxRecDepth 20000 in
theorem ggX5_spare_X5_isMember : GoodIn wsX5_spare wsX5_isMember := goodIn_r _ [7, 8, 9, 6, 10] (by decide +kernel) (by decide +kernel)
set_option maxRecDepth 20000 in
theorem gX5_spare_X5_isMember : GoodIn wsX5_spare (va_wsS RX5 69 yX5_isMember wsX5_isMember) := goodIn_app (goodIn_of _ (by decide +kernel)) ggX5_spare_X5_isMember
set_option maxRecDepth 20000 in
theorem ggX5_spare_X5_refuseBad : GoodIn wsX5_spare wsX5_refuseBad := goodIn_r _ [14, 15, 138, 139, 140, 141, 142, 143, 144, 145] (by decide +kernel) (by decide +kernel)
set_option maxRecDepth 20000 in
theorem gX5_spare_X5_refuseBad : GoodIn wsX5_spare (wsV RX5 48 RX5 yX5_refuseBad wsX5_refuseBad) := goodIn_app (goodIn_of _ (by decide +kernel)) ggX5_spare_X5_refuseBad
set_option maxRecDepth 20000 in
theorem ggX5_spare_X2_learn : GoodIn wsX5_spare wsX2_learn := goodIn_r _ [20, 21, 22, 23, 24, 25, 26, 27, 28, 29, 30, 31, 32, 33, 34, 35, 36, 37, 38, 19, 39, 40, 41, 42, 43, 44, 45, 46, 47, 48, 49, 50, 5, 6, 7, 8, 9, 10, 51, 52, 53, 54, 55, 56, 57, 58, 59, 60, 61, 62, 63, 64, 65, 66, 67, 68, 69, 70, 71, 72, 73, 74, 75, 76, 77, 78, 79, 80, 81, 82, 83, 84, 85, 86, 87, 88, 89, 90, 91, 146, 147, 148, 149, 150, 151, 152, 153, 154, 155, 156, 157, 158, 159] (by decide +kernel) (by decide +kernel)
set_option maxRecDepth 20000 in
theorem gX5_spare_X2_learn : GoodIn wsX5_spare (wsV RX5 102 RX2 yX2_learn wsX2_learn) := goodIn_app (goodIn_of _ (by decide +kernel)) ggX5_spare_X2_learn
set_option maxRecDepth 20000 in
theorem ggX5_spare_X0_few : GoodIn wsX5_spare wsX0_few := goodIn_r _ [95, 59, 155, 156, 157, 158, 159] (by decide +kernel) (by decide +kernel)
set_option maxRecDepth 20000 in
theorem gX5_spare_X0_few : GoodIn wsX5_spare (wsV RX5 114 RX0 yX0_few wsX0_few) := goodIn_app (goodIn_of _ (by decide +kernel)) ggX5_spare_X0_few
set_option maxRecDepth 20000 in
theorem ggX5_spare_X5_meanError : GoodIn wsX5_spare wsX5_meanError := goodIn_r _ [99, 3, 100, 2, 1, 101, 31, 32, 33, 34, 35, 102, 43, 44, 45, 46, 47, 48, 49, 50, 5, 6, 7, 8, 9, 10, 103, 104, 105, 106, 107, 108, 109, 110, 111, 19, 112, 78, 22, 23, 24, 25, 88, 89, 90, 91, 26, 113, 114, 115, 116, 83, 117, 118, 85, 86, 87, 29, 65, 119, 120, 121, 122, 123, 124, 125, 126, 127, 128, 129, 130, 131, 132, 133, 51, 52, 53, 134, 138, 139, 140, 141, 142, 143, 144, 145, 155, 156, 157, 158, 159, 160, 161, 162, 163, 146, 147, 148, 149, 150, 151, 152, 153, 154] (by decide +kernel) (by decide +kernel)
set_option maxRecDepth 20000 in
theorem gX5_spare_X5_meanError : GoodIn wsX5_spare (wsV RX5 166 RX5 yX5_meanError wsX5_meanError) := goodIn_app (goodIn_of _ (by decide +kernel)) ggX5_spare_X5_meanError
set_option maxRecDepth 20000 in
theorem ggX5_spare_X5_isLess : GoodIn wsX5_spare wsX5_isLess := goodIn_r _ [137] (by decide +kernel) (by decide +kernel)
set_option maxRecDepth 20000 in
theorem gX5_spare_X5_isLess : GoodIn wsX5_spare (va_wsS RX5 130 yX5_isLess wsX5_isLess) := goodIn_app (goodIn_of _ (by decide +kernel)) ggX5_spare_X5_isLess
theorem dX5_spare_0 : decode cX5_spare 0 = .ok (.iload_n 1, 1) := by decide +kernel
theorem dX5_spare_1 : decode cX5_spare 1 = .ok (.invokestatic 69, 3) := by decide +kernel
theorem dX5_spare_4 : decode cX5_spare 4 = .ok (.ifCond .ne 10, 3) := by decide +kernel
theorem dX5_spare_7 : decode cX5_spare 7 = .ok (.aload_n 0, 1) := by decide +kernel
theorem dX5_spare_8 : decode cX5_spare 8 = .ok (.bipush (-2), 2) := by decide +kernel
theorem dX5_spare_10 : decode cX5_spare 10 = .ok (.invokevirtual 48, 3) := by decide +kernel
theorem dX5_spare_13 : decode cX5_spare 13 = .ok (.ireturn, 1) := by decide +kernel
theorem dX5_spare_14 : decode cX5_spare 14 = .ok (.iconst (-1), 1) := by decide +kernel
theorem dX5_spare_15 : decode cX5_spare 15 = .ok (.istore_n 2, 1) := by decide +kernel
theorem dX5_spare_16 : decode cX5_spare 16 = .ok (.ldc 129, 2) := by decide +kernel
theorem dX5_spare_18 : decode cX5_spare 18 = .ok (.fstore_n 3, 1) := by decide +kernel
theorem dX5_spare_19 : decode cX5_spare 19 = .ok (.iconst 0, 1) := by decide +kernel
theorem dX5_spare_20 : decode cX5_spare 20 = .ok (.istore 4, 2) := by decide +kernel
theorem dX5_spare_22 : decode cX5_spare 22 = .ok (.iload 4, 2) := by decide +kernel
theorem dX5_spare_24 : decode cX5_spare 24 = .ok (.iconst 4, 1) := by decide +kernel
theorem dX5_spare_25 : decode cX5_spare 25 = .ok (.if_icmp .ge 51, 3) := by decide +kernel
theorem dX5_spare_28 : decode cX5_spare 28 = .ok (.aload_n 0, 1) := by decide +kernel
theorem dX5_spare_29 : decode cX5_spare 29 = .ok (.getfield 26, 3) := by decide +kernel
theorem dX5_spare_32 : decode cX5_spare 32 = .ok (.aload_n 0, 1) := by decide +kernel
theorem dX5_spare_33 : decode cX5_spare 33 = .ok (.getfield 10, 3) := by decide +kernel
theorem dX5_spare_36 : decode cX5_spare 36 = .ok (.iload 4, 2) := by decide +kernel
theorem dX5_spare_38 : decode cX5_spare 38 = .ok (.invokevirtual 102, 3) := by decide +kernel
theorem dX5_spare_41 : decode cX5_spare 41 = .ok (.aload_n 0, 1) := by decide +kernel
theorem dX5_spare_42 : decode cX5_spare 42 = .ok (.iload_n 1, 1) := by decide +kernel
end
section
theorem dX5_spare_43 : decode cX5_spare 43 = .ok (.aload_n 0, 1) := by decide +kernel
theorem dX5_spare_44 : decode cX5_spare 44 = .ok (.getfield 10, 3) := by decide +kernel
theorem dX5_spare_47 : decode cX5_spare 47 = .ok (.invokevirtual 114, 3) := by decide +kernel
theorem dX5_spare_50 : decode cX5_spare 50 = .ok (.invokevirtual 166, 3) := by decide +kernel
theorem dX5_spare_53 : decode cX5_spare 53 = .ok (.fstore 5, 2) := by decide +kernel
theorem dX5_spare_55 : decode cX5_spare 55 = .ok (.fload 5, 2) := by decide +kernel
theorem dX5_spare_57 : decode cX5_spare 57 = .ok (.fload_n 3, 1) := by decide +kernel
theorem dX5_spare_58 : decode cX5_spare 58 = .ok (.invokestatic 130, 3) := by decide +kernel
theorem dX5_spare_61 : decode cX5_spare 61 = .ok (.ifCond .eq 9, 3) := by decide +kernel
theorem dX5_spare_64 : decode cX5_spare 64 = .ok (.fload 5, 2) := by decide +kernel
theorem dX5_spare_66 : decode cX5_spare 66 = .ok (.fstore_n 3, 1) := by decide +kernel
theorem dX5_spare_67 : decode cX5_spare 67 = .ok (.iload 4, 2) := by decide +kernel
theorem dX5_spare_69 : decode cX5_spare 69 = .ok (.istore_n 2, 1) := by decide +kernel
theorem dX5_spare_70 : decode cX5_spare 70 = .ok (.iinc 4 1, 3) := by decide +kernel
theorem dX5_spare_73 : decode cX5_spare 73 = .ok (.goto (-51), 3) := by decide +kernel
theorem dX5_spare_76 : decode cX5_spare 76 = .ok (.iload_n 2, 1) := by decide +kernel
theorem dX5_spare_77 : decode cX5_spare 77 = .ok (.ireturn, 1) := by decide +kernel
set_option maxRecDepth 20000 in
theorem ggX5_type_X5_isWithin : GoodIn wsX5_type wsX5_isWithin := goodIn_r _ [5] (by decide +kernel) (by decide +kernel)
set_option maxRecDepth 20000 in
theorem gX5_type_X5_isWithin : GoodIn wsX5_type (va_wsS RX5 81 yX5_isWithin wsX5_isWithin) := goodIn_app (goodIn_of _ (by decide +kernel)) ggX5_type_X5_isWithin
set_option maxRecDepth 20000 in
theorem ggX5_type_X5_refuseBad : GoodIn wsX5_type wsX5_refuseBad := goodIn_r _ [9, 10, 27, 28, 29, 30, 31, 32, 33, 34] (by decide +kernel) (by decide +kernel)
set_option maxRecDepth 20000 in
theorem gX5_type_X5_refuseBad : GoodIn wsX5_type (wsV RX5 48 RX5 yX5_refuseBad wsX5_refuseBad) := goodIn_app (goodIn_of _ (by decide +kernel)) ggX5_type_X5_refuseBad
set_option maxRecDepth 20000 in
theorem ggX5_type_X4_length : GoodIn wsX5_type wsX4_length := goodIn_r _ [15, 16, 35, 36, 37, 38, 39] (by decide +kernel) (by decide +kernel)
set_option maxRecDepth 20000 in
theorem gX5_type_X4_length : GoodIn wsX5_type (wsV RX5 169 RX4 yX4_length wsX4_length) := goodIn_app (goodIn_of _ (by decide +kernel)) ggX5_type_X4_length
set_option maxRecDepth 20000 in
theorem ggX5_type_X5_refuseFull : GoodIn wsX5_type wsX5_refuseFull := goodIn_r _ [20, 21, 27, 28, 29, 30, 31, 32, 33, 34] (by decide +kernel) (by decide +kernel)
set_option maxRecDepth 20000 in
theorem gX5_type_X5_refuseFull : GoodIn wsX5_type (wsV RX5 56 RX5 yX5_refuseFull wsX5_refuseFull) := goodIn_app (goodIn_of _ (by decide +kernel)) ggX5_type_X5_refuseFull
set_option maxRecDepth 20000 in
theorem ggX5_type_X4_append : GoodIn wsX5_type wsX4_append := goodIn_r _ [25, 16, 26, 35, 36, 37, 38, 39] (by decide +kernel) (by decide +kernel)
set_option maxRecDepth 20000 in
theorem gX5_type_X4_append : GoodIn wsX5_type (wsV RX5 172 RX4 yX4_append wsX4_append) := goodIn_app (goodIn_of _ (by decide +kernel)) ggX5_type_X4_append
theorem dX5_type_0 : decode cX5_type 0 = .ok (.iload_n 1, 1) := by decide +kernel
theorem dX5_type_1 : decode cX5_type 1 = .ok (.iconst 0, 1) := by decide +kernel
theorem dX5_type_2 : decode cX5_type 2 = .ok (.bipush 127, 2) := by decide +kernel
theorem dX5_type_4 : decode cX5_type 4 = .ok (.invokestatic 81, 3) := by decide +kernel
theorem dX5_type_7 : decode cX5_type 7 = .ok (.ifCond .ne 10, 3) := by decide +kernel
theorem dX5_type_10 : decode cX5_type 10 = .ok (.aload_n 0, 1) := by decide +kernel
theorem dX5_type_11 : decode cX5_type 11 = .ok (.bipush (-2), 2) := by decide +kernel
theorem dX5_type_13 : decode cX5_type 13 = .ok (.invokevirtual 48, 3) := by decide +kernel
theorem dX5_type_16 : decode cX5_type 16 = .ok (.ireturn, 1) := by decide +kernel
theorem dX5_type_17 : decode cX5_type 17 = .ok (.aload_n 0, 1) := by decide +kernel
theorem dX5_type_18 : decode cX5_type 18 = .ok (.getfield 40, 3) := by decide +kernel
theorem dX5_type_21 : decode cX5_type 21 = .ok (.invokevirtual 169, 3) := by decide +kernel
theorem dX5_type_24 : decode cX5_type 24 = .ok (.bipush 120, 2) := by decide +kernel
theorem dX5_type_26 : decode cX5_type 26 = .ok (.if_icmp .lt 8, 3) := by decide +kernel
theorem dX5_type_29 : decode cX5_type 29 = .ok (.aload_n 0, 1) := by decide +kernel
theorem dX5_type_30 : decode cX5_type 30 = .ok (.invokevirtual 56, 3) := by decide +kernel
theorem dX5_type_33 : decode cX5_type 33 = .ok (.ireturn, 1) := by decide +kernel
theorem dX5_type_34 : decode cX5_type 34 = .ok (.aload_n 0, 1) := by decide +kernel
theorem dX5_type_35 : decode cX5_type 35 = .ok (.getfield 40, 3) := by decide +kernel
theorem dX5_type_38 : decode cX5_type 38 = .ok (.iload_n 1, 1) := by decide +kernel
theorem dX5_type_39 : decode cX5_type 39 = .ok (.invokevirtual 172, 3) := by decide +kernel
theorem dX5_type_42 : decode cX5_type 42 = .ok (.ireturn, 1) := by decide +kernel
set_option maxRecDepth 20000 in
theorem ggX5_clear_X4_wipe : GoodIn wsX5_clear wsX4_wipe := goodIn_r _ [6, 7, 16, 17, 18, 19, 20] (by decide +kernel) (by decide +kernel)
set_option maxRecDepth 20000 in
theorem gX5_clear_X4_wipe : GoodIn wsX5_clear (wsV RX5 174 RX4 yX4_wipe wsX4_wipe) := goodIn_app (goodIn_of _ (by decide +kernel)) ggX5_clear_X4_wipe
theorem dX5_clear_0 : decode cX5_clear 0 = .ok (.aload_n 0, 1) := by decide +kernel
theorem dX5_clear_1 : decode cX5_clear 1 = .ok (.getfield 40, 3) := by decide +kernel
theorem dX5_clear_4 : decode cX5_clear 4 = .ok (.invokevirtual 174, 3) := by decide +kernel
theorem dX5_clear_7 : decode cX5_clear 7 = .ok (.ireturn, 1) := by decide +kernel
set_option maxRecDepth 20000 in
theorem ggX5_reads_X0_days : GoodIn wsX5_reads wsX0_days := goodIn_r _ [7, 8, 117, 118, 119, 120, 121] (by decide +kernel) (by decide +kernel)
set_option maxRecDepth 20000 in
theorem gX5_reads_X0_days : GoodIn wsX5_reads (wsV RX5 52 RX0 yX0_days wsX0_days) := goodIn_app (goodIn_of _ (by decide +kernel)) ggX5_reads_X0_days
set_option maxRecDepth 20000 in
theorem ggX5_reads_X4_parse : GoodIn wsX5_reads wsX4_parse := goodIn_r _ [13, 14, 15, 16, 17, 18, 19, 12, 20, 21, 22, 23, 24, 25, 26, 27, 28, 29, 30, 31, 32, 33, 34, 35, 36, 37, 38, 39, 40, 41, 42, 43, 44, 45, 46, 47, 48, 49, 122, 123, 124, 125, 126] (by decide +kernel) (by decide +kernel)
set_option maxRecDepth 20000 in
theorem gX5_reads_X4_parse : GoodIn wsX5_reads (wsV RX5 177 RX4 yX4_parse wsX4_parse) := goodIn_app (goodIn_of _ (by decide +kernel)) ggX5_reads_X4_parse
set_option maxRecDepth 20000 in
theorem ggX5_reads_X5_keepState : GoodIn wsX5_reads wsX5_keepState := goodIn_r _ [53, 54, 2, 55, 56, 57, 58, 59, 60, 61, 62, 63, 64, 65, 66, 67, 68, 69, 70, 6, 71, 72, 73, 74, 75, 76, 77, 8, 78, 79, 80, 81, 82, 83, 84, 85, 109, 110, 111, 112, 113, 114, 115, 116, 127, 128, 129, 117, 118, 119, 120, 121, 130, 131, 132, 133, 134, 135, 136, 137, 138] (by decide +kernel) (by decide +kernel)
set_option maxRecDepth 20000 in
theorem gX5_reads_X5_keepState : GoodIn wsX5_reads (wsV RX5 59 RX5 yX5_keepState wsX5_keepState) := goodIn_app (goodIn_of _ (by decide +kernel)) ggX5_reads_X5_keepState
set_option maxRecDepth 20000 in
theorem ggX5_reads_X4_daysTold : GoodIn wsX5_reads wsX4_daysTold := goodIn_r _ [89, 15, 122, 123, 124, 125, 126] (by decide +kernel) (by decide +kernel)
set_option maxRecDepth 20000 in
theorem gX5_reads_X4_daysTold : GoodIn wsX5_reads (wsV RX5 180 RX4 yX4_daysTold wsX4_daysTold) := goodIn_app (goodIn_of _ (by decide +kernel)) ggX5_reads_X4_daysTold
set_option maxRecDepth 20000 in
theorem ggX5_reads_X4_note : GoodIn wsX5_reads wsX4_note := goodIn_r _ [93, 15, 38, 94, 44, 95, 96, 43, 45, 122, 123, 124, 125, 126] (by decide +kernel) (by decide +kernel)
set_option maxRecDepth 20000 in
theorem gX5_reads_X4_note : GoodIn wsX5_reads (wsV RX5 183 RX4 yX4_note wsX4_note) := goodIn_app (goodIn_of _ (by decide +kernel)) ggX5_reads_X4_note
set_option maxRecDepth 20000 in
theorem ggX5_reads_X0_append : GoodIn wsX5_reads wsX0_append := goodIn_r _ [100, 8, 101, 102, 103, 6, 104, 72, 105, 106, 107, 108, 94, 44, 95, 96, 43, 45, 117, 118, 119, 120, 121] (by decide +kernel) (by decide +kernel)
set_option maxRecDepth 20000 in
theorem gX5_reads_X0_append : GoodIn wsX5_reads (wsV RX5 62 RX0 yX0_append wsX0_append) := goodIn_app (goodIn_of _ (by decide +kernel)) ggX5_reads_X0_append
theorem dX5_reads_0 : decode cX5_reads 0 = .ok (.aload_n 0, 1) := by decide +kernel
theorem dX5_reads_1 : decode cX5_reads 1 = .ok (.getfield 40, 3) := by decide +kernel
theorem dX5_reads_4 : decode cX5_reads 4 = .ok (.bipush 50, 2) := by decide +kernel
theorem dX5_reads_6 : decode cX5_reads 6 = .ok (.aload_n 0, 1) := by decide +kernel
theorem dX5_reads_7 : decode cX5_reads 7 = .ok (.getfield 10, 3) := by decide +kernel
theorem dX5_reads_10 : decode cX5_reads 10 = .ok (.invokevirtual 52, 3) := by decide +kernel
theorem dX5_reads_13 : decode cX5_reads 13 = .ok (.isub, 1) := by decide +kernel
theorem dX5_reads_14 : decode cX5_reads 14 = .ok (.invokevirtual 177, 3) := by decide +kernel
theorem dX5_reads_17 : decode cX5_reads 17 = .ok (.istore_n 1, 1) := by decide +kernel
theorem dX5_reads_18 : decode cX5_reads 18 = .ok (.iload_n 1, 1) := by decide +kernel
theorem dX5_reads_19 : decode cX5_reads 19 = .ok (.iconst (-1), 1) := by decide +kernel
theorem dX5_reads_20 : decode cX5_reads 20 = .ok (.if_icmp .eq 8, 3) := by decide +kernel
theorem dX5_reads_23 : decode cX5_reads 23 = .ok (.bipush (-10), 2) := by decide +kernel
theorem dX5_reads_25 : decode cX5_reads 25 = .ok (.iload_n 1, 1) := by decide +kernel
theorem dX5_reads_26 : decode cX5_reads 26 = .ok (.isub, 1) := by decide +kernel
theorem dX5_reads_27 : decode cX5_reads 27 = .ok (.ireturn, 1) := by decide +kernel
theorem dX5_reads_28 : decode cX5_reads 28 = .ok (.aload_n 0, 1) := by decide +kernel
theorem dX5_reads_29 : decode cX5_reads 29 = .ok (.invokevirtual 59, 3) := by decide +kernel
theorem dX5_reads_32 : decode cX5_reads 32 = .ok (.iconst 0, 1) := by decide +kernel
theorem dX5_reads_33 : decode cX5_reads 33 = .ok (.istore_n 2, 1) := by decide +kernel
theorem dX5_reads_34 : decode cX5_reads 34 = .ok (.iload_n 2, 1) := by decide +kernel
theorem dX5_reads_35 : decode cX5_reads 35 = .ok (.aload_n 0, 1) := by decide +kernel
theorem dX5_reads_36 : decode cX5_reads 36 = .ok (.getfield 40, 3) := by decide +kernel
theorem dX5_reads_39 : decode cX5_reads 39 = .ok (.invokevirtual 180, 3) := by decide +kernel
theorem dX5_reads_42 : decode cX5_reads 42 = .ok (.if_icmp .ge 53, 3) := by decide +kernel
theorem dX5_reads_45 : decode cX5_reads 45 = .ok (.aload_n 0, 1) := by decide +kernel
theorem dX5_reads_46 : decode cX5_reads 46 = .ok (.getfield 10, 3) := by decide +kernel
theorem dX5_reads_49 : decode cX5_reads 49 = .ok (.aload_n 0, 1) := by decide +kernel
theorem dX5_reads_50 : decode cX5_reads 50 = .ok (.getfield 40, 3) := by decide +kernel
theorem dX5_reads_53 : decode cX5_reads 53 = .ok (.iload_n 2, 1) := by decide +kernel
theorem dX5_reads_54 : decode cX5_reads 54 = .ok (.iconst 0, 1) := by decide +kernel
theorem dX5_reads_55 : decode cX5_reads 55 = .ok (.invokevirtual 183, 3) := by decide +kernel
theorem dX5_reads_58 : decode cX5_reads 58 = .ok (.aload_n 0, 1) := by decide +kernel
theorem dX5_reads_59 : decode cX5_reads 59 = .ok (.getfield 40, 3) := by decide +kernel
theorem dX5_reads_62 : decode cX5_reads 62 = .ok (.iload_n 2, 1) := by decide +kernel
theorem dX5_reads_63 : decode cX5_reads 63 = .ok (.iconst 1, 1) := by decide +kernel
theorem dX5_reads_64 : decode cX5_reads 64 = .ok (.invokevirtual 183, 3) := by decide +kernel
theorem dX5_reads_67 : decode cX5_reads 67 = .ok (.aload_n 0, 1) := by decide +kernel
theorem dX5_reads_68 : decode cX5_reads 68 = .ok (.getfield 40, 3) := by decide +kernel
theorem dX5_reads_71 : decode cX5_reads 71 = .ok (.iload_n 2, 1) := by decide +kernel
theorem dX5_reads_72 : decode cX5_reads 72 = .ok (.iconst 2, 1) := by decide +kernel
theorem dX5_reads_73 : decode cX5_reads 73 = .ok (.invokevirtual 183, 3) := by decide +kernel
theorem dX5_reads_76 : decode cX5_reads 76 = .ok (.aload_n 0, 1) := by decide +kernel
theorem dX5_reads_77 : decode cX5_reads 77 = .ok (.getfield 40, 3) := by decide +kernel
theorem dX5_reads_80 : decode cX5_reads 80 = .ok (.iload_n 2, 1) := by decide +kernel
theorem dX5_reads_81 : decode cX5_reads 81 = .ok (.iconst 3, 1) := by decide +kernel
theorem dX5_reads_82 : decode cX5_reads 82 = .ok (.invokevirtual 183, 3) := by decide +kernel
theorem dX5_reads_85 : decode cX5_reads 85 = .ok (.invokevirtual 62, 3) := by decide +kernel
theorem dX5_reads_88 : decode cX5_reads 88 = .ok (.pop, 1) := by decide +kernel
theorem dX5_reads_89 : decode cX5_reads 89 = .ok (.iinc 2 1, 3) := by decide +kernel
theorem dX5_reads_92 : decode cX5_reads 92 = .ok (.goto (-58), 3) := by decide +kernel
theorem dX5_reads_95 : decode cX5_reads 95 = .ok (.aload_n 0, 1) := by decide +kernel
theorem dX5_reads_96 : decode cX5_reads 96 = .ok (.getfield 40, 3) := by decide +kernel
theorem dX5_reads_99 : decode cX5_reads 99 = .ok (.invokevirtual 180, 3) := by decide +kernel
theorem dX5_reads_102 : decode cX5_reads 102 = .ok (.ireturn, 1) := by decide +kernel
set_option maxRecDepth 20000 in
theorem ggX5_back_X3_count : GoodIn wsX5_back wsX3_count := goodIn_r _ [9, 10, 45, 46, 47] (by decide +kernel) (by decide +kernel)
set_option maxRecDepth 20000 in
theorem gX5_back_X3_count : GoodIn wsX5_back (wsV RX5 186 RX3 yX3_count wsX3_count) := goodIn_app (goodIn_of _ (by decide +kernel)) ggX5_back_X3_count
set_option maxRecDepth 20000 in
theorem ggX5_back_X3_pop : GoodIn wsX5_back wsX3_pop := goodIn_r _ [14, 10, 15, 16, 17, 18, 19, 20, 21, 22, 23, 24, 25, 26, 27, 28, 29, 30, 45, 46, 47, 48, 49, 50, 51, 52] (by decide +kernel) (by decide +kernel)
set_option maxRecDepth 20000 in
theorem gX5_back_X3_pop : GoodIn wsX5_back (wsV RX5 193 RX3 yX3_pop wsX3_pop) := goodIn_app (goodIn_of _ (by decide +kernel)) ggX5_back_X3_pop
set_option maxRecDepth 20000 in
theorem ggX5_back_X2_forget : GoodIn wsX5_back wsX2_forget := goodIn_r _ [35, 36, 53, 54, 55, 56, 57, 58, 59, 60, 61] (by decide +kernel) (by decide +kernel)
set_option maxRecDepth 20000 in
theorem gX5_back_X2_forget : GoodIn wsX5_back (wsV RX5 197 RX2 yX2_forget wsX2_forget) := goodIn_app (goodIn_of _ (by decide +kernel)) ggX5_back_X2_forget
theorem dX5_back_0 : decode cX5_back 0 = .ok (.aload_n 0, 1) := by decide +kernel
theorem dX5_back_1 : decode cX5_back 1 = .ok (.getfield 19, 3) := by decide +kernel
theorem dX5_back_4 : decode cX5_back 4 = .ok (.invokevirtual 186, 3) := by decide +kernel
theorem dX5_back_7 : decode cX5_back 7 = .ok (.ifCond .ne 16, 3) := by decide +kernel
theorem dX5_back_10 : decode cX5_back 10 = .ok (.aload_n 0, 1) := by decide +kernel
theorem dX5_back_11 : decode cX5_back 11 = .ok (.dup, 1) := by decide +kernel
theorem dX5_back_12 : decode cX5_back 12 = .ok (.getfield 189, 3) := by decide +kernel
theorem dX5_back_15 : decode cX5_back 15 = .ok (.iconst 1, 1) := by decide +kernel
theorem dX5_back_16 : decode cX5_back 16 = .ok (.iadd, 1) := by decide +kernel
theorem dX5_back_17 : decode cX5_back 17 = .ok (.putfield 189, 3) := by decide +kernel
theorem dX5_back_20 : decode cX5_back 20 = .ok (.bipush (-3), 2) := by decide +kernel
theorem dX5_back_22 : decode cX5_back 22 = .ok (.ireturn, 1) := by decide +kernel
theorem dX5_back_23 : decode cX5_back 23 = .ok (.aload_n 0, 1) := by decide +kernel
theorem dX5_back_24 : decode cX5_back 24 = .ok (.getfield 19, 3) := by decide +kernel
theorem dX5_back_27 : decode cX5_back 27 = .ok (.aload_n 0, 1) := by decide +kernel
theorem dX5_back_28 : decode cX5_back 28 = .ok (.getfield 10, 3) := by decide +kernel
theorem dX5_back_31 : decode cX5_back 31 = .ok (.invokevirtual 193, 3) := by decide +kernel
theorem dX5_back_34 : decode cX5_back 34 = .ok (.aload_n 0, 1) := by decide +kernel
theorem dX5_back_35 : decode cX5_back 35 = .ok (.getfield 26, 3) := by decide +kernel
theorem dX5_back_38 : decode cX5_back 38 = .ok (.invokevirtual 197, 3) := by decide +kernel
theorem dX5_back_41 : decode cX5_back 41 = .ok (.aload_n 0, 1) := by decide +kernel
theorem dX5_back_42 : decode cX5_back 42 = .ok (.getfield 19, 3) := by decide +kernel
theorem dX5_back_45 : decode cX5_back 45 = .ok (.invokevirtual 186, 3) := by decide +kernel
theorem dX5_back_48 : decode cX5_back 48 = .ok (.ireturn, 1) := by decide +kernel
set_option maxRecDepth 20000 in
theorem ggX5_told_X4_length : GoodIn wsX5_told wsX4_length := goodIn_r _ [11, 12, 48, 49, 50, 51, 52] (by decide +kernel) (by decide +kernel)
set_option maxRecDepth 20000 in
theorem gX5_told_X4_length : GoodIn wsX5_told (wsV RX5 169 RX4 yX4_length wsX4_length) := goodIn_app (goodIn_of _ (by decide +kernel)) ggX5_told_X4_length
set_option maxRecDepth 20000 in
theorem ggX5_told_X0_days : GoodIn wsX5_told wsX0_days := goodIn_r _ [17, 18, 53, 54, 55, 56, 57] (by decide +kernel) (by decide +kernel)
set_option maxRecDepth 20000 in
theorem gX5_told_X0_days : GoodIn wsX5_told (wsV RX5 52 RX0 yX0_days wsX0_days) := goodIn_app (goodIn_of _ (by decide +kernel)) ggX5_told_X0_days
set_option maxRecDepth 20000 in
theorem ggX5_told_X0_gap : GoodIn wsX5_told wsX0_gap := goodIn_r _ [22, 23, 53, 54, 55, 56, 57] (by decide +kernel) (by decide +kernel)
set_option maxRecDepth 20000 in
theorem gX5_told_X0_gap : GoodIn wsX5_told (wsV RX5 206 RX0 yX0_gap wsX0_gap) := goodIn_app (goodIn_of _ (by decide +kernel)) ggX5_told_X0_gap
set_option maxRecDepth 20000 in
theorem ggX5_told_X0_few : GoodIn wsX5_told wsX0_few := goodIn_r _ [27, 28, 53, 54, 55, 56, 57] (by decide +kernel) (by decide +kernel)
set_option maxRecDepth 20000 in
theorem gX5_told_X0_few : GoodIn wsX5_told (wsV RX5 114 RX0 yX0_few wsX0_few) := goodIn_app (goodIn_of _ (by decide +kernel)) ggX5_told_X0_few
set_option maxRecDepth 20000 in
theorem ggX5_told_X3_count : GoodIn wsX5_told wsX3_count := goodIn_r _ [33, 34, 58, 59, 60] (by decide +kernel) (by decide +kernel)
set_option maxRecDepth 20000 in
theorem gX5_told_X3_count : GoodIn wsX5_told (wsV RX5 186 RX3 yX3_count wsX3_count) := goodIn_app (goodIn_of _ (by decide +kernel)) ggX5_told_X3_count
set_option maxRecDepth 20000 in
theorem ggX5_told_X5_refuseBad : GoodIn wsX5_told wsX5_refuseBad := goodIn_r _ [39, 1, 40, 41, 42, 43, 44, 45, 46, 47] (by decide +kernel) (by decide +kernel)
set_option maxRecDepth 20000 in
theorem gX5_told_X5_refuseBad : GoodIn wsX5_told (wsV RX5 48 RX5 yX5_refuseBad wsX5_refuseBad) := goodIn_app (goodIn_of _ (by decide +kernel)) ggX5_told_X5_refuseBad
theorem dX5_told_0 : decode cX5_told 0 = .ok (.iload_n 1, 1) := by decide +kernel
theorem dX5_told_1 : decode cX5_told 1 = .ok (.tableswitch 102 0 7 #[47, 52, 57, 62, 70, 78, 86, 94], 47) := by decide +kernel
theorem dX5_told_48 : decode cX5_told 48 = .ok (.aload_n 0, 1) := by decide +kernel
theorem dX5_told_49 : decode cX5_told 49 = .ok (.getfield 200, 3) := by decide +kernel
theorem dX5_told_52 : decode cX5_told 52 = .ok (.ireturn, 1) := by decide +kernel
theorem dX5_told_53 : decode cX5_told 53 = .ok (.aload_n 0, 1) := by decide +kernel
theorem dX5_told_54 : decode cX5_told 54 = .ok (.getfield 189, 3) := by decide +kernel
theorem dX5_told_57 : decode cX5_told 57 = .ok (.ireturn, 1) := by decide +kernel
theorem dX5_told_58 : decode cX5_told 58 = .ok (.aload_n 0, 1) := by decide +kernel
theorem dX5_told_59 : decode cX5_told 59 = .ok (.getfield 203, 3) := by decide +kernel
theorem dX5_told_62 : decode cX5_told 62 = .ok (.ireturn, 1) := by decide +kernel
theorem dX5_told_63 : decode cX5_told 63 = .ok (.aload_n 0, 1) := by decide +kernel
theorem dX5_told_64 : decode cX5_told 64 = .ok (.getfield 40, 3) := by decide +kernel
theorem dX5_told_67 : decode cX5_told 67 = .ok (.invokevirtual 169, 3) := by decide +kernel
theorem dX5_told_70 : decode cX5_told 70 = .ok (.ireturn, 1) := by decide +kernel
theorem dX5_told_71 : decode cX5_told 71 = .ok (.aload_n 0, 1) := by decide +kernel
theorem dX5_told_72 : decode cX5_told 72 = .ok (.getfield 10, 3) := by decide +kernel
theorem dX5_told_75 : decode cX5_told 75 = .ok (.invokevirtual 52, 3) := by decide +kernel
theorem dX5_told_78 : decode cX5_told 78 = .ok (.ireturn, 1) := by decide +kernel
theorem dX5_told_79 : decode cX5_told 79 = .ok (.aload_n 0, 1) := by decide +kernel
theorem dX5_told_80 : decode cX5_told 80 = .ok (.getfield 10, 3) := by decide +kernel
theorem dX5_told_83 : decode cX5_told 83 = .ok (.invokevirtual 206, 3) := by decide +kernel
theorem dX5_told_86 : decode cX5_told 86 = .ok (.ireturn, 1) := by decide +kernel
theorem dX5_told_87 : decode cX5_told 87 = .ok (.aload_n 0, 1) := by decide +kernel
theorem dX5_told_88 : decode cX5_told 88 = .ok (.getfield 10, 3) := by decide +kernel
theorem dX5_told_91 : decode cX5_told 91 = .ok (.invokevirtual 114, 3) := by decide +kernel
theorem dX5_told_94 : decode cX5_told 94 = .ok (.ireturn, 1) := by decide +kernel
theorem dX5_told_95 : decode cX5_told 95 = .ok (.aload_n 0, 1) := by decide +kernel
theorem dX5_told_96 : decode cX5_told 96 = .ok (.getfield 19, 3) := by decide +kernel
theorem dX5_told_99 : decode cX5_told 99 = .ok (.invokevirtual 186, 3) := by decide +kernel
theorem dX5_told_102 : decode cX5_told 102 = .ok (.ireturn, 1) := by decide +kernel
theorem dX5_told_103 : decode cX5_told 103 = .ok (.aload_n 0, 1) := by decide +kernel
theorem dX5_told_104 : decode cX5_told 104 = .ok (.bipush (-2), 2) := by decide +kernel
theorem dX5_told_106 : decode cX5_told 106 = .ok (.invokevirtual 48, 3) := by decide +kernel
theorem dX5_told_109 : decode cX5_told 109 = .ok (.ireturn, 1) := by decide +kernel
set_option maxRecDepth 20000 in
theorem ggX5_digest_X5_told : GoodIn wsX5_digest wsX5_told := goodIn_r _ [8, 9, 10, 11, 12, 3, 13, 14, 15, 16, 17, 18, 19, 20, 21, 22, 23, 24, 25, 26, 27, 28, 29, 30, 31, 32, 33, 34, 35, 36, 37, 38, 39, 40, 41, 42, 43, 44, 7, 45, 179, 180, 181, 182, 183, 184, 185, 186, 187, 188, 189, 190, 191, 192, 193, 194, 195, 196, 197, 198, 199] (by decide +kernel) (by decide +kernel)
set_option maxRecDepth 20000 in
theorem gX5_digest_X5_told : GoodIn wsX5_digest (wsV RX5 213 RX5 yX5_told wsX5_told) := goodIn_app (goodIn_of _ (by decide +kernel)) ggX5_digest_X5_told
set_option maxRecDepth 20000 in
theorem ggX5_digest_X0_rule : GoodIn wsX5_digest wsX0_rule := goodIn_r _ [49, 30, 35, 50, 51, 7, 52, 53, 54, 55, 192, 193, 194, 195, 196] (by decide +kernel) (by decide +kernel)
set_option maxRecDepth 20000 in
theorem gX5_digest_X0_rule : GoodIn wsX5_digest (wsV RX5 95 RX0 yX0_rule wsX0_rule) := goodIn_app (goodIn_of _ (by decide +kernel)) ggX5_digest_X0_rule
set_option maxRecDepth 20000 in
theorem ggX5_digest_X0_days : GoodIn wsX5_digest wsX0_days := goodIn_r _ [24, 25, 192, 193, 194, 195, 196] (by decide +kernel) (by decide +kernel)
set_option maxRecDepth 20000 in
theorem gX5_digest_X0_days : GoodIn wsX5_digest (wsV RX5 52 RX0 yX0_days wsX0_days) := goodIn_app (goodIn_of _ (by decide +kernel)) ggX5_digest_X0_days
set_option maxRecDepth 20000 in
theorem ggX5_digest_X0_member : GoodIn wsX5_digest wsX0_member := goodIn_r _ [59, 60, 61, 62, 63, 23, 64, 25, 51, 7, 52, 53, 54, 55, 192, 193, 194, 195, 196] (by decide +kernel) (by decide +kernel)
set_option maxRecDepth 20000 in
theorem gX5_digest_X0_member : GoodIn wsX5_digest (wsV RX5 72 RX0 yX0_member wsX0_member) := goodIn_app (goodIn_of _ (by decide +kernel)) ggX5_digest_X0_member
set_option maxRecDepth 20000 in
theorem ggX5_digest_X5_nearest : GoodIn wsX5_digest wsX5_nearest := goodIn_r _ [68, 3, 69, 70, 62, 63, 23, 64, 25, 53, 54, 7, 55, 42, 43, 44, 45, 9, 71, 72, 73, 74, 75, 76, 77, 78, 79, 80, 81, 82, 83, 84, 85, 21, 22, 24, 86, 87, 88, 89, 90, 91, 92, 57, 58, 59, 60, 61, 51, 52, 93, 94, 95, 96, 47, 48, 49, 30, 35, 50, 97, 98, 99, 100, 101, 102, 27, 28, 29, 103, 104, 105, 106, 107, 108, 109, 110, 111, 112, 113, 114, 115, 116, 117, 118, 119, 120, 121, 122, 123, 124, 31, 32, 33, 34, 125, 126, 127, 128, 129, 130, 131, 132, 133, 134, 135, 136, 137, 138, 139, 140, 141, 179, 180, 181, 182, 183, 184, 185, 186, 192, 193, 194, 195, 196, 200, 201, 202, 203, 204, 205, 206, 207, 208] (by decide +kernel) (by decide +kernel)
set_option maxRecDepth 20000 in
theorem gX5_digest_X5_nearest : GoodIn wsX5_digest (wsV RX5 216 RX5 yX5_nearest wsX5_nearest) := goodIn_app (goodIn_of _ (by decide +kernel)) ggX5_digest_X5_nearest
set_option maxRecDepth 20000 in
theorem ggX5_digest_X5_errs : GoodIn wsX5_digest wsX5_errs := goodIn_r _ [145, 69, 3, 146, 51, 7, 52, 53, 54, 55, 42, 43, 44, 45, 9, 71, 72, 73, 74, 75, 76, 77, 78, 79, 80, 81, 82, 83, 84, 85, 21, 22, 23, 24, 25, 86, 87, 88, 89, 90, 91, 92, 57, 58, 59, 60, 61, 62, 63, 64, 93, 94, 95, 96, 47, 48, 49, 30, 35, 50, 97, 98, 99, 100, 101, 102, 27, 28, 29, 103, 104, 105, 106, 107, 108, 109, 110, 111, 112, 113, 114, 115, 116, 117, 118, 119, 120, 121, 122, 123, 124, 31, 32, 33, 34, 147, 148, 149, 150, 151, 152, 20, 56, 153, 154, 155, 156, 157, 158, 159, 126, 127, 128, 160, 130, 131, 132, 161, 162, 163, 164, 165, 166, 167, 168, 169, 170, 171, 172, 173, 174, 175, 176, 177, 178, 134, 135, 136, 137, 138, 139, 140, 141, 179, 180, 181, 182, 183, 184, 185, 186, 200, 201, 202, 203, 204, 205, 206, 207, 208, 192, 193, 194, 195, 196, 209, 210, 211, 212] (by decide +kernel) (by decide +kernel)
set_option maxRecDepth 20000 in
theorem gX5_digest_X5_errs : GoodIn wsX5_digest (wsV RX5 220 RX5 yX5_errs wsX5_errs) := goodIn_app (goodIn_of _ (by decide +kernel)) ggX5_digest_X5_errs
theorem dX5_digest_0 : decode cX5_digest 0 = .ok (.ldc2_w 209, 3) := by decide +kernel
theorem dX5_digest_3 : decode cX5_digest 3 = .ok (.lstore_n 1, 1) := by decide +kernel
theorem dX5_digest_4 : decode cX5_digest 4 = .ok (.iconst 0, 1) := by decide +kernel
theorem dX5_digest_5 : decode cX5_digest 5 = .ok (.istore_n 3, 1) := by decide +kernel
theorem dX5_digest_6 : decode cX5_digest 6 = .ok (.iload_n 3, 1) := by decide +kernel
theorem dX5_digest_7 : decode cX5_digest 7 = .ok (.bipush 8, 2) := by decide +kernel
theorem dX5_digest_9 : decode cX5_digest 9 = .ok (.if_icmp .ge 22, 3) := by decide +kernel
theorem dX5_digest_12 : decode cX5_digest 12 = .ok (.ldc2_w 211, 3) := by decide +kernel
theorem dX5_digest_15 : decode cX5_digest 15 = .ok (.lload_n 1, 1) := by decide +kernel
theorem dX5_digest_16 : decode cX5_digest 16 = .ok (.lmul, 1) := by decide +kernel
theorem dX5_digest_17 : decode cX5_digest 17 = .ok (.aload_n 0, 1) := by decide +kernel
theorem dX5_digest_18 : decode cX5_digest 18 = .ok (.iload_n 3, 1) := by decide +kernel
theorem dX5_digest_19 : decode cX5_digest 19 = .ok (.invokevirtual 213, 3) := by decide +kernel
theorem dX5_digest_22 : decode cX5_digest 22 = .ok (.i2l, 1) := by decide +kernel
theorem dX5_digest_23 : decode cX5_digest 23 = .ok (.ladd, 1) := by decide +kernel
theorem dX5_digest_24 : decode cX5_digest 24 = .ok (.lstore_n 1, 1) := by decide +kernel
theorem dX5_digest_25 : decode cX5_digest 25 = .ok (.iinc 3 1, 3) := by decide +kernel
theorem dX5_digest_28 : decode cX5_digest 28 = .ok (.goto (-22), 3) := by decide +kernel
theorem dX5_digest_31 : decode cX5_digest 31 = .ok (.iconst 0, 1) := by decide +kernel
theorem dX5_digest_32 : decode cX5_digest 32 = .ok (.istore_n 3, 1) := by decide +kernel
theorem dX5_digest_33 : decode cX5_digest 33 = .ok (.iload_n 3, 1) := by decide +kernel
theorem dX5_digest_34 : decode cX5_digest 34 = .ok (.iconst 4, 1) := by decide +kernel
theorem dX5_digest_35 : decode cX5_digest 35 = .ok (.if_icmp .ge 25, 3) := by decide +kernel
theorem dX5_digest_38 : decode cX5_digest 38 = .ok (.ldc2_w 211, 3) := by decide +kernel
theorem dX5_digest_41 : decode cX5_digest 41 = .ok (.lload_n 1, 1) := by decide +kernel
theorem dX5_digest_42 : decode cX5_digest 42 = .ok (.lmul, 1) := by decide +kernel
theorem dX5_digest_43 : decode cX5_digest 43 = .ok (.aload_n 0, 1) := by decide +kernel
theorem dX5_digest_44 : decode cX5_digest 44 = .ok (.getfield 10, 3) := by decide +kernel
theorem dX5_digest_47 : decode cX5_digest 47 = .ok (.iload_n 3, 1) := by decide +kernel
theorem dX5_digest_48 : decode cX5_digest 48 = .ok (.invokevirtual 95, 3) := by decide +kernel
theorem dX5_digest_51 : decode cX5_digest 51 = .ok (.i2l, 1) := by decide +kernel
theorem dX5_digest_52 : decode cX5_digest 52 = .ok (.ladd, 1) := by decide +kernel
theorem dX5_digest_53 : decode cX5_digest 53 = .ok (.lstore_n 1, 1) := by decide +kernel
theorem dX5_digest_54 : decode cX5_digest 54 = .ok (.iinc 3 1, 3) := by decide +kernel
theorem dX5_digest_57 : decode cX5_digest 57 = .ok (.goto (-24), 3) := by decide +kernel
theorem dX5_digest_60 : decode cX5_digest 60 = .ok (.iconst 0, 1) := by decide +kernel
theorem dX5_digest_61 : decode cX5_digest 61 = .ok (.istore_n 3, 1) := by decide +kernel
theorem dX5_digest_62 : decode cX5_digest 62 = .ok (.iload_n 3, 1) := by decide +kernel
theorem dX5_digest_63 : decode cX5_digest 63 = .ok (.aload_n 0, 1) := by decide +kernel
theorem dX5_digest_64 : decode cX5_digest 64 = .ok (.getfield 10, 3) := by decide +kernel
theorem dX5_digest_67 : decode cX5_digest 67 = .ok (.invokevirtual 52, 3) := by decide +kernel
theorem dX5_digest_70 : decode cX5_digest 70 = .ok (.if_icmp .ge 42, 3) := by decide +kernel
theorem dX5_digest_73 : decode cX5_digest 73 = .ok (.iconst 0, 1) := by decide +kernel
theorem dX5_digest_74 : decode cX5_digest 74 = .ok (.istore 4, 2) := by decide +kernel
theorem dX5_digest_76 : decode cX5_digest 76 = .ok (.iload 4, 2) := by decide +kernel
theorem dX5_digest_78 : decode cX5_digest 78 = .ok (.iconst 4, 1) := by decide +kernel
theorem dX5_digest_79 : decode cX5_digest 79 = .ok (.if_icmp .ge 27, 3) := by decide +kernel
theorem dX5_digest_82 : decode cX5_digest 82 = .ok (.ldc2_w 211, 3) := by decide +kernel
theorem dX5_digest_85 : decode cX5_digest 85 = .ok (.lload_n 1, 1) := by decide +kernel
theorem dX5_digest_86 : decode cX5_digest 86 = .ok (.lmul, 1) := by decide +kernel
theorem dX5_digest_87 : decode cX5_digest 87 = .ok (.aload_n 0, 1) := by decide +kernel
theorem dX5_digest_88 : decode cX5_digest 88 = .ok (.getfield 10, 3) := by decide +kernel
theorem dX5_digest_91 : decode cX5_digest 91 = .ok (.iload_n 3, 1) := by decide +kernel
theorem dX5_digest_92 : decode cX5_digest 92 = .ok (.iload 4, 2) := by decide +kernel
theorem dX5_digest_94 : decode cX5_digest 94 = .ok (.invokevirtual 72, 3) := by decide +kernel
theorem dX5_digest_97 : decode cX5_digest 97 = .ok (.i2l, 1) := by decide +kernel
theorem dX5_digest_98 : decode cX5_digest 98 = .ok (.ladd, 1) := by decide +kernel
theorem dX5_digest_99 : decode cX5_digest 99 = .ok (.lstore_n 1, 1) := by decide +kernel
theorem dX5_digest_100 : decode cX5_digest 100 = .ok (.iinc 4 1, 3) := by decide +kernel
theorem dX5_digest_103 : decode cX5_digest 103 = .ok (.goto (-27), 3) := by decide +kernel
theorem dX5_digest_106 : decode cX5_digest 106 = .ok (.iinc 3 1, 3) := by decide +kernel
theorem dX5_digest_109 : decode cX5_digest 109 = .ok (.goto (-47), 3) := by decide +kernel
theorem dX5_digest_112 : decode cX5_digest 112 = .ok (.iconst 0, 1) := by decide +kernel
theorem dX5_digest_113 : decode cX5_digest 113 = .ok (.istore_n 3, 1) := by decide +kernel
theorem dX5_digest_114 : decode cX5_digest 114 = .ok (.iload_n 3, 1) := by decide +kernel
theorem dX5_digest_115 : decode cX5_digest 115 = .ok (.aload_n 0, 1) := by decide +kernel
theorem dX5_digest_116 : decode cX5_digest 116 = .ok (.getfield 10, 3) := by decide +kernel
theorem dX5_digest_119 : decode cX5_digest 119 = .ok (.invokevirtual 52, 3) := by decide +kernel
theorem dX5_digest_122 : decode cX5_digest 122 = .ok (.if_icmp .ge 39, 3) := by decide +kernel
theorem dX5_digest_125 : decode cX5_digest 125 = .ok (.ldc2_w 211, 3) := by decide +kernel
theorem dX5_digest_128 : decode cX5_digest 128 = .ok (.lload_n 1, 1) := by decide +kernel
theorem dX5_digest_129 : decode cX5_digest 129 = .ok (.lmul, 1) := by decide +kernel
theorem dX5_digest_130 : decode cX5_digest 130 = .ok (.aload_n 0, 1) := by decide +kernel
theorem dX5_digest_131 : decode cX5_digest 131 = .ok (.iload_n 3, 1) := by decide +kernel
theorem dX5_digest_132 : decode cX5_digest 132 = .ok (.iconst 0, 1) := by decide +kernel
theorem dX5_digest_133 : decode cX5_digest 133 = .ok (.iconst 0, 1) := by decide +kernel
theorem dX5_digest_134 : decode cX5_digest 134 = .ok (.invokevirtual 216, 3) := by decide +kernel
theorem dX5_digest_137 : decode cX5_digest 137 = .ok (.i2l, 1) := by decide +kernel
theorem dX5_digest_138 : decode cX5_digest 138 = .ok (.ladd, 1) := by decide +kernel
theorem dX5_digest_139 : decode cX5_digest 139 = .ok (.lstore_n 1, 1) := by decide +kernel
theorem dX5_digest_140 : decode cX5_digest 140 = .ok (.ldc2_w 211, 3) := by decide +kernel
theorem dX5_digest_143 : decode cX5_digest 143 = .ok (.lload_n 1, 1) := by decide +kernel
theorem dX5_digest_144 : decode cX5_digest 144 = .ok (.lmul, 1) := by decide +kernel
theorem dX5_digest_145 : decode cX5_digest 145 = .ok (.aload_n 0, 1) := by decide +kernel
theorem dX5_digest_146 : decode cX5_digest 146 = .ok (.iload_n 3, 1) := by decide +kernel
theorem dX5_digest_147 : decode cX5_digest 147 = .ok (.iconst 0, 1) := by decide +kernel
theorem dX5_digest_148 : decode cX5_digest 148 = .ok (.iconst 1, 1) := by decide +kernel
theorem dX5_digest_149 : decode cX5_digest 149 = .ok (.invokevirtual 216, 3) := by decide +kernel
theorem dX5_digest_152 : decode cX5_digest 152 = .ok (.i2l, 1) := by decide +kernel
theorem dX5_digest_153 : decode cX5_digest 153 = .ok (.ladd, 1) := by decide +kernel
theorem dX5_digest_154 : decode cX5_digest 154 = .ok (.lstore_n 1, 1) := by decide +kernel
theorem dX5_digest_155 : decode cX5_digest 155 = .ok (.iinc 3 1, 3) := by decide +kernel
theorem dX5_digest_158 : decode cX5_digest 158 = .ok (.goto (-44), 3) := by decide +kernel
theorem dX5_digest_161 : decode cX5_digest 161 = .ok (.ldc2_w 211, 3) := by decide +kernel
theorem dX5_digest_164 : decode cX5_digest 164 = .ok (.lload_n 1, 1) := by decide +kernel
theorem dX5_digest_165 : decode cX5_digest 165 = .ok (.lmul, 1) := by decide +kernel
theorem dX5_digest_166 : decode cX5_digest 166 = .ok (.aload_n 0, 1) := by decide +kernel
theorem dX5_digest_167 : decode cX5_digest 167 = .ok (.iconst 0, 1) := by decide +kernel
theorem dX5_digest_168 : decode cX5_digest 168 = .ok (.invokevirtual 220, 3) := by decide +kernel
theorem dX5_digest_171 : decode cX5_digest 171 = .ok (.i2l, 1) := by decide +kernel
theorem dX5_digest_172 : decode cX5_digest 172 = .ok (.ladd, 1) := by decide +kernel
theorem dX5_digest_173 : decode cX5_digest 173 = .ok (.lreturn, 1) := by decide +kernel
theorem dX5_refuseBad_0 : decode cX5_refuseBad 0 = .ok (.aload_n 0, 1) := by decide +kernel
theorem dX5_refuseBad_1 : decode cX5_refuseBad 1 = .ok (.dup, 1) := by decide +kernel
theorem dX5_refuseBad_2 : decode cX5_refuseBad 2 = .ok (.getfield 200, 3) := by decide +kernel
theorem dX5_refuseBad_5 : decode cX5_refuseBad 5 = .ok (.iconst 1, 1) := by decide +kernel
theorem dX5_refuseBad_6 : decode cX5_refuseBad 6 = .ok (.iadd, 1) := by decide +kernel
theorem dX5_refuseBad_7 : decode cX5_refuseBad 7 = .ok (.putfield 200, 3) := by decide +kernel
theorem dX5_refuseBad_10 : decode cX5_refuseBad 10 = .ok (.iload_n 1, 1) := by decide +kernel
theorem dX5_refuseBad_11 : decode cX5_refuseBad 11 = .ok (.ireturn, 1) := by decide +kernel
theorem dX5_refuseFull_0 : decode cX5_refuseFull 0 = .ok (.aload_n 0, 1) := by decide +kernel
theorem dX5_refuseFull_1 : decode cX5_refuseFull 1 = .ok (.dup, 1) := by decide +kernel
theorem dX5_refuseFull_2 : decode cX5_refuseFull 2 = .ok (.getfield 203, 3) := by decide +kernel
theorem dX5_refuseFull_5 : decode cX5_refuseFull 5 = .ok (.iconst 1, 1) := by decide +kernel
theorem dX5_refuseFull_6 : decode cX5_refuseFull 6 = .ok (.iadd, 1) := by decide +kernel
theorem dX5_refuseFull_7 : decode cX5_refuseFull 7 = .ok (.putfield 203, 3) := by decide +kernel
theorem dX5_refuseFull_10 : decode cX5_refuseFull 10 = .ok (.bipush (-4), 2) := by decide +kernel
theorem dX5_refuseFull_12 : decode cX5_refuseFull 12 = .ok (.ireturn, 1) := by decide +kernel
set_option maxRecDepth 20000 in
theorem ggX5_keepState_X3_push : GoodIn wsX5_keepState wsX3_push := goodIn_r _ [8, 9, 10, 11, 12, 13, 14, 15, 16, 17, 18, 19, 20, 21, 22, 23, 24, 25, 26, 27, 28, 29, 44, 45, 46, 47, 48, 49, 50, 51] (by decide +kernel) (by decide +kernel)
set_option maxRecDepth 20000 in
theorem gX5_keepState_X3_push : GoodIn wsX5_keepState (wsV RX5 223 RX3 yX3_push wsX3_push) := goodIn_app (goodIn_of _ (by decide +kernel)) ggX5_keepState_X3_push
set_option maxRecDepth 20000 in
theorem ggX5_keepState_X2_forget : GoodIn wsX5_keepState wsX2_forget := goodIn_r _ [34, 35, 52, 53, 54, 55, 56, 57, 58, 59, 60] (by decide +kernel) (by decide +kernel)
set_option maxRecDepth 20000 in
theorem gX5_keepState_X2_forget : GoodIn wsX5_keepState (wsV RX5 197 RX2 yX2_forget wsX2_forget) := goodIn_app (goodIn_of _ (by decide +kernel)) ggX5_keepState_X2_forget
theorem dX5_keepState_0 : decode cX5_keepState 0 = .ok (.aload_n 0, 1) := by decide +kernel
theorem dX5_keepState_1 : decode cX5_keepState 1 = .ok (.getfield 19, 3) := by decide +kernel
theorem dX5_keepState_4 : decode cX5_keepState 4 = .ok (.aload_n 0, 1) := by decide +kernel
theorem dX5_keepState_5 : decode cX5_keepState 5 = .ok (.getfield 10, 3) := by decide +kernel
theorem dX5_keepState_8 : decode cX5_keepState 8 = .ok (.invokevirtual 223, 3) := by decide +kernel
theorem dX5_keepState_11 : decode cX5_keepState 11 = .ok (.aload_n 0, 1) := by decide +kernel
theorem dX5_keepState_12 : decode cX5_keepState 12 = .ok (.getfield 26, 3) := by decide +kernel
theorem dX5_keepState_15 : decode cX5_keepState 15 = .ok (.invokevirtual 197, 3) := by decide +kernel
theorem dX5_keepState_18 : decode cX5_keepState 18 = .ok (.return_, 1) := by decide +kernel
set_option maxRecDepth 20000 in
theorem ggX5_gatherFollowers_X2_learn : GoodIn wsX5_gatherFollowers wsX2_learn := goodIn_r _ [8, 9, 10, 11, 12, 13, 14, 15, 16, 17, 18, 19, 20, 21, 22, 23, 24, 25, 26, 7, 27, 28, 29, 30, 31, 32, 33, 34, 35, 36, 37, 38, 39, 40, 41, 42, 43, 44, 45, 46, 47, 48, 49, 50, 51, 52, 53, 54, 55, 56, 57, 58, 59, 60, 61, 62, 63, 64, 65, 66, 67, 68, 69, 70, 71, 72, 73, 74, 75, 76, 77, 78, 79, 80, 81, 82, 83, 84, 85, 121, 122, 123, 124, 125, 126, 127, 128, 129, 130, 131, 132, 133, 134] (by decide +kernel) (by decide +kernel)
set_option maxRecDepth 20000 in
theorem gX5_gatherFollowers_X2_learn : GoodIn wsX5_gatherFollowers (wsV RX5 102 RX2 yX2_learn wsX2_learn) := goodIn_app (goodIn_of _ (by decide +kernel)) ggX5_gatherFollowers_X2_learn
set_option maxRecDepth 20000 in
theorem ggX5_gatherFollowers_X0_few : GoodIn wsX5_gatherFollowers wsX0_few := goodIn_r _ [89, 53, 130, 131, 132, 133, 134] (by decide +kernel) (by decide +kernel)
set_option maxRecDepth 20000 in
theorem gX5_gatherFollowers_X0_few : GoodIn wsX5_gatherFollowers (wsV RX5 114 RX0 yX0_few wsX0_few) := goodIn_app (goodIn_of _ (by decide +kernel)) ggX5_gatherFollowers_X0_few
set_option maxRecDepth 20000 in
theorem ggX5_gatherFollowers_X1_gather : GoodIn wsX5_gatherFollowers wsX1_gather := goodIn_r _ [94, 95, 96, 97, 98, 7, 99, 72, 10, 11, 12, 13, 82, 83, 84, 85, 14, 100, 101, 102, 103, 77, 104, 31, 32, 21, 33, 34, 35, 36, 37, 38, 23, 39, 40, 41, 42, 43, 44, 105, 79, 80, 81, 17, 59, 106, 107, 108, 93, 109, 110, 111, 112, 135, 136, 137, 138, 121, 122, 123, 124, 125, 126, 127, 128, 129, 130, 131, 132, 133, 134] (by decide +kernel) (by decide +kernel)
set_option maxRecDepth 20000 in
theorem gX5_gatherFollowers_X1_gather : GoodIn wsX5_gatherFollowers (wsV RX5 226 RX1 yX1_gather wsX1_gather) := goodIn_app (goodIn_of _ (by decide +kernel)) ggX5_gatherFollowers_X1_gather
theorem dX5_gatherFollowers_0 : decode cX5_gatherFollowers 0 = .ok (.aload_n 0, 1) := by decide +kernel
theorem dX5_gatherFollowers_1 : decode cX5_gatherFollowers 1 = .ok (.getfield 26, 3) := by decide +kernel
theorem dX5_gatherFollowers_4 : decode cX5_gatherFollowers 4 = .ok (.aload_n 0, 1) := by decide +kernel
theorem dX5_gatherFollowers_5 : decode cX5_gatherFollowers 5 = .ok (.getfield 10, 3) := by decide +kernel
theorem dX5_gatherFollowers_8 : decode cX5_gatherFollowers 8 = .ok (.iconst (-1), 1) := by decide +kernel
theorem dX5_gatherFollowers_9 : decode cX5_gatherFollowers 9 = .ok (.invokevirtual 102, 3) := by decide +kernel
theorem dX5_gatherFollowers_12 : decode cX5_gatherFollowers 12 = .ok (.aload_n 0, 1) := by decide +kernel
theorem dX5_gatherFollowers_13 : decode cX5_gatherFollowers 13 = .ok (.getfield 33, 3) := by decide +kernel
theorem dX5_gatherFollowers_16 : decode cX5_gatherFollowers 16 = .ok (.aload_n 0, 1) := by decide +kernel
theorem dX5_gatherFollowers_17 : decode cX5_gatherFollowers 17 = .ok (.getfield 10, 3) := by decide +kernel
theorem dX5_gatherFollowers_20 : decode cX5_gatherFollowers 20 = .ok (.aload_n 0, 1) := by decide +kernel
theorem dX5_gatherFollowers_21 : decode cX5_gatherFollowers 21 = .ok (.getfield 26, 3) := by decide +kernel
theorem dX5_gatherFollowers_24 : decode cX5_gatherFollowers 24 = .ok (.iload_n 1, 1) := by decide +kernel
theorem dX5_gatherFollowers_25 : decode cX5_gatherFollowers 25 = .ok (.iload_n 2, 1) := by decide +kernel
theorem dX5_gatherFollowers_26 : decode cX5_gatherFollowers 26 = .ok (.aload_n 0, 1) := by decide +kernel
theorem dX5_gatherFollowers_27 : decode cX5_gatherFollowers 27 = .ok (.getfield 10, 3) := by decide +kernel
theorem dX5_gatherFollowers_30 : decode cX5_gatherFollowers 30 = .ok (.invokevirtual 114, 3) := by decide +kernel
theorem dX5_gatherFollowers_33 : decode cX5_gatherFollowers 33 = .ok (.invokevirtual 226, 3) := by decide +kernel
theorem dX5_gatherFollowers_36 : decode cX5_gatherFollowers 36 = .ok (.return_, 1) := by decide +kernel
set_option maxRecDepth 20000 in
theorem ggX5_meanError_X0_days : GoodIn wsX5_meanError wsX0_days := goodIn_r _ [9, 10, 86, 87, 88, 89, 90] (by decide +kernel) (by decide +kernel)
set_option maxRecDepth 20000 in
theorem gX5_meanError_X0_days : GoodIn wsX5_meanError (wsV RX5 52 RX0 yX0_days wsX0_days) := goodIn_app (goodIn_of _ (by decide +kernel)) ggX5_meanError_X0_days
set_option maxRecDepth 20000 in
theorem ggX5_meanError_X0_member : GoodIn wsX5_meanError wsX0_member := goodIn_r _ [14, 15, 16, 17, 18, 8, 19, 10, 20, 21, 22, 23, 24, 25, 86, 87, 88, 89, 90] (by decide +kernel) (by decide +kernel)
set_option maxRecDepth 20000 in
theorem gX5_meanError_X0_member : GoodIn wsX5_meanError (wsV RX5 72 RX0 yX0_member wsX0_member) := goodIn_app (goodIn_of _ (by decide +kernel)) ggX5_meanError_X0_member
set_option maxRecDepth 20000 in
theorem ggX5_meanError_X1_gather : GoodIn wsX5_meanError wsX1_gather := goodIn_r _ [30, 31, 32, 33, 34, 35, 36, 37, 38, 39, 40, 41, 42, 43, 44, 45, 46, 47, 48, 49, 50, 51, 52, 12, 13, 8, 14, 15, 16, 17, 18, 19, 10, 20, 21, 22, 23, 24, 25, 53, 54, 55, 56, 57, 58, 59, 60, 61, 29, 62, 63, 64, 65, 91, 92, 93, 94, 95, 96, 97, 98, 99, 100, 101, 102, 103, 86, 87, 88, 89, 90] (by decide +kernel) (by decide +kernel)
set_option maxRecDepth 20000 in
theorem gX5_meanError_X1_gather : GoodIn wsX5_meanError (wsV RX5 226 RX1 yX1_gather wsX1_gather) := goodIn_app (goodIn_of _ (by decide +kernel)) ggX5_meanError_X1_gather
set_option maxRecDepth 20000 in
theorem ggX5_meanError_X1_size : GoodIn wsX5_meanError wsX1_size := goodIn_r _ [69, 31, 91, 92, 93, 94] (by decide +kernel) (by decide +kernel)
set_option maxRecDepth 20000 in
theorem gX5_meanError_X1_size : GoodIn wsX5_meanError (wsV RX5 137 RX1 yX1_size wsX1_size) := goodIn_app (goodIn_of _ (by decide +kernel)) ggX5_meanError_X1_size
set_option maxRecDepth 20000 in
theorem ggX5_meanError_X1_meanValue : GoodIn wsX5_meanError wsX1_meanValue := goodIn_r _ [73, 31, 63, 64, 74, 21, 75, 76, 91, 92, 93, 94] (by decide +kernel) (by decide +kernel)
set_option maxRecDepth 20000 in
theorem gX5_meanError_X1_meanValue : GoodIn wsX5_meanError (wsV RX5 149 RX1 yX1_meanValue wsX1_meanValue) := goodIn_app (goodIn_of _ (by decide +kernel)) ggX5_meanError_X1_meanValue
set_option maxRecDepth 20000 in
theorem ggX5_meanError_X5_valueOf : GoodIn wsX5_meanError wsX5_valueOf := goodIn_r _ [75, 76] (by decide +kernel) (by decide +kernel)
set_option maxRecDepth 20000 in
theorem gX5_meanError_X5_valueOf : GoodIn wsX5_meanError (va_wsS RX5 230 yX5_valueOf wsX5_valueOf) := goodIn_app (goodIn_of _ (by decide +kernel)) ggX5_meanError_X5_valueOf
theorem dX5_meanError_0 : decode cX5_meanError 0 = .ok (.fconst 0, 1) := by decide +kernel
theorem dX5_meanError_1 : decode cX5_meanError 1 = .ok (.fstore_n 3, 1) := by decide +kernel
theorem dX5_meanError_2 : decode cX5_meanError 2 = .ok (.iconst 0, 1) := by decide +kernel
theorem dX5_meanError_3 : decode cX5_meanError 3 = .ok (.istore 4, 2) := by decide +kernel
theorem dX5_meanError_5 : decode cX5_meanError 5 = .ok (.iconst 0, 1) := by decide +kernel
theorem dX5_meanError_6 : decode cX5_meanError 6 = .ok (.istore 5, 2) := by decide +kernel
theorem dX5_meanError_8 : decode cX5_meanError 8 = .ok (.iload 5, 2) := by decide +kernel
theorem dX5_meanError_10 : decode cX5_meanError 10 = .ok (.iconst 1, 1) := by decide +kernel
theorem dX5_meanError_11 : decode cX5_meanError 11 = .ok (.iadd, 1) := by decide +kernel
theorem dX5_meanError_12 : decode cX5_meanError 12 = .ok (.aload_n 0, 1) := by decide +kernel
theorem dX5_meanError_13 : decode cX5_meanError 13 = .ok (.getfield 10, 3) := by decide +kernel
theorem dX5_meanError_16 : decode cX5_meanError 16 = .ok (.invokevirtual 52, 3) := by decide +kernel
theorem dX5_meanError_19 : decode cX5_meanError 19 = .ok (.if_icmp .ge 96, 3) := by decide +kernel
theorem dX5_meanError_22 : decode cX5_meanError 22 = .ok (.aload_n 0, 1) := by decide +kernel
theorem dX5_meanError_23 : decode cX5_meanError 23 = .ok (.getfield 10, 3) := by decide +kernel
theorem dX5_meanError_26 : decode cX5_meanError 26 = .ok (.iload 5, 2) := by decide +kernel
theorem dX5_meanError_28 : decode cX5_meanError 28 = .ok (.iconst 1, 1) := by decide +kernel
theorem dX5_meanError_29 : decode cX5_meanError 29 = .ok (.iadd, 1) := by decide +kernel
theorem dX5_meanError_30 : decode cX5_meanError 30 = .ok (.iload_n 1, 1) := by decide +kernel
theorem dX5_meanError_31 : decode cX5_meanError 31 = .ok (.invokevirtual 72, 3) := by decide +kernel
theorem dX5_meanError_34 : decode cX5_meanError 34 = .ok (.istore 6, 2) := by decide +kernel
theorem dX5_meanError_36 : decode cX5_meanError 36 = .ok (.iload 6, 2) := by decide +kernel
theorem dX5_meanError_38 : decode cX5_meanError 38 = .ok (.sipush (-10000), 3) := by decide +kernel
theorem dX5_meanError_41 : decode cX5_meanError 41 = .ok (.if_icmp .eq 68, 3) := by decide +kernel
theorem dX5_meanError_44 : decode cX5_meanError 44 = .ok (.aload_n 0, 1) := by decide +kernel
theorem dX5_meanError_45 : decode cX5_meanError 45 = .ok (.getfield 33, 3) := by decide +kernel
theorem dX5_meanError_48 : decode cX5_meanError 48 = .ok (.aload_n 0, 1) := by decide +kernel
theorem dX5_meanError_49 : decode cX5_meanError 49 = .ok (.getfield 10, 3) := by decide +kernel
theorem dX5_meanError_52 : decode cX5_meanError 52 = .ok (.aload_n 0, 1) := by decide +kernel
theorem dX5_meanError_53 : decode cX5_meanError 53 = .ok (.getfield 26, 3) := by decide +kernel
theorem dX5_meanError_56 : decode cX5_meanError 56 = .ok (.iload 5, 2) := by decide +kernel
theorem dX5_meanError_58 : decode cX5_meanError 58 = .ok (.iload_n 1, 1) := by decide +kernel
theorem dX5_meanError_59 : decode cX5_meanError 59 = .ok (.iload_n 2, 1) := by decide +kernel
theorem dX5_meanError_60 : decode cX5_meanError 60 = .ok (.invokevirtual 226, 3) := by decide +kernel
theorem dX5_meanError_63 : decode cX5_meanError 63 = .ok (.aload_n 0, 1) := by decide +kernel
theorem dX5_meanError_64 : decode cX5_meanError 64 = .ok (.getfield 33, 3) := by decide +kernel
theorem dX5_meanError_67 : decode cX5_meanError 67 = .ok (.invokevirtual 137, 3) := by decide +kernel
theorem dX5_meanError_70 : decode cX5_meanError 70 = .ok (.ifCond .le 39, 3) := by decide +kernel
theorem dX5_meanError_73 : decode cX5_meanError 73 = .ok (.aload_n 0, 1) := by decide +kernel
theorem dX5_meanError_74 : decode cX5_meanError 74 = .ok (.getfield 33, 3) := by decide +kernel
theorem dX5_meanError_77 : decode cX5_meanError 77 = .ok (.invokevirtual 149, 3) := by decide +kernel
theorem dX5_meanError_80 : decode cX5_meanError 80 = .ok (.iload 6, 2) := by decide +kernel
theorem dX5_meanError_82 : decode cX5_meanError 82 = .ok (.invokestatic 230, 3) := by decide +kernel
theorem dX5_meanError_85 : decode cX5_meanError 85 = .ok (.fsub, 1) := by decide +kernel
theorem dX5_meanError_86 : decode cX5_meanError 86 = .ok (.fstore 7, 2) := by decide +kernel
theorem dX5_meanError_88 : decode cX5_meanError 88 = .ok (.fload_n 3, 1) := by decide +kernel
theorem dX5_meanError_89 : decode cX5_meanError 89 = .ok (.fload 7, 2) := by decide +kernel
theorem dX5_meanError_91 : decode cX5_meanError 91 = .ok (.fconst 0, 1) := by decide +kernel
theorem dX5_meanError_92 : decode cX5_meanError 92 = .ok (.fcmp .g, 1) := by decide +kernel
theorem dX5_meanError_93 : decode cX5_meanError 93 = .ok (.ifCond .ge 9, 3) := by decide +kernel
theorem dX5_meanError_96 : decode cX5_meanError 96 = .ok (.fload 7, 2) := by decide +kernel
theorem dX5_meanError_98 : decode cX5_meanError 98 = .ok (.fneg, 1) := by decide +kernel
theorem dX5_meanError_99 : decode cX5_meanError 99 = .ok (.goto 5, 3) := by decide +kernel
theorem dX5_meanError_102 : decode cX5_meanError 102 = .ok (.fload 7, 2) := by decide +kernel
theorem dX5_meanError_104 : decode cX5_meanError 104 = .ok (.fadd, 1) := by decide +kernel
theorem dX5_meanError_105 : decode cX5_meanError 105 = .ok (.fstore_n 3, 1) := by decide +kernel
theorem dX5_meanError_106 : decode cX5_meanError 106 = .ok (.iinc 4 1, 3) := by decide +kernel
theorem dX5_meanError_109 : decode cX5_meanError 109 = .ok (.iinc 5 1, 3) := by decide +kernel
theorem dX5_meanError_112 : decode cX5_meanError 112 = .ok (.goto (-104), 3) := by decide +kernel
theorem dX5_meanError_115 : decode cX5_meanError 115 = .ok (.iload 4, 2) := by decide +kernel
theorem dX5_meanError_117 : decode cX5_meanError 117 = .ok (.ifCond .ne 8, 3) := by decide +kernel
theorem dX5_meanError_120 : decode cX5_meanError 120 = .ok (.ldc 129, 2) := by decide +kernel
theorem dX5_meanError_122 : decode cX5_meanError 122 = .ok (.goto 8, 3) := by decide +kernel
theorem dX5_meanError_125 : decode cX5_meanError 125 = .ok (.fload_n 3, 1) := by decide +kernel
theorem dX5_meanError_126 : decode cX5_meanError 126 = .ok (.iload 4, 2) := by decide +kernel
theorem dX5_meanError_128 : decode cX5_meanError 128 = .ok (.i2f, 1) := by decide +kernel
theorem dX5_meanError_129 : decode cX5_meanError 129 = .ok (.fdiv, 1) := by decide +kernel
theorem dX5_meanError_130 : decode cX5_meanError 130 = .ok (.freturn, 1) := by decide +kernel
theorem dX5_isWithin_0 : decode cX5_isWithin 0 = .ok (.iload_n 0, 1) := by decide +kernel
theorem dX5_isWithin_1 : decode cX5_isWithin 1 = .ok (.iload_n 1, 1) := by decide +kernel
theorem dX5_isWithin_2 : decode cX5_isWithin 2 = .ok (.if_icmp .lt 12, 3) := by decide +kernel
theorem dX5_isWithin_5 : decode cX5_isWithin 5 = .ok (.iload_n 0, 1) := by decide +kernel
theorem dX5_isWithin_6 : decode cX5_isWithin 6 = .ok (.iload_n 2, 1) := by decide +kernel
theorem dX5_isWithin_7 : decode cX5_isWithin 7 = .ok (.if_icmp .gt 7, 3) := by decide +kernel
theorem dX5_isWithin_10 : decode cX5_isWithin 10 = .ok (.iconst 1, 1) := by decide +kernel
theorem dX5_isWithin_11 : decode cX5_isWithin 11 = .ok (.goto 4, 3) := by decide +kernel
theorem dX5_isWithin_14 : decode cX5_isWithin 14 = .ok (.iconst 0, 1) := by decide +kernel
theorem dX5_isWithin_15 : decode cX5_isWithin 15 = .ok (.ireturn, 1) := by decide +kernel
set_option maxRecDepth 20000 in
theorem ggX5_isMember_X5_isWithin : GoodIn wsX5_isMember wsX5_isWithin := goodIn_r _ [4] (by decide +kernel) (by decide +kernel)
set_option maxRecDepth 20000 in
theorem gX5_isMember_X5_isWithin : GoodIn wsX5_isMember (va_wsS RX5 81 yX5_isWithin wsX5_isWithin) := goodIn_app (goodIn_of _ (by decide +kernel)) ggX5_isMember_X5_isWithin
theorem dX5_isMember_0 : decode cX5_isMember 0 = .ok (.iload_n 0, 1) := by decide +kernel
theorem dX5_isMember_1 : decode cX5_isMember 1 = .ok (.iconst 0, 1) := by decide +kernel
theorem dX5_isMember_2 : decode cX5_isMember 2 = .ok (.iconst 3, 1) := by decide +kernel
theorem dX5_isMember_3 : decode cX5_isMember 3 = .ok (.invokestatic 81, 3) := by decide +kernel
theorem dX5_isMember_6 : decode cX5_isMember 6 = .ok (.ireturn, 1) := by decide +kernel
set_option maxRecDepth 20000 in
theorem ggX5_isNote_X5_isWithin : GoodIn wsX5_isNote wsX5_isWithin := goodIn_r _ [4] (by decide +kernel) (by decide +kernel)
set_option maxRecDepth 20000 in
theorem gX5_isNote_X5_isWithin : GoodIn wsX5_isNote (va_wsS RX5 81 yX5_isWithin wsX5_isWithin) := goodIn_app (goodIn_of _ (by decide +kernel)) ggX5_isNote_X5_isWithin
theorem dX5_isNote_0 : decode cX5_isNote 0 = .ok (.iload_n 0, 1) := by decide +kernel
theorem dX5_isNote_1 : decode cX5_isNote 1 = .ok (.sipush (-10000), 3) := by decide +kernel
theorem dX5_isNote_4 : decode cX5_isNote 4 = .ok (.if_icmp .eq 16, 3) := by decide +kernel
theorem dX5_isNote_7 : decode cX5_isNote 7 = .ok (.iload_n 0, 1) := by decide +kernel
theorem dX5_isNote_8 : decode cX5_isNote 8 = .ok (.sipush (-999), 3) := by decide +kernel
theorem dX5_isNote_11 : decode cX5_isNote 11 = .ok (.sipush 999, 3) := by decide +kernel
theorem dX5_isNote_14 : decode cX5_isNote 14 = .ok (.invokestatic 81, 3) := by decide +kernel
theorem dX5_isNote_17 : decode cX5_isNote 17 = .ok (.ifCond .eq 7, 3) := by decide +kernel
theorem dX5_isNote_20 : decode cX5_isNote 20 = .ok (.iconst 1, 1) := by decide +kernel
theorem dX5_isNote_21 : decode cX5_isNote 21 = .ok (.goto 4, 3) := by decide +kernel
theorem dX5_isNote_24 : decode cX5_isNote 24 = .ok (.iconst 0, 1) := by decide +kernel
theorem dX5_isNote_25 : decode cX5_isNote 25 = .ok (.ireturn, 1) := by decide +kernel
set_option maxRecDepth 20000 in
theorem ggX5_isRule_X5_isWithin : GoodIn wsX5_isRule wsX5_isWithin := goodIn_r _ [4] (by decide +kernel) (by decide +kernel)
set_option maxRecDepth 20000 in
theorem gX5_isRule_X5_isWithin : GoodIn wsX5_isRule (va_wsS RX5 81 yX5_isWithin wsX5_isWithin) := goodIn_app (goodIn_of _ (by decide +kernel)) ggX5_isRule_X5_isWithin
set_option maxRecDepth 20000 in
theorem ggX5_isRule_X5_isMember : GoodIn wsX5_isRule wsX5_isMember := goodIn_r _ [7, 1, 2, 3, 4] (by decide +kernel) (by decide +kernel)
set_option maxRecDepth 20000 in
theorem gX5_isRule_X5_isMember : GoodIn wsX5_isRule (va_wsS RX5 69 yX5_isMember wsX5_isMember) := goodIn_app (goodIn_of _ (by decide +kernel)) ggX5_isRule_X5_isMember
theorem dX5_isRule_0 : decode cX5_isRule 0 = .ok (.iload_n 0, 1) := by decide +kernel
theorem dX5_isRule_1 : decode cX5_isRule 1 = .ok (.iconst 4, 1) := by decide +kernel
theorem dX5_isRule_2 : decode cX5_isRule 2 = .ok (.if_icmp .ne 11, 3) := by decide +kernel
theorem dX5_isRule_5 : decode cX5_isRule 5 = .ok (.iload_n 1, 1) := by decide +kernel
theorem dX5_isRule_6 : decode cX5_isRule 6 = .ok (.iconst 0, 1) := by decide +kernel
theorem dX5_isRule_7 : decode cX5_isRule 7 = .ok (.bipush 9, 2) := by decide +kernel
theorem dX5_isRule_9 : decode cX5_isRule 9 = .ok (.invokestatic 81, 3) := by decide +kernel
theorem dX5_isRule_12 : decode cX5_isRule 12 = .ok (.ireturn, 1) := by decide +kernel
theorem dX5_isRule_13 : decode cX5_isRule 13 = .ok (.iload_n 0, 1) := by decide +kernel
theorem dX5_isRule_14 : decode cX5_isRule 14 = .ok (.iconst 5, 1) := by decide +kernel
theorem dX5_isRule_15 : decode cX5_isRule 15 = .ok (.if_icmp .ne 11, 3) := by decide +kernel
theorem dX5_isRule_18 : decode cX5_isRule 18 = .ok (.iload_n 1, 1) := by decide +kernel
theorem dX5_isRule_19 : decode cX5_isRule 19 = .ok (.iconst 1, 1) := by decide +kernel
theorem dX5_isRule_20 : decode cX5_isRule 20 = .ok (.bipush 12, 2) := by decide +kernel
theorem dX5_isRule_22 : decode cX5_isRule 22 = .ok (.invokestatic 81, 3) := by decide +kernel
theorem dX5_isRule_25 : decode cX5_isRule 25 = .ok (.ireturn, 1) := by decide +kernel
theorem dX5_isRule_26 : decode cX5_isRule 26 = .ok (.iload_n 0, 1) := by decide +kernel
theorem dX5_isRule_27 : decode cX5_isRule 27 = .ok (.invokestatic 69, 3) := by decide +kernel
theorem dX5_isRule_30 : decode cX5_isRule 30 = .ok (.ifCond .eq 17, 3) := by decide +kernel
theorem dX5_isRule_33 : decode cX5_isRule 33 = .ok (.iload_n 1, 1) := by decide +kernel
theorem dX5_isRule_34 : decode cX5_isRule 34 = .ok (.iconst 0, 1) := by decide +kernel
theorem dX5_isRule_35 : decode cX5_isRule 35 = .ok (.bipush 80, 2) := by decide +kernel
theorem dX5_isRule_37 : decode cX5_isRule 37 = .ok (.invokestatic 81, 3) := by decide +kernel
theorem dX5_isRule_40 : decode cX5_isRule 40 = .ok (.ifCond .eq 7, 3) := by decide +kernel
theorem dX5_isRule_43 : decode cX5_isRule 43 = .ok (.iconst 1, 1) := by decide +kernel
theorem dX5_isRule_44 : decode cX5_isRule 44 = .ok (.goto 4, 3) := by decide +kernel
theorem dX5_isRule_47 : decode cX5_isRule 47 = .ok (.iconst 0, 1) := by decide +kernel
theorem dX5_isRule_48 : decode cX5_isRule 48 = .ok (.ireturn, 1) := by decide +kernel
theorem dX5_isLess_0 : decode cX5_isLess 0 = .ok (.fload_n 0, 1) := by decide +kernel
theorem dX5_isLess_1 : decode cX5_isLess 1 = .ok (.fconst 0, 1) := by decide +kernel
theorem dX5_isLess_2 : decode cX5_isLess 2 = .ok (.fcmp .l, 1) := by decide +kernel
theorem dX5_isLess_3 : decode cX5_isLess 3 = .ok (.ifCond .lt 19, 3) := by decide +kernel
theorem dX5_isLess_6 : decode cX5_isLess 6 = .ok (.fload_n 1, 1) := by decide +kernel
theorem dX5_isLess_7 : decode cX5_isLess 7 = .ok (.fconst 0, 1) := by decide +kernel
theorem dX5_isLess_8 : decode cX5_isLess 8 = .ok (.fcmp .g, 1) := by decide +kernel
theorem dX5_isLess_9 : decode cX5_isLess 9 = .ok (.ifCond .lt 9, 3) := by decide +kernel
theorem dX5_isLess_12 : decode cX5_isLess 12 = .ok (.fload_n 0, 1) := by decide +kernel
theorem dX5_isLess_13 : decode cX5_isLess 13 = .ok (.fload_n 1, 1) := by decide +kernel
theorem dX5_isLess_14 : decode cX5_isLess 14 = .ok (.fcmp .g, 1) := by decide +kernel
theorem dX5_isLess_15 : decode cX5_isLess 15 = .ok (.ifCond .ge 7, 3) := by decide +kernel
theorem dX5_isLess_18 : decode cX5_isLess 18 = .ok (.iconst 1, 1) := by decide +kernel
theorem dX5_isLess_19 : decode cX5_isLess 19 = .ok (.goto 4, 3) := by decide +kernel
theorem dX5_isLess_22 : decode cX5_isLess 22 = .ok (.iconst 0, 1) := by decide +kernel
theorem dX5_isLess_23 : decode cX5_isLess 23 = .ok (.ireturn, 1) := by decide +kernel
theorem dX5_valueOf_0 : decode cX5_valueOf 0 = .ok (.iload_n 0, 1) := by decide +kernel
theorem dX5_valueOf_1 : decode cX5_valueOf 1 = .ok (.i2f, 1) := by decide +kernel
theorem dX5_valueOf_2 : decode cX5_valueOf 2 = .ok (.ldc 234, 2) := by decide +kernel
theorem dX5_valueOf_4 : decode cX5_valueOf 4 = .ok (.fdiv, 1) := by decide +kernel
theorem dX5_valueOf_5 : decode cX5_valueOf 5 = .ok (.freturn, 1) := by decide +kernel
set_option maxRecDepth 20000 in
theorem ggX5_bitsOrNone_X5_floatBits : GoodIn wsX5_bitsOrNone wsX5_floatBits := goodIn_r _ [4, 5, 6] (by decide +kernel) (by decide +kernel)
set_option maxRecDepth 20000 in
theorem gX5_bitsOrNone_X5_floatBits : GoodIn wsX5_bitsOrNone (va_wsS RX5 153 yX5_floatBits wsX5_floatBits) := goodIn_app (goodIn_of _ (by decide +kernel)) ggX5_bitsOrNone_X5_floatBits
theorem dX5_bitsOrNone_0 : decode cX5_bitsOrNone 0 = .ok (.fload_n 0, 1) := by decide +kernel
theorem dX5_bitsOrNone_1 : decode cX5_bitsOrNone 1 = .ok (.fconst 0, 1) := by decide +kernel
theorem dX5_bitsOrNone_2 : decode cX5_bitsOrNone 2 = .ok (.fcmp .g, 1) := by decide +kernel
theorem dX5_bitsOrNone_3 : decode cX5_bitsOrNone 3 = .ok (.ifCond .ge 7, 3) := by decide +kernel
theorem dX5_bitsOrNone_6 : decode cX5_bitsOrNone 6 = .ok (.iconst (-1), 1) := by decide +kernel
theorem dX5_bitsOrNone_7 : decode cX5_bitsOrNone 7 = .ok (.goto 7, 3) := by decide +kernel
theorem dX5_bitsOrNone_10 : decode cX5_bitsOrNone 10 = .ok (.fload_n 0, 1) := by decide +kernel
theorem dX5_bitsOrNone_11 : decode cX5_bitsOrNone 11 = .ok (.invokestatic 153, 3) := by decide +kernel
theorem dX5_bitsOrNone_14 : decode cX5_bitsOrNone 14 = .ok (.ireturn, 1) := by decide +kernel
theorem dX5_floatBits_0 : decode cX5_floatBits 0 = .ok (.fload_n 0, 1) := by decide +kernel
theorem dX5_floatBits_1 : decode cX5_floatBits 1 = .ok (.fconst 0, 1) := by decide +kernel
theorem dX5_floatBits_2 : decode cX5_floatBits 2 = .ok (.fcmp .l, 1) := by decide +kernel
theorem dX5_floatBits_3 : decode cX5_floatBits 3 = .ok (.ifCond .ne 5, 3) := by decide +kernel
theorem dX5_floatBits_6 : decode cX5_floatBits 6 = .ok (.iconst 0, 1) := by decide +kernel
theorem dX5_floatBits_7 : decode cX5_floatBits 7 = .ok (.ireturn, 1) := by decide +kernel
theorem dX5_floatBits_8 : decode cX5_floatBits 8 = .ok (.fload_n 0, 1) := by decide +kernel
theorem dX5_floatBits_9 : decode cX5_floatBits 9 = .ok (.fconst 0, 1) := by decide +kernel
theorem dX5_floatBits_10 : decode cX5_floatBits 10 = .ok (.fcmp .g, 1) := by decide +kernel
theorem dX5_floatBits_11 : decode cX5_floatBits 11 = .ok (.ifCond .ge 8, 3) := by decide +kernel
theorem dX5_floatBits_14 : decode cX5_floatBits 14 = .ok (.fload_n 0, 1) := by decide +kernel
theorem dX5_floatBits_15 : decode cX5_floatBits 15 = .ok (.fneg, 1) := by decide +kernel
theorem dX5_floatBits_16 : decode cX5_floatBits 16 = .ok (.goto 4, 3) := by decide +kernel
theorem dX5_floatBits_19 : decode cX5_floatBits 19 = .ok (.fload_n 0, 1) := by decide +kernel
theorem dX5_floatBits_20 : decode cX5_floatBits 20 = .ok (.fstore_n 1, 1) := by decide +kernel
theorem dX5_floatBits_21 : decode cX5_floatBits 21 = .ok (.bipush 127, 2) := by decide +kernel
theorem dX5_floatBits_23 : decode cX5_floatBits 23 = .ok (.istore_n 2, 1) := by decide +kernel
theorem dX5_floatBits_24 : decode cX5_floatBits 24 = .ok (.fload_n 1, 1) := by decide +kernel
theorem dX5_floatBits_25 : decode cX5_floatBits 25 = .ok (.fconst 2, 1) := by decide +kernel
theorem dX5_floatBits_26 : decode cX5_floatBits 26 = .ok (.fcmp .l, 1) := by decide +kernel
theorem dX5_floatBits_27 : decode cX5_floatBits 27 = .ok (.ifCond .lt 20, 3) := by decide +kernel
theorem dX5_floatBits_30 : decode cX5_floatBits 30 = .ok (.iload_n 2, 1) := by decide +kernel
theorem dX5_floatBits_31 : decode cX5_floatBits 31 = .ok (.sipush 254, 3) := by decide +kernel
theorem dX5_floatBits_34 : decode cX5_floatBits 34 = .ok (.if_icmp .ge 13, 3) := by decide +kernel
theorem dX5_floatBits_37 : decode cX5_floatBits 37 = .ok (.fload_n 1, 1) := by decide +kernel
theorem dX5_floatBits_38 : decode cX5_floatBits 38 = .ok (.fconst 2, 1) := by decide +kernel
theorem dX5_floatBits_39 : decode cX5_floatBits 39 = .ok (.fdiv, 1) := by decide +kernel
theorem dX5_floatBits_40 : decode cX5_floatBits 40 = .ok (.fstore_n 1, 1) := by decide +kernel
theorem dX5_floatBits_41 : decode cX5_floatBits 41 = .ok (.iinc 2 1, 3) := by decide +kernel
theorem dX5_floatBits_44 : decode cX5_floatBits 44 = .ok (.goto (-20), 3) := by decide +kernel
theorem dX5_floatBits_47 : decode cX5_floatBits 47 = .ok (.fload_n 1, 1) := by decide +kernel
theorem dX5_floatBits_48 : decode cX5_floatBits 48 = .ok (.fconst 1, 1) := by decide +kernel
theorem dX5_floatBits_49 : decode cX5_floatBits 49 = .ok (.fcmp .g, 1) := by decide +kernel
theorem dX5_floatBits_50 : decode cX5_floatBits 50 = .ok (.ifCond .ge 18, 3) := by decide +kernel
theorem dX5_floatBits_53 : decode cX5_floatBits 53 = .ok (.iload_n 2, 1) := by decide +kernel
theorem dX5_floatBits_54 : decode cX5_floatBits 54 = .ok (.iconst 1, 1) := by decide +kernel
theorem dX5_floatBits_55 : decode cX5_floatBits 55 = .ok (.if_icmp .le 13, 3) := by decide +kernel
theorem dX5_floatBits_58 : decode cX5_floatBits 58 = .ok (.fload_n 1, 1) := by decide +kernel
theorem dX5_floatBits_59 : decode cX5_floatBits 59 = .ok (.fconst 2, 1) := by decide +kernel
theorem dX5_floatBits_60 : decode cX5_floatBits 60 = .ok (.fmul, 1) := by decide +kernel
theorem dX5_floatBits_61 : decode cX5_floatBits 61 = .ok (.fstore_n 1, 1) := by decide +kernel
theorem dX5_floatBits_62 : decode cX5_floatBits 62 = .ok (.iinc 2 (-1), 3) := by decide +kernel
theorem dX5_floatBits_65 : decode cX5_floatBits 65 = .ok (.goto (-18), 3) := by decide +kernel
theorem dX5_floatBits_68 : decode cX5_floatBits 68 = .ok (.iload_n 2, 1) := by decide +kernel
theorem dX5_floatBits_69 : decode cX5_floatBits 69 = .ok (.bipush 23, 2) := by decide +kernel
theorem dX5_floatBits_71 : decode cX5_floatBits 71 = .ok (.ishl, 1) := by decide +kernel
theorem dX5_floatBits_72 : decode cX5_floatBits 72 = .ok (.fload_n 1, 1) := by decide +kernel
theorem dX5_floatBits_73 : decode cX5_floatBits 73 = .ok (.fconst 1, 1) := by decide +kernel
theorem dX5_floatBits_74 : decode cX5_floatBits 74 = .ok (.fsub, 1) := by decide +kernel
theorem dX5_floatBits_75 : decode cX5_floatBits 75 = .ok (.ldc 235, 2) := by decide +kernel
theorem dX5_floatBits_77 : decode cX5_floatBits 77 = .ok (.fmul, 1) := by decide +kernel
theorem dX5_floatBits_78 : decode cX5_floatBits 78 = .ok (.f2i, 1) := by decide +kernel
theorem dX5_floatBits_79 : decode cX5_floatBits 79 = .ok (.ior, 1) := by decide +kernel
theorem dX5_floatBits_80 : decode cX5_floatBits 80 = .ok (.istore_n 3, 1) := by decide +kernel
theorem dX5_floatBits_81 : decode cX5_floatBits 81 = .ok (.fload_n 0, 1) := by decide +kernel
theorem dX5_floatBits_82 : decode cX5_floatBits 82 = .ok (.fconst 0, 1) := by decide +kernel
theorem dX5_floatBits_83 : decode cX5_floatBits 83 = .ok (.fcmp .g, 1) := by decide +kernel
theorem dX5_floatBits_84 : decode cX5_floatBits 84 = .ok (.ifCond .ge 10, 3) := by decide +kernel
theorem dX5_floatBits_87 : decode cX5_floatBits 87 = .ok (.iload_n 3, 1) := by decide +kernel
theorem dX5_floatBits_88 : decode cX5_floatBits 88 = .ok (.ldc 238, 2) := by decide +kernel
theorem dX5_floatBits_90 : decode cX5_floatBits 90 = .ok (.ior, 1) := by decide +kernel
theorem dX5_floatBits_91 : decode cX5_floatBits 91 = .ok (.goto 4, 3) := by decide +kernel
theorem dX5_floatBits_94 : decode cX5_floatBits 94 = .ok (.iload_n 3, 1) := by decide +kernel
theorem dX5_floatBits_95 : decode cX5_floatBits 95 = .ok (.ireturn, 1) := by decide +kernel
theorem dX5_doubleBits_0 : decode cX5_doubleBits 0 = .ok (.dload_n 0, 1) := by decide +kernel
theorem dX5_doubleBits_1 : decode cX5_doubleBits 1 = .ok (.dconst 0, 1) := by decide +kernel
theorem dX5_doubleBits_2 : decode cX5_doubleBits 2 = .ok (.dcmp .l, 1) := by decide +kernel
theorem dX5_doubleBits_3 : decode cX5_doubleBits 3 = .ok (.ifCond .ne 5, 3) := by decide +kernel
theorem dX5_doubleBits_6 : decode cX5_doubleBits 6 = .ok (.lconst 0, 1) := by decide +kernel
theorem dX5_doubleBits_7 : decode cX5_doubleBits 7 = .ok (.lreturn, 1) := by decide +kernel
theorem dX5_doubleBits_8 : decode cX5_doubleBits 8 = .ok (.dload_n 0, 1) := by decide +kernel
theorem dX5_doubleBits_9 : decode cX5_doubleBits 9 = .ok (.dconst 0, 1) := by decide +kernel
theorem dX5_doubleBits_10 : decode cX5_doubleBits 10 = .ok (.dcmp .g, 1) := by decide +kernel
theorem dX5_doubleBits_11 : decode cX5_doubleBits 11 = .ok (.ifCond .ge 8, 3) := by decide +kernel
theorem dX5_doubleBits_14 : decode cX5_doubleBits 14 = .ok (.dload_n 0, 1) := by decide +kernel
theorem dX5_doubleBits_15 : decode cX5_doubleBits 15 = .ok (.dneg, 1) := by decide +kernel
theorem dX5_doubleBits_16 : decode cX5_doubleBits 16 = .ok (.goto 4, 3) := by decide +kernel
theorem dX5_doubleBits_19 : decode cX5_doubleBits 19 = .ok (.dload_n 0, 1) := by decide +kernel
theorem dX5_doubleBits_20 : decode cX5_doubleBits 20 = .ok (.dstore_n 2, 1) := by decide +kernel
theorem dX5_doubleBits_21 : decode cX5_doubleBits 21 = .ok (.sipush 1023, 3) := by decide +kernel
theorem dX5_doubleBits_24 : decode cX5_doubleBits 24 = .ok (.istore 4, 2) := by decide +kernel
theorem dX5_doubleBits_26 : decode cX5_doubleBits 26 = .ok (.dload_n 2, 1) := by decide +kernel
theorem dX5_doubleBits_27 : decode cX5_doubleBits 27 = .ok (.ldc2_w 239, 3) := by decide +kernel
theorem dX5_doubleBits_30 : decode cX5_doubleBits 30 = .ok (.dcmp .l, 1) := by decide +kernel
theorem dX5_doubleBits_31 : decode cX5_doubleBits 31 = .ok (.ifCond .lt 23, 3) := by decide +kernel
theorem dX5_doubleBits_34 : decode cX5_doubleBits 34 = .ok (.iload 4, 2) := by decide +kernel
theorem dX5_doubleBits_36 : decode cX5_doubleBits 36 = .ok (.sipush 2046, 3) := by decide +kernel
theorem dX5_doubleBits_39 : decode cX5_doubleBits 39 = .ok (.if_icmp .ge 15, 3) := by decide +kernel
theorem dX5_doubleBits_42 : decode cX5_doubleBits 42 = .ok (.dload_n 2, 1) := by decide +kernel
theorem dX5_doubleBits_43 : decode cX5_doubleBits 43 = .ok (.ldc2_w 239, 3) := by decide +kernel
theorem dX5_doubleBits_46 : decode cX5_doubleBits 46 = .ok (.ddiv, 1) := by decide +kernel
theorem dX5_doubleBits_47 : decode cX5_doubleBits 47 = .ok (.dstore_n 2, 1) := by decide +kernel
theorem dX5_doubleBits_48 : decode cX5_doubleBits 48 = .ok (.iinc 4 1, 3) := by decide +kernel
theorem dX5_doubleBits_51 : decode cX5_doubleBits 51 = .ok (.goto (-25), 3) := by decide +kernel
theorem dX5_doubleBits_54 : decode cX5_doubleBits 54 = .ok (.dload_n 2, 1) := by decide +kernel
theorem dX5_doubleBits_55 : decode cX5_doubleBits 55 = .ok (.dconst 1, 1) := by decide +kernel
theorem dX5_doubleBits_56 : decode cX5_doubleBits 56 = .ok (.dcmp .g, 1) := by decide +kernel
theorem dX5_doubleBits_57 : decode cX5_doubleBits 57 = .ok (.ifCond .ge 21, 3) := by decide +kernel
theorem dX5_doubleBits_60 : decode cX5_doubleBits 60 = .ok (.iload 4, 2) := by decide +kernel
theorem dX5_doubleBits_62 : decode cX5_doubleBits 62 = .ok (.iconst 1, 1) := by decide +kernel
theorem dX5_doubleBits_63 : decode cX5_doubleBits 63 = .ok (.if_icmp .le 15, 3) := by decide +kernel
theorem dX5_doubleBits_66 : decode cX5_doubleBits 66 = .ok (.dload_n 2, 1) := by decide +kernel
theorem dX5_doubleBits_67 : decode cX5_doubleBits 67 = .ok (.ldc2_w 239, 3) := by decide +kernel
theorem dX5_doubleBits_70 : decode cX5_doubleBits 70 = .ok (.dmul, 1) := by decide +kernel
theorem dX5_doubleBits_71 : decode cX5_doubleBits 71 = .ok (.dstore_n 2, 1) := by decide +kernel
theorem dX5_doubleBits_72 : decode cX5_doubleBits 72 = .ok (.iinc 4 (-1), 3) := by decide +kernel
theorem dX5_doubleBits_75 : decode cX5_doubleBits 75 = .ok (.goto (-21), 3) := by decide +kernel
theorem dX5_doubleBits_78 : decode cX5_doubleBits 78 = .ok (.iload 4, 2) := by decide +kernel
theorem dX5_doubleBits_80 : decode cX5_doubleBits 80 = .ok (.i2l, 1) := by decide +kernel
theorem dX5_doubleBits_81 : decode cX5_doubleBits 81 = .ok (.bipush 52, 2) := by decide +kernel
theorem dX5_doubleBits_83 : decode cX5_doubleBits 83 = .ok (.lshl, 1) := by decide +kernel
theorem dX5_doubleBits_84 : decode cX5_doubleBits 84 = .ok (.dload_n 2, 1) := by decide +kernel
theorem dX5_doubleBits_85 : decode cX5_doubleBits 85 = .ok (.dconst 1, 1) := by decide +kernel
theorem dX5_doubleBits_86 : decode cX5_doubleBits 86 = .ok (.dsub, 1) := by decide +kernel
theorem dX5_doubleBits_87 : decode cX5_doubleBits 87 = .ok (.ldc2_w 241, 3) := by decide +kernel
theorem dX5_doubleBits_90 : decode cX5_doubleBits 90 = .ok (.dmul, 1) := by decide +kernel
theorem dX5_doubleBits_91 : decode cX5_doubleBits 91 = .ok (.d2l, 1) := by decide +kernel
theorem dX5_doubleBits_92 : decode cX5_doubleBits 92 = .ok (.lor, 1) := by decide +kernel
theorem dX5_doubleBits_93 : decode cX5_doubleBits 93 = .ok (.lstore 5, 2) := by decide +kernel
theorem dX5_doubleBits_95 : decode cX5_doubleBits 95 = .ok (.dload_n 0, 1) := by decide +kernel
theorem dX5_doubleBits_96 : decode cX5_doubleBits 96 = .ok (.dconst 0, 1) := by decide +kernel
theorem dX5_doubleBits_97 : decode cX5_doubleBits 97 = .ok (.dcmp .g, 1) := by decide +kernel
theorem dX5_doubleBits_98 : decode cX5_doubleBits 98 = .ok (.ifCond .ge 12, 3) := by decide +kernel
theorem dX5_doubleBits_101 : decode cX5_doubleBits 101 = .ok (.lload 5, 2) := by decide +kernel
theorem dX5_doubleBits_103 : decode cX5_doubleBits 103 = .ok (.ldc2_w 245, 3) := by decide +kernel
theorem dX5_doubleBits_106 : decode cX5_doubleBits 106 = .ok (.lor, 1) := by decide +kernel
theorem dX5_doubleBits_107 : decode cX5_doubleBits 107 = .ok (.goto 5, 3) := by decide +kernel
theorem dX5_doubleBits_110 : decode cX5_doubleBits 110 = .ok (.lload 5, 2) := by decide +kernel
theorem dX5_doubleBits_112 : decode cX5_doubleBits 112 = .ok (.lreturn, 1) := by decide +kernel
theorem dX6_bad_0 : decode cX6_bad 0 = .ok (.aload_n 0, 1) := by decide +kernel
theorem dX6_bad_1 : decode cX6_bad 1 = .ok (.getfield 1, 3) := by decide +kernel
theorem dX6_bad_4 : decode cX6_bad 4 = .ok (.iconst 0, 1) := by decide +kernel
theorem dX6_bad_5 : decode cX6_bad 5 = .ok (.dup2, 1) := by decide +kernel
theorem dX6_bad_6 : decode cX6_bad 6 = .ok (.iaload, 1) := by decide +kernel
theorem dX6_bad_7 : decode cX6_bad 7 = .ok (.iconst 1, 1) := by decide +kernel
theorem dX6_bad_8 : decode cX6_bad 8 = .ok (.iadd, 1) := by decide +kernel
theorem dX6_bad_9 : decode cX6_bad 9 = .ok (.iastore, 1) := by decide +kernel
theorem dX6_bad_10 : decode cX6_bad 10 = .ok (.bipush (-2), 2) := by decide +kernel
theorem dX6_bad_12 : decode cX6_bad 12 = .ok (.ireturn, 1) := by decide +kernel
theorem dX6_badly_0 : decode cX6_badly 0 = .ok (.aload_n 0, 1) := by decide +kernel
theorem dX6_badly_1 : decode cX6_badly 1 = .ok (.getfield 1, 3) := by decide +kernel
theorem dX6_badly_4 : decode cX6_badly 4 = .ok (.iconst 0, 1) := by decide +kernel
theorem dX6_badly_5 : decode cX6_badly 5 = .ok (.dup2, 1) := by decide +kernel
theorem dX6_badly_6 : decode cX6_badly 6 = .ok (.iaload, 1) := by decide +kernel
theorem dX6_badly_7 : decode cX6_badly 7 = .ok (.iconst 1, 1) := by decide +kernel
theorem dX6_badly_8 : decode cX6_badly 8 = .ok (.iadd, 1) := by decide +kernel
theorem dX6_badly_9 : decode cX6_badly 9 = .ok (.iastore, 1) := by decide +kernel
theorem dX6_badly_10 : decode cX6_badly 10 = .ok (.sipush (-20000), 3) := by decide +kernel
theorem dX6_badly_13 : decode cX6_badly 13 = .ok (.ireturn, 1) := by decide +kernel
theorem dX6_full_0 : decode cX6_full 0 = .ok (.aload_n 0, 1) := by decide +kernel
theorem dX6_full_1 : decode cX6_full 1 = .ok (.getfield 1, 3) := by decide +kernel
theorem dX6_full_4 : decode cX6_full 4 = .ok (.iconst 2, 1) := by decide +kernel
theorem dX6_full_5 : decode cX6_full 5 = .ok (.dup2, 1) := by decide +kernel
theorem dX6_full_6 : decode cX6_full 6 = .ok (.iaload, 1) := by decide +kernel
theorem dX6_full_7 : decode cX6_full 7 = .ok (.iconst 1, 1) := by decide +kernel
theorem dX6_full_8 : decode cX6_full 8 = .ok (.iadd, 1) := by decide +kernel
theorem dX6_full_9 : decode cX6_full 9 = .ok (.iastore, 1) := by decide +kernel
theorem dX6_full_10 : decode cX6_full 10 = .ok (.bipush (-4), 2) := by decide +kernel
theorem dX6_full_12 : decode cX6_full 12 = .ok (.ireturn, 1) := by decide +kernel
theorem dX6_in_0 : decode cX6_in 0 = .ok (.iload_n 0, 1) := by decide +kernel
theorem dX6_in_1 : decode cX6_in 1 = .ok (.iload_n 1, 1) := by decide +kernel
theorem dX6_in_2 : decode cX6_in 2 = .ok (.if_icmp .lt 12, 3) := by decide +kernel
theorem dX6_in_5 : decode cX6_in 5 = .ok (.iload_n 0, 1) := by decide +kernel
theorem dX6_in_6 : decode cX6_in 6 = .ok (.iload_n 2, 1) := by decide +kernel
theorem dX6_in_7 : decode cX6_in 7 = .ok (.if_icmp .gt 7, 3) := by decide +kernel
theorem dX6_in_10 : decode cX6_in 10 = .ok (.iconst 1, 1) := by decide +kernel
theorem dX6_in_11 : decode cX6_in 11 = .ok (.goto 4, 3) := by decide +kernel
theorem dX6_in_14 : decode cX6_in 14 = .ok (.iconst 0, 1) := by decide +kernel
theorem dX6_in_15 : decode cX6_in 15 = .ok (.ireturn, 1) := by decide +kernel
theorem dX6_init_0 : decode cX6_init 0 = .ok (.aload_n 0, 1) := by decide +kernel
theorem dX6_init_1 : decode cX6_init 1 = .ok (.invokespecial 7, 3) := by decide +kernel
theorem dX6_init_4 : decode cX6_init 4 = .ok (.aload_n 0, 1) := by decide +kernel
theorem dX6_init_5 : decode cX6_init 5 = .ok (.iconst 3, 1) := by decide +kernel
theorem dX6_init_6 : decode cX6_init 6 = .ok (.newarray .int, 2) := by decide +kernel
theorem dX6_init_8 : decode cX6_init 8 = .ok (.putfield 1, 3) := by decide +kernel
theorem dX6_init_11 : decode cX6_init 11 = .ok (.aload_n 0, 1) := by decide +kernel
theorem dX6_init_12 : decode cX6_init 12 = .ok (.bipush 6, 2) := by decide +kernel
theorem dX6_init_14 : decode cX6_init 14 = .ok (.newarray .int, 2) := by decide +kernel
theorem dX6_init_16 : decode cX6_init 16 = .ok (.putfield 13, 3) := by decide +kernel
theorem dX6_init_19 : decode cX6_init 19 = .ok (.aload_n 0, 1) := by decide +kernel
theorem dX6_init_20 : decode cX6_init 20 = .ok (.sipush 200, 3) := by decide +kernel
theorem dX6_init_23 : decode cX6_init 23 = .ok (.newarray .int, 2) := by decide +kernel
theorem dX6_init_25 : decode cX6_init 25 = .ok (.putfield 16, 3) := by decide +kernel
theorem dX6_init_28 : decode cX6_init 28 = .ok (.aload_n 0, 1) := by decide +kernel
theorem dX6_init_29 : decode cX6_init 29 = .ok (.sipush 1035, 3) := by decide +kernel
theorem dX6_init_32 : decode cX6_init 32 = .ok (.newarray .int, 2) := by decide +kernel
theorem dX6_init_34 : decode cX6_init 34 = .ok (.putfield 19, 3) := by decide +kernel
theorem dX6_init_37 : decode cX6_init 37 = .ok (.aload_n 0, 1) := by decide +kernel
theorem dX6_init_38 : decode cX6_init 38 = .ok (.bipush 50, 2) := by decide +kernel
theorem dX6_init_40 : decode cX6_init 40 = .ok (.newarray .int, 2) := by decide +kernel
theorem dX6_init_42 : decode cX6_init 42 = .ok (.putfield 22, 3) := by decide +kernel
theorem dX6_init_45 : decode cX6_init 45 = .ok (.aload_n 0, 1) := by decide +kernel
theorem dX6_init_46 : decode cX6_init 46 = .ok (.bipush 50, 2) := by decide +kernel
theorem dX6_init_48 : decode cX6_init 48 = .ok (.newarray .float, 2) := by decide +kernel
theorem dX6_init_50 : decode cX6_init 50 = .ok (.putfield 25, 3) := by decide +kernel
theorem dX6_init_53 : decode cX6_init 53 = .ok (.aload_n 0, 1) := by decide +kernel
theorem dX6_init_54 : decode cX6_init 54 = .ok (.bipush 50, 2) := by decide +kernel
theorem dX6_init_56 : decode cX6_init 56 = .ok (.newarray .int, 2) := by decide +kernel
theorem dX6_init_58 : decode cX6_init 58 = .ok (.putfield 29, 3) := by decide +kernel
theorem dX6_init_61 : decode cX6_init 61 = .ok (.aload_n 0, 1) := by decide +kernel
theorem dX6_init_62 : decode cX6_init 62 = .ok (.bipush 50, 2) := by decide +kernel
theorem dX6_init_64 : decode cX6_init 64 = .ok (.newarray .float, 2) := by decide +kernel
theorem dX6_init_66 : decode cX6_init 66 = .ok (.putfield 32, 3) := by decide +kernel
theorem dX6_init_69 : decode cX6_init 69 = .ok (.aload_n 0, 1) := by decide +kernel
theorem dX6_init_70 : decode cX6_init 70 = .ok (.bipush 50, 2) := by decide +kernel
theorem dX6_init_72 : decode cX6_init 72 = .ok (.newarray .int, 2) := by decide +kernel
theorem dX6_init_74 : decode cX6_init 74 = .ok (.putfield 35, 3) := by decide +kernel
theorem dX6_init_77 : decode cX6_init 77 = .ok (.aload_n 0, 1) := by decide +kernel
theorem dX6_init_78 : decode cX6_init 78 = .ok (.bipush 120, 2) := by decide +kernel
theorem dX6_init_80 : decode cX6_init 80 = .ok (.newarray .int, 2) := by decide +kernel
theorem dX6_init_82 : decode cX6_init 82 = .ok (.putfield 38, 3) := by decide +kernel
theorem dX6_init_85 : decode cX6_init 85 = .ok (.aload_n 0, 1) := by decide +kernel
theorem dX6_init_86 : decode cX6_init 86 = .ok (.iconst 4, 1) := by decide +kernel
theorem dX6_init_87 : decode cX6_init 87 = .ok (.newarray .int, 2) := by decide +kernel
theorem dX6_init_89 : decode cX6_init 89 = .ok (.putfield 41, 3) := by decide +kernel
theorem dX6_init_92 : decode cX6_init 92 = .ok (.iconst 0, 1) := by decide +kernel
theorem dX6_init_93 : decode cX6_init 93 = .ok (.istore_n 1, 1) := by decide +kernel
theorem dX6_init_94 : decode cX6_init 94 = .ok (.iload_n 1, 1) := by decide +kernel
theorem dX6_init_95 : decode cX6_init 95 = .ok (.iconst 4, 1) := by decide +kernel
theorem dX6_init_96 : decode cX6_init 96 = .ok (.if_icmp .ge 17, 3) := by decide +kernel
theorem dX6_init_99 : decode cX6_init 99 = .ok (.aload_n 0, 1) := by decide +kernel
theorem dX6_init_100 : decode cX6_init 100 = .ok (.getfield 13, 3) := by decide +kernel
theorem dX6_init_103 : decode cX6_init 103 = .ok (.iload_n 1, 1) := by decide +kernel
theorem dX6_init_104 : decode cX6_init 104 = .ok (.bipush 8, 2) := by decide +kernel
theorem dX6_init_106 : decode cX6_init 106 = .ok (.iastore, 1) := by decide +kernel
theorem dX6_init_107 : decode cX6_init 107 = .ok (.iinc 1 1, 3) := by decide +kernel
theorem dX6_init_110 : decode cX6_init 110 = .ok (.goto (-16), 3) := by decide +kernel
theorem dX6_init_113 : decode cX6_init 113 = .ok (.aload_n 0, 1) := by decide +kernel
theorem dX6_init_114 : decode cX6_init 114 = .ok (.getfield 13, 3) := by decide +kernel
theorem dX6_init_117 : decode cX6_init 117 = .ok (.iconst 5, 1) := by decide +kernel
theorem dX6_init_118 : decode cX6_init 118 = .ok (.iconst 4, 1) := by decide +kernel
theorem dX6_init_119 : decode cX6_init 119 = .ok (.iastore, 1) := by decide +kernel
theorem dX6_init_120 : decode cX6_init 120 = .ok (.return_, 1) := by decide +kernel
theorem dX6_isNoted_0 : decode cX6_isNoted 0 = .ok (.iload_n 0, 1) := by decide +kernel
theorem dX6_isNoted_1 : decode cX6_isNoted 1 = .ok (.sipush (-10000), 3) := by decide +kernel
theorem dX6_isNoted_4 : decode cX6_isNoted 4 = .ok (.if_icmp .eq 7, 3) := by decide +kernel
theorem dX6_isNoted_7 : decode cX6_isNoted 7 = .ok (.iconst 1, 1) := by decide +kernel
theorem dX6_isNoted_8 : decode cX6_isNoted 8 = .ok (.goto 4, 3) := by decide +kernel
theorem dX6_isNoted_11 : decode cX6_isNoted 11 = .ok (.iconst 0, 1) := by decide +kernel
theorem dX6_isNoted_12 : decode cX6_isNoted 12 = .ok (.ireturn, 1) := by decide +kernel
set_option maxRecDepth 20000 in
theorem ggX6_may_X6_in : GoodIn wsX6_may wsX6_in := goodIn_r _ [4] (by decide +kernel) (by decide +kernel)
set_option maxRecDepth 20000 in
theorem gX6_may_X6_in : GoodIn wsX6_may (va_wsS RX6 44 yX6_in wsX6_in) := goodIn_app (goodIn_of _ (by decide +kernel)) ggX6_may_X6_in
theorem dX6_may_0 : decode cX6_may 0 = .ok (.iload_n 0, 1) := by decide +kernel
theorem dX6_may_1 : decode cX6_may 1 = .ok (.sipush (-10000), 3) := by decide +kernel
theorem dX6_may_4 : decode cX6_may 4 = .ok (.if_icmp .eq 16, 3) := by decide +kernel
theorem dX6_may_7 : decode cX6_may 7 = .ok (.iload_n 0, 1) := by decide +kernel
theorem dX6_may_8 : decode cX6_may 8 = .ok (.sipush (-999), 3) := by decide +kernel
theorem dX6_may_11 : decode cX6_may 11 = .ok (.sipush 999, 3) := by decide +kernel
theorem dX6_may_14 : decode cX6_may 14 = .ok (.invokestatic 44, 3) := by decide +kernel
theorem dX6_may_17 : decode cX6_may 17 = .ok (.ifCond .eq 7, 3) := by decide +kernel
theorem dX6_may_20 : decode cX6_may 20 = .ok (.iconst 1, 1) := by decide +kernel
theorem dX6_may_21 : decode cX6_may 21 = .ok (.goto 4, 3) := by decide +kernel
theorem dX6_may_24 : decode cX6_may 24 = .ok (.iconst 0, 1) := by decide +kernel
theorem dX6_may_25 : decode cX6_may 25 = .ok (.ireturn, 1) := by decide +kernel
set_option maxRecDepth 20000 in
theorem ggX6_isDay_X6_in : GoodIn wsX6_isDay wsX6_in := goodIn_r _ [5] (by decide +kernel) (by decide +kernel)
set_option maxRecDepth 20000 in
theorem gX6_isDay_X6_in : GoodIn wsX6_isDay (va_wsS RX6 44 yX6_in wsX6_in) := goodIn_app (goodIn_of _ (by decide +kernel)) ggX6_isDay_X6_in
theorem dX6_isDay_0 : decode cX6_isDay 0 = .ok (.iload_n 1, 1) := by decide +kernel
theorem dX6_isDay_1 : decode cX6_isDay 1 = .ok (.iconst 0, 1) := by decide +kernel
theorem dX6_isDay_2 : decode cX6_isDay 2 = .ok (.aload_n 0, 1) := by decide +kernel
theorem dX6_isDay_3 : decode cX6_isDay 3 = .ok (.getfield 48, 3) := by decide +kernel
theorem dX6_isDay_6 : decode cX6_isDay 6 = .ok (.iconst 1, 1) := by decide +kernel
theorem dX6_isDay_7 : decode cX6_isDay 7 = .ok (.isub, 1) := by decide +kernel
theorem dX6_isDay_8 : decode cX6_isDay 8 = .ok (.invokestatic 44, 3) := by decide +kernel
theorem dX6_isDay_11 : decode cX6_isDay 11 = .ok (.ireturn, 1) := by decide +kernel
set_option maxRecDepth 20000 in
theorem ggX6_isMember_X6_in : GoodIn wsX6_isMember wsX6_in := goodIn_r _ [4] (by decide +kernel) (by decide +kernel)
set_option maxRecDepth 20000 in
theorem gX6_isMember_X6_in : GoodIn wsX6_isMember (va_wsS RX6 44 yX6_in wsX6_in) := goodIn_app (goodIn_of _ (by decide +kernel)) ggX6_isMember_X6_in
theorem dX6_isMember_0 : decode cX6_isMember 0 = .ok (.iload_n 0, 1) := by decide +kernel
theorem dX6_isMember_1 : decode cX6_isMember 1 = .ok (.iconst 0, 1) := by decide +kernel
theorem dX6_isMember_2 : decode cX6_isMember 2 = .ok (.iconst 3, 1) := by decide +kernel
theorem dX6_isMember_3 : decode cX6_isMember 3 = .ok (.invokestatic 44, 3) := by decide +kernel
theorem dX6_isMember_6 : decode cX6_isMember 6 = .ok (.ireturn, 1) := by decide +kernel
theorem dX6_leavesState_0 : decode cX6_leavesState 0 = .ok (.aload_n 0, 1) := by decide +kernel
theorem dX6_leavesState_1 : decode cX6_leavesState 1 = .ok (.getfield 52, 3) := by decide +kernel
theorem dX6_leavesState_4 : decode cX6_leavesState 4 = .ok (.iconst 5, 1) := by decide +kernel
theorem dX6_leavesState_5 : decode cX6_leavesState 5 = .ok (.if_icmp .ne 44, 3) := by decide +kernel
theorem dX6_leavesState_8 : decode cX6_leavesState 8 = .ok (.iconst 0, 1) := by decide +kernel
theorem dX6_leavesState_9 : decode cX6_leavesState 9 = .ok (.istore_n 1, 1) := by decide +kernel
theorem dX6_leavesState_10 : decode cX6_leavesState 10 = .ok (.iload_n 1, 1) := by decide +kernel
theorem dX6_leavesState_11 : decode cX6_leavesState 11 = .ok (.sipush 828, 3) := by decide +kernel
theorem dX6_leavesState_14 : decode cX6_leavesState 14 = .ok (.if_icmp .ge 25, 3) := by decide +kernel
theorem dX6_leavesState_17 : decode cX6_leavesState 17 = .ok (.aload_n 0, 1) := by decide +kernel
theorem dX6_leavesState_18 : decode cX6_leavesState 18 = .ok (.getfield 19, 3) := by decide +kernel
theorem dX6_leavesState_21 : decode cX6_leavesState 21 = .ok (.iload_n 1, 1) := by decide +kernel
theorem dX6_leavesState_22 : decode cX6_leavesState 22 = .ok (.aload_n 0, 1) := by decide +kernel
theorem dX6_leavesState_23 : decode cX6_leavesState 23 = .ok (.getfield 19, 3) := by decide +kernel
theorem dX6_leavesState_26 : decode cX6_leavesState 26 = .ok (.iload_n 1, 1) := by decide +kernel
theorem dX6_leavesState_27 : decode cX6_leavesState 27 = .ok (.sipush 207, 3) := by decide +kernel
theorem dX6_leavesState_30 : decode cX6_leavesState 30 = .ok (.iadd, 1) := by decide +kernel
theorem dX6_leavesState_31 : decode cX6_leavesState 31 = .ok (.iaload, 1) := by decide +kernel
theorem dX6_leavesState_32 : decode cX6_leavesState 32 = .ok (.iastore, 1) := by decide +kernel
theorem dX6_leavesState_33 : decode cX6_leavesState 33 = .ok (.iinc 1 1, 3) := by decide +kernel
theorem dX6_leavesState_36 : decode cX6_leavesState 36 = .ok (.goto (-26), 3) := by decide +kernel
theorem dX6_leavesState_39 : decode cX6_leavesState 39 = .ok (.aload_n 0, 1) := by decide +kernel
theorem dX6_leavesState_40 : decode cX6_leavesState 40 = .ok (.dup, 1) := by decide +kernel
theorem dX6_leavesState_41 : decode cX6_leavesState 41 = .ok (.getfield 52, 3) := by decide +kernel
theorem dX6_leavesState_44 : decode cX6_leavesState 44 = .ok (.iconst 1, 1) := by decide +kernel
theorem dX6_leavesState_45 : decode cX6_leavesState 45 = .ok (.isub, 1) := by decide +kernel
theorem dX6_leavesState_46 : decode cX6_leavesState 46 = .ok (.putfield 52, 3) := by decide +kernel
theorem dX6_leavesState_49 : decode cX6_leavesState 49 = .ok (.sipush 207, 3) := by decide +kernel
theorem dX6_leavesState_52 : decode cX6_leavesState 52 = .ok (.aload_n 0, 1) := by decide +kernel
theorem dX6_leavesState_53 : decode cX6_leavesState 53 = .ok (.getfield 52, 3) := by decide +kernel
theorem dX6_leavesState_56 : decode cX6_leavesState 56 = .ok (.imul, 1) := by decide +kernel
theorem dX6_leavesState_57 : decode cX6_leavesState 57 = .ok (.istore_n 1, 1) := by decide +kernel
theorem dX6_leavesState_58 : decode cX6_leavesState 58 = .ok (.aload_n 0, 1) := by decide +kernel
theorem dX6_leavesState_59 : decode cX6_leavesState 59 = .ok (.getfield 19, 3) := by decide +kernel
theorem dX6_leavesState_62 : decode cX6_leavesState 62 = .ok (.iload_n 1, 1) := by decide +kernel
theorem dX6_leavesState_63 : decode cX6_leavesState 63 = .ok (.aload_n 0, 1) := by decide +kernel
theorem dX6_leavesState_64 : decode cX6_leavesState 64 = .ok (.getfield 48, 3) := by decide +kernel
theorem dX6_leavesState_67 : decode cX6_leavesState 67 = .ok (.iastore, 1) := by decide +kernel
theorem dX6_leavesState_68 : decode cX6_leavesState 68 = .ok (.iconst 0, 1) := by decide +kernel
theorem dX6_leavesState_69 : decode cX6_leavesState 69 = .ok (.istore_n 2, 1) := by decide +kernel
theorem dX6_leavesState_70 : decode cX6_leavesState 70 = .ok (.iload_n 2, 1) := by decide +kernel
theorem dX6_leavesState_71 : decode cX6_leavesState 71 = .ok (.bipush 6, 2) := by decide +kernel
theorem dX6_leavesState_73 : decode cX6_leavesState 73 = .ok (.if_icmp .ge 25, 3) := by decide +kernel
theorem dX6_leavesState_76 : decode cX6_leavesState 76 = .ok (.aload_n 0, 1) := by decide +kernel
theorem dX6_leavesState_77 : decode cX6_leavesState 77 = .ok (.getfield 19, 3) := by decide +kernel
theorem dX6_leavesState_80 : decode cX6_leavesState 80 = .ok (.iload_n 1, 1) := by decide +kernel
theorem dX6_leavesState_81 : decode cX6_leavesState 81 = .ok (.iconst 1, 1) := by decide +kernel
theorem dX6_leavesState_82 : decode cX6_leavesState 82 = .ok (.iadd, 1) := by decide +kernel
theorem dX6_leavesState_83 : decode cX6_leavesState 83 = .ok (.iload_n 2, 1) := by decide +kernel
theorem dX6_leavesState_84 : decode cX6_leavesState 84 = .ok (.iadd, 1) := by decide +kernel
theorem dX6_leavesState_85 : decode cX6_leavesState 85 = .ok (.aload_n 0, 1) := by decide +kernel
theorem dX6_leavesState_86 : decode cX6_leavesState 86 = .ok (.getfield 13, 3) := by decide +kernel
theorem dX6_leavesState_89 : decode cX6_leavesState 89 = .ok (.iload_n 2, 1) := by decide +kernel
theorem dX6_leavesState_90 : decode cX6_leavesState 90 = .ok (.iaload, 1) := by decide +kernel
theorem dX6_leavesState_91 : decode cX6_leavesState 91 = .ok (.iastore, 1) := by decide +kernel
theorem dX6_leavesState_92 : decode cX6_leavesState 92 = .ok (.iinc 2 1, 3) := by decide +kernel
theorem dX6_leavesState_95 : decode cX6_leavesState 95 = .ok (.goto (-25), 3) := by decide +kernel
theorem dX6_leavesState_98 : decode cX6_leavesState 98 = .ok (.iconst 0, 1) := by decide +kernel
theorem dX6_leavesState_99 : decode cX6_leavesState 99 = .ok (.istore_n 2, 1) := by decide +kernel
theorem dX6_leavesState_100 : decode cX6_leavesState 100 = .ok (.iload_n 2, 1) := by decide +kernel
theorem dX6_leavesState_101 : decode cX6_leavesState 101 = .ok (.sipush 200, 3) := by decide +kernel
theorem dX6_leavesState_104 : decode cX6_leavesState 104 = .ok (.if_icmp .ge 26, 3) := by decide +kernel
theorem dX6_leavesState_107 : decode cX6_leavesState 107 = .ok (.aload_n 0, 1) := by decide +kernel
theorem dX6_leavesState_108 : decode cX6_leavesState 108 = .ok (.getfield 19, 3) := by decide +kernel
theorem dX6_leavesState_111 : decode cX6_leavesState 111 = .ok (.iload_n 1, 1) := by decide +kernel
theorem dX6_leavesState_112 : decode cX6_leavesState 112 = .ok (.bipush 7, 2) := by decide +kernel
theorem dX6_leavesState_114 : decode cX6_leavesState 114 = .ok (.iadd, 1) := by decide +kernel
theorem dX6_leavesState_115 : decode cX6_leavesState 115 = .ok (.iload_n 2, 1) := by decide +kernel
theorem dX6_leavesState_116 : decode cX6_leavesState 116 = .ok (.iadd, 1) := by decide +kernel
theorem dX6_leavesState_117 : decode cX6_leavesState 117 = .ok (.aload_n 0, 1) := by decide +kernel
theorem dX6_leavesState_118 : decode cX6_leavesState 118 = .ok (.getfield 16, 3) := by decide +kernel
theorem dX6_leavesState_121 : decode cX6_leavesState 121 = .ok (.iload_n 2, 1) := by decide +kernel
theorem dX6_leavesState_122 : decode cX6_leavesState 122 = .ok (.iaload, 1) := by decide +kernel
theorem dX6_leavesState_123 : decode cX6_leavesState 123 = .ok (.iastore, 1) := by decide +kernel
theorem dX6_leavesState_124 : decode cX6_leavesState 124 = .ok (.iinc 2 1, 3) := by decide +kernel
theorem dX6_leavesState_127 : decode cX6_leavesState 127 = .ok (.goto (-27), 3) := by decide +kernel
theorem dX6_leavesState_130 : decode cX6_leavesState 130 = .ok (.aload_n 0, 1) := by decide +kernel
theorem dX6_leavesState_131 : decode cX6_leavesState 131 = .ok (.dup, 1) := by decide +kernel
theorem dX6_leavesState_132 : decode cX6_leavesState 132 = .ok (.getfield 52, 3) := by decide +kernel
theorem dX6_leavesState_135 : decode cX6_leavesState 135 = .ok (.iconst 1, 1) := by decide +kernel
theorem dX6_leavesState_136 : decode cX6_leavesState 136 = .ok (.iadd, 1) := by decide +kernel
theorem dX6_leavesState_137 : decode cX6_leavesState 137 = .ok (.putfield 52, 3) := by decide +kernel
theorem dX6_leavesState_140 : decode cX6_leavesState 140 = .ok (.return_, 1) := by decide +kernel
theorem dX6_back_0 : decode cX6_back 0 = .ok (.aload_n 0, 1) := by decide +kernel
theorem dX6_back_1 : decode cX6_back 1 = .ok (.getfield 52, 3) := by decide +kernel
theorem dX6_back_4 : decode cX6_back 4 = .ok (.ifCond .ne 16, 3) := by decide +kernel
theorem dX6_back_7 : decode cX6_back 7 = .ok (.aload_n 0, 1) := by decide +kernel
theorem dX6_back_8 : decode cX6_back 8 = .ok (.getfield 1, 3) := by decide +kernel
theorem dX6_back_11 : decode cX6_back 11 = .ok (.iconst 1, 1) := by decide +kernel
theorem dX6_back_12 : decode cX6_back 12 = .ok (.dup2, 1) := by decide +kernel
theorem dX6_back_13 : decode cX6_back 13 = .ok (.iaload, 1) := by decide +kernel
theorem dX6_back_14 : decode cX6_back 14 = .ok (.iconst 1, 1) := by decide +kernel
theorem dX6_back_15 : decode cX6_back 15 = .ok (.iadd, 1) := by decide +kernel
theorem dX6_back_16 : decode cX6_back 16 = .ok (.iastore, 1) := by decide +kernel
theorem dX6_back_17 : decode cX6_back 17 = .ok (.bipush (-3), 2) := by decide +kernel
theorem dX6_back_19 : decode cX6_back 19 = .ok (.ireturn, 1) := by decide +kernel
theorem dX6_back_20 : decode cX6_back 20 = .ok (.aload_n 0, 1) := by decide +kernel
theorem dX6_back_21 : decode cX6_back 21 = .ok (.dup, 1) := by decide +kernel
theorem dX6_back_22 : decode cX6_back 22 = .ok (.getfield 52, 3) := by decide +kernel
theorem dX6_back_25 : decode cX6_back 25 = .ok (.iconst 1, 1) := by decide +kernel
theorem dX6_back_26 : decode cX6_back 26 = .ok (.isub, 1) := by decide +kernel
theorem dX6_back_27 : decode cX6_back 27 = .ok (.putfield 52, 3) := by decide +kernel
theorem dX6_back_30 : decode cX6_back 30 = .ok (.sipush 207, 3) := by decide +kernel
theorem dX6_back_33 : decode cX6_back 33 = .ok (.aload_n 0, 1) := by decide +kernel
theorem dX6_back_34 : decode cX6_back 34 = .ok (.getfield 52, 3) := by decide +kernel
theorem dX6_back_37 : decode cX6_back 37 = .ok (.imul, 1) := by decide +kernel
theorem dX6_back_38 : decode cX6_back 38 = .ok (.istore_n 1, 1) := by decide +kernel
theorem dX6_back_39 : decode cX6_back 39 = .ok (.aload_n 0, 1) := by decide +kernel
theorem dX6_back_40 : decode cX6_back 40 = .ok (.aload_n 0, 1) := by decide +kernel
theorem dX6_back_41 : decode cX6_back 41 = .ok (.getfield 19, 3) := by decide +kernel
theorem dX6_back_44 : decode cX6_back 44 = .ok (.iload_n 1, 1) := by decide +kernel
theorem dX6_back_45 : decode cX6_back 45 = .ok (.iaload, 1) := by decide +kernel
theorem dX6_back_46 : decode cX6_back 46 = .ok (.putfield 48, 3) := by decide +kernel
theorem dX6_back_49 : decode cX6_back 49 = .ok (.iconst 0, 1) := by decide +kernel
theorem dX6_back_50 : decode cX6_back 50 = .ok (.istore_n 2, 1) := by decide +kernel
theorem dX6_back_51 : decode cX6_back 51 = .ok (.iload_n 2, 1) := by decide +kernel
theorem dX6_back_52 : decode cX6_back 52 = .ok (.bipush 6, 2) := by decide +kernel
theorem dX6_back_54 : decode cX6_back 54 = .ok (.if_icmp .ge 25, 3) := by decide +kernel
theorem dX6_back_57 : decode cX6_back 57 = .ok (.aload_n 0, 1) := by decide +kernel
theorem dX6_back_58 : decode cX6_back 58 = .ok (.getfield 13, 3) := by decide +kernel
theorem dX6_back_61 : decode cX6_back 61 = .ok (.iload_n 2, 1) := by decide +kernel
theorem dX6_back_62 : decode cX6_back 62 = .ok (.aload_n 0, 1) := by decide +kernel
theorem dX6_back_63 : decode cX6_back 63 = .ok (.getfield 19, 3) := by decide +kernel
theorem dX6_back_66 : decode cX6_back 66 = .ok (.iload_n 1, 1) := by decide +kernel
theorem dX6_back_67 : decode cX6_back 67 = .ok (.iconst 1, 1) := by decide +kernel
theorem dX6_back_68 : decode cX6_back 68 = .ok (.iadd, 1) := by decide +kernel
theorem dX6_back_69 : decode cX6_back 69 = .ok (.iload_n 2, 1) := by decide +kernel
theorem dX6_back_70 : decode cX6_back 70 = .ok (.iadd, 1) := by decide +kernel
theorem dX6_back_71 : decode cX6_back 71 = .ok (.iaload, 1) := by decide +kernel
theorem dX6_back_72 : decode cX6_back 72 = .ok (.iastore, 1) := by decide +kernel
theorem dX6_back_73 : decode cX6_back 73 = .ok (.iinc 2 1, 3) := by decide +kernel
theorem dX6_back_76 : decode cX6_back 76 = .ok (.goto (-25), 3) := by decide +kernel
theorem dX6_back_79 : decode cX6_back 79 = .ok (.iconst 0, 1) := by decide +kernel
theorem dX6_back_80 : decode cX6_back 80 = .ok (.istore_n 2, 1) := by decide +kernel
theorem dX6_back_81 : decode cX6_back 81 = .ok (.iload_n 2, 1) := by decide +kernel
theorem dX6_back_82 : decode cX6_back 82 = .ok (.sipush 200, 3) := by decide +kernel
theorem dX6_back_85 : decode cX6_back 85 = .ok (.if_icmp .ge 26, 3) := by decide +kernel
theorem dX6_back_88 : decode cX6_back 88 = .ok (.aload_n 0, 1) := by decide +kernel
theorem dX6_back_89 : decode cX6_back 89 = .ok (.getfield 16, 3) := by decide +kernel
theorem dX6_back_92 : decode cX6_back 92 = .ok (.iload_n 2, 1) := by decide +kernel
theorem dX6_back_93 : decode cX6_back 93 = .ok (.aload_n 0, 1) := by decide +kernel
theorem dX6_back_94 : decode cX6_back 94 = .ok (.getfield 19, 3) := by decide +kernel
theorem dX6_back_97 : decode cX6_back 97 = .ok (.iload_n 1, 1) := by decide +kernel
theorem dX6_back_98 : decode cX6_back 98 = .ok (.bipush 7, 2) := by decide +kernel
theorem dX6_back_100 : decode cX6_back 100 = .ok (.iadd, 1) := by decide +kernel
theorem dX6_back_101 : decode cX6_back 101 = .ok (.iload_n 2, 1) := by decide +kernel
theorem dX6_back_102 : decode cX6_back 102 = .ok (.iadd, 1) := by decide +kernel
theorem dX6_back_103 : decode cX6_back 103 = .ok (.iaload, 1) := by decide +kernel
theorem dX6_back_104 : decode cX6_back 104 = .ok (.iastore, 1) := by decide +kernel
theorem dX6_back_105 : decode cX6_back 105 = .ok (.iinc 2 1, 3) := by decide +kernel
theorem dX6_back_108 : decode cX6_back 108 = .ok (.goto (-27), 3) := by decide +kernel
theorem dX6_back_111 : decode cX6_back 111 = .ok (.aload_n 0, 1) := by decide +kernel
theorem dX6_back_112 : decode cX6_back 112 = .ok (.getfield 52, 3) := by decide +kernel
theorem dX6_back_115 : decode cX6_back 115 = .ok (.ireturn, 1) := by decide +kernel
theorem dX6_comes_0 : decode cX6_comes 0 = .ok (.aload_n 0, 1) := by decide +kernel
theorem dX6_comes_1 : decode cX6_comes 1 = .ok (.getfield 16, 3) := by decide +kernel
theorem dX6_comes_4 : decode cX6_comes 4 = .ok (.iconst 4, 1) := by decide +kernel
theorem dX6_comes_5 : decode cX6_comes 5 = .ok (.aload_n 0, 1) := by decide +kernel
theorem dX6_comes_6 : decode cX6_comes 6 = .ok (.getfield 48, 3) := by decide +kernel
theorem dX6_comes_9 : decode cX6_comes 9 = .ok (.imul, 1) := by decide +kernel
theorem dX6_comes_10 : decode cX6_comes 10 = .ok (.iload_n 1, 1) := by decide +kernel
theorem dX6_comes_11 : decode cX6_comes 11 = .ok (.iastore, 1) := by decide +kernel
theorem dX6_comes_12 : decode cX6_comes 12 = .ok (.aload_n 0, 1) := by decide +kernel
theorem dX6_comes_13 : decode cX6_comes 13 = .ok (.getfield 16, 3) := by decide +kernel
theorem dX6_comes_16 : decode cX6_comes 16 = .ok (.iconst 4, 1) := by decide +kernel
theorem dX6_comes_17 : decode cX6_comes 17 = .ok (.aload_n 0, 1) := by decide +kernel
theorem dX6_comes_18 : decode cX6_comes 18 = .ok (.getfield 48, 3) := by decide +kernel
theorem dX6_comes_21 : decode cX6_comes 21 = .ok (.imul, 1) := by decide +kernel
theorem dX6_comes_22 : decode cX6_comes 22 = .ok (.iconst 1, 1) := by decide +kernel
theorem dX6_comes_23 : decode cX6_comes 23 = .ok (.iadd, 1) := by decide +kernel
theorem dX6_comes_24 : decode cX6_comes 24 = .ok (.iload_n 2, 1) := by decide +kernel
theorem dX6_comes_25 : decode cX6_comes 25 = .ok (.iastore, 1) := by decide +kernel
theorem dX6_comes_26 : decode cX6_comes 26 = .ok (.aload_n 0, 1) := by decide +kernel
theorem dX6_comes_27 : decode cX6_comes 27 = .ok (.getfield 16, 3) := by decide +kernel
theorem dX6_comes_30 : decode cX6_comes 30 = .ok (.iconst 4, 1) := by decide +kernel
theorem dX6_comes_31 : decode cX6_comes 31 = .ok (.aload_n 0, 1) := by decide +kernel
theorem dX6_comes_32 : decode cX6_comes 32 = .ok (.getfield 48, 3) := by decide +kernel
theorem dX6_comes_35 : decode cX6_comes 35 = .ok (.imul, 1) := by decide +kernel
theorem dX6_comes_36 : decode cX6_comes 36 = .ok (.iconst 2, 1) := by decide +kernel
theorem dX6_comes_37 : decode cX6_comes 37 = .ok (.iadd, 1) := by decide +kernel
theorem dX6_comes_38 : decode cX6_comes 38 = .ok (.iload_n 3, 1) := by decide +kernel
theorem dX6_comes_39 : decode cX6_comes 39 = .ok (.iastore, 1) := by decide +kernel
theorem dX6_comes_40 : decode cX6_comes 40 = .ok (.aload_n 0, 1) := by decide +kernel
theorem dX6_comes_41 : decode cX6_comes 41 = .ok (.getfield 16, 3) := by decide +kernel
theorem dX6_comes_44 : decode cX6_comes 44 = .ok (.iconst 4, 1) := by decide +kernel
theorem dX6_comes_45 : decode cX6_comes 45 = .ok (.aload_n 0, 1) := by decide +kernel
theorem dX6_comes_46 : decode cX6_comes 46 = .ok (.getfield 48, 3) := by decide +kernel
theorem dX6_comes_49 : decode cX6_comes 49 = .ok (.imul, 1) := by decide +kernel
theorem dX6_comes_50 : decode cX6_comes 50 = .ok (.iconst 3, 1) := by decide +kernel
theorem dX6_comes_51 : decode cX6_comes 51 = .ok (.iadd, 1) := by decide +kernel
theorem dX6_comes_52 : decode cX6_comes 52 = .ok (.iload 4, 2) := by decide +kernel
theorem dX6_comes_54 : decode cX6_comes 54 = .ok (.iastore, 1) := by decide +kernel
theorem dX6_comes_55 : decode cX6_comes 55 = .ok (.aload_n 0, 1) := by decide +kernel
theorem dX6_comes_56 : decode cX6_comes 56 = .ok (.dup, 1) := by decide +kernel
theorem dX6_comes_57 : decode cX6_comes 57 = .ok (.getfield 48, 3) := by decide +kernel
theorem dX6_comes_60 : decode cX6_comes 60 = .ok (.iconst 1, 1) := by decide +kernel
theorem dX6_comes_61 : decode cX6_comes 61 = .ok (.iadd, 1) := by decide +kernel
theorem dX6_comes_62 : decode cX6_comes 62 = .ok (.putfield 48, 3) := by decide +kernel
theorem dX6_comes_65 : decode cX6_comes 65 = .ok (.return_, 1) := by decide +kernel
set_option maxRecDepth 20000 in
theorem ggX6_day_X6_may : GoodIn wsX6_day wsX6_may := goodIn_r _ [5, 6, 7, 4, 8] (by decide +kernel) (by decide +kernel)
set_option maxRecDepth 20000 in
theorem gX6_day_X6_may : GoodIn wsX6_day (va_wsS RX6 55 yX6_may wsX6_may) := goodIn_app (goodIn_of _ (by decide +kernel)) ggX6_day_X6_may
set_option maxRecDepth 20000 in
theorem ggX6_day_X6_bad : GoodIn wsX6_day wsX6_bad := goodIn_r _ [12, 13, 30, 31, 32, 33, 34, 35, 36, 37, 38, 39, 40, 41, 42, 43, 44, 45, 46, 47, 48, 49, 50] (by decide +kernel) (by decide +kernel)
set_option maxRecDepth 20000 in
theorem gX6_day_X6_bad : GoodIn wsX6_day (wsV RX6 59 RX6 yX6_bad wsX6_bad) := goodIn_app (goodIn_of _ (by decide +kernel)) ggX6_day_X6_bad
set_option maxRecDepth 20000 in
theorem ggX6_day_X6_full : GoodIn wsX6_day wsX6_full := goodIn_r _ [17, 13, 30, 31, 32, 33, 34, 35, 36, 37, 38, 39, 40, 41, 42, 43, 44, 45, 46, 47, 48, 49, 50] (by decide +kernel) (by decide +kernel)
set_option maxRecDepth 20000 in
theorem gX6_day_X6_full : GoodIn wsX6_day (wsV RX6 63 RX6 yX6_full wsX6_full) := goodIn_app (goodIn_of _ (by decide +kernel)) ggX6_day_X6_full
set_option maxRecDepth 20000 in
theorem ggX6_day_X6_leavesState : GoodIn wsX6_day wsX6_leavesState := goodIn_r _ [21, 22, 23, 1, 24, 25, 30, 31, 32, 33, 34, 35, 36, 37, 38, 39, 40, 41, 42, 43, 44, 45, 46, 47, 48, 49, 50] (by decide +kernel) (by decide +kernel)
set_option maxRecDepth 20000 in
theorem gX6_day_X6_leavesState : GoodIn wsX6_day (wsV RX6 66 RX6 yX6_leavesState wsX6_leavesState) := goodIn_app (goodIn_of _ (by decide +kernel)) ggX6_day_X6_leavesState
set_option maxRecDepth 20000 in
theorem ggX6_day_X6_comes : GoodIn wsX6_day wsX6_comes := goodIn_r _ [29, 25, 1, 30, 31, 32, 33, 34, 35, 36, 37, 38, 39, 40, 41, 42, 43, 44, 45, 46, 47, 48, 49, 50] (by decide +kernel) (by decide +kernel)
set_option maxRecDepth 20000 in
theorem gX6_day_X6_comes : GoodIn wsX6_day (wsV RX6 69 RX6 yX6_comes wsX6_comes) := goodIn_app (goodIn_of _ (by decide +kernel)) ggX6_day_X6_comes
theorem dX6_day_0 : decode cX6_day 0 = .ok (.iload_n 1, 1) := by decide +kernel
theorem dX6_day_1 : decode cX6_day 1 = .ok (.invokestatic 55, 3) := by decide +kernel
theorem dX6_day_4 : decode cX6_day 4 = .ok (.ifCond .eq 25, 3) := by decide +kernel
theorem dX6_day_7 : decode cX6_day 7 = .ok (.iload_n 2, 1) := by decide +kernel
theorem dX6_day_8 : decode cX6_day 8 = .ok (.invokestatic 55, 3) := by decide +kernel
theorem dX6_day_11 : decode cX6_day 11 = .ok (.ifCond .eq 18, 3) := by decide +kernel
theorem dX6_day_14 : decode cX6_day 14 = .ok (.iload_n 3, 1) := by decide +kernel
theorem dX6_day_15 : decode cX6_day 15 = .ok (.invokestatic 55, 3) := by decide +kernel
theorem dX6_day_18 : decode cX6_day 18 = .ok (.ifCond .eq 11, 3) := by decide +kernel
theorem dX6_day_21 : decode cX6_day 21 = .ok (.iload 4, 2) := by decide +kernel
theorem dX6_day_23 : decode cX6_day 23 = .ok (.invokestatic 55, 3) := by decide +kernel
theorem dX6_day_26 : decode cX6_day 26 = .ok (.ifCond .ne 8, 3) := by decide +kernel
theorem dX6_day_29 : decode cX6_day 29 = .ok (.aload_n 0, 1) := by decide +kernel
theorem dX6_day_30 : decode cX6_day 30 = .ok (.invokevirtual 59, 3) := by decide +kernel
theorem dX6_day_33 : decode cX6_day 33 = .ok (.ireturn, 1) := by decide +kernel
theorem dX6_day_34 : decode cX6_day 34 = .ok (.aload_n 0, 1) := by decide +kernel
theorem dX6_day_35 : decode cX6_day 35 = .ok (.getfield 48, 3) := by decide +kernel
theorem dX6_day_38 : decode cX6_day 38 = .ok (.bipush 50, 2) := by decide +kernel
theorem dX6_day_40 : decode cX6_day 40 = .ok (.if_icmp .ne 8, 3) := by decide +kernel
theorem dX6_day_43 : decode cX6_day 43 = .ok (.aload_n 0, 1) := by decide +kernel
theorem dX6_day_44 : decode cX6_day 44 = .ok (.invokevirtual 63, 3) := by decide +kernel
theorem dX6_day_47 : decode cX6_day 47 = .ok (.ireturn, 1) := by decide +kernel
theorem dX6_day_48 : decode cX6_day 48 = .ok (.aload_n 0, 1) := by decide +kernel
theorem dX6_day_49 : decode cX6_day 49 = .ok (.invokevirtual 66, 3) := by decide +kernel
theorem dX6_day_52 : decode cX6_day 52 = .ok (.aload_n 0, 1) := by decide +kernel
theorem dX6_day_53 : decode cX6_day 53 = .ok (.iload_n 1, 1) := by decide +kernel
theorem dX6_day_54 : decode cX6_day 54 = .ok (.iload_n 2, 1) := by decide +kernel
theorem dX6_day_55 : decode cX6_day 55 = .ok (.iload_n 3, 1) := by decide +kernel
theorem dX6_day_56 : decode cX6_day 56 = .ok (.iload 4, 2) := by decide +kernel
theorem dX6_day_58 : decode cX6_day 58 = .ok (.invokevirtual 69, 3) := by decide +kernel
theorem dX6_day_61 : decode cX6_day 61 = .ok (.aload_n 0, 1) := by decide +kernel
theorem dX6_day_62 : decode cX6_day 62 = .ok (.getfield 48, 3) := by decide +kernel
theorem dX6_day_65 : decode cX6_day 65 = .ok (.iconst 1, 1) := by decide +kernel
theorem dX6_day_66 : decode cX6_day 66 = .ok (.isub, 1) := by decide +kernel
theorem dX6_day_67 : decode cX6_day 67 = .ok (.ireturn, 1) := by decide +kernel
set_option maxRecDepth 20000 in
theorem ggX6_sets_X6_isDay : GoodIn wsX6_sets wsX6_isDay := goodIn_r _ [6, 7, 8, 9, 5, 10, 29, 30, 31, 32, 33, 34, 35, 36, 37, 38, 39, 40, 41, 42, 43, 44, 45, 46, 47, 48, 49] (by decide +kernel) (by decide +kernel)
set_option maxRecDepth 20000 in
theorem gX6_sets_X6_isDay : GoodIn wsX6_sets (wsV RX6 73 RX6 yX6_isDay wsX6_isDay) := goodIn_app (goodIn_of _ (by decide +kernel)) ggX6_sets_X6_isDay
set_option maxRecDepth 20000 in
theorem ggX6_sets_X6_isMember : GoodIn wsX6_sets wsX6_isMember := goodIn_r _ [13, 8, 9, 5, 10] (by decide +kernel) (by decide +kernel)
set_option maxRecDepth 20000 in
theorem gX6_sets_X6_isMember : GoodIn wsX6_sets (va_wsS RX6 76 yX6_isMember wsX6_isMember) := goodIn_app (goodIn_of _ (by decide +kernel)) ggX6_sets_X6_isMember
set_option maxRecDepth 20000 in
theorem ggX6_sets_X6_may : GoodIn wsX6_sets wsX6_may := goodIn_r _ [16, 8, 9, 5, 10] (by decide +kernel) (by decide +kernel)
set_option maxRecDepth 20000 in
theorem gX6_sets_X6_may : GoodIn wsX6_sets (va_wsS RX6 55 yX6_may wsX6_may) := goodIn_app (goodIn_of _ (by decide +kernel)) ggX6_sets_X6_may
set_option maxRecDepth 20000 in
theorem ggX6_sets_X6_badly : GoodIn wsX6_sets wsX6_badly := goodIn_r _ [20, 21, 29, 30, 31, 32, 33, 34, 35, 36, 37, 38, 39, 40, 41, 42, 43, 44, 45, 46, 47, 48, 49] (by decide +kernel) (by decide +kernel)
set_option maxRecDepth 20000 in
theorem gX6_sets_X6_badly : GoodIn wsX6_sets (wsV RX6 79 RX6 yX6_badly wsX6_badly) := goodIn_app (goodIn_of _ (by decide +kernel)) ggX6_sets_X6_badly
set_option maxRecDepth 20000 in
theorem ggX6_sets_X6_leavesState : GoodIn wsX6_sets wsX6_leavesState := goodIn_r _ [25, 26, 27, 7, 28, 1, 29, 30, 31, 32, 33, 34, 35, 36, 37, 38, 39, 40, 41, 42, 43, 44, 45, 46, 47, 48, 49] (by decide +kernel) (by decide +kernel)
set_option maxRecDepth 20000 in
theorem gX6_sets_X6_leavesState : GoodIn wsX6_sets (wsV RX6 66 RX6 yX6_leavesState wsX6_leavesState) := goodIn_app (goodIn_of _ (by decide +kernel)) ggX6_sets_X6_leavesState
theorem dX6_sets_0 : decode cX6_sets 0 = .ok (.aload_n 0, 1) := by decide +kernel
theorem dX6_sets_1 : decode cX6_sets 1 = .ok (.iload_n 1, 1) := by decide +kernel
theorem dX6_sets_2 : decode cX6_sets 2 = .ok (.invokevirtual 73, 3) := by decide +kernel
theorem dX6_sets_5 : decode cX6_sets 5 = .ok (.ifCond .eq 17, 3) := by decide +kernel
theorem dX6_sets_8 : decode cX6_sets 8 = .ok (.iload_n 2, 1) := by decide +kernel
theorem dX6_sets_9 : decode cX6_sets 9 = .ok (.invokestatic 76, 3) := by decide +kernel
theorem dX6_sets_12 : decode cX6_sets 12 = .ok (.ifCond .eq 10, 3) := by decide +kernel
theorem dX6_sets_15 : decode cX6_sets 15 = .ok (.iload_n 3, 1) := by decide +kernel
theorem dX6_sets_16 : decode cX6_sets 16 = .ok (.invokestatic 55, 3) := by decide +kernel
theorem dX6_sets_19 : decode cX6_sets 19 = .ok (.ifCond .ne 8, 3) := by decide +kernel
theorem dX6_sets_22 : decode cX6_sets 22 = .ok (.aload_n 0, 1) := by decide +kernel
theorem dX6_sets_23 : decode cX6_sets 23 = .ok (.invokevirtual 79, 3) := by decide +kernel
theorem dX6_sets_26 : decode cX6_sets 26 = .ok (.ireturn, 1) := by decide +kernel
theorem dX6_sets_27 : decode cX6_sets 27 = .ok (.aload_n 0, 1) := by decide +kernel
theorem dX6_sets_28 : decode cX6_sets 28 = .ok (.invokevirtual 66, 3) := by decide +kernel
theorem dX6_sets_31 : decode cX6_sets 31 = .ok (.aload_n 0, 1) := by decide +kernel
theorem dX6_sets_32 : decode cX6_sets 32 = .ok (.getfield 16, 3) := by decide +kernel
theorem dX6_sets_35 : decode cX6_sets 35 = .ok (.iconst 4, 1) := by decide +kernel
theorem dX6_sets_36 : decode cX6_sets 36 = .ok (.iload_n 1, 1) := by decide +kernel
theorem dX6_sets_37 : decode cX6_sets 37 = .ok (.imul, 1) := by decide +kernel
theorem dX6_sets_38 : decode cX6_sets 38 = .ok (.iload_n 2, 1) := by decide +kernel
theorem dX6_sets_39 : decode cX6_sets 39 = .ok (.iadd, 1) := by decide +kernel
theorem dX6_sets_40 : decode cX6_sets 40 = .ok (.iaload, 1) := by decide +kernel
theorem dX6_sets_41 : decode cX6_sets 41 = .ok (.istore 4, 2) := by decide +kernel
theorem dX6_sets_43 : decode cX6_sets 43 = .ok (.aload_n 0, 1) := by decide +kernel
theorem dX6_sets_44 : decode cX6_sets 44 = .ok (.getfield 16, 3) := by decide +kernel
theorem dX6_sets_47 : decode cX6_sets 47 = .ok (.iconst 4, 1) := by decide +kernel
theorem dX6_sets_48 : decode cX6_sets 48 = .ok (.iload_n 1, 1) := by decide +kernel
theorem dX6_sets_49 : decode cX6_sets 49 = .ok (.imul, 1) := by decide +kernel
theorem dX6_sets_50 : decode cX6_sets 50 = .ok (.iload_n 2, 1) := by decide +kernel
theorem dX6_sets_51 : decode cX6_sets 51 = .ok (.iadd, 1) := by decide +kernel
theorem dX6_sets_52 : decode cX6_sets 52 = .ok (.iload_n 3, 1) := by decide +kernel
theorem dX6_sets_53 : decode cX6_sets 53 = .ok (.iastore, 1) := by decide +kernel
theorem dX6_sets_54 : decode cX6_sets 54 = .ok (.iload 4, 2) := by decide +kernel
theorem dX6_sets_56 : decode cX6_sets 56 = .ok (.ireturn, 1) := by decide +kernel
set_option maxRecDepth 20000 in
theorem ggX6_draw_X6_in : GoodIn wsX6_draw wsX6_in := goodIn_r _ [14] (by decide +kernel) (by decide +kernel)
set_option maxRecDepth 20000 in
theorem gX6_draw_X6_in : GoodIn wsX6_draw (va_wsS RX6 44 yX6_in wsX6_in) := goodIn_app (goodIn_of _ (by decide +kernel)) ggX6_draw_X6_in
set_option maxRecDepth 20000 in
theorem ggX6_draw_X6_bad : GoodIn wsX6_draw wsX6_bad := goodIn_r _ [18, 19, 31, 32, 33, 34, 35, 36, 37, 38, 39, 40, 41, 42, 43, 44, 45, 46, 47, 48, 49, 50, 51] (by decide +kernel) (by decide +kernel)
set_option maxRecDepth 20000 in
theorem gX6_draw_X6_bad : GoodIn wsX6_draw (wsV RX6 59 RX6 yX6_bad wsX6_bad) := goodIn_app (goodIn_of _ (by decide +kernel)) ggX6_draw_X6_bad
set_option maxRecDepth 20000 in
theorem ggX6_draw_X6_leavesState : GoodIn wsX6_draw wsX6_leavesState := goodIn_r _ [23, 24, 25, 2, 26, 8, 31, 32, 33, 34, 35, 36, 37, 38, 39, 40, 41, 42, 43, 44, 45, 46, 47, 48, 49, 50, 51] (by decide +kernel) (by decide +kernel)
set_option maxRecDepth 20000 in
theorem gX6_draw_X6_leavesState : GoodIn wsX6_draw (wsV RX6 66 RX6 yX6_leavesState wsX6_leavesState) := goodIn_app (goodIn_of _ (by decide +kernel)) ggX6_draw_X6_leavesState
set_option maxRecDepth 20000 in
theorem ggX6_draw_X6_before : GoodIn wsX6_draw wsX6_before := goodIn_r _ [30, 8, 31, 32, 33, 34, 35, 36, 37, 38, 39, 40, 41, 42, 43, 44, 45, 46, 47, 48, 49, 50, 51] (by decide +kernel) (by decide +kernel)
set_option maxRecDepth 20000 in
theorem gX6_draw_X6_before : GoodIn wsX6_draw (wsV RX6 93 RX6 yX6_before wsX6_before) := goodIn_app (goodIn_of _ (by decide +kernel)) ggX6_draw_X6_before
theorem dX6_draw_0 : decode cX6_draw 0 = .ok (.iload_n 1, 1) := by decide +kernel
theorem dX6_draw_1 : decode cX6_draw 1 = .ok (.iconst 0, 1) := by decide +kernel
theorem dX6_draw_2 : decode cX6_draw 2 = .ok (.ldc 82, 2) := by decide +kernel
theorem dX6_draw_4 : decode cX6_draw 4 = .ok (.invokestatic 44, 3) := by decide +kernel
theorem dX6_draw_7 : decode cX6_draw 7 = .ok (.ifCond .eq 13, 3) := by decide +kernel
theorem dX6_draw_10 : decode cX6_draw 10 = .ok (.iload_n 2, 1) := by decide +kernel
theorem dX6_draw_11 : decode cX6_draw 11 = .ok (.iconst 1, 1) := by decide +kernel
theorem dX6_draw_12 : decode cX6_draw 12 = .ok (.bipush 50, 2) := by decide +kernel
theorem dX6_draw_14 : decode cX6_draw 14 = .ok (.invokestatic 44, 3) := by decide +kernel
theorem dX6_draw_17 : decode cX6_draw 17 = .ok (.ifCond .ne 8, 3) := by decide +kernel
theorem dX6_draw_20 : decode cX6_draw 20 = .ok (.aload_n 0, 1) := by decide +kernel
theorem dX6_draw_21 : decode cX6_draw 21 = .ok (.invokevirtual 59, 3) := by decide +kernel
theorem dX6_draw_24 : decode cX6_draw 24 = .ok (.ireturn, 1) := by decide +kernel
theorem dX6_draw_25 : decode cX6_draw 25 = .ok (.aload_n 0, 1) := by decide +kernel
theorem dX6_draw_26 : decode cX6_draw 26 = .ok (.invokevirtual 66, 3) := by decide +kernel
theorem dX6_draw_29 : decode cX6_draw 29 = .ok (.aload_n 0, 1) := by decide +kernel
theorem dX6_draw_30 : decode cX6_draw 30 = .ok (.iload_n 2, 1) := by decide +kernel
theorem dX6_draw_31 : decode cX6_draw 31 = .ok (.putfield 48, 3) := by decide +kernel
theorem dX6_draw_34 : decode cX6_draw 34 = .ok (.iload_n 1, 1) := by decide +kernel
theorem dX6_draw_35 : decode cX6_draw 35 = .ok (.i2l, 1) := by decide +kernel
theorem dX6_draw_36 : decode cX6_draw 36 = .ok (.lstore_n 3, 1) := by decide +kernel
theorem dX6_draw_37 : decode cX6_draw 37 = .ok (.iconst 0, 1) := by decide +kernel
theorem dX6_draw_38 : decode cX6_draw 38 = .ok (.istore 5, 2) := by decide +kernel
theorem dX6_draw_40 : decode cX6_draw 40 = .ok (.iconst 0, 1) := by decide +kernel
theorem dX6_draw_41 : decode cX6_draw 41 = .ok (.istore 6, 2) := by decide +kernel
theorem dX6_draw_43 : decode cX6_draw 43 = .ok (.iload 6, 2) := by decide +kernel
theorem dX6_draw_45 : decode cX6_draw 45 = .ok (.iconst 4, 1) := by decide +kernel
theorem dX6_draw_46 : decode cX6_draw 46 = .ok (.iload_n 2, 1) := by decide +kernel
theorem dX6_draw_47 : decode cX6_draw 47 = .ok (.imul, 1) := by decide +kernel
theorem dX6_draw_48 : decode cX6_draw 48 = .ok (.if_icmp .ge 112, 3) := by decide +kernel
theorem dX6_draw_51 : decode cX6_draw 51 = .ok (.lload_n 3, 1) := by decide +kernel
theorem dX6_draw_52 : decode cX6_draw 52 = .ok (.ldc2_w 83, 3) := by decide +kernel
theorem dX6_draw_55 : decode cX6_draw 55 = .ok (.lmul, 1) := by decide +kernel
theorem dX6_draw_56 : decode cX6_draw 56 = .ok (.ldc2_w 85, 3) := by decide +kernel
theorem dX6_draw_59 : decode cX6_draw 59 = .ok (.ladd, 1) := by decide +kernel
theorem dX6_draw_60 : decode cX6_draw 60 = .ok (.ldc2_w 87, 3) := by decide +kernel
theorem dX6_draw_63 : decode cX6_draw 63 = .ok (.lrem, 1) := by decide +kernel
theorem dX6_draw_64 : decode cX6_draw 64 = .ok (.lstore_n 3, 1) := by decide +kernel
theorem dX6_draw_65 : decode cX6_draw 65 = .ok (.lload_n 3, 1) := by decide +kernel
theorem dX6_draw_66 : decode cX6_draw 66 = .ok (.ldc2_w 89, 3) := by decide +kernel
theorem dX6_draw_69 : decode cX6_draw 69 = .ok (.ldiv, 1) := by decide +kernel
theorem dX6_draw_70 : decode cX6_draw 70 = .ok (.ldc2_w 91, 3) := by decide +kernel
theorem dX6_draw_73 : decode cX6_draw 73 = .ok (.lrem, 1) := by decide +kernel
theorem dX6_draw_74 : decode cX6_draw 74 = .ok (.lconst 0, 1) := by decide +kernel
theorem dX6_draw_75 : decode cX6_draw 75 = .ok (.lcmp, 1) := by decide +kernel
theorem dX6_draw_76 : decode cX6_draw 76 = .ok (.ifCond .ne 19, 3) := by decide +kernel
theorem dX6_draw_79 : decode cX6_draw 79 = .ok (.aload_n 0, 1) := by decide +kernel
theorem dX6_draw_80 : decode cX6_draw 80 = .ok (.getfield 16, 3) := by decide +kernel
theorem dX6_draw_83 : decode cX6_draw 83 = .ok (.iload 6, 2) := by decide +kernel
theorem dX6_draw_85 : decode cX6_draw 85 = .ok (.sipush (-10000), 3) := by decide +kernel
theorem dX6_draw_88 : decode cX6_draw 88 = .ok (.iastore, 1) := by decide +kernel
theorem dX6_draw_89 : decode cX6_draw 89 = .ok (.iinc 5 1, 3) := by decide +kernel
theorem dX6_draw_92 : decode cX6_draw 92 = .ok (.goto 62, 3) := by decide +kernel
theorem dX6_draw_95 : decode cX6_draw 95 = .ok (.aload_n 0, 1) := by decide +kernel
theorem dX6_draw_96 : decode cX6_draw 96 = .ok (.iload 6, 2) := by decide +kernel
theorem dX6_draw_98 : decode cX6_draw 98 = .ok (.invokevirtual 93, 3) := by decide +kernel
theorem dX6_draw_101 : decode cX6_draw 101 = .ok (.lload_n 3, 1) := by decide +kernel
theorem dX6_draw_102 : decode cX6_draw 102 = .ok (.ldc2_w 97, 3) := by decide +kernel
theorem dX6_draw_105 : decode cX6_draw 105 = .ok (.ldiv, 1) := by decide +kernel
theorem dX6_draw_106 : decode cX6_draw 106 = .ok (.ldc2_w 99, 3) := by decide +kernel
theorem dX6_draw_109 : decode cX6_draw 109 = .ok (.lrem, 1) := by decide +kernel
theorem dX6_draw_110 : decode cX6_draw 110 = .ok (.l2i, 1) := by decide +kernel
theorem dX6_draw_111 : decode cX6_draw 111 = .ok (.iadd, 1) := by decide +kernel
theorem dX6_draw_112 : decode cX6_draw 112 = .ok (.bipush 20, 2) := by decide +kernel
theorem dX6_draw_114 : decode cX6_draw 114 = .ok (.isub, 1) := by decide +kernel
theorem dX6_draw_115 : decode cX6_draw 115 = .ok (.istore 7, 2) := by decide +kernel
theorem dX6_draw_117 : decode cX6_draw 117 = .ok (.aload_n 0, 1) := by decide +kernel
theorem dX6_draw_118 : decode cX6_draw 118 = .ok (.getfield 16, 3) := by decide +kernel
theorem dX6_draw_121 : decode cX6_draw 121 = .ok (.iload 6, 2) := by decide +kernel
theorem dX6_draw_123 : decode cX6_draw 123 = .ok (.iload 7, 2) := by decide +kernel
theorem dX6_draw_125 : decode cX6_draw 125 = .ok (.sipush 999, 3) := by decide +kernel
theorem dX6_draw_128 : decode cX6_draw 128 = .ok (.if_icmp .le 9, 3) := by decide +kernel
theorem dX6_draw_131 : decode cX6_draw 131 = .ok (.sipush 999, 3) := by decide +kernel
theorem dX6_draw_134 : decode cX6_draw 134 = .ok (.goto 19, 3) := by decide +kernel
theorem dX6_draw_137 : decode cX6_draw 137 = .ok (.iload 7, 2) := by decide +kernel
theorem dX6_draw_139 : decode cX6_draw 139 = .ok (.sipush (-999), 3) := by decide +kernel
theorem dX6_draw_142 : decode cX6_draw 142 = .ok (.if_icmp .ge 9, 3) := by decide +kernel
theorem dX6_draw_145 : decode cX6_draw 145 = .ok (.sipush (-999), 3) := by decide +kernel
theorem dX6_draw_148 : decode cX6_draw 148 = .ok (.goto 5, 3) := by decide +kernel
theorem dX6_draw_151 : decode cX6_draw 151 = .ok (.iload 7, 2) := by decide +kernel
theorem dX6_draw_153 : decode cX6_draw 153 = .ok (.iastore, 1) := by decide +kernel
theorem dX6_draw_154 : decode cX6_draw 154 = .ok (.iinc 6 1, 3) := by decide +kernel
theorem dX6_draw_157 : decode cX6_draw 157 = .ok (.goto (-114), 3) := by decide +kernel
theorem dX6_draw_160 : decode cX6_draw 160 = .ok (.iload 5, 2) := by decide +kernel
theorem dX6_draw_162 : decode cX6_draw 162 = .ok (.ireturn, 1) := by decide +kernel
theorem dX6_before_0 : decode cX6_before 0 = .ok (.iload_n 1, 1) := by decide +kernel
theorem dX6_before_1 : decode cX6_before 1 = .ok (.iconst 4, 1) := by decide +kernel
theorem dX6_before_2 : decode cX6_before 2 = .ok (.isub, 1) := by decide +kernel
theorem dX6_before_3 : decode cX6_before 3 = .ok (.istore_n 2, 1) := by decide +kernel
theorem dX6_before_4 : decode cX6_before 4 = .ok (.iload_n 2, 1) := by decide +kernel
theorem dX6_before_5 : decode cX6_before 5 = .ok (.ifCond .lt 21, 3) := by decide +kernel
theorem dX6_before_8 : decode cX6_before 8 = .ok (.aload_n 0, 1) := by decide +kernel
theorem dX6_before_9 : decode cX6_before 9 = .ok (.getfield 16, 3) := by decide +kernel
theorem dX6_before_12 : decode cX6_before 12 = .ok (.iload_n 2, 1) := by decide +kernel
theorem dX6_before_13 : decode cX6_before 13 = .ok (.iaload, 1) := by decide +kernel
theorem dX6_before_14 : decode cX6_before 14 = .ok (.sipush (-10000), 3) := by decide +kernel
theorem dX6_before_17 : decode cX6_before 17 = .ok (.if_icmp .ne 9, 3) := by decide +kernel
theorem dX6_before_20 : decode cX6_before 20 = .ok (.iinc 2 (-4), 3) := by decide +kernel
theorem dX6_before_23 : decode cX6_before 23 = .ok (.goto (-19), 3) := by decide +kernel
theorem dX6_before_26 : decode cX6_before 26 = .ok (.iload_n 2, 1) := by decide +kernel
theorem dX6_before_27 : decode cX6_before 27 = .ok (.ifCond .ge 7, 3) := by decide +kernel
theorem dX6_before_30 : decode cX6_before 30 = .ok (.iconst 0, 1) := by decide +kernel
theorem dX6_before_31 : decode cX6_before 31 = .ok (.goto 9, 3) := by decide +kernel
theorem dX6_before_34 : decode cX6_before 34 = .ok (.aload_n 0, 1) := by decide +kernel
theorem dX6_before_35 : decode cX6_before 35 = .ok (.getfield 16, 3) := by decide +kernel
theorem dX6_before_38 : decode cX6_before 38 = .ok (.iload_n 2, 1) := by decide +kernel
theorem dX6_before_39 : decode cX6_before 39 = .ok (.iaload, 1) := by decide +kernel
theorem dX6_before_40 : decode cX6_before 40 = .ok (.ireturn, 1) := by decide +kernel
set_option maxRecDepth 20000 in
theorem ggX6_empties_X6_leavesState : GoodIn wsX6_empties wsX6_leavesState := goodIn_r _ [6, 7, 8, 1, 9, 10, 11, 12, 13, 14, 15, 16, 17, 18, 19, 20, 21, 22, 23, 24, 25, 26, 27, 28, 29, 30, 31] (by decide +kernel) (by decide +kernel)
set_option maxRecDepth 20000 in
theorem gX6_empties_X6_leavesState : GoodIn wsX6_empties (wsV RX6 66 RX6 yX6_leavesState wsX6_leavesState) := goodIn_app (goodIn_of _ (by decide +kernel)) ggX6_empties_X6_leavesState
theorem dX6_empties_0 : decode cX6_empties 0 = .ok (.aload_n 0, 1) := by decide +kernel
theorem dX6_empties_1 : decode cX6_empties 1 = .ok (.invokevirtual 66, 3) := by decide +kernel
theorem dX6_empties_4 : decode cX6_empties 4 = .ok (.aload_n 0, 1) := by decide +kernel
theorem dX6_empties_5 : decode cX6_empties 5 = .ok (.getfield 48, 3) := by decide +kernel
theorem dX6_empties_8 : decode cX6_empties 8 = .ok (.istore_n 1, 1) := by decide +kernel
theorem dX6_empties_9 : decode cX6_empties 9 = .ok (.aload_n 0, 1) := by decide +kernel
theorem dX6_empties_10 : decode cX6_empties 10 = .ok (.iconst 0, 1) := by decide +kernel
theorem dX6_empties_11 : decode cX6_empties 11 = .ok (.putfield 48, 3) := by decide +kernel
theorem dX6_empties_14 : decode cX6_empties 14 = .ok (.iload_n 1, 1) := by decide +kernel
theorem dX6_empties_15 : decode cX6_empties 15 = .ok (.ireturn, 1) := by decide +kernel
set_option maxRecDepth 20000 in
theorem ggX6_rules_X6_in : GoodIn wsX6_rules wsX6_in := goodIn_r _ [5] (by decide +kernel) (by decide +kernel)
set_option maxRecDepth 20000 in
theorem gX6_rules_X6_in : GoodIn wsX6_rules (va_wsS RX6 44 yX6_in wsX6_in) := goodIn_app (goodIn_of _ (by decide +kernel)) ggX6_rules_X6_in
set_option maxRecDepth 20000 in
theorem ggX6_rules_X6_isMember : GoodIn wsX6_rules wsX6_isMember := goodIn_r _ [8, 2, 3, 4, 5] (by decide +kernel) (by decide +kernel)
set_option maxRecDepth 20000 in
theorem gX6_rules_X6_isMember : GoodIn wsX6_rules (va_wsS RX6 76 yX6_isMember wsX6_isMember) := goodIn_app (goodIn_of _ (by decide +kernel)) ggX6_rules_X6_isMember
set_option maxRecDepth 20000 in
theorem ggX6_rules_X6_bad : GoodIn wsX6_rules wsX6_bad := goodIn_r _ [12, 13, 22, 23, 24, 25, 26, 27, 28, 29, 30, 31, 32, 33, 34, 35, 36, 37, 38, 39, 40, 41, 42] (by decide +kernel) (by decide +kernel)
set_option maxRecDepth 20000 in
theorem gX6_rules_X6_bad : GoodIn wsX6_rules (wsV RX6 59 RX6 yX6_bad wsX6_bad) := goodIn_app (goodIn_of _ (by decide +kernel)) ggX6_rules_X6_bad
set_option maxRecDepth 20000 in
theorem ggX6_rules_X6_leavesState : GoodIn wsX6_rules wsX6_leavesState := goodIn_r _ [17, 18, 19, 20, 1, 21, 22, 23, 24, 25, 26, 27, 28, 29, 30, 31, 32, 33, 34, 35, 36, 37, 38, 39, 40, 41, 42] (by decide +kernel) (by decide +kernel)
set_option maxRecDepth 20000 in
theorem gX6_rules_X6_leavesState : GoodIn wsX6_rules (wsV RX6 66 RX6 yX6_leavesState wsX6_leavesState) := goodIn_app (goodIn_of _ (by decide +kernel)) ggX6_rules_X6_leavesState
theorem dX6_rules_0 : decode cX6_rules 0 = .ok (.iload_n 1, 1) := by decide +kernel
theorem dX6_rules_1 : decode cX6_rules 1 = .ok (.iconst 4, 1) := by decide +kernel
theorem dX6_rules_2 : decode cX6_rules 2 = .ok (.if_icmp .ne 13, 3) := by decide +kernel
theorem dX6_rules_5 : decode cX6_rules 5 = .ok (.iload_n 2, 1) := by decide +kernel
theorem dX6_rules_6 : decode cX6_rules 6 = .ok (.iconst 0, 1) := by decide +kernel
theorem dX6_rules_7 : decode cX6_rules 7 = .ok (.bipush 9, 2) := by decide +kernel
theorem dX6_rules_9 : decode cX6_rules 9 = .ok (.invokestatic 44, 3) := by decide +kernel
theorem dX6_rules_12 : decode cX6_rules 12 = .ok (.goto 40, 3) := by decide +kernel
theorem dX6_rules_15 : decode cX6_rules 15 = .ok (.iload_n 1, 1) := by decide +kernel
theorem dX6_rules_16 : decode cX6_rules 16 = .ok (.iconst 5, 1) := by decide +kernel
theorem dX6_rules_17 : decode cX6_rules 17 = .ok (.if_icmp .ne 13, 3) := by decide +kernel
theorem dX6_rules_20 : decode cX6_rules 20 = .ok (.iload_n 2, 1) := by decide +kernel
theorem dX6_rules_21 : decode cX6_rules 21 = .ok (.iconst 1, 1) := by decide +kernel
theorem dX6_rules_22 : decode cX6_rules 22 = .ok (.bipush 12, 2) := by decide +kernel
theorem dX6_rules_24 : decode cX6_rules 24 = .ok (.invokestatic 44, 3) := by decide +kernel
theorem dX6_rules_27 : decode cX6_rules 27 = .ok (.goto 25, 3) := by decide +kernel
theorem dX6_rules_30 : decode cX6_rules 30 = .ok (.iload_n 1, 1) := by decide +kernel
theorem dX6_rules_31 : decode cX6_rules 31 = .ok (.invokestatic 76, 3) := by decide +kernel
theorem dX6_rules_34 : decode cX6_rules 34 = .ok (.ifCond .eq 17, 3) := by decide +kernel
theorem dX6_rules_37 : decode cX6_rules 37 = .ok (.iload_n 2, 1) := by decide +kernel
theorem dX6_rules_38 : decode cX6_rules 38 = .ok (.iconst 0, 1) := by decide +kernel
theorem dX6_rules_39 : decode cX6_rules 39 = .ok (.bipush 80, 2) := by decide +kernel
theorem dX6_rules_41 : decode cX6_rules 41 = .ok (.invokestatic 44, 3) := by decide +kernel
theorem dX6_rules_44 : decode cX6_rules 44 = .ok (.ifCond .eq 7, 3) := by decide +kernel
theorem dX6_rules_47 : decode cX6_rules 47 = .ok (.iconst 1, 1) := by decide +kernel
theorem dX6_rules_48 : decode cX6_rules 48 = .ok (.goto 4, 3) := by decide +kernel
theorem dX6_rules_51 : decode cX6_rules 51 = .ok (.iconst 0, 1) := by decide +kernel
theorem dX6_rules_52 : decode cX6_rules 52 = .ok (.istore_n 3, 1) := by decide +kernel
theorem dX6_rules_53 : decode cX6_rules 53 = .ok (.iload_n 3, 1) := by decide +kernel
theorem dX6_rules_54 : decode cX6_rules 54 = .ok (.ifCond .ne 8, 3) := by decide +kernel
theorem dX6_rules_57 : decode cX6_rules 57 = .ok (.aload_n 0, 1) := by decide +kernel
theorem dX6_rules_58 : decode cX6_rules 58 = .ok (.invokevirtual 59, 3) := by decide +kernel
end
section
theorem dX6_rules_61 : decode cX6_rules 61 = .ok (.ireturn, 1) := by decide +kernel
theorem dX6_rules_62 : decode cX6_rules 62 = .ok (.aload_n 0, 1) := by decide +kernel
theorem dX6_rules_63 : decode cX6_rules 63 = .ok (.invokevirtual 66, 3) := by decide +kernel
theorem dX6_rules_66 : decode cX6_rules 66 = .ok (.aload_n 0, 1) := by decide +kernel
theorem dX6_rules_67 : decode cX6_rules 67 = .ok (.getfield 13, 3) := by decide +kernel
theorem dX6_rules_70 : decode cX6_rules 70 = .ok (.iload_n 1, 1) := by decide +kernel
theorem dX6_rules_71 : decode cX6_rules 71 = .ok (.iaload, 1) := by decide +kernel
theorem dX6_rules_72 : decode cX6_rules 72 = .ok (.istore 4, 2) := by decide +kernel
theorem dX6_rules_74 : decode cX6_rules 74 = .ok (.aload_n 0, 1) := by decide +kernel
theorem dX6_rules_75 : decode cX6_rules 75 = .ok (.getfield 13, 3) := by decide +kernel
theorem dX6_rules_78 : decode cX6_rules 78 = .ok (.iload_n 1, 1) := by decide +kernel
theorem dX6_rules_79 : decode cX6_rules 79 = .ok (.iload_n 2, 1) := by decide +kernel
theorem dX6_rules_80 : decode cX6_rules 80 = .ok (.iastore, 1) := by decide +kernel
theorem dX6_rules_81 : decode cX6_rules 81 = .ok (.iload 4, 2) := by decide +kernel
theorem dX6_rules_83 : decode cX6_rules 83 = .ok (.ireturn, 1) := by decide +kernel
set_option maxRecDepth 20000 in
theorem ggX6_at_X6_isDay : GoodIn wsX6_at wsX6_isDay := goodIn_r _ [6, 7, 8, 9, 5, 10, 19, 20, 21, 22, 23, 24, 25, 26, 27, 28, 29, 30, 31, 32, 33, 34, 35, 36, 37, 38, 39] (by decide +kernel) (by decide +kernel)
set_option maxRecDepth 20000 in
theorem gX6_at_X6_isDay : GoodIn wsX6_at (wsV RX6 73 RX6 yX6_isDay wsX6_isDay) := goodIn_app (goodIn_of _ (by decide +kernel)) ggX6_at_X6_isDay
set_option maxRecDepth 20000 in
theorem ggX6_at_X6_isMember : GoodIn wsX6_at wsX6_isMember := goodIn_r _ [13, 8, 9, 5, 10] (by decide +kernel) (by decide +kernel)
set_option maxRecDepth 20000 in
theorem gX6_at_X6_isMember : GoodIn wsX6_at (va_wsS RX6 76 yX6_isMember wsX6_isMember) := goodIn_app (goodIn_of _ (by decide +kernel)) ggX6_at_X6_isMember
set_option maxRecDepth 20000 in
theorem ggX6_at_X6_badly : GoodIn wsX6_at wsX6_badly := goodIn_r _ [17, 18, 19, 20, 21, 22, 23, 24, 25, 26, 27, 28, 29, 30, 31, 32, 33, 34, 35, 36, 37, 38, 39] (by decide +kernel) (by decide +kernel)
set_option maxRecDepth 20000 in
theorem gX6_at_X6_badly : GoodIn wsX6_at (wsV RX6 79 RX6 yX6_badly wsX6_badly) := goodIn_app (goodIn_of _ (by decide +kernel)) ggX6_at_X6_badly
theorem dX6_at_0 : decode cX6_at 0 = .ok (.aload_n 0, 1) := by decide +kernel
theorem dX6_at_1 : decode cX6_at 1 = .ok (.iload_n 1, 1) := by decide +kernel
theorem dX6_at_2 : decode cX6_at 2 = .ok (.invokevirtual 73, 3) := by decide +kernel
theorem dX6_at_5 : decode cX6_at 5 = .ok (.ifCond .eq 23, 3) := by decide +kernel
theorem dX6_at_8 : decode cX6_at 8 = .ok (.iload_n 2, 1) := by decide +kernel
theorem dX6_at_9 : decode cX6_at 9 = .ok (.invokestatic 76, 3) := by decide +kernel
theorem dX6_at_12 : decode cX6_at 12 = .ok (.ifCond .eq 16, 3) := by decide +kernel
theorem dX6_at_15 : decode cX6_at 15 = .ok (.aload_n 0, 1) := by decide +kernel
theorem dX6_at_16 : decode cX6_at 16 = .ok (.getfield 16, 3) := by decide +kernel
theorem dX6_at_19 : decode cX6_at 19 = .ok (.iconst 4, 1) := by decide +kernel
theorem dX6_at_20 : decode cX6_at 20 = .ok (.iload_n 1, 1) := by decide +kernel
theorem dX6_at_21 : decode cX6_at 21 = .ok (.imul, 1) := by decide +kernel
theorem dX6_at_22 : decode cX6_at 22 = .ok (.iload_n 2, 1) := by decide +kernel
theorem dX6_at_23 : decode cX6_at 23 = .ok (.iadd, 1) := by decide +kernel
theorem dX6_at_24 : decode cX6_at 24 = .ok (.iaload, 1) := by decide +kernel
theorem dX6_at_25 : decode cX6_at 25 = .ok (.goto 7, 3) := by decide +kernel
theorem dX6_at_28 : decode cX6_at 28 = .ok (.aload_n 0, 1) := by decide +kernel
theorem dX6_at_29 : decode cX6_at 29 = .ok (.invokevirtual 79, 3) := by decide +kernel
theorem dX6_at_32 : decode cX6_at 32 = .ok (.ireturn, 1) := by decide +kernel
theorem dX6_value_0 : decode cX6_value 0 = .ok (.iload_n 0, 1) := by decide +kernel
theorem dX6_value_1 : decode cX6_value 1 = .ok (.i2f, 1) := by decide +kernel
theorem dX6_value_2 : decode cX6_value 2 = .ok (.ldc 101, 2) := by decide +kernel
theorem dX6_value_4 : decode cX6_value 4 = .ok (.fdiv, 1) := by decide +kernel
theorem dX6_value_5 : decode cX6_value 5 = .ok (.freturn, 1) := by decide +kernel
set_option maxRecDepth 20000 in
theorem ggX6_distanceOf_X6_isNoted : GoodIn wsX6_distanceOf wsX6_isNoted := goodIn_r _ [8] (by decide +kernel) (by decide +kernel)
set_option maxRecDepth 20000 in
theorem gX6_distanceOf_X6_isNoted : GoodIn wsX6_distanceOf (va_wsS RX6 106 yX6_isNoted wsX6_isNoted) := goodIn_app (goodIn_of _ (by decide +kernel)) ggX6_distanceOf_X6_isNoted
set_option maxRecDepth 20000 in
theorem ggX6_distanceOf_X6_value : GoodIn wsX6_distanceOf wsX6_value := goodIn_r _ [11, 12] (by decide +kernel) (by decide +kernel)
set_option maxRecDepth 20000 in
theorem gX6_distanceOf_X6_value : GoodIn wsX6_distanceOf (va_wsS RX6 110 yX6_value wsX6_value) := goodIn_app (goodIn_of _ (by decide +kernel)) ggX6_distanceOf_X6_value
theorem dX6_distanceOf_0 : decode cX6_distanceOf 0 = .ok (.iload_n 1, 1) := by decide +kernel
theorem dX6_distanceOf_1 : decode cX6_distanceOf 1 = .ok (.iload_n 2, 1) := by decide +kernel
theorem dX6_distanceOf_2 : decode cX6_distanceOf 2 = .ok (.if_icmp .ge 7, 3) := by decide +kernel
theorem dX6_distanceOf_5 : decode cX6_distanceOf 5 = .ok (.iload_n 1, 1) := by decide +kernel
theorem dX6_distanceOf_6 : decode cX6_distanceOf 6 = .ok (.goto 4, 3) := by decide +kernel
theorem dX6_distanceOf_9 : decode cX6_distanceOf 9 = .ok (.iload_n 2, 1) := by decide +kernel
theorem dX6_distanceOf_10 : decode cX6_distanceOf 10 = .ok (.istore_n 3, 1) := by decide +kernel
theorem dX6_distanceOf_11 : decode cX6_distanceOf 11 = .ok (.iload_n 1, 1) := by decide +kernel
theorem dX6_distanceOf_12 : decode cX6_distanceOf 12 = .ok (.iload_n 2, 1) := by decide +kernel
theorem dX6_distanceOf_13 : decode cX6_distanceOf 13 = .ok (.if_icmp .ge 7, 3) := by decide +kernel
theorem dX6_distanceOf_16 : decode cX6_distanceOf 16 = .ok (.iload_n 2, 1) := by decide +kernel
theorem dX6_distanceOf_17 : decode cX6_distanceOf 17 = .ok (.goto 4, 3) := by decide +kernel
theorem dX6_distanceOf_20 : decode cX6_distanceOf 20 = .ok (.iload_n 1, 1) := by decide +kernel
theorem dX6_distanceOf_21 : decode cX6_distanceOf 21 = .ok (.istore 4, 2) := by decide +kernel
theorem dX6_distanceOf_23 : decode cX6_distanceOf 23 = .ok (.fconst 0, 1) := by decide +kernel
theorem dX6_distanceOf_24 : decode cX6_distanceOf 24 = .ok (.fstore 5, 2) := by decide +kernel
theorem dX6_distanceOf_26 : decode cX6_distanceOf 26 = .ok (.fconst 0, 1) := by decide +kernel
theorem dX6_distanceOf_27 : decode cX6_distanceOf 27 = .ok (.fstore 6, 2) := by decide +kernel
theorem dX6_distanceOf_29 : decode cX6_distanceOf 29 = .ok (.aload_n 0, 1) := by decide +kernel
theorem dX6_distanceOf_30 : decode cX6_distanceOf 30 = .ok (.iconst 0, 1) := by decide +kernel
theorem dX6_distanceOf_31 : decode cX6_distanceOf 31 = .ok (.putfield 102, 3) := by decide +kernel
theorem dX6_distanceOf_34 : decode cX6_distanceOf 34 = .ok (.iconst 0, 1) := by decide +kernel
theorem dX6_distanceOf_35 : decode cX6_distanceOf 35 = .ok (.istore 7, 2) := by decide +kernel
theorem dX6_distanceOf_37 : decode cX6_distanceOf 37 = .ok (.iload 7, 2) := by decide +kernel
theorem dX6_distanceOf_39 : decode cX6_distanceOf 39 = .ok (.iconst 4, 1) := by decide +kernel
theorem dX6_distanceOf_40 : decode cX6_distanceOf 40 = .ok (.if_icmp .ge 113, 3) := by decide +kernel
theorem dX6_distanceOf_43 : decode cX6_distanceOf 43 = .ok (.aload_n 0, 1) := by decide +kernel
theorem dX6_distanceOf_44 : decode cX6_distanceOf 44 = .ok (.getfield 16, 3) := by decide +kernel
theorem dX6_distanceOf_47 : decode cX6_distanceOf 47 = .ok (.iconst 4, 1) := by decide +kernel
theorem dX6_distanceOf_48 : decode cX6_distanceOf 48 = .ok (.iload_n 3, 1) := by decide +kernel
theorem dX6_distanceOf_49 : decode cX6_distanceOf 49 = .ok (.imul, 1) := by decide +kernel
theorem dX6_distanceOf_50 : decode cX6_distanceOf 50 = .ok (.iload 7, 2) := by decide +kernel
theorem dX6_distanceOf_52 : decode cX6_distanceOf 52 = .ok (.iadd, 1) := by decide +kernel
theorem dX6_distanceOf_53 : decode cX6_distanceOf 53 = .ok (.iaload, 1) := by decide +kernel
theorem dX6_distanceOf_54 : decode cX6_distanceOf 54 = .ok (.istore 8, 2) := by decide +kernel
theorem dX6_distanceOf_56 : decode cX6_distanceOf 56 = .ok (.aload_n 0, 1) := by decide +kernel
theorem dX6_distanceOf_57 : decode cX6_distanceOf 57 = .ok (.getfield 16, 3) := by decide +kernel
theorem dX6_distanceOf_60 : decode cX6_distanceOf 60 = .ok (.iconst 4, 1) := by decide +kernel
theorem dX6_distanceOf_61 : decode cX6_distanceOf 61 = .ok (.iload 4, 2) := by decide +kernel
theorem dX6_distanceOf_63 : decode cX6_distanceOf 63 = .ok (.imul, 1) := by decide +kernel
theorem dX6_distanceOf_64 : decode cX6_distanceOf 64 = .ok (.iload 7, 2) := by decide +kernel
theorem dX6_distanceOf_66 : decode cX6_distanceOf 66 = .ok (.iadd, 1) := by decide +kernel
theorem dX6_distanceOf_67 : decode cX6_distanceOf 67 = .ok (.iaload, 1) := by decide +kernel
theorem dX6_distanceOf_68 : decode cX6_distanceOf 68 = .ok (.istore 9, 2) := by decide +kernel
theorem dX6_distanceOf_70 : decode cX6_distanceOf 70 = .ok (.iload 8, 2) := by decide +kernel
theorem dX6_distanceOf_72 : decode cX6_distanceOf 72 = .ok (.invokestatic 106, 3) := by decide +kernel
theorem dX6_distanceOf_75 : decode cX6_distanceOf 75 = .ok (.ifCond .eq 72, 3) := by decide +kernel
theorem dX6_distanceOf_78 : decode cX6_distanceOf 78 = .ok (.iload 9, 2) := by decide +kernel
theorem dX6_distanceOf_80 : decode cX6_distanceOf 80 = .ok (.invokestatic 106, 3) := by decide +kernel
theorem dX6_distanceOf_83 : decode cX6_distanceOf 83 = .ok (.ifCond .eq 64, 3) := by decide +kernel
theorem dX6_distanceOf_86 : decode cX6_distanceOf 86 = .ok (.aload_n 0, 1) := by decide +kernel
theorem dX6_distanceOf_87 : decode cX6_distanceOf 87 = .ok (.getfield 13, 3) := by decide +kernel
theorem dX6_distanceOf_90 : decode cX6_distanceOf 90 = .ok (.iload 7, 2) := by decide +kernel
theorem dX6_distanceOf_92 : decode cX6_distanceOf 92 = .ok (.iaload, 1) := by decide +kernel
theorem dX6_distanceOf_93 : decode cX6_distanceOf 93 = .ok (.ifCond .le 54, 3) := by decide +kernel
theorem dX6_distanceOf_96 : decode cX6_distanceOf 96 = .ok (.aload_n 0, 1) := by decide +kernel
theorem dX6_distanceOf_97 : decode cX6_distanceOf 97 = .ok (.getfield 13, 3) := by decide +kernel
theorem dX6_distanceOf_100 : decode cX6_distanceOf 100 = .ok (.iload 7, 2) := by decide +kernel
theorem dX6_distanceOf_102 : decode cX6_distanceOf 102 = .ok (.iaload, 1) := by decide +kernel
theorem dX6_distanceOf_103 : decode cX6_distanceOf 103 = .ok (.i2f, 1) := by decide +kernel
theorem dX6_distanceOf_104 : decode cX6_distanceOf 104 = .ok (.ldc 109, 2) := by decide +kernel
theorem dX6_distanceOf_106 : decode cX6_distanceOf 106 = .ok (.fdiv, 1) := by decide +kernel
theorem dX6_distanceOf_107 : decode cX6_distanceOf 107 = .ok (.fstore 10, 2) := by decide +kernel
theorem dX6_distanceOf_109 : decode cX6_distanceOf 109 = .ok (.iload 8, 2) := by decide +kernel
theorem dX6_distanceOf_111 : decode cX6_distanceOf 111 = .ok (.invokestatic 110, 3) := by decide +kernel
theorem dX6_distanceOf_114 : decode cX6_distanceOf 114 = .ok (.iload 9, 2) := by decide +kernel
theorem dX6_distanceOf_116 : decode cX6_distanceOf 116 = .ok (.invokestatic 110, 3) := by decide +kernel
theorem dX6_distanceOf_119 : decode cX6_distanceOf 119 = .ok (.fsub, 1) := by decide +kernel
theorem dX6_distanceOf_120 : decode cX6_distanceOf 120 = .ok (.fstore 11, 2) := by decide +kernel
theorem dX6_distanceOf_122 : decode cX6_distanceOf 122 = .ok (.fload 5, 2) := by decide +kernel
theorem dX6_distanceOf_124 : decode cX6_distanceOf 124 = .ok (.fload 10, 2) := by decide +kernel
theorem dX6_distanceOf_126 : decode cX6_distanceOf 126 = .ok (.fload 11, 2) := by decide +kernel
theorem dX6_distanceOf_128 : decode cX6_distanceOf 128 = .ok (.fload 11, 2) := by decide +kernel
theorem dX6_distanceOf_130 : decode cX6_distanceOf 130 = .ok (.fmul, 1) := by decide +kernel
theorem dX6_distanceOf_131 : decode cX6_distanceOf 131 = .ok (.fmul, 1) := by decide +kernel
theorem dX6_distanceOf_132 : decode cX6_distanceOf 132 = .ok (.fadd, 1) := by decide +kernel
theorem dX6_distanceOf_133 : decode cX6_distanceOf 133 = .ok (.fstore 5, 2) := by decide +kernel
theorem dX6_distanceOf_135 : decode cX6_distanceOf 135 = .ok (.fload 6, 2) := by decide +kernel
theorem dX6_distanceOf_137 : decode cX6_distanceOf 137 = .ok (.fload 10, 2) := by decide +kernel
theorem dX6_distanceOf_139 : decode cX6_distanceOf 139 = .ok (.fadd, 1) := by decide +kernel
theorem dX6_distanceOf_140 : decode cX6_distanceOf 140 = .ok (.fstore 6, 2) := by decide +kernel
theorem dX6_distanceOf_142 : decode cX6_distanceOf 142 = .ok (.aload_n 0, 1) := by decide +kernel
theorem dX6_distanceOf_143 : decode cX6_distanceOf 143 = .ok (.iconst 1, 1) := by decide +kernel
theorem dX6_distanceOf_144 : decode cX6_distanceOf 144 = .ok (.putfield 102, 3) := by decide +kernel
theorem dX6_distanceOf_147 : decode cX6_distanceOf 147 = .ok (.iinc 7 1, 3) := by decide +kernel
theorem dX6_distanceOf_150 : decode cX6_distanceOf 150 = .ok (.goto (-113), 3) := by decide +kernel
theorem dX6_distanceOf_153 : decode cX6_distanceOf 153 = .ok (.aload_n 0, 1) := by decide +kernel
theorem dX6_distanceOf_154 : decode cX6_distanceOf 154 = .ok (.getfield 102, 3) := by decide +kernel
theorem dX6_distanceOf_157 : decode cX6_distanceOf 157 = .ok (.ifCond .eq 11, 3) := by decide +kernel
theorem dX6_distanceOf_160 : decode cX6_distanceOf 160 = .ok (.fload 5, 2) := by decide +kernel
theorem dX6_distanceOf_162 : decode cX6_distanceOf 162 = .ok (.fload 6, 2) := by decide +kernel
theorem dX6_distanceOf_164 : decode cX6_distanceOf 164 = .ok (.fdiv, 1) := by decide +kernel
theorem dX6_distanceOf_165 : decode cX6_distanceOf 165 = .ok (.goto 4, 3) := by decide +kernel
theorem dX6_distanceOf_168 : decode cX6_distanceOf 168 = .ok (.fconst 0, 1) := by decide +kernel
theorem dX6_distanceOf_169 : decode cX6_distanceOf 169 = .ok (.freturn, 1) := by decide +kernel
set_option maxRecDepth 20000 in
theorem ggX6_distance_X6_isDay : GoodIn wsX6_distance wsX6_isDay := goodIn_r _ [6, 7, 8, 9, 5, 10, 42, 43, 44, 45, 46, 47, 48, 49, 50, 51, 52, 53, 54, 55, 56, 57, 58, 59, 60, 61, 62] (by decide +kernel) (by decide +kernel)
set_option maxRecDepth 20000 in
theorem gX6_distance_X6_isDay : GoodIn wsX6_distance (wsV RX6 73 RX6 yX6_isDay wsX6_isDay) := goodIn_app (goodIn_of _ (by decide +kernel)) ggX6_distance_X6_isDay
set_option maxRecDepth 20000 in
theorem ggX6_distance_X6_bad : GoodIn wsX6_distance wsX6_bad := goodIn_r _ [14, 15, 42, 43, 44, 45, 46, 47, 48, 49, 50, 51, 52, 53, 54, 55, 56, 57, 58, 59, 60, 61, 62] (by decide +kernel) (by decide +kernel)
set_option maxRecDepth 20000 in
theorem gX6_distance_X6_bad : GoodIn wsX6_distance (wsV RX6 59 RX6 yX6_bad wsX6_bad) := goodIn_app (goodIn_of _ (by decide +kernel)) ggX6_distance_X6_bad
set_option maxRecDepth 20000 in
theorem ggX6_distance_X6_distanceOf : GoodIn wsX6_distance wsX6_distanceOf := goodIn_r _ [19, 1, 20, 21, 22, 23, 24, 5, 25, 26, 27, 28, 29, 42, 43, 44, 45, 46, 47, 48, 49, 50, 51, 52, 53, 54, 55, 56, 57, 58, 59, 60, 61, 62] (by decide +kernel) (by decide +kernel)
set_option maxRecDepth 20000 in
theorem gX6_distance_X6_distanceOf : GoodIn wsX6_distance (wsV RX6 114 RX6 yX6_distanceOf wsX6_distanceOf) := goodIn_app (goodIn_of _ (by decide +kernel)) ggX6_distance_X6_distanceOf
set_option maxRecDepth 20000 in
theorem ggX6_distance_Jxf58ca_floatToIntBits_5c35a : GoodIn wsX6_distance wsJxf58ca_floatToIntBits_5c35a := goodIn_r _ [33, 34, 35, 36, 37, 38, 39, 40, 32, 41] (by decide +kernel) (by decide +kernel)
set_option maxRecDepth 20000 in
theorem gX6_distance_Jxf58ca_floatToIntBits_5c35a : GoodIn wsX6_distance (va_wsS RX6 118 yJxf58ca_floatToIntBits_5c35a wsJxf58ca_floatToIntBits_5c35a) := goodIn_app (goodIn_of _ (by decide +kernel)) ggX6_distance_Jxf58ca_floatToIntBits_5c35a
theorem dX6_distance_0 : decode cX6_distance 0 = .ok (.aload_n 0, 1) := by decide +kernel
theorem dX6_distance_1 : decode cX6_distance 1 = .ok (.iload_n 1, 1) := by decide +kernel
theorem dX6_distance_2 : decode cX6_distance 2 = .ok (.invokevirtual 73, 3) := by decide +kernel
theorem dX6_distance_5 : decode cX6_distance 5 = .ok (.ifCond .eq 16, 3) := by decide +kernel
theorem dX6_distance_8 : decode cX6_distance 8 = .ok (.aload_n 0, 1) := by decide +kernel
theorem dX6_distance_9 : decode cX6_distance 9 = .ok (.iload_n 2, 1) := by decide +kernel
theorem dX6_distance_10 : decode cX6_distance 10 = .ok (.invokevirtual 73, 3) := by decide +kernel
theorem dX6_distance_13 : decode cX6_distance 13 = .ok (.ifCond .eq 8, 3) := by decide +kernel
theorem dX6_distance_16 : decode cX6_distance 16 = .ok (.iload_n 1, 1) := by decide +kernel
theorem dX6_distance_17 : decode cX6_distance 17 = .ok (.iload_n 2, 1) := by decide +kernel
theorem dX6_distance_18 : decode cX6_distance 18 = .ok (.if_icmp .ne 8, 3) := by decide +kernel
theorem dX6_distance_21 : decode cX6_distance 21 = .ok (.aload_n 0, 1) := by decide +kernel
theorem dX6_distance_22 : decode cX6_distance 22 = .ok (.invokevirtual 59, 3) := by decide +kernel
theorem dX6_distance_25 : decode cX6_distance 25 = .ok (.ireturn, 1) := by decide +kernel
theorem dX6_distance_26 : decode cX6_distance 26 = .ok (.aload_n 0, 1) := by decide +kernel
theorem dX6_distance_27 : decode cX6_distance 27 = .ok (.iload_n 1, 1) := by decide +kernel
theorem dX6_distance_28 : decode cX6_distance 28 = .ok (.iload_n 2, 1) := by decide +kernel
theorem dX6_distance_29 : decode cX6_distance 29 = .ok (.invokevirtual 114, 3) := by decide +kernel
theorem dX6_distance_32 : decode cX6_distance 32 = .ok (.fstore_n 3, 1) := by decide +kernel
theorem dX6_distance_33 : decode cX6_distance 33 = .ok (.aload_n 0, 1) := by decide +kernel
theorem dX6_distance_34 : decode cX6_distance 34 = .ok (.getfield 102, 3) := by decide +kernel
theorem dX6_distance_37 : decode cX6_distance 37 = .ok (.ifCond .eq 10, 3) := by decide +kernel
theorem dX6_distance_40 : decode cX6_distance 40 = .ok (.fload_n 3, 1) := by decide +kernel
theorem dX6_distance_41 : decode cX6_distance 41 = .ok (.invokestatic 118, 3) := by decide +kernel
theorem dX6_distance_44 : decode cX6_distance 44 = .ok (.goto 4, 3) := by decide +kernel
theorem dX6_distance_47 : decode cX6_distance 47 = .ok (.iconst (-1), 1) := by decide +kernel
theorem dX6_distance_48 : decode cX6_distance 48 = .ok (.ireturn, 1) := by decide +kernel
theorem dX6_mayBeLike_0 : decode cX6_mayBeLike 0 = .ok (.iload_n 1, 1) := by decide +kernel
theorem dX6_mayBeLike_1 : decode cX6_mayBeLike 1 = .ok (.iload_n 2, 1) := by decide +kernel
theorem dX6_mayBeLike_2 : decode cX6_mayBeLike 2 = .ok (.if_icmp .ge 9, 3) := by decide +kernel
theorem dX6_mayBeLike_5 : decode cX6_mayBeLike 5 = .ok (.iload_n 2, 1) := by decide +kernel
theorem dX6_mayBeLike_6 : decode cX6_mayBeLike 6 = .ok (.iload_n 1, 1) := by decide +kernel
theorem dX6_mayBeLike_7 : decode cX6_mayBeLike 7 = .ok (.isub, 1) := by decide +kernel
theorem dX6_mayBeLike_8 : decode cX6_mayBeLike 8 = .ok (.goto 6, 3) := by decide +kernel
theorem dX6_mayBeLike_11 : decode cX6_mayBeLike 11 = .ok (.iload_n 1, 1) := by decide +kernel
theorem dX6_mayBeLike_12 : decode cX6_mayBeLike 12 = .ok (.iload_n 2, 1) := by decide +kernel
theorem dX6_mayBeLike_13 : decode cX6_mayBeLike 13 = .ok (.isub, 1) := by decide +kernel
theorem dX6_mayBeLike_14 : decode cX6_mayBeLike 14 = .ok (.istore_n 3, 1) := by decide +kernel
theorem dX6_mayBeLike_15 : decode cX6_mayBeLike 15 = .ok (.iload_n 2, 1) := by decide +kernel
theorem dX6_mayBeLike_16 : decode cX6_mayBeLike 16 = .ok (.iload_n 1, 1) := by decide +kernel
theorem dX6_mayBeLike_17 : decode cX6_mayBeLike 17 = .ok (.if_icmp .eq 34, 3) := by decide +kernel
theorem dX6_mayBeLike_20 : decode cX6_mayBeLike 20 = .ok (.iload_n 3, 1) := by decide +kernel
theorem dX6_mayBeLike_21 : decode cX6_mayBeLike 21 = .ok (.aload_n 0, 1) := by decide +kernel
theorem dX6_mayBeLike_22 : decode cX6_mayBeLike 22 = .ok (.getfield 13, 3) := by decide +kernel
theorem dX6_mayBeLike_25 : decode cX6_mayBeLike 25 = .ok (.iconst 4, 1) := by decide +kernel
theorem dX6_mayBeLike_26 : decode cX6_mayBeLike 26 = .ok (.iaload, 1) := by decide +kernel
theorem dX6_mayBeLike_27 : decode cX6_mayBeLike 27 = .ok (.if_icmp .le 24, 3) := by decide +kernel
theorem dX6_mayBeLike_30 : decode cX6_mayBeLike 30 = .ok (.iload_n 2, 1) := by decide +kernel
theorem dX6_mayBeLike_31 : decode cX6_mayBeLike 31 = .ok (.iconst 1, 1) := by decide +kernel
theorem dX6_mayBeLike_32 : decode cX6_mayBeLike 32 = .ok (.iadd, 1) := by decide +kernel
theorem dX6_mayBeLike_33 : decode cX6_mayBeLike 33 = .ok (.aload_n 0, 1) := by decide +kernel
theorem dX6_mayBeLike_34 : decode cX6_mayBeLike 34 = .ok (.getfield 48, 3) := by decide +kernel
theorem dX6_mayBeLike_37 : decode cX6_mayBeLike 37 = .ok (.if_icmp .ge 14, 3) := by decide +kernel
theorem dX6_mayBeLike_40 : decode cX6_mayBeLike 40 = .ok (.iload_n 2, 1) := by decide +kernel
theorem dX6_mayBeLike_41 : decode cX6_mayBeLike 41 = .ok (.iconst 1, 1) := by decide +kernel
theorem dX6_mayBeLike_42 : decode cX6_mayBeLike 42 = .ok (.iadd, 1) := by decide +kernel
theorem dX6_mayBeLike_43 : decode cX6_mayBeLike 43 = .ok (.iload_n 1, 1) := by decide +kernel
theorem dX6_mayBeLike_44 : decode cX6_mayBeLike 44 = .ok (.if_icmp .eq 7, 3) := by decide +kernel
theorem dX6_mayBeLike_47 : decode cX6_mayBeLike 47 = .ok (.iconst 1, 1) := by decide +kernel
theorem dX6_mayBeLike_48 : decode cX6_mayBeLike 48 = .ok (.goto 4, 3) := by decide +kernel
theorem dX6_mayBeLike_51 : decode cX6_mayBeLike 51 = .ok (.iconst 0, 1) := by decide +kernel
theorem dX6_mayBeLike_52 : decode cX6_mayBeLike 52 = .ok (.ireturn, 1) := by decide +kernel
set_option maxRecDepth 20000 in
theorem ggX6_setLike_X6_mayBeLike : GoodIn wsX6_setLike wsX6_mayBeLike := goodIn_r _ [10, 11, 2, 25, 26, 27, 28, 29, 30, 31, 32, 33, 34, 35, 36, 37, 38, 39, 40, 41, 42, 43, 44, 45] (by decide +kernel) (by decide +kernel)
set_option maxRecDepth 20000 in
theorem gX6_setLike_X6_mayBeLike : GoodIn wsX6_setLike (wsV RX6 127 RX6 yX6_mayBeLike wsX6_mayBeLike) := goodIn_app (goodIn_of _ (by decide +kernel)) ggX6_setLike_X6_mayBeLike
set_option maxRecDepth 20000 in
theorem ggX6_setLike_X6_distanceOf : GoodIn wsX6_setLike wsX6_distanceOf := goodIn_r _ [15, 3, 16, 11, 17, 18, 19, 9, 20, 21, 22, 23, 24, 25, 26, 27, 28, 29, 30, 31, 32, 33, 34, 35, 36, 37, 38, 39, 40, 41, 42, 43, 44, 45] (by decide +kernel) (by decide +kernel)
set_option maxRecDepth 20000 in
theorem gX6_setLike_X6_distanceOf : GoodIn wsX6_setLike (wsV RX6 114 RX6 yX6_distanceOf wsX6_distanceOf) := goodIn_app (goodIn_of _ (by decide +kernel)) ggX6_setLike_X6_distanceOf
theorem dX6_setLike_0 : decode cX6_setLike 0 = .ok (.aload_n 0, 1) := by decide +kernel
theorem dX6_setLike_1 : decode cX6_setLike 1 = .ok (.iconst 0, 1) := by decide +kernel
theorem dX6_setLike_2 : decode cX6_setLike 2 = .ok (.putfield 124, 3) := by decide +kernel
theorem dX6_setLike_5 : decode cX6_setLike 5 = .ok (.iconst 0, 1) := by decide +kernel
theorem dX6_setLike_6 : decode cX6_setLike 6 = .ok (.istore_n 2, 1) := by decide +kernel
theorem dX6_setLike_7 : decode cX6_setLike 7 = .ok (.iload_n 2, 1) := by decide +kernel
theorem dX6_setLike_8 : decode cX6_setLike 8 = .ok (.aload_n 0, 1) := by decide +kernel
theorem dX6_setLike_9 : decode cX6_setLike 9 = .ok (.getfield 48, 3) := by decide +kernel
theorem dX6_setLike_12 : decode cX6_setLike 12 = .ok (.if_icmp .ge 121, 3) := by decide +kernel
theorem dX6_setLike_15 : decode cX6_setLike 15 = .ok (.aload_n 0, 1) := by decide +kernel
theorem dX6_setLike_16 : decode cX6_setLike 16 = .ok (.iload_n 1, 1) := by decide +kernel
theorem dX6_setLike_17 : decode cX6_setLike 17 = .ok (.iload_n 2, 1) := by decide +kernel
theorem dX6_setLike_18 : decode cX6_setLike 18 = .ok (.invokevirtual 127, 3) := by decide +kernel
theorem dX6_setLike_21 : decode cX6_setLike 21 = .ok (.ifCond .eq 106, 3) := by decide +kernel
theorem dX6_setLike_24 : decode cX6_setLike 24 = .ok (.aload_n 0, 1) := by decide +kernel
theorem dX6_setLike_25 : decode cX6_setLike 25 = .ok (.iload_n 1, 1) := by decide +kernel
theorem dX6_setLike_26 : decode cX6_setLike 26 = .ok (.iload_n 2, 1) := by decide +kernel
theorem dX6_setLike_27 : decode cX6_setLike 27 = .ok (.invokevirtual 114, 3) := by decide +kernel
theorem dX6_setLike_30 : decode cX6_setLike 30 = .ok (.fstore_n 3, 1) := by decide +kernel
theorem dX6_setLike_31 : decode cX6_setLike 31 = .ok (.aload_n 0, 1) := by decide +kernel
theorem dX6_setLike_32 : decode cX6_setLike 32 = .ok (.getfield 102, 3) := by decide +kernel
theorem dX6_setLike_35 : decode cX6_setLike 35 = .ok (.ifCond .eq 92, 3) := by decide +kernel
theorem dX6_setLike_38 : decode cX6_setLike 38 = .ok (.aload_n 0, 1) := by decide +kernel
theorem dX6_setLike_39 : decode cX6_setLike 39 = .ok (.getfield 124, 3) := by decide +kernel
theorem dX6_setLike_42 : decode cX6_setLike 42 = .ok (.istore 4, 2) := by decide +kernel
theorem dX6_setLike_44 : decode cX6_setLike 44 = .ok (.iload 4, 2) := by decide +kernel
theorem dX6_setLike_46 : decode cX6_setLike 46 = .ok (.ifCond .le 55, 3) := by decide +kernel
theorem dX6_setLike_49 : decode cX6_setLike 49 = .ok (.aload_n 0, 1) := by decide +kernel
theorem dX6_setLike_50 : decode cX6_setLike 50 = .ok (.getfield 25, 3) := by decide +kernel
theorem dX6_setLike_53 : decode cX6_setLike 53 = .ok (.iload 4, 2) := by decide +kernel
theorem dX6_setLike_55 : decode cX6_setLike 55 = .ok (.iconst 1, 1) := by decide +kernel
theorem dX6_setLike_56 : decode cX6_setLike 56 = .ok (.isub, 1) := by decide +kernel
theorem dX6_setLike_57 : decode cX6_setLike 57 = .ok (.faload, 1) := by decide +kernel
theorem dX6_setLike_58 : decode cX6_setLike 58 = .ok (.fload_n 3, 1) := by decide +kernel
theorem dX6_setLike_59 : decode cX6_setLike 59 = .ok (.fcmp .l, 1) := by decide +kernel
theorem dX6_setLike_60 : decode cX6_setLike 60 = .ok (.ifCond .le 41, 3) := by decide +kernel
theorem dX6_setLike_63 : decode cX6_setLike 63 = .ok (.aload_n 0, 1) := by decide +kernel
theorem dX6_setLike_64 : decode cX6_setLike 64 = .ok (.getfield 22, 3) := by decide +kernel
theorem dX6_setLike_67 : decode cX6_setLike 67 = .ok (.iload 4, 2) := by decide +kernel
theorem dX6_setLike_69 : decode cX6_setLike 69 = .ok (.aload_n 0, 1) := by decide +kernel
theorem dX6_setLike_70 : decode cX6_setLike 70 = .ok (.getfield 22, 3) := by decide +kernel
theorem dX6_setLike_73 : decode cX6_setLike 73 = .ok (.iload 4, 2) := by decide +kernel
theorem dX6_setLike_75 : decode cX6_setLike 75 = .ok (.iconst 1, 1) := by decide +kernel
theorem dX6_setLike_76 : decode cX6_setLike 76 = .ok (.isub, 1) := by decide +kernel
theorem dX6_setLike_77 : decode cX6_setLike 77 = .ok (.iaload, 1) := by decide +kernel
theorem dX6_setLike_78 : decode cX6_setLike 78 = .ok (.iastore, 1) := by decide +kernel
theorem dX6_setLike_79 : decode cX6_setLike 79 = .ok (.aload_n 0, 1) := by decide +kernel
theorem dX6_setLike_80 : decode cX6_setLike 80 = .ok (.getfield 25, 3) := by decide +kernel
theorem dX6_setLike_83 : decode cX6_setLike 83 = .ok (.iload 4, 2) := by decide +kernel
theorem dX6_setLike_85 : decode cX6_setLike 85 = .ok (.aload_n 0, 1) := by decide +kernel
theorem dX6_setLike_86 : decode cX6_setLike 86 = .ok (.getfield 25, 3) := by decide +kernel
theorem dX6_setLike_89 : decode cX6_setLike 89 = .ok (.iload 4, 2) := by decide +kernel
theorem dX6_setLike_91 : decode cX6_setLike 91 = .ok (.iconst 1, 1) := by decide +kernel
theorem dX6_setLike_92 : decode cX6_setLike 92 = .ok (.isub, 1) := by decide +kernel
theorem dX6_setLike_93 : decode cX6_setLike 93 = .ok (.faload, 1) := by decide +kernel
theorem dX6_setLike_94 : decode cX6_setLike 94 = .ok (.fastore, 1) := by decide +kernel
theorem dX6_setLike_95 : decode cX6_setLike 95 = .ok (.iinc 4 (-1), 3) := by decide +kernel
theorem dX6_setLike_98 : decode cX6_setLike 98 = .ok (.goto (-54), 3) := by decide +kernel
theorem dX6_setLike_101 : decode cX6_setLike 101 = .ok (.aload_n 0, 1) := by decide +kernel
theorem dX6_setLike_102 : decode cX6_setLike 102 = .ok (.getfield 22, 3) := by decide +kernel
theorem dX6_setLike_105 : decode cX6_setLike 105 = .ok (.iload 4, 2) := by decide +kernel
theorem dX6_setLike_107 : decode cX6_setLike 107 = .ok (.iload_n 2, 1) := by decide +kernel
theorem dX6_setLike_108 : decode cX6_setLike 108 = .ok (.iastore, 1) := by decide +kernel
theorem dX6_setLike_109 : decode cX6_setLike 109 = .ok (.aload_n 0, 1) := by decide +kernel
theorem dX6_setLike_110 : decode cX6_setLike 110 = .ok (.getfield 25, 3) := by decide +kernel
theorem dX6_setLike_113 : decode cX6_setLike 113 = .ok (.iload 4, 2) := by decide +kernel
theorem dX6_setLike_115 : decode cX6_setLike 115 = .ok (.fload_n 3, 1) := by decide +kernel
theorem dX6_setLike_116 : decode cX6_setLike 116 = .ok (.fastore, 1) := by decide +kernel
theorem dX6_setLike_117 : decode cX6_setLike 117 = .ok (.aload_n 0, 1) := by decide +kernel
theorem dX6_setLike_118 : decode cX6_setLike 118 = .ok (.dup, 1) := by decide +kernel
theorem dX6_setLike_119 : decode cX6_setLike 119 = .ok (.getfield 124, 3) := by decide +kernel
theorem dX6_setLike_122 : decode cX6_setLike 122 = .ok (.iconst 1, 1) := by decide +kernel
theorem dX6_setLike_123 : decode cX6_setLike 123 = .ok (.iadd, 1) := by decide +kernel
theorem dX6_setLike_124 : decode cX6_setLike 124 = .ok (.putfield 124, 3) := by decide +kernel
theorem dX6_setLike_127 : decode cX6_setLike 127 = .ok (.iinc 2 1, 3) := by decide +kernel
theorem dX6_setLike_130 : decode cX6_setLike 130 = .ok (.goto (-123), 3) := by decide +kernel
theorem dX6_setLike_133 : decode cX6_setLike 133 = .ok (.return_, 1) := by decide +kernel
set_option maxRecDepth 20000 in
theorem ggX6_setNearest_X6_setLike : GoodIn wsX6_setNearest wsX6_setLike := goodIn_r _ [7, 1, 8, 9, 10, 11, 12, 13, 14, 6, 15, 2, 16, 17, 18, 19, 20, 21, 22, 23, 24, 25, 26, 27, 28, 29, 30, 31, 32, 33, 34, 35, 36, 37, 38, 39, 40, 41, 42, 43, 44, 45, 46, 47, 48, 49] (by decide +kernel) (by decide +kernel)
set_option maxRecDepth 20000 in
theorem gX6_setNearest_X6_setLike : GoodIn wsX6_setNearest (wsV RX6 131 RX6 yX6_setLike wsX6_setLike) := goodIn_app (goodIn_of _ (by decide +kernel)) ggX6_setNearest_X6_setLike
theorem dX6_setNearest_0 : decode cX6_setNearest 0 = .ok (.aload_n 0, 1) := by decide +kernel
theorem dX6_setNearest_1 : decode cX6_setNearest 1 = .ok (.iload_n 1, 1) := by decide +kernel
theorem dX6_setNearest_2 : decode cX6_setNearest 2 = .ok (.invokevirtual 131, 3) := by decide +kernel
theorem dX6_setNearest_5 : decode cX6_setNearest 5 = .ok (.aload_n 0, 1) := by decide +kernel
theorem dX6_setNearest_6 : decode cX6_setNearest 6 = .ok (.aload_n 0, 1) := by decide +kernel
theorem dX6_setNearest_7 : decode cX6_setNearest 7 = .ok (.getfield 124, 3) := by decide +kernel
theorem dX6_setNearest_10 : decode cX6_setNearest 10 = .ok (.aload_n 0, 1) := by decide +kernel
theorem dX6_setNearest_11 : decode cX6_setNearest 11 = .ok (.getfield 13, 3) := by decide +kernel
theorem dX6_setNearest_14 : decode cX6_setNearest 14 = .ok (.iconst 5, 1) := by decide +kernel
theorem dX6_setNearest_15 : decode cX6_setNearest 15 = .ok (.iaload, 1) := by decide +kernel
theorem dX6_setNearest_16 : decode cX6_setNearest 16 = .ok (.if_icmp .ge 10, 3) := by decide +kernel
theorem dX6_setNearest_19 : decode cX6_setNearest 19 = .ok (.aload_n 0, 1) := by decide +kernel
theorem dX6_setNearest_20 : decode cX6_setNearest 20 = .ok (.getfield 124, 3) := by decide +kernel
theorem dX6_setNearest_23 : decode cX6_setNearest 23 = .ok (.goto 9, 3) := by decide +kernel
theorem dX6_setNearest_26 : decode cX6_setNearest 26 = .ok (.aload_n 0, 1) := by decide +kernel
theorem dX6_setNearest_27 : decode cX6_setNearest 27 = .ok (.getfield 13, 3) := by decide +kernel
theorem dX6_setNearest_30 : decode cX6_setNearest 30 = .ok (.iconst 5, 1) := by decide +kernel
theorem dX6_setNearest_31 : decode cX6_setNearest 31 = .ok (.iaload, 1) := by decide +kernel
theorem dX6_setNearest_32 : decode cX6_setNearest 32 = .ok (.putfield 124, 3) := by decide +kernel
theorem dX6_setNearest_35 : decode cX6_setNearest 35 = .ok (.return_, 1) := by decide +kernel
set_option maxRecDepth 20000 in
theorem ggX6_nearest_X6_isDay : GoodIn wsX6_nearest wsX6_isDay := goodIn_r _ [8, 9, 10, 11, 7, 12, 57, 58, 59, 60, 61, 62, 63, 64, 65, 66, 67, 68, 69, 70, 71, 72, 73, 74, 75, 76, 77] (by decide +kernel) (by decide +kernel)
set_option maxRecDepth 20000 in
theorem gX6_nearest_X6_isDay : GoodIn wsX6_nearest (wsV RX6 73 RX6 yX6_isDay wsX6_isDay) := goodIn_app (goodIn_of _ (by decide +kernel)) ggX6_nearest_X6_isDay
set_option maxRecDepth 20000 in
theorem ggX6_nearest_X6_in : GoodIn wsX6_nearest wsX6_in := goodIn_r _ [12] (by decide +kernel) (by decide +kernel)
set_option maxRecDepth 20000 in
theorem gX6_nearest_X6_in : GoodIn wsX6_nearest (va_wsS RX6 44 yX6_in wsX6_in) := goodIn_app (goodIn_of _ (by decide +kernel)) ggX6_nearest_X6_in
set_option maxRecDepth 20000 in
theorem ggX6_nearest_X6_bad : GoodIn wsX6_nearest wsX6_bad := goodIn_r _ [16, 17, 57, 58, 59, 60, 61, 62, 63, 64, 65, 66, 67, 68, 69, 70, 71, 72, 73, 74, 75, 76, 77] (by decide +kernel) (by decide +kernel)
set_option maxRecDepth 20000 in
theorem gX6_nearest_X6_bad : GoodIn wsX6_nearest (wsV RX6 59 RX6 yX6_bad wsX6_bad) := goodIn_app (goodIn_of _ (by decide +kernel)) ggX6_nearest_X6_bad
set_option maxRecDepth 20000 in
theorem ggX6_nearest_X6_setNearest : GoodIn wsX6_nearest wsX6_setNearest := goodIn_r _ [21, 1, 22, 23, 24, 25, 7, 26, 9, 27, 3, 2, 28, 29, 30, 31, 32, 33, 34, 35, 36, 37, 38, 39, 40, 41, 42, 43, 44, 57, 58, 59, 60, 61, 62, 63, 64, 65, 66, 67, 68, 69, 70, 71, 72, 73, 74, 75, 76, 77] (by decide +kernel) (by decide +kernel)
set_option maxRecDepth 20000 in
theorem gX6_nearest_X6_setNearest : GoodIn wsX6_nearest (wsV RX6 135 RX6 yX6_setNearest wsX6_setNearest) := goodIn_app (goodIn_of _ (by decide +kernel)) ggX6_nearest_X6_setNearest
set_option maxRecDepth 20000 in
theorem ggX6_nearest_Jxf58ca_floatToIntBits_5c35a : GoodIn wsX6_nearest wsJxf58ca_floatToIntBits_5c35a := goodIn_r _ [48, 49, 50, 51, 52, 53, 54, 55, 47, 56] (by decide +kernel) (by decide +kernel)
set_option maxRecDepth 20000 in
theorem gX6_nearest_Jxf58ca_floatToIntBits_5c35a : GoodIn wsX6_nearest (va_wsS RX6 118 yJxf58ca_floatToIntBits_5c35a wsJxf58ca_floatToIntBits_5c35a) := goodIn_app (goodIn_of _ (by decide +kernel)) ggX6_nearest_Jxf58ca_floatToIntBits_5c35a
theorem dX6_nearest_0 : decode cX6_nearest 0 = .ok (.aload_n 0, 1) := by decide +kernel
theorem dX6_nearest_1 : decode cX6_nearest 1 = .ok (.iload_n 1, 1) := by decide +kernel
theorem dX6_nearest_2 : decode cX6_nearest 2 = .ok (.invokevirtual 73, 3) := by decide +kernel
theorem dX6_nearest_5 : decode cX6_nearest 5 = .ok (.ifCond .eq 16, 3) := by decide +kernel
theorem dX6_nearest_8 : decode cX6_nearest 8 = .ok (.iload_n 2, 1) := by decide +kernel
theorem dX6_nearest_9 : decode cX6_nearest 9 = .ok (.ifCond .lt 12, 3) := by decide +kernel
theorem dX6_nearest_12 : decode cX6_nearest 12 = .ok (.iload_n 3, 1) := by decide +kernel
theorem dX6_nearest_13 : decode cX6_nearest 13 = .ok (.iconst 0, 1) := by decide +kernel
theorem dX6_nearest_14 : decode cX6_nearest 14 = .ok (.iconst 1, 1) := by decide +kernel
theorem dX6_nearest_15 : decode cX6_nearest 15 = .ok (.invokestatic 44, 3) := by decide +kernel
theorem dX6_nearest_18 : decode cX6_nearest 18 = .ok (.ifCond .ne 8, 3) := by decide +kernel
theorem dX6_nearest_21 : decode cX6_nearest 21 = .ok (.aload_n 0, 1) := by decide +kernel
theorem dX6_nearest_22 : decode cX6_nearest 22 = .ok (.invokevirtual 59, 3) := by decide +kernel
theorem dX6_nearest_25 : decode cX6_nearest 25 = .ok (.ireturn, 1) := by decide +kernel
theorem dX6_nearest_26 : decode cX6_nearest 26 = .ok (.aload_n 0, 1) := by decide +kernel
theorem dX6_nearest_27 : decode cX6_nearest 27 = .ok (.iload_n 1, 1) := by decide +kernel
theorem dX6_nearest_28 : decode cX6_nearest 28 = .ok (.invokevirtual 135, 3) := by decide +kernel
theorem dX6_nearest_31 : decode cX6_nearest 31 = .ok (.iload_n 2, 1) := by decide +kernel
theorem dX6_nearest_32 : decode cX6_nearest 32 = .ok (.aload_n 0, 1) := by decide +kernel
theorem dX6_nearest_33 : decode cX6_nearest 33 = .ok (.getfield 124, 3) := by decide +kernel
theorem dX6_nearest_36 : decode cX6_nearest 36 = .ok (.if_icmp .lt 5, 3) := by decide +kernel
theorem dX6_nearest_39 : decode cX6_nearest 39 = .ok (.iconst (-1), 1) := by decide +kernel
theorem dX6_nearest_40 : decode cX6_nearest 40 = .ok (.ireturn, 1) := by decide +kernel
theorem dX6_nearest_41 : decode cX6_nearest 41 = .ok (.iload_n 3, 1) := by decide +kernel
theorem dX6_nearest_42 : decode cX6_nearest 42 = .ok (.ifCond .ne 12, 3) := by decide +kernel
theorem dX6_nearest_45 : decode cX6_nearest 45 = .ok (.aload_n 0, 1) := by decide +kernel
theorem dX6_nearest_46 : decode cX6_nearest 46 = .ok (.getfield 22, 3) := by decide +kernel
theorem dX6_nearest_49 : decode cX6_nearest 49 = .ok (.iload_n 2, 1) := by decide +kernel
theorem dX6_nearest_50 : decode cX6_nearest 50 = .ok (.iaload, 1) := by decide +kernel
theorem dX6_nearest_51 : decode cX6_nearest 51 = .ok (.goto 12, 3) := by decide +kernel
theorem dX6_nearest_54 : decode cX6_nearest 54 = .ok (.aload_n 0, 1) := by decide +kernel
theorem dX6_nearest_55 : decode cX6_nearest 55 = .ok (.getfield 25, 3) := by decide +kernel
theorem dX6_nearest_58 : decode cX6_nearest 58 = .ok (.iload_n 2, 1) := by decide +kernel
theorem dX6_nearest_59 : decode cX6_nearest 59 = .ok (.faload, 1) := by decide +kernel
theorem dX6_nearest_60 : decode cX6_nearest 60 = .ok (.invokestatic 118, 3) := by decide +kernel
theorem dX6_nearest_63 : decode cX6_nearest 63 = .ok (.ireturn, 1) := by decide +kernel
set_option maxRecDepth 20000 in
theorem ggX6_likes_X6_isDay : GoodIn wsX6_likes wsX6_isDay := goodIn_r _ [6, 7, 8, 9, 5, 10, 41, 42, 43, 44, 45, 46, 47, 48, 49, 50, 51, 52, 53, 54, 55, 56, 57, 58, 59, 60, 61] (by decide +kernel) (by decide +kernel)
set_option maxRecDepth 20000 in
theorem gX6_likes_X6_isDay : GoodIn wsX6_likes (wsV RX6 73 RX6 yX6_isDay wsX6_isDay) := goodIn_app (goodIn_of _ (by decide +kernel)) ggX6_likes_X6_isDay
set_option maxRecDepth 20000 in
theorem ggX6_likes_X6_bad : GoodIn wsX6_likes wsX6_bad := goodIn_r _ [14, 15, 41, 42, 43, 44, 45, 46, 47, 48, 49, 50, 51, 52, 53, 54, 55, 56, 57, 58, 59, 60, 61] (by decide +kernel) (by decide +kernel)
set_option maxRecDepth 20000 in
theorem gX6_likes_X6_bad : GoodIn wsX6_likes (wsV RX6 59 RX6 yX6_bad wsX6_bad) := goodIn_app (goodIn_of _ (by decide +kernel)) ggX6_likes_X6_bad
set_option maxRecDepth 20000 in
theorem ggX6_likes_X6_setLike : GoodIn wsX6_likes wsX6_setLike := goodIn_r _ [19, 1, 7, 20, 21, 22, 23, 24, 25, 5, 26, 27, 28, 29, 30, 31, 32, 33, 34, 35, 36, 37, 38, 39, 40, 41, 42, 43, 44, 45, 46, 47, 48, 49, 50, 51, 52, 53, 54, 55, 56, 57, 58, 59, 60, 61] (by decide +kernel) (by decide +kernel)
set_option maxRecDepth 20000 in
theorem gX6_likes_X6_setLike : GoodIn wsX6_likes (wsV RX6 131 RX6 yX6_setLike wsX6_setLike) := goodIn_app (goodIn_of _ (by decide +kernel)) ggX6_likes_X6_setLike
theorem dX6_likes_0 : decode cX6_likes 0 = .ok (.aload_n 0, 1) := by decide +kernel
theorem dX6_likes_1 : decode cX6_likes 1 = .ok (.iload_n 1, 1) := by decide +kernel
theorem dX6_likes_2 : decode cX6_likes 2 = .ok (.invokevirtual 73, 3) := by decide +kernel
theorem dX6_likes_5 : decode cX6_likes 5 = .ok (.ifCond .ne 8, 3) := by decide +kernel
theorem dX6_likes_8 : decode cX6_likes 8 = .ok (.aload_n 0, 1) := by decide +kernel
theorem dX6_likes_9 : decode cX6_likes 9 = .ok (.invokevirtual 59, 3) := by decide +kernel
theorem dX6_likes_12 : decode cX6_likes 12 = .ok (.ireturn, 1) := by decide +kernel
theorem dX6_likes_13 : decode cX6_likes 13 = .ok (.aload_n 0, 1) := by decide +kernel
theorem dX6_likes_14 : decode cX6_likes 14 = .ok (.iload_n 1, 1) := by decide +kernel
theorem dX6_likes_15 : decode cX6_likes 15 = .ok (.invokevirtual 131, 3) := by decide +kernel
theorem dX6_likes_18 : decode cX6_likes 18 = .ok (.aload_n 0, 1) := by decide +kernel
theorem dX6_likes_19 : decode cX6_likes 19 = .ok (.getfield 124, 3) := by decide +kernel
theorem dX6_likes_22 : decode cX6_likes 22 = .ok (.ireturn, 1) := by decide +kernel
set_option maxRecDepth 20000 in
theorem ggX6_serves_X6_isDay : GoodIn wsX6_serves wsX6_isDay := goodIn_r _ [8, 1, 9, 10, 7, 11, 45, 46, 47, 48, 49, 50, 51, 52, 53, 54, 55, 56, 57, 58, 59, 60, 61, 62, 63, 64, 65] (by decide +kernel) (by decide +kernel)
set_option maxRecDepth 20000 in
theorem gX6_serves_X6_isDay : GoodIn wsX6_serves (wsV RX6 73 RX6 yX6_isDay wsX6_isDay) := goodIn_app (goodIn_of _ (by decide +kernel)) ggX6_serves_X6_isDay
set_option maxRecDepth 20000 in
theorem ggX6_serves_X6_bad : GoodIn wsX6_serves wsX6_bad := goodIn_r _ [15, 16, 45, 46, 47, 48, 49, 50, 51, 52, 53, 54, 55, 56, 57, 58, 59, 60, 61, 62, 63, 64, 65] (by decide +kernel) (by decide +kernel)
set_option maxRecDepth 20000 in
theorem gX6_serves_X6_bad : GoodIn wsX6_serves (wsV RX6 59 RX6 yX6_bad wsX6_bad) := goodIn_app (goodIn_of _ (by decide +kernel)) ggX6_serves_X6_bad
set_option maxRecDepth 20000 in
theorem ggX6_serves_X6_setNearest : GoodIn wsX6_serves wsX6_setNearest := goodIn_r _ [20, 2, 21, 22, 23, 24, 7, 25, 1, 26, 27, 3, 28, 29, 30, 31, 32, 33, 34, 35, 36, 37, 38, 39, 40, 41, 42, 43, 44, 45, 46, 47, 48, 49, 50, 51, 52, 53, 54, 55, 56, 57, 58, 59, 60, 61, 62, 63, 64, 65] (by decide +kernel) (by decide +kernel)
set_option maxRecDepth 20000 in
theorem gX6_serves_X6_setNearest : GoodIn wsX6_serves (wsV RX6 135 RX6 yX6_setNearest wsX6_setNearest) := goodIn_app (goodIn_of _ (by decide +kernel)) ggX6_serves_X6_setNearest
theorem dX6_serves_0 : decode cX6_serves 0 = .ok (.aload_n 0, 1) := by decide +kernel
theorem dX6_serves_1 : decode cX6_serves 1 = .ok (.iload_n 1, 1) := by decide +kernel
theorem dX6_serves_2 : decode cX6_serves 2 = .ok (.invokevirtual 73, 3) := by decide +kernel
theorem dX6_serves_5 : decode cX6_serves 5 = .ok (.ifCond .ne 8, 3) := by decide +kernel
theorem dX6_serves_8 : decode cX6_serves 8 = .ok (.aload_n 0, 1) := by decide +kernel
theorem dX6_serves_9 : decode cX6_serves 9 = .ok (.invokevirtual 59, 3) := by decide +kernel
theorem dX6_serves_12 : decode cX6_serves 12 = .ok (.ireturn, 1) := by decide +kernel
theorem dX6_serves_13 : decode cX6_serves 13 = .ok (.iconst 0, 1) := by decide +kernel
theorem dX6_serves_14 : decode cX6_serves 14 = .ok (.istore_n 2, 1) := by decide +kernel
theorem dX6_serves_15 : decode cX6_serves 15 = .ok (.iconst 0, 1) := by decide +kernel
theorem dX6_serves_16 : decode cX6_serves 16 = .ok (.istore_n 3, 1) := by decide +kernel
theorem dX6_serves_17 : decode cX6_serves 17 = .ok (.iload_n 3, 1) := by decide +kernel
theorem dX6_serves_18 : decode cX6_serves 18 = .ok (.aload_n 0, 1) := by decide +kernel
theorem dX6_serves_19 : decode cX6_serves 19 = .ok (.getfield 48, 3) := by decide +kernel
theorem dX6_serves_22 : decode cX6_serves 22 = .ok (.if_icmp .ge 51, 3) := by decide +kernel
theorem dX6_serves_25 : decode cX6_serves 25 = .ok (.aload_n 0, 1) := by decide +kernel
theorem dX6_serves_26 : decode cX6_serves 26 = .ok (.iload_n 3, 1) := by decide +kernel
theorem dX6_serves_27 : decode cX6_serves 27 = .ok (.invokevirtual 135, 3) := by decide +kernel
theorem dX6_serves_30 : decode cX6_serves 30 = .ok (.iconst 0, 1) := by decide +kernel
theorem dX6_serves_31 : decode cX6_serves 31 = .ok (.istore 4, 2) := by decide +kernel
theorem dX6_serves_33 : decode cX6_serves 33 = .ok (.iload 4, 2) := by decide +kernel
theorem dX6_serves_35 : decode cX6_serves 35 = .ok (.aload_n 0, 1) := by decide +kernel
theorem dX6_serves_36 : decode cX6_serves 36 = .ok (.getfield 124, 3) := by decide +kernel
theorem dX6_serves_39 : decode cX6_serves 39 = .ok (.if_icmp .ge 28, 3) := by decide +kernel
theorem dX6_serves_42 : decode cX6_serves 42 = .ok (.iload_n 2, 1) := by decide +kernel
theorem dX6_serves_43 : decode cX6_serves 43 = .ok (.aload_n 0, 1) := by decide +kernel
theorem dX6_serves_44 : decode cX6_serves 44 = .ok (.getfield 22, 3) := by decide +kernel
theorem dX6_serves_47 : decode cX6_serves 47 = .ok (.iload 4, 2) := by decide +kernel
theorem dX6_serves_49 : decode cX6_serves 49 = .ok (.iaload, 1) := by decide +kernel
theorem dX6_serves_50 : decode cX6_serves 50 = .ok (.iload_n 1, 1) := by decide +kernel
theorem dX6_serves_51 : decode cX6_serves 51 = .ok (.if_icmp .ne 7, 3) := by decide +kernel
theorem dX6_serves_54 : decode cX6_serves 54 = .ok (.iconst 1, 1) := by decide +kernel
theorem dX6_serves_55 : decode cX6_serves 55 = .ok (.goto 4, 3) := by decide +kernel
theorem dX6_serves_58 : decode cX6_serves 58 = .ok (.iconst 0, 1) := by decide +kernel
theorem dX6_serves_59 : decode cX6_serves 59 = .ok (.iadd, 1) := by decide +kernel
theorem dX6_serves_60 : decode cX6_serves 60 = .ok (.istore_n 2, 1) := by decide +kernel
theorem dX6_serves_61 : decode cX6_serves 61 = .ok (.iinc 4 1, 3) := by decide +kernel
theorem dX6_serves_64 : decode cX6_serves 64 = .ok (.goto (-31), 3) := by decide +kernel
theorem dX6_serves_67 : decode cX6_serves 67 = .ok (.iinc 3 1, 3) := by decide +kernel
theorem dX6_serves_70 : decode cX6_serves 70 = .ok (.goto (-53), 3) := by decide +kernel
theorem dX6_serves_73 : decode cX6_serves 73 = .ok (.iload_n 2, 1) := by decide +kernel
theorem dX6_serves_74 : decode cX6_serves 74 = .ok (.ireturn, 1) := by decide +kernel
set_option maxRecDepth 20000 in
theorem ggX6_twins_X6_in : GoodIn wsX6_twins wsX6_in := goodIn_r _ [6] (by decide +kernel) (by decide +kernel)
set_option maxRecDepth 20000 in
theorem gX6_twins_X6_in : GoodIn wsX6_twins (va_wsS RX6 44 yX6_in wsX6_in) := goodIn_app (goodIn_of _ (by decide +kernel)) ggX6_twins_X6_in
set_option maxRecDepth 20000 in
theorem ggX6_twins_X6_bad : GoodIn wsX6_twins wsX6_bad := goodIn_r _ [10, 11, 38, 39, 40, 41, 42, 43, 44, 45, 46, 47, 48, 49, 50, 51, 52, 53, 54, 55, 56, 57, 58] (by decide +kernel) (by decide +kernel)
set_option maxRecDepth 20000 in
theorem gX6_twins_X6_bad : GoodIn wsX6_twins (wsV RX6 59 RX6 yX6_bad wsX6_bad) := goodIn_app (goodIn_of _ (by decide +kernel)) ggX6_twins_X6_bad
set_option maxRecDepth 20000 in
theorem ggX6_twins_X6_distanceOf : GoodIn wsX6_twins wsX6_distanceOf := goodIn_r _ [15, 2, 16, 17, 18, 19, 20, 5, 21, 22, 23, 24, 25, 38, 39, 40, 41, 42, 43, 44, 45, 46, 47, 48, 49, 50, 51, 52, 53, 54, 55, 56, 57, 58] (by decide +kernel) (by decide +kernel)
set_option maxRecDepth 20000 in
theorem gX6_twins_X6_distanceOf : GoodIn wsX6_twins (wsV RX6 114 RX6 yX6_distanceOf wsX6_distanceOf) := goodIn_app (goodIn_of _ (by decide +kernel)) ggX6_twins_X6_distanceOf
set_option maxRecDepth 20000 in
theorem ggX6_twins_Jxf58ca_floatToIntBits_5c35a : GoodIn wsX6_twins wsJxf58ca_floatToIntBits_5c35a := goodIn_r _ [29, 30, 31, 32, 33, 34, 35, 36, 28, 37] (by decide +kernel) (by decide +kernel)
set_option maxRecDepth 20000 in
theorem gX6_twins_Jxf58ca_floatToIntBits_5c35a : GoodIn wsX6_twins (va_wsS RX6 118 yJxf58ca_floatToIntBits_5c35a wsJxf58ca_floatToIntBits_5c35a) := goodIn_app (goodIn_of _ (by decide +kernel)) ggX6_twins_Jxf58ca_floatToIntBits_5c35a
theorem dX6_twins_0 : decode cX6_twins 0 = .ok (.iload_n 1, 1) := by decide +kernel
theorem dX6_twins_1 : decode cX6_twins 1 = .ok (.iconst 0, 1) := by decide +kernel
theorem dX6_twins_2 : decode cX6_twins 2 = .ok (.iconst 2, 1) := by decide +kernel
theorem dX6_twins_3 : decode cX6_twins 3 = .ok (.invokestatic 44, 3) := by decide +kernel
theorem dX6_twins_6 : decode cX6_twins 6 = .ok (.ifCond .ne 8, 3) := by decide +kernel
theorem dX6_twins_9 : decode cX6_twins 9 = .ok (.aload_n 0, 1) := by decide +kernel
theorem dX6_twins_10 : decode cX6_twins 10 = .ok (.invokevirtual 59, 3) := by decide +kernel
theorem dX6_twins_13 : decode cX6_twins 13 = .ok (.ireturn, 1) := by decide +kernel
theorem dX6_twins_14 : decode cX6_twins 14 = .ok (.iconst (-1), 1) := by decide +kernel
theorem dX6_twins_15 : decode cX6_twins 15 = .ok (.istore_n 2, 1) := by decide +kernel
theorem dX6_twins_16 : decode cX6_twins 16 = .ok (.iconst (-1), 1) := by decide +kernel
theorem dX6_twins_17 : decode cX6_twins 17 = .ok (.istore_n 3, 1) := by decide +kernel
theorem dX6_twins_18 : decode cX6_twins 18 = .ok (.fconst 0, 1) := by decide +kernel
theorem dX6_twins_19 : decode cX6_twins 19 = .ok (.fstore 4, 2) := by decide +kernel
theorem dX6_twins_21 : decode cX6_twins 21 = .ok (.iconst 0, 1) := by decide +kernel
theorem dX6_twins_22 : decode cX6_twins 22 = .ok (.istore 5, 2) := by decide +kernel
theorem dX6_twins_24 : decode cX6_twins 24 = .ok (.iload 5, 2) := by decide +kernel
theorem dX6_twins_26 : decode cX6_twins 26 = .ok (.aload_n 0, 1) := by decide +kernel
theorem dX6_twins_27 : decode cX6_twins 27 = .ok (.getfield 48, 3) := by decide +kernel
theorem dX6_twins_30 : decode cX6_twins 30 = .ok (.if_icmp .ge 70, 3) := by decide +kernel
theorem dX6_twins_33 : decode cX6_twins 33 = .ok (.iload 5, 2) := by decide +kernel
theorem dX6_twins_35 : decode cX6_twins 35 = .ok (.iconst 1, 1) := by decide +kernel
theorem dX6_twins_36 : decode cX6_twins 36 = .ok (.iadd, 1) := by decide +kernel
theorem dX6_twins_37 : decode cX6_twins 37 = .ok (.istore 6, 2) := by decide +kernel
theorem dX6_twins_39 : decode cX6_twins 39 = .ok (.iload 6, 2) := by decide +kernel
theorem dX6_twins_41 : decode cX6_twins 41 = .ok (.aload_n 0, 1) := by decide +kernel
theorem dX6_twins_42 : decode cX6_twins 42 = .ok (.getfield 48, 3) := by decide +kernel
theorem dX6_twins_45 : decode cX6_twins 45 = .ok (.if_icmp .ge 49, 3) := by decide +kernel
theorem dX6_twins_48 : decode cX6_twins 48 = .ok (.aload_n 0, 1) := by decide +kernel
theorem dX6_twins_49 : decode cX6_twins 49 = .ok (.iload 5, 2) := by decide +kernel
theorem dX6_twins_51 : decode cX6_twins 51 = .ok (.iload 6, 2) := by decide +kernel
theorem dX6_twins_53 : decode cX6_twins 53 = .ok (.invokevirtual 114, 3) := by decide +kernel
theorem dX6_twins_56 : decode cX6_twins 56 = .ok (.fstore 7, 2) := by decide +kernel
theorem dX6_twins_58 : decode cX6_twins 58 = .ok (.aload_n 0, 1) := by decide +kernel
theorem dX6_twins_59 : decode cX6_twins 59 = .ok (.getfield 102, 3) := by decide +kernel
theorem dX6_twins_62 : decode cX6_twins 62 = .ok (.ifCond .eq 26, 3) := by decide +kernel
theorem dX6_twins_65 : decode cX6_twins 65 = .ok (.iload_n 2, 1) := by decide +kernel
theorem dX6_twins_66 : decode cX6_twins 66 = .ok (.iconst (-1), 1) := by decide +kernel
theorem dX6_twins_67 : decode cX6_twins 67 = .ok (.if_icmp .eq 11, 3) := by decide +kernel
theorem dX6_twins_70 : decode cX6_twins 70 = .ok (.fload 7, 2) := by decide +kernel
theorem dX6_twins_72 : decode cX6_twins 72 = .ok (.fload 4, 2) := by decide +kernel
theorem dX6_twins_74 : decode cX6_twins 74 = .ok (.fcmp .g, 1) := by decide +kernel
theorem dX6_twins_75 : decode cX6_twins 75 = .ok (.ifCond .ge 13, 3) := by decide +kernel
theorem dX6_twins_78 : decode cX6_twins 78 = .ok (.iload 5, 2) := by decide +kernel
theorem dX6_twins_80 : decode cX6_twins 80 = .ok (.istore_n 2, 1) := by decide +kernel
theorem dX6_twins_81 : decode cX6_twins 81 = .ok (.iload 6, 2) := by decide +kernel
theorem dX6_twins_83 : decode cX6_twins 83 = .ok (.istore_n 3, 1) := by decide +kernel
theorem dX6_twins_84 : decode cX6_twins 84 = .ok (.fload 7, 2) := by decide +kernel
theorem dX6_twins_86 : decode cX6_twins 86 = .ok (.fstore 4, 2) := by decide +kernel
theorem dX6_twins_88 : decode cX6_twins 88 = .ok (.iinc 6 1, 3) := by decide +kernel
theorem dX6_twins_91 : decode cX6_twins 91 = .ok (.goto (-52), 3) := by decide +kernel
theorem dX6_twins_94 : decode cX6_twins 94 = .ok (.iinc 5 1, 3) := by decide +kernel
theorem dX6_twins_97 : decode cX6_twins 97 = .ok (.goto (-73), 3) := by decide +kernel
theorem dX6_twins_100 : decode cX6_twins 100 = .ok (.iload_n 1, 1) := by decide +kernel
theorem dX6_twins_101 : decode cX6_twins 101 = .ok (.ifCond .eq 8, 3) := by decide +kernel
theorem dX6_twins_104 : decode cX6_twins 104 = .ok (.iload_n 2, 1) := by decide +kernel
theorem dX6_twins_105 : decode cX6_twins 105 = .ok (.iconst (-1), 1) := by decide +kernel
theorem dX6_twins_106 : decode cX6_twins 106 = .ok (.if_icmp .ne 7, 3) := by decide +kernel
theorem dX6_twins_109 : decode cX6_twins 109 = .ok (.iload_n 2, 1) := by decide +kernel
theorem dX6_twins_110 : decode cX6_twins 110 = .ok (.goto 17, 3) := by decide +kernel
theorem dX6_twins_113 : decode cX6_twins 113 = .ok (.iload_n 1, 1) := by decide +kernel
theorem dX6_twins_114 : decode cX6_twins 114 = .ok (.iconst 1, 1) := by decide +kernel
theorem dX6_twins_115 : decode cX6_twins 115 = .ok (.if_icmp .ne 7, 3) := by decide +kernel
theorem dX6_twins_118 : decode cX6_twins 118 = .ok (.iload_n 3, 1) := by decide +kernel
theorem dX6_twins_119 : decode cX6_twins 119 = .ok (.goto 8, 3) := by decide +kernel
theorem dX6_twins_122 : decode cX6_twins 122 = .ok (.fload 4, 2) := by decide +kernel
theorem dX6_twins_124 : decode cX6_twins 124 = .ok (.invokestatic 118, 3) := by decide +kernel
theorem dX6_twins_127 : decode cX6_twins 127 = .ok (.ireturn, 1) := by decide +kernel
set_option maxRecDepth 20000 in
theorem ggX6_strangers_X6_isDay : GoodIn wsX6_strangers wsX6_isDay := goodIn_r _ [7, 1, 8, 9, 6, 10, 30, 31, 32, 33, 34, 35, 36, 37, 38, 39, 40, 41, 42, 43, 44, 45, 46, 47, 48, 49, 50] (by decide +kernel) (by decide +kernel)
set_option maxRecDepth 20000 in
theorem gX6_strangers_X6_isDay : GoodIn wsX6_strangers (wsV RX6 73 RX6 yX6_isDay wsX6_isDay) := goodIn_app (goodIn_of _ (by decide +kernel)) ggX6_strangers_X6_isDay
set_option maxRecDepth 20000 in
theorem ggX6_strangers_X6_bad : GoodIn wsX6_strangers wsX6_bad := goodIn_r _ [14, 15, 30, 31, 32, 33, 34, 35, 36, 37, 38, 39, 40, 41, 42, 43, 44, 45, 46, 47, 48, 49, 50] (by decide +kernel) (by decide +kernel)
set_option maxRecDepth 20000 in
theorem gX6_strangers_X6_bad : GoodIn wsX6_strangers (wsV RX6 59 RX6 yX6_bad wsX6_bad) := goodIn_app (goodIn_of _ (by decide +kernel)) ggX6_strangers_X6_bad
set_option maxRecDepth 20000 in
theorem ggX6_strangers_X6_distanceOf : GoodIn wsX6_strangers wsX6_distanceOf := goodIn_r _ [19, 2, 20, 21, 22, 23, 24, 6, 25, 26, 27, 28, 29, 30, 31, 32, 33, 34, 35, 36, 37, 38, 39, 40, 41, 42, 43, 44, 45, 46, 47, 48, 49, 50] (by decide +kernel) (by decide +kernel)
set_option maxRecDepth 20000 in
theorem gX6_strangers_X6_distanceOf : GoodIn wsX6_strangers (wsV RX6 114 RX6 yX6_distanceOf wsX6_distanceOf) := goodIn_app (goodIn_of _ (by decide +kernel)) ggX6_strangers_X6_distanceOf
theorem dX6_strangers_0 : decode cX6_strangers 0 = .ok (.aload_n 0, 1) := by decide +kernel
theorem dX6_strangers_1 : decode cX6_strangers 1 = .ok (.iload_n 1, 1) := by decide +kernel
theorem dX6_strangers_2 : decode cX6_strangers 2 = .ok (.invokevirtual 73, 3) := by decide +kernel
theorem dX6_strangers_5 : decode cX6_strangers 5 = .ok (.ifCond .ne 8, 3) := by decide +kernel
theorem dX6_strangers_8 : decode cX6_strangers 8 = .ok (.aload_n 0, 1) := by decide +kernel
theorem dX6_strangers_9 : decode cX6_strangers 9 = .ok (.invokevirtual 59, 3) := by decide +kernel
theorem dX6_strangers_12 : decode cX6_strangers 12 = .ok (.ireturn, 1) := by decide +kernel
theorem dX6_strangers_13 : decode cX6_strangers 13 = .ok (.iconst 0, 1) := by decide +kernel
theorem dX6_strangers_14 : decode cX6_strangers 14 = .ok (.istore_n 2, 1) := by decide +kernel
theorem dX6_strangers_15 : decode cX6_strangers 15 = .ok (.iconst 0, 1) := by decide +kernel
theorem dX6_strangers_16 : decode cX6_strangers 16 = .ok (.istore_n 3, 1) := by decide +kernel
theorem dX6_strangers_17 : decode cX6_strangers 17 = .ok (.iload_n 3, 1) := by decide +kernel
theorem dX6_strangers_18 : decode cX6_strangers 18 = .ok (.aload_n 0, 1) := by decide +kernel
theorem dX6_strangers_19 : decode cX6_strangers 19 = .ok (.getfield 48, 3) := by decide +kernel
theorem dX6_strangers_22 : decode cX6_strangers 22 = .ok (.if_icmp .ge 36, 3) := by decide +kernel
theorem dX6_strangers_25 : decode cX6_strangers 25 = .ok (.iload_n 3, 1) := by decide +kernel
theorem dX6_strangers_26 : decode cX6_strangers 26 = .ok (.iload_n 1, 1) := by decide +kernel
theorem dX6_strangers_27 : decode cX6_strangers 27 = .ok (.if_icmp .eq 25, 3) := by decide +kernel
theorem dX6_strangers_30 : decode cX6_strangers 30 = .ok (.aload_n 0, 1) := by decide +kernel
theorem dX6_strangers_31 : decode cX6_strangers 31 = .ok (.iload_n 1, 1) := by decide +kernel
theorem dX6_strangers_32 : decode cX6_strangers 32 = .ok (.iload_n 3, 1) := by decide +kernel
theorem dX6_strangers_33 : decode cX6_strangers 33 = .ok (.invokevirtual 114, 3) := by decide +kernel
theorem dX6_strangers_36 : decode cX6_strangers 36 = .ok (.pop, 1) := by decide +kernel
theorem dX6_strangers_37 : decode cX6_strangers 37 = .ok (.iload_n 2, 1) := by decide +kernel
theorem dX6_strangers_38 : decode cX6_strangers 38 = .ok (.aload_n 0, 1) := by decide +kernel
theorem dX6_strangers_39 : decode cX6_strangers 39 = .ok (.getfield 102, 3) := by decide +kernel
theorem dX6_strangers_42 : decode cX6_strangers 42 = .ok (.ifCond .eq 7, 3) := by decide +kernel
theorem dX6_strangers_45 : decode cX6_strangers 45 = .ok (.iconst 0, 1) := by decide +kernel
theorem dX6_strangers_46 : decode cX6_strangers 46 = .ok (.goto 4, 3) := by decide +kernel
theorem dX6_strangers_49 : decode cX6_strangers 49 = .ok (.iconst 1, 1) := by decide +kernel
theorem dX6_strangers_50 : decode cX6_strangers 50 = .ok (.iadd, 1) := by decide +kernel
theorem dX6_strangers_51 : decode cX6_strangers 51 = .ok (.istore_n 2, 1) := by decide +kernel
theorem dX6_strangers_52 : decode cX6_strangers 52 = .ok (.iinc 3 1, 3) := by decide +kernel
theorem dX6_strangers_55 : decode cX6_strangers 55 = .ok (.goto (-38), 3) := by decide +kernel
theorem dX6_strangers_58 : decode cX6_strangers 58 = .ok (.iload_n 2, 1) := by decide +kernel
theorem dX6_strangers_59 : decode cX6_strangers 59 = .ok (.ireturn, 1) := by decide +kernel
set_option maxRecDepth 20000 in
theorem ggX6_setFollowers_X6_setNearest : GoodIn wsX6_setFollowers wsX6_setNearest := goodIn_r _ [13, 2, 14, 15, 16, 17, 12, 18, 19, 20, 7, 4, 21, 22, 23, 24, 25, 26, 27, 28, 3, 29, 30, 31, 32, 33, 34, 35, 36, 37, 38, 39, 40, 41, 42, 43, 44, 45, 46, 47, 48, 49, 50, 51, 52, 53, 54, 55, 56, 57] (by decide +kernel) (by decide +kernel)
set_option maxRecDepth 20000 in
theorem gX6_setFollowers_X6_setNearest : GoodIn wsX6_setFollowers (wsV RX6 135 RX6 yX6_setNearest wsX6_setNearest) := goodIn_app (goodIn_of _ (by decide +kernel)) ggX6_setFollowers_X6_setNearest
set_option maxRecDepth 20000 in
theorem ggX6_setFollowers_X6_isNoted : GoodIn wsX6_setFollowers wsX6_isNoted := goodIn_r _ [32] (by decide +kernel) (by decide +kernel)
set_option maxRecDepth 20000 in
theorem gX6_setFollowers_X6_isNoted : GoodIn wsX6_setFollowers (va_wsS RX6 106 yX6_isNoted wsX6_isNoted) := goodIn_app (goodIn_of _ (by decide +kernel)) ggX6_setFollowers_X6_isNoted
theorem dX6_setFollowers_0 : decode cX6_setFollowers 0 = .ok (.aload_n 0, 1) := by decide +kernel
theorem dX6_setFollowers_1 : decode cX6_setFollowers 1 = .ok (.iload_n 1, 1) := by decide +kernel
theorem dX6_setFollowers_2 : decode cX6_setFollowers 2 = .ok (.invokevirtual 135, 3) := by decide +kernel
theorem dX6_setFollowers_5 : decode cX6_setFollowers 5 = .ok (.aload_n 0, 1) := by decide +kernel
theorem dX6_setFollowers_6 : decode cX6_setFollowers 6 = .ok (.iconst 0, 1) := by decide +kernel
theorem dX6_setFollowers_7 : decode cX6_setFollowers 7 = .ok (.putfield 138, 3) := by decide +kernel
theorem dX6_setFollowers_10 : decode cX6_setFollowers 10 = .ok (.iconst 0, 1) := by decide +kernel
theorem dX6_setFollowers_11 : decode cX6_setFollowers 11 = .ok (.istore_n 3, 1) := by decide +kernel
theorem dX6_setFollowers_12 : decode cX6_setFollowers 12 = .ok (.iload_n 3, 1) := by decide +kernel
theorem dX6_setFollowers_13 : decode cX6_setFollowers 13 = .ok (.aload_n 0, 1) := by decide +kernel
theorem dX6_setFollowers_14 : decode cX6_setFollowers 14 = .ok (.getfield 124, 3) := by decide +kernel
theorem dX6_setFollowers_17 : decode cX6_setFollowers 17 = .ok (.if_icmp .ge 72, 3) := by decide +kernel
theorem dX6_setFollowers_20 : decode cX6_setFollowers 20 = .ok (.aload_n 0, 1) := by decide +kernel
theorem dX6_setFollowers_21 : decode cX6_setFollowers 21 = .ok (.getfield 16, 3) := by decide +kernel
theorem dX6_setFollowers_24 : decode cX6_setFollowers 24 = .ok (.iconst 4, 1) := by decide +kernel
theorem dX6_setFollowers_25 : decode cX6_setFollowers 25 = .ok (.aload_n 0, 1) := by decide +kernel
theorem dX6_setFollowers_26 : decode cX6_setFollowers 26 = .ok (.getfield 22, 3) := by decide +kernel
theorem dX6_setFollowers_29 : decode cX6_setFollowers 29 = .ok (.iload_n 3, 1) := by decide +kernel
theorem dX6_setFollowers_30 : decode cX6_setFollowers 30 = .ok (.iaload, 1) := by decide +kernel
theorem dX6_setFollowers_31 : decode cX6_setFollowers 31 = .ok (.iconst 1, 1) := by decide +kernel
theorem dX6_setFollowers_32 : decode cX6_setFollowers 32 = .ok (.iadd, 1) := by decide +kernel
theorem dX6_setFollowers_33 : decode cX6_setFollowers 33 = .ok (.imul, 1) := by decide +kernel
theorem dX6_setFollowers_34 : decode cX6_setFollowers 34 = .ok (.iload_n 2, 1) := by decide +kernel
theorem dX6_setFollowers_35 : decode cX6_setFollowers 35 = .ok (.iadd, 1) := by decide +kernel
theorem dX6_setFollowers_36 : decode cX6_setFollowers 36 = .ok (.iaload, 1) := by decide +kernel
theorem dX6_setFollowers_37 : decode cX6_setFollowers 37 = .ok (.istore 4, 2) := by decide +kernel
theorem dX6_setFollowers_39 : decode cX6_setFollowers 39 = .ok (.iload 4, 2) := by decide +kernel
theorem dX6_setFollowers_41 : decode cX6_setFollowers 41 = .ok (.invokestatic 106, 3) := by decide +kernel
theorem dX6_setFollowers_44 : decode cX6_setFollowers 44 = .ok (.ifCond .eq 39, 3) := by decide +kernel
theorem dX6_setFollowers_47 : decode cX6_setFollowers 47 = .ok (.aload_n 0, 1) := by decide +kernel
theorem dX6_setFollowers_48 : decode cX6_setFollowers 48 = .ok (.getfield 29, 3) := by decide +kernel
theorem dX6_setFollowers_51 : decode cX6_setFollowers 51 = .ok (.aload_n 0, 1) := by decide +kernel
theorem dX6_setFollowers_52 : decode cX6_setFollowers 52 = .ok (.getfield 138, 3) := by decide +kernel
theorem dX6_setFollowers_55 : decode cX6_setFollowers 55 = .ok (.iload 4, 2) := by decide +kernel
theorem dX6_setFollowers_57 : decode cX6_setFollowers 57 = .ok (.iastore, 1) := by decide +kernel
theorem dX6_setFollowers_58 : decode cX6_setFollowers 58 = .ok (.aload_n 0, 1) := by decide +kernel
theorem dX6_setFollowers_59 : decode cX6_setFollowers 59 = .ok (.getfield 32, 3) := by decide +kernel
theorem dX6_setFollowers_62 : decode cX6_setFollowers 62 = .ok (.aload_n 0, 1) := by decide +kernel
theorem dX6_setFollowers_63 : decode cX6_setFollowers 63 = .ok (.getfield 138, 3) := by decide +kernel
theorem dX6_setFollowers_66 : decode cX6_setFollowers 66 = .ok (.aload_n 0, 1) := by decide +kernel
theorem dX6_setFollowers_67 : decode cX6_setFollowers 67 = .ok (.getfield 25, 3) := by decide +kernel
theorem dX6_setFollowers_70 : decode cX6_setFollowers 70 = .ok (.iload_n 3, 1) := by decide +kernel
theorem dX6_setFollowers_71 : decode cX6_setFollowers 71 = .ok (.faload, 1) := by decide +kernel
theorem dX6_setFollowers_72 : decode cX6_setFollowers 72 = .ok (.fastore, 1) := by decide +kernel
theorem dX6_setFollowers_73 : decode cX6_setFollowers 73 = .ok (.aload_n 0, 1) := by decide +kernel
theorem dX6_setFollowers_74 : decode cX6_setFollowers 74 = .ok (.dup, 1) := by decide +kernel
theorem dX6_setFollowers_75 : decode cX6_setFollowers 75 = .ok (.getfield 138, 3) := by decide +kernel
theorem dX6_setFollowers_78 : decode cX6_setFollowers 78 = .ok (.iconst 1, 1) := by decide +kernel
theorem dX6_setFollowers_79 : decode cX6_setFollowers 79 = .ok (.iadd, 1) := by decide +kernel
theorem dX6_setFollowers_80 : decode cX6_setFollowers 80 = .ok (.putfield 138, 3) := by decide +kernel
theorem dX6_setFollowers_83 : decode cX6_setFollowers 83 = .ok (.iinc 3 1, 3) := by decide +kernel
theorem dX6_setFollowers_86 : decode cX6_setFollowers 86 = .ok (.goto (-74), 3) := by decide +kernel
theorem dX6_setFollowers_89 : decode cX6_setFollowers 89 = .ok (.iconst 0, 1) := by decide +kernel
theorem dX6_setFollowers_90 : decode cX6_setFollowers 90 = .ok (.istore_n 3, 1) := by decide +kernel
theorem dX6_setFollowers_91 : decode cX6_setFollowers 91 = .ok (.iload_n 3, 1) := by decide +kernel
theorem dX6_setFollowers_92 : decode cX6_setFollowers 92 = .ok (.aload_n 0, 1) := by decide +kernel
theorem dX6_setFollowers_93 : decode cX6_setFollowers 93 = .ok (.getfield 138, 3) := by decide +kernel
theorem dX6_setFollowers_96 : decode cX6_setFollowers 96 = .ok (.if_icmp .ge 70, 3) := by decide +kernel
theorem dX6_setFollowers_99 : decode cX6_setFollowers 99 = .ok (.iload_n 3, 1) := by decide +kernel
theorem dX6_setFollowers_100 : decode cX6_setFollowers 100 = .ok (.istore 4, 2) := by decide +kernel
theorem dX6_setFollowers_102 : decode cX6_setFollowers 102 = .ok (.iload 4, 2) := by decide +kernel
theorem dX6_setFollowers_104 : decode cX6_setFollowers 104 = .ok (.ifCond .le 43, 3) := by decide +kernel
theorem dX6_setFollowers_107 : decode cX6_setFollowers 107 = .ok (.aload_n 0, 1) := by decide +kernel
theorem dX6_setFollowers_108 : decode cX6_setFollowers 108 = .ok (.getfield 35, 3) := by decide +kernel
theorem dX6_setFollowers_111 : decode cX6_setFollowers 111 = .ok (.iload 4, 2) := by decide +kernel
theorem dX6_setFollowers_113 : decode cX6_setFollowers 113 = .ok (.iconst 1, 1) := by decide +kernel
theorem dX6_setFollowers_114 : decode cX6_setFollowers 114 = .ok (.isub, 1) := by decide +kernel
theorem dX6_setFollowers_115 : decode cX6_setFollowers 115 = .ok (.iaload, 1) := by decide +kernel
theorem dX6_setFollowers_116 : decode cX6_setFollowers 116 = .ok (.aload_n 0, 1) := by decide +kernel
theorem dX6_setFollowers_117 : decode cX6_setFollowers 117 = .ok (.getfield 29, 3) := by decide +kernel
theorem dX6_setFollowers_120 : decode cX6_setFollowers 120 = .ok (.iload_n 3, 1) := by decide +kernel
theorem dX6_setFollowers_121 : decode cX6_setFollowers 121 = .ok (.iaload, 1) := by decide +kernel
theorem dX6_setFollowers_122 : decode cX6_setFollowers 122 = .ok (.if_icmp .le 25, 3) := by decide +kernel
theorem dX6_setFollowers_125 : decode cX6_setFollowers 125 = .ok (.aload_n 0, 1) := by decide +kernel
theorem dX6_setFollowers_126 : decode cX6_setFollowers 126 = .ok (.getfield 35, 3) := by decide +kernel
theorem dX6_setFollowers_129 : decode cX6_setFollowers 129 = .ok (.iload 4, 2) := by decide +kernel
theorem dX6_setFollowers_131 : decode cX6_setFollowers 131 = .ok (.aload_n 0, 1) := by decide +kernel
theorem dX6_setFollowers_132 : decode cX6_setFollowers 132 = .ok (.getfield 35, 3) := by decide +kernel
theorem dX6_setFollowers_135 : decode cX6_setFollowers 135 = .ok (.iload 4, 2) := by decide +kernel
theorem dX6_setFollowers_137 : decode cX6_setFollowers 137 = .ok (.iconst 1, 1) := by decide +kernel
theorem dX6_setFollowers_138 : decode cX6_setFollowers 138 = .ok (.isub, 1) := by decide +kernel
theorem dX6_setFollowers_139 : decode cX6_setFollowers 139 = .ok (.iaload, 1) := by decide +kernel
theorem dX6_setFollowers_140 : decode cX6_setFollowers 140 = .ok (.iastore, 1) := by decide +kernel
theorem dX6_setFollowers_141 : decode cX6_setFollowers 141 = .ok (.iinc 4 (-1), 3) := by decide +kernel
theorem dX6_setFollowers_144 : decode cX6_setFollowers 144 = .ok (.goto (-42), 3) := by decide +kernel
theorem dX6_setFollowers_147 : decode cX6_setFollowers 147 = .ok (.aload_n 0, 1) := by decide +kernel
theorem dX6_setFollowers_148 : decode cX6_setFollowers 148 = .ok (.getfield 35, 3) := by decide +kernel
theorem dX6_setFollowers_151 : decode cX6_setFollowers 151 = .ok (.iload 4, 2) := by decide +kernel
theorem dX6_setFollowers_153 : decode cX6_setFollowers 153 = .ok (.aload_n 0, 1) := by decide +kernel
theorem dX6_setFollowers_154 : decode cX6_setFollowers 154 = .ok (.getfield 29, 3) := by decide +kernel
theorem dX6_setFollowers_157 : decode cX6_setFollowers 157 = .ok (.iload_n 3, 1) := by decide +kernel
theorem dX6_setFollowers_158 : decode cX6_setFollowers 158 = .ok (.iaload, 1) := by decide +kernel
theorem dX6_setFollowers_159 : decode cX6_setFollowers 159 = .ok (.iastore, 1) := by decide +kernel
theorem dX6_setFollowers_160 : decode cX6_setFollowers 160 = .ok (.iinc 3 1, 3) := by decide +kernel
theorem dX6_setFollowers_163 : decode cX6_setFollowers 163 = .ok (.goto (-72), 3) := by decide +kernel
theorem dX6_setFollowers_166 : decode cX6_setFollowers 166 = .ok (.return_, 1) := by decide +kernel
set_option maxRecDepth 20000 in
theorem ggX6_follows_X6_isDay : GoodIn wsX6_follows wsX6_isDay := goodIn_r _ [7, 8, 9, 10, 6, 11, 56, 57, 58, 59, 60, 61, 62, 63, 64, 65, 66, 67, 68, 69, 70, 71, 72, 73, 74, 75, 76] (by decide +kernel) (by decide +kernel)
set_option maxRecDepth 20000 in
theorem gX6_follows_X6_isDay : GoodIn wsX6_follows (wsV RX6 73 RX6 yX6_isDay wsX6_isDay) := goodIn_app (goodIn_of _ (by decide +kernel)) ggX6_follows_X6_isDay
set_option maxRecDepth 20000 in
theorem ggX6_follows_X6_isMember : GoodIn wsX6_follows wsX6_isMember := goodIn_r _ [14, 9, 10, 6, 11] (by decide +kernel) (by decide +kernel)
set_option maxRecDepth 20000 in
theorem gX6_follows_X6_isMember : GoodIn wsX6_follows (va_wsS RX6 76 yX6_isMember wsX6_isMember) := goodIn_app (goodIn_of _ (by decide +kernel)) ggX6_follows_X6_isMember
set_option maxRecDepth 20000 in
theorem ggX6_follows_X6_in : GoodIn wsX6_follows wsX6_in := goodIn_r _ [11] (by decide +kernel) (by decide +kernel)
set_option maxRecDepth 20000 in
theorem gX6_follows_X6_in : GoodIn wsX6_follows (va_wsS RX6 44 yX6_in wsX6_in) := goodIn_app (goodIn_of _ (by decide +kernel)) ggX6_follows_X6_in
set_option maxRecDepth 20000 in
theorem ggX6_follows_X6_badly : GoodIn wsX6_follows wsX6_badly := goodIn_r _ [18, 19, 56, 57, 58, 59, 60, 61, 62, 63, 64, 65, 66, 67, 68, 69, 70, 71, 72, 73, 74, 75, 76] (by decide +kernel) (by decide +kernel)
set_option maxRecDepth 20000 in
theorem gX6_follows_X6_badly : GoodIn wsX6_follows (wsV RX6 79 RX6 yX6_badly wsX6_badly) := goodIn_app (goodIn_of _ (by decide +kernel)) ggX6_follows_X6_badly
set_option maxRecDepth 20000 in
theorem ggX6_follows_X6_setFollowers : GoodIn wsX6_follows wsX6_setFollowers := goodIn_r _ [23, 1, 24, 25, 26, 27, 28, 29, 2, 30, 31, 32, 6, 33, 34, 35, 36, 37, 38, 8, 39, 40, 41, 42, 43, 44, 45, 46, 47, 48, 49, 50, 51, 52, 53, 54, 55, 56, 57, 58, 59, 60, 61, 62, 63, 64, 65, 66, 67, 68, 69, 70, 71, 72, 73, 74, 75, 76] (by decide +kernel) (by decide +kernel)
set_option maxRecDepth 20000 in
theorem gX6_follows_X6_setFollowers : GoodIn wsX6_follows (wsV RX6 141 RX6 yX6_setFollowers wsX6_setFollowers) := goodIn_app (goodIn_of _ (by decide +kernel)) ggX6_follows_X6_setFollowers
theorem dX6_follows_0 : decode cX6_follows 0 = .ok (.aload_n 0, 1) := by decide +kernel
theorem dX6_follows_1 : decode cX6_follows 1 = .ok (.iload_n 1, 1) := by decide +kernel
theorem dX6_follows_2 : decode cX6_follows 2 = .ok (.invokevirtual 73, 3) := by decide +kernel
theorem dX6_follows_5 : decode cX6_follows 5 = .ok (.ifCond .eq 29, 3) := by decide +kernel
theorem dX6_follows_8 : decode cX6_follows 8 = .ok (.iload_n 2, 1) := by decide +kernel
theorem dX6_follows_9 : decode cX6_follows 9 = .ok (.invokestatic 76, 3) := by decide +kernel
theorem dX6_follows_12 : decode cX6_follows 12 = .ok (.ifCond .eq 22, 3) := by decide +kernel
theorem dX6_follows_15 : decode cX6_follows 15 = .ok (.iload_n 3, 1) := by decide +kernel
theorem dX6_follows_16 : decode cX6_follows 16 = .ok (.iconst 0, 1) := by decide +kernel
theorem dX6_follows_17 : decode cX6_follows 17 = .ok (.iconst 5, 1) := by decide +kernel
theorem dX6_follows_18 : decode cX6_follows 18 = .ok (.invokestatic 44, 3) := by decide +kernel
theorem dX6_follows_21 : decode cX6_follows 21 = .ok (.ifCond .eq 13, 3) := by decide +kernel
theorem dX6_follows_24 : decode cX6_follows 24 = .ok (.iload 4, 2) := by decide +kernel
theorem dX6_follows_26 : decode cX6_follows 26 = .ok (.iconst 0, 1) := by decide +kernel
theorem dX6_follows_27 : decode cX6_follows 27 = .ok (.iconst 3, 1) := by decide +kernel
theorem dX6_follows_28 : decode cX6_follows 28 = .ok (.invokestatic 44, 3) := by decide +kernel
theorem dX6_follows_31 : decode cX6_follows 31 = .ok (.ifCond .ne 8, 3) := by decide +kernel
theorem dX6_follows_34 : decode cX6_follows 34 = .ok (.aload_n 0, 1) := by decide +kernel
theorem dX6_follows_35 : decode cX6_follows 35 = .ok (.invokevirtual 79, 3) := by decide +kernel
theorem dX6_follows_38 : decode cX6_follows 38 = .ok (.ireturn, 1) := by decide +kernel
theorem dX6_follows_39 : decode cX6_follows 39 = .ok (.aload_n 0, 1) := by decide +kernel
theorem dX6_follows_40 : decode cX6_follows 40 = .ok (.iload_n 1, 1) := by decide +kernel
theorem dX6_follows_41 : decode cX6_follows 41 = .ok (.iload_n 2, 1) := by decide +kernel
theorem dX6_follows_42 : decode cX6_follows 42 = .ok (.invokevirtual 141, 3) := by decide +kernel
theorem dX6_follows_45 : decode cX6_follows 45 = .ok (.aload_n 0, 1) := by decide +kernel
theorem dX6_follows_46 : decode cX6_follows 46 = .ok (.getfield 138, 3) := by decide +kernel
theorem dX6_follows_49 : decode cX6_follows 49 = .ok (.iconst 2, 1) := by decide +kernel
theorem dX6_follows_50 : decode cX6_follows 50 = .ok (.iload_n 3, 1) := by decide +kernel
theorem dX6_follows_51 : decode cX6_follows 51 = .ok (.imul, 1) := by decide +kernel
theorem dX6_follows_52 : decode cX6_follows 52 = .ok (.if_icmp .le 14, 3) := by decide +kernel
theorem dX6_follows_55 : decode cX6_follows 55 = .ok (.aload_n 0, 1) := by decide +kernel
theorem dX6_follows_56 : decode cX6_follows 56 = .ok (.getfield 138, 3) := by decide +kernel
theorem dX6_follows_59 : decode cX6_follows 59 = .ok (.iconst 2, 1) := by decide +kernel
theorem dX6_follows_60 : decode cX6_follows 60 = .ok (.iload_n 3, 1) := by decide +kernel
theorem dX6_follows_61 : decode cX6_follows 61 = .ok (.imul, 1) := by decide +kernel
theorem dX6_follows_62 : decode cX6_follows 62 = .ok (.isub, 1) := by decide +kernel
theorem dX6_follows_63 : decode cX6_follows 63 = .ok (.goto 4, 3) := by decide +kernel
theorem dX6_follows_66 : decode cX6_follows 66 = .ok (.iconst 0, 1) := by decide +kernel
theorem dX6_follows_67 : decode cX6_follows 67 = .ok (.istore 5, 2) := by decide +kernel
theorem dX6_follows_69 : decode cX6_follows 69 = .ok (.iload 4, 2) := by decide +kernel
theorem dX6_follows_71 : decode cX6_follows 71 = .ok (.ifCond .eq 9, 3) := by decide +kernel
theorem dX6_follows_74 : decode cX6_follows 74 = .ok (.iload 4, 2) := by decide +kernel
theorem dX6_follows_76 : decode cX6_follows 76 = .ok (.iconst 3, 1) := by decide +kernel
theorem dX6_follows_77 : decode cX6_follows 77 = .ok (.if_icmp .ne 18, 3) := by decide +kernel
theorem dX6_follows_80 : decode cX6_follows 80 = .ok (.iload 4, 2) := by decide +kernel
theorem dX6_follows_82 : decode cX6_follows 82 = .ok (.ifCond .ne 10, 3) := by decide +kernel
theorem dX6_follows_85 : decode cX6_follows 85 = .ok (.aload_n 0, 1) := by decide +kernel
theorem dX6_follows_86 : decode cX6_follows 86 = .ok (.getfield 138, 3) := by decide +kernel
theorem dX6_follows_89 : decode cX6_follows 89 = .ok (.goto 5, 3) := by decide +kernel
theorem dX6_follows_92 : decode cX6_follows 92 = .ok (.iload 5, 2) := by decide +kernel
theorem dX6_follows_94 : decode cX6_follows 94 = .ok (.ireturn, 1) := by decide +kernel
theorem dX6_follows_95 : decode cX6_follows 95 = .ok (.iload 5, 2) := by decide +kernel
theorem dX6_follows_97 : decode cX6_follows 97 = .ok (.ifCond .ne 9, 3) := by decide +kernel
theorem dX6_follows_100 : decode cX6_follows 100 = .ok (.sipush (-10000), 3) := by decide +kernel
theorem dX6_follows_103 : decode cX6_follows 103 = .ok (.goto 31, 3) := by decide +kernel
theorem dX6_follows_106 : decode cX6_follows 106 = .ok (.iload 4, 2) := by decide +kernel
theorem dX6_follows_108 : decode cX6_follows 108 = .ok (.iconst 1, 1) := by decide +kernel
theorem dX6_follows_109 : decode cX6_follows 109 = .ok (.if_icmp .ne 12, 3) := by decide +kernel
theorem dX6_follows_112 : decode cX6_follows 112 = .ok (.aload_n 0, 1) := by decide +kernel
theorem dX6_follows_113 : decode cX6_follows 113 = .ok (.getfield 35, 3) := by decide +kernel
theorem dX6_follows_116 : decode cX6_follows 116 = .ok (.iload_n 3, 1) := by decide +kernel
theorem dX6_follows_117 : decode cX6_follows 117 = .ok (.iaload, 1) := by decide +kernel
theorem dX6_follows_118 : decode cX6_follows 118 = .ok (.goto 16, 3) := by decide +kernel
theorem dX6_follows_121 : decode cX6_follows 121 = .ok (.aload_n 0, 1) := by decide +kernel
theorem dX6_follows_122 : decode cX6_follows 122 = .ok (.getfield 35, 3) := by decide +kernel
theorem dX6_follows_125 : decode cX6_follows 125 = .ok (.aload_n 0, 1) := by decide +kernel
theorem dX6_follows_126 : decode cX6_follows 126 = .ok (.getfield 138, 3) := by decide +kernel
theorem dX6_follows_129 : decode cX6_follows 129 = .ok (.iconst 1, 1) := by decide +kernel
theorem dX6_follows_130 : decode cX6_follows 130 = .ok (.isub, 1) := by decide +kernel
theorem dX6_follows_131 : decode cX6_follows 131 = .ok (.iload_n 3, 1) := by decide +kernel
theorem dX6_follows_132 : decode cX6_follows 132 = .ok (.isub, 1) := by decide +kernel
theorem dX6_follows_133 : decode cX6_follows 133 = .ok (.iaload, 1) := by decide +kernel
theorem dX6_follows_134 : decode cX6_follows 134 = .ok (.ireturn, 1) := by decide +kernel
set_option maxRecDepth 20000 in
theorem ggX6_meanNow_X6_value : GoodIn wsX6_meanNow wsX6_value := goodIn_r _ [7, 8] (by decide +kernel) (by decide +kernel)
set_option maxRecDepth 20000 in
theorem gX6_meanNow_X6_value : GoodIn wsX6_meanNow (va_wsS RX6 110 yX6_value wsX6_value) := goodIn_app (goodIn_of _ (by decide +kernel)) ggX6_meanNow_X6_value
theorem dX6_meanNow_0 : decode cX6_meanNow 0 = .ok (.fconst 0, 1) := by decide +kernel
theorem dX6_meanNow_1 : decode cX6_meanNow 1 = .ok (.fstore_n 1, 1) := by decide +kernel
theorem dX6_meanNow_2 : decode cX6_meanNow 2 = .ok (.fconst 0, 1) := by decide +kernel
theorem dX6_meanNow_3 : decode cX6_meanNow 3 = .ok (.fstore_n 2, 1) := by decide +kernel
theorem dX6_meanNow_4 : decode cX6_meanNow 4 = .ok (.iconst 0, 1) := by decide +kernel
theorem dX6_meanNow_5 : decode cX6_meanNow 5 = .ok (.istore_n 3, 1) := by decide +kernel
theorem dX6_meanNow_6 : decode cX6_meanNow 6 = .ok (.iload_n 3, 1) := by decide +kernel
theorem dX6_meanNow_7 : decode cX6_meanNow 7 = .ok (.aload_n 0, 1) := by decide +kernel
theorem dX6_meanNow_8 : decode cX6_meanNow 8 = .ok (.getfield 138, 3) := by decide +kernel
theorem dX6_meanNow_11 : decode cX6_meanNow 11 = .ok (.if_icmp .ge 43, 3) := by decide +kernel
theorem dX6_meanNow_14 : decode cX6_meanNow 14 = .ok (.fload_n 1, 1) := by decide +kernel
theorem dX6_meanNow_15 : decode cX6_meanNow 15 = .ok (.aload_n 0, 1) := by decide +kernel
theorem dX6_meanNow_16 : decode cX6_meanNow 16 = .ok (.getfield 29, 3) := by decide +kernel
theorem dX6_meanNow_19 : decode cX6_meanNow 19 = .ok (.iload_n 3, 1) := by decide +kernel
theorem dX6_meanNow_20 : decode cX6_meanNow 20 = .ok (.iaload, 1) := by decide +kernel
theorem dX6_meanNow_21 : decode cX6_meanNow 21 = .ok (.invokestatic 110, 3) := by decide +kernel
theorem dX6_meanNow_24 : decode cX6_meanNow 24 = .ok (.fconst 1, 1) := by decide +kernel
theorem dX6_meanNow_25 : decode cX6_meanNow 25 = .ok (.aload_n 0, 1) := by decide +kernel
theorem dX6_meanNow_26 : decode cX6_meanNow 26 = .ok (.getfield 32, 3) := by decide +kernel
theorem dX6_meanNow_29 : decode cX6_meanNow 29 = .ok (.iload_n 3, 1) := by decide +kernel
theorem dX6_meanNow_30 : decode cX6_meanNow 30 = .ok (.faload, 1) := by decide +kernel
theorem dX6_meanNow_31 : decode cX6_meanNow 31 = .ok (.fadd, 1) := by decide +kernel
theorem dX6_meanNow_32 : decode cX6_meanNow 32 = .ok (.fdiv, 1) := by decide +kernel
theorem dX6_meanNow_33 : decode cX6_meanNow 33 = .ok (.fadd, 1) := by decide +kernel
theorem dX6_meanNow_34 : decode cX6_meanNow 34 = .ok (.fstore_n 1, 1) := by decide +kernel
theorem dX6_meanNow_35 : decode cX6_meanNow 35 = .ok (.fload_n 2, 1) := by decide +kernel
theorem dX6_meanNow_36 : decode cX6_meanNow 36 = .ok (.fconst 1, 1) := by decide +kernel
theorem dX6_meanNow_37 : decode cX6_meanNow 37 = .ok (.fconst 1, 1) := by decide +kernel
theorem dX6_meanNow_38 : decode cX6_meanNow 38 = .ok (.aload_n 0, 1) := by decide +kernel
theorem dX6_meanNow_39 : decode cX6_meanNow 39 = .ok (.getfield 32, 3) := by decide +kernel
theorem dX6_meanNow_42 : decode cX6_meanNow 42 = .ok (.iload_n 3, 1) := by decide +kernel
theorem dX6_meanNow_43 : decode cX6_meanNow 43 = .ok (.faload, 1) := by decide +kernel
theorem dX6_meanNow_44 : decode cX6_meanNow 44 = .ok (.fadd, 1) := by decide +kernel
theorem dX6_meanNow_45 : decode cX6_meanNow 45 = .ok (.fdiv, 1) := by decide +kernel
theorem dX6_meanNow_46 : decode cX6_meanNow 46 = .ok (.fadd, 1) := by decide +kernel
theorem dX6_meanNow_47 : decode cX6_meanNow 47 = .ok (.fstore_n 2, 1) := by decide +kernel
theorem dX6_meanNow_48 : decode cX6_meanNow 48 = .ok (.iinc 3 1, 3) := by decide +kernel
theorem dX6_meanNow_51 : decode cX6_meanNow 51 = .ok (.goto (-45), 3) := by decide +kernel
theorem dX6_meanNow_54 : decode cX6_meanNow 54 = .ok (.fload_n 1, 1) := by decide +kernel
theorem dX6_meanNow_55 : decode cX6_meanNow 55 = .ok (.fload_n 2, 1) := by decide +kernel
theorem dX6_meanNow_56 : decode cX6_meanNow 56 = .ok (.fdiv, 1) := by decide +kernel
theorem dX6_meanNow_57 : decode cX6_meanNow 57 = .ok (.freturn, 1) := by decide +kernel
set_option maxRecDepth 20000 in
theorem ggX6_mean_X6_isDay : GoodIn wsX6_mean wsX6_isDay := goodIn_r _ [6, 7, 8, 9, 5, 10, 72, 73, 74, 75, 76, 77, 78, 79, 80, 81, 82, 83, 84, 85, 86, 87, 88, 89, 90, 91, 92] (by decide +kernel) (by decide +kernel)
set_option maxRecDepth 20000 in
theorem gX6_mean_X6_isDay : GoodIn wsX6_mean (wsV RX6 73 RX6 yX6_isDay wsX6_isDay) := goodIn_app (goodIn_of _ (by decide +kernel)) ggX6_mean_X6_isDay
set_option maxRecDepth 20000 in
theorem ggX6_mean_X6_isMember : GoodIn wsX6_mean wsX6_isMember := goodIn_r _ [13, 8, 9, 5, 10] (by decide +kernel) (by decide +kernel)
set_option maxRecDepth 20000 in
theorem gX6_mean_X6_isMember : GoodIn wsX6_mean (va_wsS RX6 76 yX6_isMember wsX6_isMember) := goodIn_app (goodIn_of _ (by decide +kernel)) ggX6_mean_X6_isMember
set_option maxRecDepth 20000 in
theorem ggX6_mean_X6_bad : GoodIn wsX6_mean wsX6_bad := goodIn_r _ [17, 18, 72, 73, 74, 75, 76, 77, 78, 79, 80, 81, 82, 83, 84, 85, 86, 87, 88, 89, 90, 91, 92] (by decide +kernel) (by decide +kernel)
set_option maxRecDepth 20000 in
theorem gX6_mean_X6_bad : GoodIn wsX6_mean (wsV RX6 59 RX6 yX6_bad wsX6_bad) := goodIn_app (goodIn_of _ (by decide +kernel)) ggX6_mean_X6_bad
set_option maxRecDepth 20000 in
theorem ggX6_mean_X6_setFollowers : GoodIn wsX6_mean wsX6_setFollowers := goodIn_r _ [22, 1, 23, 24, 25, 26, 27, 28, 29, 30, 31, 32, 5, 33, 34, 35, 36, 37, 38, 7, 39, 40, 41, 42, 43, 44, 45, 46, 47, 48, 49, 50, 51, 52, 53, 54, 55, 72, 73, 74, 75, 76, 77, 78, 79, 80, 81, 82, 83, 84, 85, 86, 87, 88, 89, 90, 91, 92] (by decide +kernel) (by decide +kernel)
set_option maxRecDepth 20000 in
theorem gX6_mean_X6_setFollowers : GoodIn wsX6_mean (wsV RX6 141 RX6 yX6_setFollowers wsX6_setFollowers) := goodIn_app (goodIn_of _ (by decide +kernel)) ggX6_mean_X6_setFollowers
set_option maxRecDepth 20000 in
theorem ggX6_mean_X6_meanNow : GoodIn wsX6_mean wsX6_meanNow := goodIn_r _ [59, 1, 26, 27, 52, 53, 5, 54, 55, 72, 73, 74, 75, 76, 77, 78, 79, 80, 81, 82, 83, 84, 85, 86, 87, 88, 89, 90, 91, 92] (by decide +kernel) (by decide +kernel)
set_option maxRecDepth 20000 in
theorem gX6_mean_X6_meanNow : GoodIn wsX6_mean (wsV RX6 145 RX6 yX6_meanNow wsX6_meanNow) := goodIn_app (goodIn_of _ (by decide +kernel)) ggX6_mean_X6_meanNow
set_option maxRecDepth 20000 in
theorem ggX6_mean_Jxf58ca_floatToIntBits_5c35a : GoodIn wsX6_mean wsJxf58ca_floatToIntBits_5c35a := goodIn_r _ [63, 64, 65, 66, 67, 68, 69, 70, 62, 71] (by decide +kernel) (by decide +kernel)
set_option maxRecDepth 20000 in
theorem gX6_mean_Jxf58ca_floatToIntBits_5c35a : GoodIn wsX6_mean (va_wsS RX6 118 yJxf58ca_floatToIntBits_5c35a wsJxf58ca_floatToIntBits_5c35a) := goodIn_app (goodIn_of _ (by decide +kernel)) ggX6_mean_Jxf58ca_floatToIntBits_5c35a
theorem dX6_mean_0 : decode cX6_mean 0 = .ok (.aload_n 0, 1) := by decide +kernel
theorem dX6_mean_1 : decode cX6_mean 1 = .ok (.iload_n 1, 1) := by decide +kernel
theorem dX6_mean_2 : decode cX6_mean 2 = .ok (.invokevirtual 73, 3) := by decide +kernel
theorem dX6_mean_5 : decode cX6_mean 5 = .ok (.ifCond .eq 10, 3) := by decide +kernel
theorem dX6_mean_8 : decode cX6_mean 8 = .ok (.iload_n 2, 1) := by decide +kernel
theorem dX6_mean_9 : decode cX6_mean 9 = .ok (.invokestatic 76, 3) := by decide +kernel
theorem dX6_mean_12 : decode cX6_mean 12 = .ok (.ifCond .ne 8, 3) := by decide +kernel
theorem dX6_mean_15 : decode cX6_mean 15 = .ok (.aload_n 0, 1) := by decide +kernel
theorem dX6_mean_16 : decode cX6_mean 16 = .ok (.invokevirtual 59, 3) := by decide +kernel
theorem dX6_mean_19 : decode cX6_mean 19 = .ok (.ireturn, 1) := by decide +kernel
theorem dX6_mean_20 : decode cX6_mean 20 = .ok (.aload_n 0, 1) := by decide +kernel
theorem dX6_mean_21 : decode cX6_mean 21 = .ok (.iload_n 1, 1) := by decide +kernel
theorem dX6_mean_22 : decode cX6_mean 22 = .ok (.iload_n 2, 1) := by decide +kernel
theorem dX6_mean_23 : decode cX6_mean 23 = .ok (.invokevirtual 141, 3) := by decide +kernel
theorem dX6_mean_26 : decode cX6_mean 26 = .ok (.aload_n 0, 1) := by decide +kernel
theorem dX6_mean_27 : decode cX6_mean 27 = .ok (.getfield 138, 3) := by decide +kernel
theorem dX6_mean_30 : decode cX6_mean 30 = .ok (.ifCond .ne 7, 3) := by decide +kernel
theorem dX6_mean_33 : decode cX6_mean 33 = .ok (.iconst (-1), 1) := by decide +kernel
theorem dX6_mean_34 : decode cX6_mean 34 = .ok (.goto 10, 3) := by decide +kernel
theorem dX6_mean_37 : decode cX6_mean 37 = .ok (.aload_n 0, 1) := by decide +kernel
theorem dX6_mean_38 : decode cX6_mean 38 = .ok (.invokevirtual 145, 3) := by decide +kernel
theorem dX6_mean_41 : decode cX6_mean 41 = .ok (.invokestatic 118, 3) := by decide +kernel
theorem dX6_mean_44 : decode cX6_mean 44 = .ok (.ireturn, 1) := by decide +kernel
set_option maxRecDepth 20000 in
theorem ggX6_spread_X6_isDay : GoodIn wsX6_spread wsX6_isDay := goodIn_r _ [8, 9, 10, 11, 7, 12, 69, 70, 71, 72, 73, 74, 75, 76, 77, 78, 79, 80, 81, 82, 83, 84, 85, 86, 87, 88, 89] (by decide +kernel) (by decide +kernel)
set_option maxRecDepth 20000 in
theorem gX6_spread_X6_isDay : GoodIn wsX6_spread (wsV RX6 73 RX6 yX6_isDay wsX6_isDay) := goodIn_app (goodIn_of _ (by decide +kernel)) ggX6_spread_X6_isDay
set_option maxRecDepth 20000 in
theorem ggX6_spread_X6_isMember : GoodIn wsX6_spread wsX6_isMember := goodIn_r _ [15, 10, 11, 7, 12] (by decide +kernel) (by decide +kernel)
set_option maxRecDepth 20000 in
theorem gX6_spread_X6_isMember : GoodIn wsX6_spread (va_wsS RX6 76 yX6_isMember wsX6_isMember) := goodIn_app (goodIn_of _ (by decide +kernel)) ggX6_spread_X6_isMember
set_option maxRecDepth 20000 in
theorem ggX6_spread_X6_bad : GoodIn wsX6_spread wsX6_bad := goodIn_r _ [19, 20, 69, 70, 71, 72, 73, 74, 75, 76, 77, 78, 79, 80, 81, 82, 83, 84, 85, 86, 87, 88, 89] (by decide +kernel) (by decide +kernel)
set_option maxRecDepth 20000 in
theorem gX6_spread_X6_bad : GoodIn wsX6_spread (wsV RX6 59 RX6 yX6_bad wsX6_bad) := goodIn_app (goodIn_of _ (by decide +kernel)) ggX6_spread_X6_bad
set_option maxRecDepth 20000 in
theorem ggX6_spread_X6_setFollowers : GoodIn wsX6_spread wsX6_setFollowers := goodIn_r _ [24, 1, 25, 26, 27, 3, 28, 29, 30, 31, 32, 33, 7, 34, 35, 36, 37, 38, 39, 9, 40, 41, 42, 43, 44, 45, 46, 47, 48, 49, 50, 51, 52, 53, 54, 55, 56, 69, 70, 71, 72, 73, 74, 75, 76, 77, 78, 79, 80, 81, 82, 83, 84, 85, 86, 87, 88, 89] (by decide +kernel) (by decide +kernel)
set_option maxRecDepth 20000 in
theorem gX6_spread_X6_setFollowers : GoodIn wsX6_spread (wsV RX6 141 RX6 yX6_setFollowers wsX6_setFollowers) := goodIn_app (goodIn_of _ (by decide +kernel)) ggX6_spread_X6_setFollowers
set_option maxRecDepth 20000 in
theorem ggX6_spread_X6_value : GoodIn wsX6_spread wsX6_value := goodIn_r _ [55, 56] (by decide +kernel) (by decide +kernel)
set_option maxRecDepth 20000 in
theorem gX6_spread_X6_value : GoodIn wsX6_spread (va_wsS RX6 110 yX6_value wsX6_value) := goodIn_app (goodIn_of _ (by decide +kernel)) ggX6_spread_X6_value
set_option maxRecDepth 20000 in
theorem ggX6_spread_Jxe99ae_doubleToLongBits_ccdee : GoodIn wsX6_spread wsJxe99ae_doubleToLongBits_ccdee := goodIn_r _ [60, 61, 62, 63, 64, 65, 66, 67, 59, 68] (by decide +kernel) (by decide +kernel)
set_option maxRecDepth 20000 in
theorem gX6_spread_Jxe99ae_doubleToLongBits_ccdee : GoodIn wsX6_spread (va_wsS RX6 151 yJxe99ae_doubleToLongBits_ccdee wsJxe99ae_doubleToLongBits_ccdee) := goodIn_app (goodIn_of _ (by decide +kernel)) ggX6_spread_Jxe99ae_doubleToLongBits_ccdee
theorem dX6_spread_0 : decode cX6_spread 0 = .ok (.aload_n 0, 1) := by decide +kernel
theorem dX6_spread_1 : decode cX6_spread 1 = .ok (.iload_n 1, 1) := by decide +kernel
theorem dX6_spread_2 : decode cX6_spread 2 = .ok (.invokevirtual 73, 3) := by decide +kernel
theorem dX6_spread_5 : decode cX6_spread 5 = .ok (.ifCond .eq 10, 3) := by decide +kernel
theorem dX6_spread_8 : decode cX6_spread 8 = .ok (.iload_n 2, 1) := by decide +kernel
theorem dX6_spread_9 : decode cX6_spread 9 = .ok (.invokestatic 76, 3) := by decide +kernel
theorem dX6_spread_12 : decode cX6_spread 12 = .ok (.ifCond .ne 9, 3) := by decide +kernel
theorem dX6_spread_15 : decode cX6_spread 15 = .ok (.aload_n 0, 1) := by decide +kernel
theorem dX6_spread_16 : decode cX6_spread 16 = .ok (.invokevirtual 59, 3) := by decide +kernel
theorem dX6_spread_19 : decode cX6_spread 19 = .ok (.i2l, 1) := by decide +kernel
theorem dX6_spread_20 : decode cX6_spread 20 = .ok (.lreturn, 1) := by decide +kernel
theorem dX6_spread_21 : decode cX6_spread 21 = .ok (.aload_n 0, 1) := by decide +kernel
theorem dX6_spread_22 : decode cX6_spread 22 = .ok (.iload_n 1, 1) := by decide +kernel
theorem dX6_spread_23 : decode cX6_spread 23 = .ok (.iload_n 2, 1) := by decide +kernel
theorem dX6_spread_24 : decode cX6_spread 24 = .ok (.invokevirtual 141, 3) := by decide +kernel
theorem dX6_spread_27 : decode cX6_spread 27 = .ok (.aload_n 0, 1) := by decide +kernel
theorem dX6_spread_28 : decode cX6_spread 28 = .ok (.getfield 138, 3) := by decide +kernel
theorem dX6_spread_31 : decode cX6_spread 31 = .ok (.ifCond .ne 7, 3) := by decide +kernel
theorem dX6_spread_34 : decode cX6_spread 34 = .ok (.ldc2_w 149, 3) := by decide +kernel
theorem dX6_spread_37 : decode cX6_spread 37 = .ok (.lreturn, 1) := by decide +kernel
theorem dX6_spread_38 : decode cX6_spread 38 = .ok (.dconst 0, 1) := by decide +kernel
theorem dX6_spread_39 : decode cX6_spread 39 = .ok (.dstore_n 3, 1) := by decide +kernel
theorem dX6_spread_40 : decode cX6_spread 40 = .ok (.dconst 0, 1) := by decide +kernel
theorem dX6_spread_41 : decode cX6_spread 41 = .ok (.dstore 5, 2) := by decide +kernel
theorem dX6_spread_43 : decode cX6_spread 43 = .ok (.aload_n 0, 1) := by decide +kernel
theorem dX6_spread_44 : decode cX6_spread 44 = .ok (.getfield 138, 3) := by decide +kernel
theorem dX6_spread_47 : decode cX6_spread 47 = .ok (.i2d, 1) := by decide +kernel
theorem dX6_spread_48 : decode cX6_spread 48 = .ok (.dstore 7, 2) := by decide +kernel
theorem dX6_spread_50 : decode cX6_spread 50 = .ok (.iconst 0, 1) := by decide +kernel
theorem dX6_spread_51 : decode cX6_spread 51 = .ok (.istore 9, 2) := by decide +kernel
theorem dX6_spread_53 : decode cX6_spread 53 = .ok (.iload 9, 2) := by decide +kernel
theorem dX6_spread_55 : decode cX6_spread 55 = .ok (.aload_n 0, 1) := by decide +kernel
theorem dX6_spread_56 : decode cX6_spread 56 = .ok (.getfield 138, 3) := by decide +kernel
theorem dX6_spread_59 : decode cX6_spread 59 = .ok (.if_icmp .ge 37, 3) := by decide +kernel
theorem dX6_spread_62 : decode cX6_spread 62 = .ok (.aload_n 0, 1) := by decide +kernel
theorem dX6_spread_63 : decode cX6_spread 63 = .ok (.getfield 29, 3) := by decide +kernel
theorem dX6_spread_66 : decode cX6_spread 66 = .ok (.iload 9, 2) := by decide +kernel
theorem dX6_spread_68 : decode cX6_spread 68 = .ok (.iaload, 1) := by decide +kernel
theorem dX6_spread_69 : decode cX6_spread 69 = .ok (.invokestatic 110, 3) := by decide +kernel
theorem dX6_spread_72 : decode cX6_spread 72 = .ok (.f2d, 1) := by decide +kernel
theorem dX6_spread_73 : decode cX6_spread 73 = .ok (.dstore 10, 2) := by decide +kernel
theorem dX6_spread_75 : decode cX6_spread 75 = .ok (.dload_n 3, 1) := by decide +kernel
theorem dX6_spread_76 : decode cX6_spread 76 = .ok (.dload 10, 2) := by decide +kernel
theorem dX6_spread_78 : decode cX6_spread 78 = .ok (.dadd, 1) := by decide +kernel
theorem dX6_spread_79 : decode cX6_spread 79 = .ok (.dstore_n 3, 1) := by decide +kernel
theorem dX6_spread_80 : decode cX6_spread 80 = .ok (.dload 5, 2) := by decide +kernel
theorem dX6_spread_82 : decode cX6_spread 82 = .ok (.dload 10, 2) := by decide +kernel
theorem dX6_spread_84 : decode cX6_spread 84 = .ok (.dload 10, 2) := by decide +kernel
theorem dX6_spread_86 : decode cX6_spread 86 = .ok (.dmul, 1) := by decide +kernel
theorem dX6_spread_87 : decode cX6_spread 87 = .ok (.dadd, 1) := by decide +kernel
theorem dX6_spread_88 : decode cX6_spread 88 = .ok (.dstore 5, 2) := by decide +kernel
theorem dX6_spread_90 : decode cX6_spread 90 = .ok (.iinc 9 1, 3) := by decide +kernel
theorem dX6_spread_93 : decode cX6_spread 93 = .ok (.goto (-40), 3) := by decide +kernel
theorem dX6_spread_96 : decode cX6_spread 96 = .ok (.dload 5, 2) := by decide +kernel
theorem dX6_spread_98 : decode cX6_spread 98 = .ok (.dload 7, 2) := by decide +kernel
theorem dX6_spread_100 : decode cX6_spread 100 = .ok (.ddiv, 1) := by decide +kernel
theorem dX6_spread_101 : decode cX6_spread 101 = .ok (.dload_n 3, 1) := by decide +kernel
theorem dX6_spread_102 : decode cX6_spread 102 = .ok (.dload 7, 2) := by decide +kernel
theorem dX6_spread_104 : decode cX6_spread 104 = .ok (.ddiv, 1) := by decide +kernel
theorem dX6_spread_105 : decode cX6_spread 105 = .ok (.dload_n 3, 1) := by decide +kernel
theorem dX6_spread_106 : decode cX6_spread 106 = .ok (.dload 7, 2) := by decide +kernel
theorem dX6_spread_108 : decode cX6_spread 108 = .ok (.ddiv, 1) := by decide +kernel
theorem dX6_spread_109 : decode cX6_spread 109 = .ok (.dmul, 1) := by decide +kernel
theorem dX6_spread_110 : decode cX6_spread 110 = .ok (.dsub, 1) := by decide +kernel
theorem dX6_spread_111 : decode cX6_spread 111 = .ok (.invokestatic 151, 3) := by decide +kernel
theorem dX6_spread_114 : decode cX6_spread 114 = .ok (.lreturn, 1) := by decide +kernel
set_option maxRecDepth 20000 in
theorem ggX6_holds_X6_isMember : GoodIn wsX6_holds wsX6_isMember := goodIn_r _ [8, 9, 10, 7, 11] (by decide +kernel) (by decide +kernel)
set_option maxRecDepth 20000 in
theorem gX6_holds_X6_isMember : GoodIn wsX6_holds (va_wsS RX6 76 yX6_isMember wsX6_isMember) := goodIn_app (goodIn_of _ (by decide +kernel)) ggX6_holds_X6_isMember
set_option maxRecDepth 20000 in
theorem ggX6_holds_X6_in : GoodIn wsX6_holds wsX6_in := goodIn_r _ [11] (by decide +kernel) (by decide +kernel)
set_option maxRecDepth 20000 in
theorem gX6_holds_X6_in : GoodIn wsX6_holds (va_wsS RX6 44 yX6_in wsX6_in) := goodIn_app (goodIn_of _ (by decide +kernel)) ggX6_holds_X6_in
set_option maxRecDepth 20000 in
theorem ggX6_holds_X6_bad : GoodIn wsX6_holds wsX6_bad := goodIn_r _ [15, 16, 52, 53, 54, 55, 56, 57, 58, 59, 60, 61, 62, 63, 64, 65, 66, 67, 68, 69, 70, 71, 72] (by decide +kernel) (by decide +kernel)
set_option maxRecDepth 20000 in
theorem gX6_holds_X6_bad : GoodIn wsX6_holds (wsV RX6 59 RX6 yX6_bad wsX6_bad) := goodIn_app (goodIn_of _ (by decide +kernel)) ggX6_holds_X6_bad
set_option maxRecDepth 20000 in
theorem ggX6_holds_X6_setFollowers : GoodIn wsX6_holds wsX6_setFollowers := goodIn_r _ [20, 3, 21, 2, 22, 23, 24, 25, 4, 26, 27, 28, 7, 29, 30, 31, 32, 33, 34, 1, 35, 36, 37, 38, 39, 40, 41, 42, 43, 44, 45, 46, 47, 48, 49, 50, 51, 52, 53, 54, 55, 56, 57, 58, 59, 60, 61, 62, 63, 64, 65, 66, 67, 68, 69, 70, 71, 72] (by decide +kernel) (by decide +kernel)
set_option maxRecDepth 20000 in
theorem gX6_holds_X6_setFollowers : GoodIn wsX6_holds (wsV RX6 141 RX6 yX6_setFollowers wsX6_setFollowers) := goodIn_app (goodIn_of _ (by decide +kernel)) ggX6_holds_X6_setFollowers
set_option maxRecDepth 20000 in
theorem ggX6_holds_X6_isNoted : GoodIn wsX6_holds wsX6_isNoted := goodIn_r _ [47] (by decide +kernel) (by decide +kernel)
set_option maxRecDepth 20000 in
theorem gX6_holds_X6_isNoted : GoodIn wsX6_holds (va_wsS RX6 106 yX6_isNoted wsX6_isNoted) := goodIn_app (goodIn_of _ (by decide +kernel)) ggX6_holds_X6_isNoted
theorem dX6_holds_0 : decode cX6_holds 0 = .ok (.iload_n 1, 1) := by decide +kernel
theorem dX6_holds_1 : decode cX6_holds 1 = .ok (.invokestatic 76, 3) := by decide +kernel
theorem dX6_holds_4 : decode cX6_holds 4 = .ok (.ifCond .eq 21, 3) := by decide +kernel
theorem dX6_holds_7 : decode cX6_holds 7 = .ok (.iload_n 2, 1) := by decide +kernel
theorem dX6_holds_8 : decode cX6_holds 8 = .ok (.iconst 0, 1) := by decide +kernel
theorem dX6_holds_9 : decode cX6_holds 9 = .ok (.iconst 5, 1) := by decide +kernel
theorem dX6_holds_10 : decode cX6_holds 10 = .ok (.invokestatic 44, 3) := by decide +kernel
theorem dX6_holds_13 : decode cX6_holds 13 = .ok (.ifCond .eq 12, 3) := by decide +kernel
theorem dX6_holds_16 : decode cX6_holds 16 = .ok (.iload_n 3, 1) := by decide +kernel
theorem dX6_holds_17 : decode cX6_holds 17 = .ok (.iconst 0, 1) := by decide +kernel
theorem dX6_holds_18 : decode cX6_holds 18 = .ok (.iconst 2, 1) := by decide +kernel
theorem dX6_holds_19 : decode cX6_holds 19 = .ok (.invokestatic 44, 3) := by decide +kernel
theorem dX6_holds_22 : decode cX6_holds 22 = .ok (.ifCond .ne 8, 3) := by decide +kernel
theorem dX6_holds_25 : decode cX6_holds 25 = .ok (.aload_n 0, 1) := by decide +kernel
theorem dX6_holds_26 : decode cX6_holds 26 = .ok (.invokevirtual 59, 3) := by decide +kernel
theorem dX6_holds_29 : decode cX6_holds 29 = .ok (.ireturn, 1) := by decide +kernel
theorem dX6_holds_30 : decode cX6_holds 30 = .ok (.iconst 0, 1) := by decide +kernel
theorem dX6_holds_31 : decode cX6_holds 31 = .ok (.istore 4, 2) := by decide +kernel
theorem dX6_holds_33 : decode cX6_holds 33 = .ok (.iconst 0, 1) := by decide +kernel
theorem dX6_holds_34 : decode cX6_holds 34 = .ok (.istore 5, 2) := by decide +kernel
theorem dX6_holds_36 : decode cX6_holds 36 = .ok (.iconst 0, 1) := by decide +kernel
theorem dX6_holds_37 : decode cX6_holds 37 = .ok (.istore 6, 2) := by decide +kernel
theorem dX6_holds_39 : decode cX6_holds 39 = .ok (.iload 6, 2) := by decide +kernel
theorem dX6_holds_41 : decode cX6_holds 41 = .ok (.iconst 1, 1) := by decide +kernel
theorem dX6_holds_42 : decode cX6_holds 42 = .ok (.iadd, 1) := by decide +kernel
theorem dX6_holds_43 : decode cX6_holds 43 = .ok (.aload_n 0, 1) := by decide +kernel
theorem dX6_holds_44 : decode cX6_holds 44 = .ok (.getfield 48, 3) := by decide +kernel
theorem dX6_holds_47 : decode cX6_holds 47 = .ok (.if_icmp .ge 89, 3) := by decide +kernel
theorem dX6_holds_50 : decode cX6_holds 50 = .ok (.aload_n 0, 1) := by decide +kernel
theorem dX6_holds_51 : decode cX6_holds 51 = .ok (.getfield 16, 3) := by decide +kernel
theorem dX6_holds_54 : decode cX6_holds 54 = .ok (.iconst 4, 1) := by decide +kernel
theorem dX6_holds_55 : decode cX6_holds 55 = .ok (.iload 6, 2) := by decide +kernel
theorem dX6_holds_57 : decode cX6_holds 57 = .ok (.iconst 1, 1) := by decide +kernel
theorem dX6_holds_58 : decode cX6_holds 58 = .ok (.iadd, 1) := by decide +kernel
theorem dX6_holds_59 : decode cX6_holds 59 = .ok (.imul, 1) := by decide +kernel
theorem dX6_holds_60 : decode cX6_holds 60 = .ok (.iload_n 1, 1) := by decide +kernel
theorem dX6_holds_61 : decode cX6_holds 61 = .ok (.iadd, 1) := by decide +kernel
theorem dX6_holds_62 : decode cX6_holds 62 = .ok (.iaload, 1) := by decide +kernel
theorem dX6_holds_63 : decode cX6_holds 63 = .ok (.istore 7, 2) := by decide +kernel
theorem dX6_holds_65 : decode cX6_holds 65 = .ok (.aload_n 0, 1) := by decide +kernel
theorem dX6_holds_66 : decode cX6_holds 66 = .ok (.iload 6, 2) := by decide +kernel
theorem dX6_holds_68 : decode cX6_holds 68 = .ok (.iload_n 1, 1) := by decide +kernel
theorem dX6_holds_69 : decode cX6_holds 69 = .ok (.invokevirtual 141, 3) := by decide +kernel
theorem dX6_holds_72 : decode cX6_holds 72 = .ok (.iload 7, 2) := by decide +kernel
theorem dX6_holds_74 : decode cX6_holds 74 = .ok (.invokestatic 106, 3) := by decide +kernel
theorem dX6_holds_77 : decode cX6_holds 77 = .ok (.ifCond .eq 53, 3) := by decide +kernel
theorem dX6_holds_80 : decode cX6_holds 80 = .ok (.aload_n 0, 1) := by decide +kernel
theorem dX6_holds_81 : decode cX6_holds 81 = .ok (.getfield 138, 3) := by decide +kernel
theorem dX6_holds_84 : decode cX6_holds 84 = .ok (.iconst 2, 1) := by decide +kernel
theorem dX6_holds_85 : decode cX6_holds 85 = .ok (.iload_n 2, 1) := by decide +kernel
theorem dX6_holds_86 : decode cX6_holds 86 = .ok (.imul, 1) := by decide +kernel
theorem dX6_holds_87 : decode cX6_holds 87 = .ok (.if_icmp .le 43, 3) := by decide +kernel
theorem dX6_holds_90 : decode cX6_holds 90 = .ok (.iinc 4 1, 3) := by decide +kernel
theorem dX6_holds_93 : decode cX6_holds 93 = .ok (.iload 5, 2) := by decide +kernel
theorem dX6_holds_95 : decode cX6_holds 95 = .ok (.iload 7, 2) := by decide +kernel
theorem dX6_holds_97 : decode cX6_holds 97 = .ok (.aload_n 0, 1) := by decide +kernel
theorem dX6_holds_98 : decode cX6_holds 98 = .ok (.getfield 35, 3) := by decide +kernel
theorem dX6_holds_101 : decode cX6_holds 101 = .ok (.iload_n 2, 1) := by decide +kernel
theorem dX6_holds_102 : decode cX6_holds 102 = .ok (.iaload, 1) := by decide +kernel
theorem dX6_holds_103 : decode cX6_holds 103 = .ok (.aload_n 0, 1) := by decide +kernel
theorem dX6_holds_104 : decode cX6_holds 104 = .ok (.getfield 35, 3) := by decide +kernel
theorem dX6_holds_107 : decode cX6_holds 107 = .ok (.aload_n 0, 1) := by decide +kernel
theorem dX6_holds_108 : decode cX6_holds 108 = .ok (.getfield 138, 3) := by decide +kernel
theorem dX6_holds_111 : decode cX6_holds 111 = .ok (.iconst 1, 1) := by decide +kernel
theorem dX6_holds_112 : decode cX6_holds 112 = .ok (.isub, 1) := by decide +kernel
theorem dX6_holds_113 : decode cX6_holds 113 = .ok (.iload_n 2, 1) := by decide +kernel
theorem dX6_holds_114 : decode cX6_holds 114 = .ok (.isub, 1) := by decide +kernel
theorem dX6_holds_115 : decode cX6_holds 115 = .ok (.iaload, 1) := by decide +kernel
theorem dX6_holds_116 : decode cX6_holds 116 = .ok (.invokestatic 44, 3) := by decide +kernel
theorem dX6_holds_119 : decode cX6_holds 119 = .ok (.ifCond .eq 7, 3) := by decide +kernel
theorem dX6_holds_122 : decode cX6_holds 122 = .ok (.iconst 1, 1) := by decide +kernel
theorem dX6_holds_123 : decode cX6_holds 123 = .ok (.goto 4, 3) := by decide +kernel
theorem dX6_holds_126 : decode cX6_holds 126 = .ok (.iconst 0, 1) := by decide +kernel
theorem dX6_holds_127 : decode cX6_holds 127 = .ok (.iadd, 1) := by decide +kernel
theorem dX6_holds_128 : decode cX6_holds 128 = .ok (.istore 5, 2) := by decide +kernel
theorem dX6_holds_130 : decode cX6_holds 130 = .ok (.iinc 6 1, 3) := by decide +kernel
theorem dX6_holds_133 : decode cX6_holds 133 = .ok (.goto (-94), 3) := by decide +kernel
theorem dX6_holds_136 : decode cX6_holds 136 = .ok (.iload_n 3, 1) := by decide +kernel
theorem dX6_holds_137 : decode cX6_holds 137 = .ok (.ifCond .ne 8, 3) := by decide +kernel
theorem dX6_holds_140 : decode cX6_holds 140 = .ok (.iload 4, 2) := by decide +kernel
theorem dX6_holds_142 : decode cX6_holds 142 = .ok (.goto 31, 3) := by decide +kernel
theorem dX6_holds_145 : decode cX6_holds 145 = .ok (.iload_n 3, 1) := by decide +kernel
theorem dX6_holds_146 : decode cX6_holds 146 = .ok (.iconst 1, 1) := by decide +kernel
theorem dX6_holds_147 : decode cX6_holds 147 = .ok (.if_icmp .ne 8, 3) := by decide +kernel
theorem dX6_holds_150 : decode cX6_holds 150 = .ok (.iload 5, 2) := by decide +kernel
theorem dX6_holds_152 : decode cX6_holds 152 = .ok (.goto 21, 3) := by decide +kernel
theorem dX6_holds_155 : decode cX6_holds 155 = .ok (.iload 4, 2) := by decide +kernel
theorem dX6_holds_157 : decode cX6_holds 157 = .ok (.ifCond .ne 7, 3) := by decide +kernel
theorem dX6_holds_160 : decode cX6_holds 160 = .ok (.iconst 0, 1) := by decide +kernel
theorem dX6_holds_161 : decode cX6_holds 161 = .ok (.goto 12, 3) := by decide +kernel
theorem dX6_holds_164 : decode cX6_holds 164 = .ok (.sipush 1000, 3) := by decide +kernel
theorem dX6_holds_167 : decode cX6_holds 167 = .ok (.iload 5, 2) := by decide +kernel
theorem dX6_holds_169 : decode cX6_holds 169 = .ok (.imul, 1) := by decide +kernel
theorem dX6_holds_170 : decode cX6_holds 170 = .ok (.iload 4, 2) := by decide +kernel
theorem dX6_holds_172 : decode cX6_holds 172 = .ok (.idiv, 1) := by decide +kernel
theorem dX6_holds_173 : decode cX6_holds 173 = .ok (.ireturn, 1) := by decide +kernel
set_option maxRecDepth 20000 in
theorem ggX6_errsOf_X6_setFollowers : GoodIn wsX6_errsOf wsX6_setFollowers := goodIn_r _ [9, 4, 10, 3, 11, 12, 13, 14, 15, 16, 17, 18, 8, 19, 20, 21, 22, 23, 24, 2, 25, 26, 27, 28, 29, 30, 31, 32, 33, 34, 35, 36, 37, 38, 39, 40, 41, 46, 47, 48, 49, 50, 51, 52, 53, 54, 55, 56, 57, 58, 59, 60, 61, 62, 63, 64, 65, 66] (by decide +kernel) (by decide +kernel)
set_option maxRecDepth 20000 in
theorem gX6_errsOf_X6_setFollowers : GoodIn wsX6_errsOf (wsV RX6 141 RX6 yX6_setFollowers wsX6_setFollowers) := goodIn_app (goodIn_of _ (by decide +kernel)) ggX6_errsOf_X6_setFollowers
set_option maxRecDepth 20000 in
theorem ggX6_errsOf_X6_isNoted : GoodIn wsX6_errsOf wsX6_isNoted := goodIn_r _ [37] (by decide +kernel) (by decide +kernel)
set_option maxRecDepth 20000 in
theorem gX6_errsOf_X6_isNoted : GoodIn wsX6_errsOf (va_wsS RX6 106 yX6_isNoted wsX6_isNoted) := goodIn_app (goodIn_of _ (by decide +kernel)) ggX6_errsOf_X6_isNoted
set_option maxRecDepth 20000 in
theorem ggX6_errsOf_X6_meanNow : GoodIn wsX6_errsOf wsX6_meanNow := goodIn_r _ [45, 4, 12, 13, 38, 39, 8, 40, 41, 46, 47, 48, 49, 50, 51, 52, 53, 54, 55, 56, 57, 58, 59, 60, 61, 62, 63, 64, 65, 66] (by decide +kernel) (by decide +kernel)
set_option maxRecDepth 20000 in
theorem gX6_errsOf_X6_meanNow : GoodIn wsX6_errsOf (wsV RX6 145 RX6 yX6_meanNow wsX6_meanNow) := goodIn_app (goodIn_of _ (by decide +kernel)) ggX6_errsOf_X6_meanNow
set_option maxRecDepth 20000 in
theorem ggX6_errsOf_X6_value : GoodIn wsX6_errsOf wsX6_value := goodIn_r _ [40, 41] (by decide +kernel) (by decide +kernel)
set_option maxRecDepth 20000 in
theorem gX6_errsOf_X6_value : GoodIn wsX6_errsOf (va_wsS RX6 110 yX6_value wsX6_value) := goodIn_app (goodIn_of _ (by decide +kernel)) ggX6_errsOf_X6_value
theorem dX6_errsOf_0 : decode cX6_errsOf 0 = .ok (.fconst 0, 1) := by decide +kernel
theorem dX6_errsOf_1 : decode cX6_errsOf 1 = .ok (.fstore_n 2, 1) := by decide +kernel
theorem dX6_errsOf_2 : decode cX6_errsOf 2 = .ok (.aload_n 0, 1) := by decide +kernel
theorem dX6_errsOf_3 : decode cX6_errsOf 3 = .ok (.iconst 0, 1) := by decide +kernel
theorem dX6_errsOf_4 : decode cX6_errsOf 4 = .ok (.putfield 157, 3) := by decide +kernel
theorem dX6_errsOf_7 : decode cX6_errsOf 7 = .ok (.iconst 0, 1) := by decide +kernel
theorem dX6_errsOf_8 : decode cX6_errsOf 8 = .ok (.istore_n 3, 1) := by decide +kernel
theorem dX6_errsOf_9 : decode cX6_errsOf 9 = .ok (.iload_n 3, 1) := by decide +kernel
theorem dX6_errsOf_10 : decode cX6_errsOf 10 = .ok (.iconst 1, 1) := by decide +kernel
theorem dX6_errsOf_11 : decode cX6_errsOf 11 = .ok (.iadd, 1) := by decide +kernel
theorem dX6_errsOf_12 : decode cX6_errsOf 12 = .ok (.aload_n 0, 1) := by decide +kernel
theorem dX6_errsOf_13 : decode cX6_errsOf 13 = .ok (.getfield 48, 3) := by decide +kernel
theorem dX6_errsOf_16 : decode cX6_errsOf 16 = .ok (.if_icmp .ge 84, 3) := by decide +kernel
theorem dX6_errsOf_19 : decode cX6_errsOf 19 = .ok (.aload_n 0, 1) := by decide +kernel
theorem dX6_errsOf_20 : decode cX6_errsOf 20 = .ok (.getfield 16, 3) := by decide +kernel
theorem dX6_errsOf_23 : decode cX6_errsOf 23 = .ok (.iconst 4, 1) := by decide +kernel
theorem dX6_errsOf_24 : decode cX6_errsOf 24 = .ok (.iload_n 3, 1) := by decide +kernel
theorem dX6_errsOf_25 : decode cX6_errsOf 25 = .ok (.iconst 1, 1) := by decide +kernel
theorem dX6_errsOf_26 : decode cX6_errsOf 26 = .ok (.iadd, 1) := by decide +kernel
theorem dX6_errsOf_27 : decode cX6_errsOf 27 = .ok (.imul, 1) := by decide +kernel
theorem dX6_errsOf_28 : decode cX6_errsOf 28 = .ok (.iload_n 1, 1) := by decide +kernel
theorem dX6_errsOf_29 : decode cX6_errsOf 29 = .ok (.iadd, 1) := by decide +kernel
theorem dX6_errsOf_30 : decode cX6_errsOf 30 = .ok (.iaload, 1) := by decide +kernel
theorem dX6_errsOf_31 : decode cX6_errsOf 31 = .ok (.istore 4, 2) := by decide +kernel
theorem dX6_errsOf_33 : decode cX6_errsOf 33 = .ok (.aload_n 0, 1) := by decide +kernel
theorem dX6_errsOf_34 : decode cX6_errsOf 34 = .ok (.iload_n 3, 1) := by decide +kernel
theorem dX6_errsOf_35 : decode cX6_errsOf 35 = .ok (.iload_n 1, 1) := by decide +kernel
theorem dX6_errsOf_36 : decode cX6_errsOf 36 = .ok (.invokevirtual 141, 3) := by decide +kernel
theorem dX6_errsOf_39 : decode cX6_errsOf 39 = .ok (.iload 4, 2) := by decide +kernel
theorem dX6_errsOf_41 : decode cX6_errsOf 41 = .ok (.invokestatic 106, 3) := by decide +kernel
theorem dX6_errsOf_44 : decode cX6_errsOf 44 = .ok (.ifCond .eq 50, 3) := by decide +kernel
theorem dX6_errsOf_47 : decode cX6_errsOf 47 = .ok (.aload_n 0, 1) := by decide +kernel
theorem dX6_errsOf_48 : decode cX6_errsOf 48 = .ok (.getfield 138, 3) := by decide +kernel
theorem dX6_errsOf_51 : decode cX6_errsOf 51 = .ok (.ifCond .le 43, 3) := by decide +kernel
theorem dX6_errsOf_54 : decode cX6_errsOf 54 = .ok (.aload_n 0, 1) := by decide +kernel
theorem dX6_errsOf_55 : decode cX6_errsOf 55 = .ok (.invokevirtual 145, 3) := by decide +kernel
theorem dX6_errsOf_58 : decode cX6_errsOf 58 = .ok (.iload 4, 2) := by decide +kernel
theorem dX6_errsOf_60 : decode cX6_errsOf 60 = .ok (.invokestatic 110, 3) := by decide +kernel
theorem dX6_errsOf_63 : decode cX6_errsOf 63 = .ok (.fsub, 1) := by decide +kernel
theorem dX6_errsOf_64 : decode cX6_errsOf 64 = .ok (.fstore 5, 2) := by decide +kernel
theorem dX6_errsOf_66 : decode cX6_errsOf 66 = .ok (.fload_n 2, 1) := by decide +kernel
theorem dX6_errsOf_67 : decode cX6_errsOf 67 = .ok (.fload 5, 2) := by decide +kernel
theorem dX6_errsOf_69 : decode cX6_errsOf 69 = .ok (.fconst 0, 1) := by decide +kernel
theorem dX6_errsOf_70 : decode cX6_errsOf 70 = .ok (.fcmp .g, 1) := by decide +kernel
theorem dX6_errsOf_71 : decode cX6_errsOf 71 = .ok (.ifCond .ge 9, 3) := by decide +kernel
theorem dX6_errsOf_74 : decode cX6_errsOf 74 = .ok (.fload 5, 2) := by decide +kernel
theorem dX6_errsOf_76 : decode cX6_errsOf 76 = .ok (.fneg, 1) := by decide +kernel
theorem dX6_errsOf_77 : decode cX6_errsOf 77 = .ok (.goto 5, 3) := by decide +kernel
theorem dX6_errsOf_80 : decode cX6_errsOf 80 = .ok (.fload 5, 2) := by decide +kernel
theorem dX6_errsOf_82 : decode cX6_errsOf 82 = .ok (.fadd, 1) := by decide +kernel
theorem dX6_errsOf_83 : decode cX6_errsOf 83 = .ok (.fstore_n 2, 1) := by decide +kernel
theorem dX6_errsOf_84 : decode cX6_errsOf 84 = .ok (.aload_n 0, 1) := by decide +kernel
theorem dX6_errsOf_85 : decode cX6_errsOf 85 = .ok (.dup, 1) := by decide +kernel
theorem dX6_errsOf_86 : decode cX6_errsOf 86 = .ok (.getfield 157, 3) := by decide +kernel
theorem dX6_errsOf_89 : decode cX6_errsOf 89 = .ok (.iconst 1, 1) := by decide +kernel
theorem dX6_errsOf_90 : decode cX6_errsOf 90 = .ok (.iadd, 1) := by decide +kernel
theorem dX6_errsOf_91 : decode cX6_errsOf 91 = .ok (.putfield 157, 3) := by decide +kernel
theorem dX6_errsOf_94 : decode cX6_errsOf 94 = .ok (.iinc 3 1, 3) := by decide +kernel
theorem dX6_errsOf_97 : decode cX6_errsOf 97 = .ok (.goto (-88), 3) := by decide +kernel
theorem dX6_errsOf_100 : decode cX6_errsOf 100 = .ok (.aload_n 0, 1) := by decide +kernel
theorem dX6_errsOf_101 : decode cX6_errsOf 101 = .ok (.getfield 157, 3) := by decide +kernel
theorem dX6_errsOf_104 : decode cX6_errsOf 104 = .ok (.ifCond .ne 7, 3) := by decide +kernel
theorem dX6_errsOf_107 : decode cX6_errsOf 107 = .ok (.fconst 0, 1) := by decide +kernel
theorem dX6_errsOf_108 : decode cX6_errsOf 108 = .ok (.goto 10, 3) := by decide +kernel
theorem dX6_errsOf_111 : decode cX6_errsOf 111 = .ok (.fload_n 2, 1) := by decide +kernel
theorem dX6_errsOf_112 : decode cX6_errsOf 112 = .ok (.aload_n 0, 1) := by decide +kernel
theorem dX6_errsOf_113 : decode cX6_errsOf 113 = .ok (.getfield 157, 3) := by decide +kernel
theorem dX6_errsOf_116 : decode cX6_errsOf 116 = .ok (.i2f, 1) := by decide +kernel
theorem dX6_errsOf_117 : decode cX6_errsOf 117 = .ok (.fdiv, 1) := by decide +kernel
theorem dX6_errsOf_118 : decode cX6_errsOf 118 = .ok (.freturn, 1) := by decide +kernel
set_option maxRecDepth 20000 in
theorem ggX6_errsTold_X6_errsOf : GoodIn wsX6_errsTold wsX6_errsOf := goodIn_r _ [6, 1, 7, 8, 9, 10, 11, 12, 5, 13, 14, 15, 16, 17, 18, 19, 20, 21, 22, 23, 24, 25, 26, 27, 28, 29, 30, 31, 32, 33, 34, 35, 36, 37, 38, 39, 40, 41, 42, 43, 44, 45, 46, 47, 48, 49, 62, 63, 64, 65, 66, 67, 68, 69, 70, 71, 72, 73, 74, 75, 76, 77, 78, 79, 80, 81, 82] (by decide +kernel) (by decide +kernel)
set_option maxRecDepth 20000 in
theorem gX6_errsTold_X6_errsOf : GoodIn wsX6_errsTold (wsV RX6 160 RX6 yX6_errsOf wsX6_errsOf) := goodIn_app (goodIn_of _ (by decide +kernel)) ggX6_errsTold_X6_errsOf
set_option maxRecDepth 20000 in
theorem ggX6_errsTold_Jxf58ca_floatToIntBits_5c35a : GoodIn wsX6_errsTold wsJxf58ca_floatToIntBits_5c35a := goodIn_r _ [53, 54, 55, 56, 57, 58, 59, 60, 52, 61] (by decide +kernel) (by decide +kernel)
set_option maxRecDepth 20000 in
theorem gX6_errsTold_Jxf58ca_floatToIntBits_5c35a : GoodIn wsX6_errsTold (va_wsS RX6 118 yJxf58ca_floatToIntBits_5c35a wsJxf58ca_floatToIntBits_5c35a) := goodIn_app (goodIn_of _ (by decide +kernel)) ggX6_errsTold_Jxf58ca_floatToIntBits_5c35a
theorem dX6_errsTold_0 : decode cX6_errsTold 0 = .ok (.aload_n 0, 1) := by decide +kernel
theorem dX6_errsTold_1 : decode cX6_errsTold 1 = .ok (.iload_n 1, 1) := by decide +kernel
theorem dX6_errsTold_2 : decode cX6_errsTold 2 = .ok (.invokevirtual 160, 3) := by decide +kernel
theorem dX6_errsTold_5 : decode cX6_errsTold 5 = .ok (.fstore_n 2, 1) := by decide +kernel
theorem dX6_errsTold_6 : decode cX6_errsTold 6 = .ok (.aload_n 0, 1) := by decide +kernel
theorem dX6_errsTold_7 : decode cX6_errsTold 7 = .ok (.getfield 157, 3) := by decide +kernel
theorem dX6_errsTold_10 : decode cX6_errsTold 10 = .ok (.ifCond .ne 7, 3) := by decide +kernel
theorem dX6_errsTold_13 : decode cX6_errsTold 13 = .ok (.iconst (-1), 1) := by decide +kernel
theorem dX6_errsTold_14 : decode cX6_errsTold 14 = .ok (.goto 7, 3) := by decide +kernel
theorem dX6_errsTold_17 : decode cX6_errsTold 17 = .ok (.fload_n 2, 1) := by decide +kernel
theorem dX6_errsTold_18 : decode cX6_errsTold 18 = .ok (.invokestatic 118, 3) := by decide +kernel
theorem dX6_errsTold_21 : decode cX6_errsTold 21 = .ok (.ireturn, 1) := by decide +kernel
set_option maxRecDepth 20000 in
theorem ggX6_errs_X6_isMember : GoodIn wsX6_errs wsX6_isMember := goodIn_r _ [4, 5, 6, 3, 7] (by decide +kernel) (by decide +kernel)
set_option maxRecDepth 20000 in
theorem gX6_errs_X6_isMember : GoodIn wsX6_errs (va_wsS RX6 76 yX6_isMember wsX6_isMember) := goodIn_app (goodIn_of _ (by decide +kernel)) ggX6_errs_X6_isMember
set_option maxRecDepth 20000 in
theorem ggX6_errs_X6_errsTold : GoodIn wsX6_errs wsX6_errsTold := goodIn_r _ [11, 12, 13, 14, 15, 3, 16, 17, 18, 19, 20, 21, 22, 23, 24, 25, 26, 27, 28, 29, 30, 31, 32, 33, 34, 35, 36, 37, 38, 39, 40, 41, 42, 43, 44, 45, 46, 47, 48, 49, 50, 51, 52, 53, 54, 55, 56, 57, 58, 59, 60, 61, 62, 63, 64, 65, 66, 67, 68, 69, 70, 71, 77, 78, 79, 80, 81, 82, 83, 84, 85, 86, 87, 88, 89, 90, 91, 92, 93, 94, 95, 96, 97] (by decide +kernel) (by decide +kernel)
set_option maxRecDepth 20000 in
theorem gX6_errs_X6_errsTold : GoodIn wsX6_errs (wsV RX6 163 RX6 yX6_errsTold wsX6_errsTold) := goodIn_app (goodIn_of _ (by decide +kernel)) ggX6_errs_X6_errsTold
set_option maxRecDepth 20000 in
theorem ggX6_errs_X6_bad : GoodIn wsX6_errs wsX6_bad := goodIn_r _ [75, 76, 77, 78, 79, 80, 81, 82, 83, 84, 85, 86, 87, 88, 89, 90, 91, 92, 93, 94, 95, 96, 97] (by decide +kernel) (by decide +kernel)
set_option maxRecDepth 20000 in
theorem gX6_errs_X6_bad : GoodIn wsX6_errs (wsV RX6 59 RX6 yX6_bad wsX6_bad) := goodIn_app (goodIn_of _ (by decide +kernel)) ggX6_errs_X6_bad
theorem dX6_errs_0 : decode cX6_errs 0 = .ok (.iload_n 1, 1) := by decide +kernel
theorem dX6_errs_1 : decode cX6_errs 1 = .ok (.invokestatic 76, 3) := by decide +kernel
theorem dX6_errs_4 : decode cX6_errs 4 = .ok (.ifCond .eq 11, 3) := by decide +kernel
theorem dX6_errs_7 : decode cX6_errs 7 = .ok (.aload_n 0, 1) := by decide +kernel
theorem dX6_errs_8 : decode cX6_errs 8 = .ok (.iload_n 1, 1) := by decide +kernel
theorem dX6_errs_9 : decode cX6_errs 9 = .ok (.invokevirtual 163, 3) := by decide +kernel
theorem dX6_errs_12 : decode cX6_errs 12 = .ok (.goto 7, 3) := by decide +kernel
theorem dX6_errs_15 : decode cX6_errs 15 = .ok (.aload_n 0, 1) := by decide +kernel
theorem dX6_errs_16 : decode cX6_errs 16 = .ok (.invokevirtual 59, 3) := by decide +kernel
theorem dX6_errs_19 : decode cX6_errs 19 = .ok (.ireturn, 1) := by decide +kernel
set_option maxRecDepth 20000 in
theorem ggX6_best_X6_isMember : GoodIn wsX6_best wsX6_isMember := goodIn_r _ [6, 7, 8, 5, 9] (by decide +kernel) (by decide +kernel)
set_option maxRecDepth 20000 in
theorem gX6_best_X6_isMember : GoodIn wsX6_best (va_wsS RX6 76 yX6_isMember wsX6_isMember) := goodIn_app (goodIn_of _ (by decide +kernel)) ggX6_best_X6_isMember
set_option maxRecDepth 20000 in
theorem ggX6_best_X6_in : GoodIn wsX6_best wsX6_in := goodIn_r _ [9] (by decide +kernel) (by decide +kernel)
set_option maxRecDepth 20000 in
theorem gX6_best_X6_in : GoodIn wsX6_best (va_wsS RX6 44 yX6_in wsX6_in) := goodIn_app (goodIn_of _ (by decide +kernel)) ggX6_best_X6_in
set_option maxRecDepth 20000 in
theorem ggX6_best_X6_bad : GoodIn wsX6_best wsX6_bad := goodIn_r _ [13, 14, 73, 74, 75, 76, 77, 78, 79, 80, 81, 82, 83, 84, 85, 86, 87, 88, 89, 90, 91, 92, 93] (by decide +kernel) (by decide +kernel)
set_option maxRecDepth 20000 in
theorem gX6_best_X6_bad : GoodIn wsX6_best (wsV RX6 59 RX6 yX6_bad wsX6_bad) := goodIn_app (goodIn_of _ (by decide +kernel)) ggX6_best_X6_bad
set_option maxRecDepth 20000 in
theorem ggX6_best_X6_errsOf : GoodIn wsX6_best wsX6_errsOf := goodIn_r _ [18, 2, 19, 20, 21, 22, 23, 24, 5, 25, 26, 27, 28, 29, 30, 31, 32, 33, 34, 35, 1, 36, 37, 38, 39, 40, 41, 42, 43, 44, 45, 46, 47, 48, 49, 50, 51, 52, 53, 54, 55, 56, 57, 58, 59, 60, 73, 74, 75, 76, 77, 78, 79, 80, 81, 82, 83, 84, 85, 86, 87, 88, 89, 90, 91, 92, 93] (by decide +kernel) (by decide +kernel)
set_option maxRecDepth 20000 in
theorem gX6_best_X6_errsOf : GoodIn wsX6_best (wsV RX6 160 RX6 yX6_errsOf wsX6_errsOf) := goodIn_app (goodIn_of _ (by decide +kernel)) ggX6_best_X6_errsOf
set_option maxRecDepth 20000 in
theorem ggX6_best_Jxf58ca_floatToIntBits_5c35a : GoodIn wsX6_best wsJxf58ca_floatToIntBits_5c35a := goodIn_r _ [64, 65, 66, 67, 68, 69, 70, 71, 63, 72] (by decide +kernel) (by decide +kernel)
set_option maxRecDepth 20000 in
theorem gX6_best_Jxf58ca_floatToIntBits_5c35a : GoodIn wsX6_best (va_wsS RX6 118 yJxf58ca_floatToIntBits_5c35a wsJxf58ca_floatToIntBits_5c35a) := goodIn_app (goodIn_of _ (by decide +kernel)) ggX6_best_Jxf58ca_floatToIntBits_5c35a
theorem dX6_best_0 : decode cX6_best 0 = .ok (.iload_n 1, 1) := by decide +kernel
theorem dX6_best_1 : decode cX6_best 1 = .ok (.invokestatic 76, 3) := by decide +kernel
theorem dX6_best_4 : decode cX6_best 4 = .ok (.ifCond .eq 12, 3) := by decide +kernel
theorem dX6_best_7 : decode cX6_best 7 = .ok (.iload_n 2, 1) := by decide +kernel
theorem dX6_best_8 : decode cX6_best 8 = .ok (.iconst 0, 1) := by decide +kernel
theorem dX6_best_9 : decode cX6_best 9 = .ok (.iconst 1, 1) := by decide +kernel
theorem dX6_best_10 : decode cX6_best 10 = .ok (.invokestatic 44, 3) := by decide +kernel
theorem dX6_best_13 : decode cX6_best 13 = .ok (.ifCond .ne 8, 3) := by decide +kernel
theorem dX6_best_16 : decode cX6_best 16 = .ok (.aload_n 0, 1) := by decide +kernel
theorem dX6_best_17 : decode cX6_best 17 = .ok (.invokevirtual 59, 3) := by decide +kernel
theorem dX6_best_20 : decode cX6_best 20 = .ok (.ireturn, 1) := by decide +kernel
theorem dX6_best_21 : decode cX6_best 21 = .ok (.aload_n 0, 1) := by decide +kernel
theorem dX6_best_22 : decode cX6_best 22 = .ok (.getfield 13, 3) := by decide +kernel
theorem dX6_best_25 : decode cX6_best 25 = .ok (.iconst 5, 1) := by decide +kernel
theorem dX6_best_26 : decode cX6_best 26 = .ok (.iaload, 1) := by decide +kernel
theorem dX6_best_27 : decode cX6_best 27 = .ok (.istore_n 3, 1) := by decide +kernel
theorem dX6_best_28 : decode cX6_best 28 = .ok (.iconst (-1), 1) := by decide +kernel
theorem dX6_best_29 : decode cX6_best 29 = .ok (.istore 4, 2) := by decide +kernel
theorem dX6_best_31 : decode cX6_best 31 = .ok (.fconst 0, 1) := by decide +kernel
theorem dX6_best_32 : decode cX6_best 32 = .ok (.fstore 5, 2) := by decide +kernel
theorem dX6_best_34 : decode cX6_best 34 = .ok (.iconst 1, 1) := by decide +kernel
theorem dX6_best_35 : decode cX6_best 35 = .ok (.istore 6, 2) := by decide +kernel
theorem dX6_best_37 : decode cX6_best 37 = .ok (.iload 6, 2) := by decide +kernel
theorem dX6_best_39 : decode cX6_best 39 = .ok (.bipush 12, 2) := by decide +kernel
theorem dX6_best_41 : decode cX6_best 41 = .ok (.if_icmp .gt 53, 3) := by decide +kernel
theorem dX6_best_44 : decode cX6_best 44 = .ok (.aload_n 0, 1) := by decide +kernel
theorem dX6_best_45 : decode cX6_best 45 = .ok (.getfield 13, 3) := by decide +kernel
theorem dX6_best_48 : decode cX6_best 48 = .ok (.iconst 5, 1) := by decide +kernel
theorem dX6_best_49 : decode cX6_best 49 = .ok (.iload 6, 2) := by decide +kernel
theorem dX6_best_51 : decode cX6_best 51 = .ok (.iastore, 1) := by decide +kernel
theorem dX6_best_52 : decode cX6_best 52 = .ok (.aload_n 0, 1) := by decide +kernel
theorem dX6_best_53 : decode cX6_best 53 = .ok (.iload_n 1, 1) := by decide +kernel
theorem dX6_best_54 : decode cX6_best 54 = .ok (.invokevirtual 160, 3) := by decide +kernel
theorem dX6_best_57 : decode cX6_best 57 = .ok (.fstore 7, 2) := by decide +kernel
theorem dX6_best_59 : decode cX6_best 59 = .ok (.aload_n 0, 1) := by decide +kernel
theorem dX6_best_60 : decode cX6_best 60 = .ok (.getfield 157, 3) := by decide +kernel
theorem dX6_best_63 : decode cX6_best 63 = .ok (.ifCond .le 25, 3) := by decide +kernel
theorem dX6_best_66 : decode cX6_best 66 = .ok (.iload 4, 2) := by decide +kernel
theorem dX6_best_68 : decode cX6_best 68 = .ok (.iconst (-1), 1) := by decide +kernel
theorem dX6_best_69 : decode cX6_best 69 = .ok (.if_icmp .eq 11, 3) := by decide +kernel
theorem dX6_best_72 : decode cX6_best 72 = .ok (.fload 7, 2) := by decide +kernel
theorem dX6_best_74 : decode cX6_best 74 = .ok (.fload 5, 2) := by decide +kernel
theorem dX6_best_76 : decode cX6_best 76 = .ok (.fcmp .g, 1) := by decide +kernel
theorem dX6_best_77 : decode cX6_best 77 = .ok (.ifCond .ge 11, 3) := by decide +kernel
theorem dX6_best_80 : decode cX6_best 80 = .ok (.iload 6, 2) := by decide +kernel
theorem dX6_best_82 : decode cX6_best 82 = .ok (.istore 4, 2) := by decide +kernel
theorem dX6_best_84 : decode cX6_best 84 = .ok (.fload 7, 2) := by decide +kernel
theorem dX6_best_86 : decode cX6_best 86 = .ok (.fstore 5, 2) := by decide +kernel
theorem dX6_best_88 : decode cX6_best 88 = .ok (.iinc 6 1, 3) := by decide +kernel
theorem dX6_best_91 : decode cX6_best 91 = .ok (.goto (-54), 3) := by decide +kernel
theorem dX6_best_94 : decode cX6_best 94 = .ok (.aload_n 0, 1) := by decide +kernel
theorem dX6_best_95 : decode cX6_best 95 = .ok (.getfield 13, 3) := by decide +kernel
theorem dX6_best_98 : decode cX6_best 98 = .ok (.iconst 5, 1) := by decide +kernel
theorem dX6_best_99 : decode cX6_best 99 = .ok (.iload_n 3, 1) := by decide +kernel
theorem dX6_best_100 : decode cX6_best 100 = .ok (.iastore, 1) := by decide +kernel
theorem dX6_best_101 : decode cX6_best 101 = .ok (.iload_n 2, 1) := by decide +kernel
theorem dX6_best_102 : decode cX6_best 102 = .ok (.ifCond .eq 9, 3) := by decide +kernel
theorem dX6_best_105 : decode cX6_best 105 = .ok (.iload 4, 2) := by decide +kernel
theorem dX6_best_107 : decode cX6_best 107 = .ok (.iconst (-1), 1) := by decide +kernel
theorem dX6_best_108 : decode cX6_best 108 = .ok (.if_icmp .ne 8, 3) := by decide +kernel
theorem dX6_best_111 : decode cX6_best 111 = .ok (.iload 4, 2) := by decide +kernel
theorem dX6_best_113 : decode cX6_best 113 = .ok (.goto 8, 3) := by decide +kernel
theorem dX6_best_116 : decode cX6_best 116 = .ok (.fload 5, 2) := by decide +kernel
theorem dX6_best_118 : decode cX6_best 118 = .ok (.invokestatic 118, 3) := by decide +kernel
theorem dX6_best_121 : decode cX6_best 121 = .ok (.ireturn, 1) := by decide +kernel
set_option maxRecDepth 20000 in
theorem ggX6_spare_X6_isMember : GoodIn wsX6_spare wsX6_isMember := goodIn_r _ [6, 7, 8, 5, 9] (by decide +kernel) (by decide +kernel)
set_option maxRecDepth 20000 in
theorem gX6_spare_X6_isMember : GoodIn wsX6_spare (va_wsS RX6 76 yX6_isMember wsX6_isMember) := goodIn_app (goodIn_of _ (by decide +kernel)) ggX6_spare_X6_isMember
set_option maxRecDepth 20000 in
theorem ggX6_spare_X6_bad : GoodIn wsX6_spare wsX6_bad := goodIn_r _ [13, 14, 61, 62, 63, 64, 65, 66, 67, 68, 69, 70, 71, 72, 73, 74, 75, 76, 77, 78, 79, 80, 81] (by decide +kernel) (by decide +kernel)
set_option maxRecDepth 20000 in
theorem gX6_spare_X6_bad : GoodIn wsX6_spare (wsV RX6 59 RX6 yX6_bad wsX6_bad) := goodIn_app (goodIn_of _ (by decide +kernel)) ggX6_spare_X6_bad
set_option maxRecDepth 20000 in
theorem ggX6_spare_X6_errsOf : GoodIn wsX6_spare wsX6_errsOf := goodIn_r _ [18, 2, 19, 20, 21, 22, 23, 24, 5, 25, 26, 27, 28, 29, 30, 31, 32, 33, 34, 35, 1, 36, 37, 38, 39, 40, 41, 42, 43, 44, 45, 46, 47, 48, 49, 50, 51, 52, 53, 54, 55, 56, 57, 58, 59, 60, 61, 62, 63, 64, 65, 66, 67, 68, 69, 70, 71, 72, 73, 74, 75, 76, 77, 78, 79, 80, 81] (by decide +kernel) (by decide +kernel)
set_option maxRecDepth 20000 in
theorem gX6_spare_X6_errsOf : GoodIn wsX6_spare (wsV RX6 160 RX6 yX6_errsOf wsX6_errsOf) := goodIn_app (goodIn_of _ (by decide +kernel)) ggX6_spare_X6_errsOf
theorem dX6_spare_0 : decode cX6_spare 0 = .ok (.iload_n 1, 1) := by decide +kernel
theorem dX6_spare_1 : decode cX6_spare 1 = .ok (.invokestatic 76, 3) := by decide +kernel
theorem dX6_spare_4 : decode cX6_spare 4 = .ok (.ifCond .ne 8, 3) := by decide +kernel
theorem dX6_spare_7 : decode cX6_spare 7 = .ok (.aload_n 0, 1) := by decide +kernel
theorem dX6_spare_8 : decode cX6_spare 8 = .ok (.invokevirtual 59, 3) := by decide +kernel
theorem dX6_spare_11 : decode cX6_spare 11 = .ok (.ireturn, 1) := by decide +kernel
theorem dX6_spare_12 : decode cX6_spare 12 = .ok (.iconst (-1), 1) := by decide +kernel
theorem dX6_spare_13 : decode cX6_spare 13 = .ok (.istore_n 2, 1) := by decide +kernel
theorem dX6_spare_14 : decode cX6_spare 14 = .ok (.fconst 0, 1) := by decide +kernel
theorem dX6_spare_15 : decode cX6_spare 15 = .ok (.fstore_n 3, 1) := by decide +kernel
theorem dX6_spare_16 : decode cX6_spare 16 = .ok (.iconst 0, 1) := by decide +kernel
theorem dX6_spare_17 : decode cX6_spare 17 = .ok (.istore 4, 2) := by decide +kernel
theorem dX6_spare_19 : decode cX6_spare 19 = .ok (.iload 4, 2) := by decide +kernel
theorem dX6_spare_21 : decode cX6_spare 21 = .ok (.iconst 4, 1) := by decide +kernel
theorem dX6_spare_22 : decode cX6_spare 22 = .ok (.if_icmp .ge 67, 3) := by decide +kernel
theorem dX6_spare_25 : decode cX6_spare 25 = .ok (.aload_n 0, 1) := by decide +kernel
theorem dX6_spare_26 : decode cX6_spare 26 = .ok (.getfield 13, 3) := by decide +kernel
theorem dX6_spare_29 : decode cX6_spare 29 = .ok (.iload 4, 2) := by decide +kernel
theorem dX6_spare_31 : decode cX6_spare 31 = .ok (.iaload, 1) := by decide +kernel
theorem dX6_spare_32 : decode cX6_spare 32 = .ok (.istore 5, 2) := by decide +kernel
theorem dX6_spare_34 : decode cX6_spare 34 = .ok (.aload_n 0, 1) := by decide +kernel
theorem dX6_spare_35 : decode cX6_spare 35 = .ok (.getfield 13, 3) := by decide +kernel
theorem dX6_spare_38 : decode cX6_spare 38 = .ok (.iload 4, 2) := by decide +kernel
theorem dX6_spare_40 : decode cX6_spare 40 = .ok (.iconst 0, 1) := by decide +kernel
theorem dX6_spare_41 : decode cX6_spare 41 = .ok (.iastore, 1) := by decide +kernel
theorem dX6_spare_42 : decode cX6_spare 42 = .ok (.aload_n 0, 1) := by decide +kernel
theorem dX6_spare_43 : decode cX6_spare 43 = .ok (.iload_n 1, 1) := by decide +kernel
theorem dX6_spare_44 : decode cX6_spare 44 = .ok (.invokevirtual 160, 3) := by decide +kernel
theorem dX6_spare_47 : decode cX6_spare 47 = .ok (.fstore 6, 2) := by decide +kernel
theorem dX6_spare_49 : decode cX6_spare 49 = .ok (.aload_n 0, 1) := by decide +kernel
theorem dX6_spare_50 : decode cX6_spare 50 = .ok (.getfield 13, 3) := by decide +kernel
theorem dX6_spare_53 : decode cX6_spare 53 = .ok (.iload 4, 2) := by decide +kernel
theorem dX6_spare_55 : decode cX6_spare 55 = .ok (.iload 5, 2) := by decide +kernel
theorem dX6_spare_57 : decode cX6_spare 57 = .ok (.iastore, 1) := by decide +kernel
theorem dX6_spare_58 : decode cX6_spare 58 = .ok (.aload_n 0, 1) := by decide +kernel
theorem dX6_spare_59 : decode cX6_spare 59 = .ok (.getfield 157, 3) := by decide +kernel
theorem dX6_spare_62 : decode cX6_spare 62 = .ok (.ifCond .le 21, 3) := by decide +kernel
theorem dX6_spare_65 : decode cX6_spare 65 = .ok (.iload_n 2, 1) := by decide +kernel
theorem dX6_spare_66 : decode cX6_spare 66 = .ok (.iconst (-1), 1) := by decide +kernel
theorem dX6_spare_67 : decode cX6_spare 67 = .ok (.if_icmp .eq 10, 3) := by decide +kernel
theorem dX6_spare_70 : decode cX6_spare 70 = .ok (.fload 6, 2) := by decide +kernel
theorem dX6_spare_72 : decode cX6_spare 72 = .ok (.fload_n 3, 1) := by decide +kernel
theorem dX6_spare_73 : decode cX6_spare 73 = .ok (.fcmp .g, 1) := by decide +kernel
theorem dX6_spare_74 : decode cX6_spare 74 = .ok (.ifCond .ge 9, 3) := by decide +kernel
theorem dX6_spare_77 : decode cX6_spare 77 = .ok (.iload 4, 2) := by decide +kernel
theorem dX6_spare_79 : decode cX6_spare 79 = .ok (.istore_n 2, 1) := by decide +kernel
theorem dX6_spare_80 : decode cX6_spare 80 = .ok (.fload 6, 2) := by decide +kernel
theorem dX6_spare_82 : decode cX6_spare 82 = .ok (.fstore_n 3, 1) := by decide +kernel
theorem dX6_spare_83 : decode cX6_spare 83 = .ok (.iinc 4 1, 3) := by decide +kernel
theorem dX6_spare_86 : decode cX6_spare 86 = .ok (.goto (-67), 3) := by decide +kernel
theorem dX6_spare_89 : decode cX6_spare 89 = .ok (.iload_n 2, 1) := by decide +kernel
theorem dX6_spare_90 : decode cX6_spare 90 = .ok (.ireturn, 1) := by decide +kernel
set_option maxRecDepth 20000 in
theorem ggX6_type_X6_in : GoodIn wsX6_type wsX6_in := goodIn_r _ [6] (by decide +kernel) (by decide +kernel)
set_option maxRecDepth 20000 in
theorem gX6_type_X6_in : GoodIn wsX6_type (va_wsS RX6 44 yX6_in wsX6_in) := goodIn_app (goodIn_of _ (by decide +kernel)) ggX6_type_X6_in
set_option maxRecDepth 20000 in
theorem ggX6_type_X6_bad : GoodIn wsX6_type wsX6_bad := goodIn_r _ [10, 11, 16, 17, 18, 19, 20, 21, 22, 23, 24, 25, 26, 27, 28, 29, 30, 31, 32, 33, 34, 35, 36] (by decide +kernel) (by decide +kernel)
set_option maxRecDepth 20000 in
theorem gX6_type_X6_bad : GoodIn wsX6_type (wsV RX6 59 RX6 yX6_bad wsX6_bad) := goodIn_app (goodIn_of _ (by decide +kernel)) ggX6_type_X6_bad
set_option maxRecDepth 20000 in
theorem ggX6_type_X6_full : GoodIn wsX6_type wsX6_full := goodIn_r _ [15, 11, 16, 17, 18, 19, 20, 21, 22, 23, 24, 25, 26, 27, 28, 29, 30, 31, 32, 33, 34, 35, 36] (by decide +kernel) (by decide +kernel)
set_option maxRecDepth 20000 in
theorem gX6_type_X6_full : GoodIn wsX6_type (wsV RX6 63 RX6 yX6_full wsX6_full) := goodIn_app (goodIn_of _ (by decide +kernel)) ggX6_type_X6_full
theorem dX6_type_0 : decode cX6_type 0 = .ok (.iload_n 1, 1) := by decide +kernel
theorem dX6_type_1 : decode cX6_type 1 = .ok (.iconst 0, 1) := by decide +kernel
theorem dX6_type_2 : decode cX6_type 2 = .ok (.bipush 127, 2) := by decide +kernel
theorem dX6_type_4 : decode cX6_type 4 = .ok (.invokestatic 44, 3) := by decide +kernel
theorem dX6_type_7 : decode cX6_type 7 = .ok (.ifCond .ne 8, 3) := by decide +kernel
theorem dX6_type_10 : decode cX6_type 10 = .ok (.aload_n 0, 1) := by decide +kernel
theorem dX6_type_11 : decode cX6_type 11 = .ok (.invokevirtual 59, 3) := by decide +kernel
end
section
theorem dX6_type_14 : decode cX6_type 14 = .ok (.ireturn, 1) := by decide +kernel
theorem dX6_type_15 : decode cX6_type 15 = .ok (.aload_n 0, 1) := by decide +kernel
theorem dX6_type_16 : decode cX6_type 16 = .ok (.getfield 166, 3) := by decide +kernel
theorem dX6_type_19 : decode cX6_type 19 = .ok (.bipush 120, 2) := by decide +kernel
theorem dX6_type_21 : decode cX6_type 21 = .ok (.if_icmp .ne 8, 3) := by decide +kernel
theorem dX6_type_24 : decode cX6_type 24 = .ok (.aload_n 0, 1) := by decide +kernel
theorem dX6_type_25 : decode cX6_type 25 = .ok (.invokevirtual 63, 3) := by decide +kernel
theorem dX6_type_28 : decode cX6_type 28 = .ok (.ireturn, 1) := by decide +kernel
theorem dX6_type_29 : decode cX6_type 29 = .ok (.aload_n 0, 1) := by decide +kernel
theorem dX6_type_30 : decode cX6_type 30 = .ok (.getfield 38, 3) := by decide +kernel
theorem dX6_type_33 : decode cX6_type 33 = .ok (.aload_n 0, 1) := by decide +kernel
theorem dX6_type_34 : decode cX6_type 34 = .ok (.getfield 166, 3) := by decide +kernel
theorem dX6_type_37 : decode cX6_type 37 = .ok (.iload_n 1, 1) := by decide +kernel
theorem dX6_type_38 : decode cX6_type 38 = .ok (.iastore, 1) := by decide +kernel
theorem dX6_type_39 : decode cX6_type 39 = .ok (.aload_n 0, 1) := by decide +kernel
theorem dX6_type_40 : decode cX6_type 40 = .ok (.dup, 1) := by decide +kernel
theorem dX6_type_41 : decode cX6_type 41 = .ok (.getfield 166, 3) := by decide +kernel
theorem dX6_type_44 : decode cX6_type 44 = .ok (.iconst 1, 1) := by decide +kernel
theorem dX6_type_45 : decode cX6_type 45 = .ok (.iadd, 1) := by decide +kernel
theorem dX6_type_46 : decode cX6_type 46 = .ok (.putfield 166, 3) := by decide +kernel
theorem dX6_type_49 : decode cX6_type 49 = .ok (.aload_n 0, 1) := by decide +kernel
theorem dX6_type_50 : decode cX6_type 50 = .ok (.getfield 166, 3) := by decide +kernel
theorem dX6_type_53 : decode cX6_type 53 = .ok (.ireturn, 1) := by decide +kernel
theorem dX6_clear_0 : decode cX6_clear 0 = .ok (.aload_n 0, 1) := by decide +kernel
theorem dX6_clear_1 : decode cX6_clear 1 = .ok (.getfield 166, 3) := by decide +kernel
theorem dX6_clear_4 : decode cX6_clear 4 = .ok (.istore_n 1, 1) := by decide +kernel
theorem dX6_clear_5 : decode cX6_clear 5 = .ok (.aload_n 0, 1) := by decide +kernel
theorem dX6_clear_6 : decode cX6_clear 6 = .ok (.iconst 0, 1) := by decide +kernel
theorem dX6_clear_7 : decode cX6_clear 7 = .ok (.putfield 166, 3) := by decide +kernel
theorem dX6_clear_10 : decode cX6_clear 10 = .ok (.iload_n 1, 1) := by decide +kernel
theorem dX6_clear_11 : decode cX6_clear 11 = .ok (.ireturn, 1) := by decide +kernel
theorem dX6_here_0 : decode cX6_here 0 = .ok (.aload_n 0, 1) := by decide +kernel
theorem dX6_here_1 : decode cX6_here 1 = .ok (.getfield 169, 3) := by decide +kernel
theorem dX6_here_4 : decode cX6_here 4 = .ok (.aload_n 0, 1) := by decide +kernel
theorem dX6_here_5 : decode cX6_here 5 = .ok (.getfield 166, 3) := by decide +kernel
theorem dX6_here_8 : decode cX6_here 8 = .ok (.if_icmp .ge 15, 3) := by decide +kernel
theorem dX6_here_11 : decode cX6_here 11 = .ok (.aload_n 0, 1) := by decide +kernel
theorem dX6_here_12 : decode cX6_here 12 = .ok (.getfield 38, 3) := by decide +kernel
theorem dX6_here_15 : decode cX6_here 15 = .ok (.aload_n 0, 1) := by decide +kernel
theorem dX6_here_16 : decode cX6_here 16 = .ok (.getfield 169, 3) := by decide +kernel
theorem dX6_here_19 : decode cX6_here 19 = .ok (.iaload, 1) := by decide +kernel
theorem dX6_here_20 : decode cX6_here 20 = .ok (.goto 4, 3) := by decide +kernel
theorem dX6_here_23 : decode cX6_here 23 = .ok (.iconst (-1), 1) := by decide +kernel
theorem dX6_here_24 : decode cX6_here 24 = .ok (.ireturn, 1) := by decide +kernel
set_option maxRecDepth 20000 in
theorem ggX6_skips_X6_here : GoodIn wsX6_skips wsX6_here := goodIn_r _ [7, 1, 8, 9, 10, 11, 12, 13, 14, 15, 16, 17, 18, 19, 20, 21, 22, 23, 24, 25, 26, 27, 28, 29, 30] (by decide +kernel) (by decide +kernel)
set_option maxRecDepth 20000 in
theorem gX6_skips_X6_here : GoodIn wsX6_skips (wsV RX6 172 RX6 yX6_here wsX6_here) := goodIn_app (goodIn_of _ (by decide +kernel)) ggX6_skips_X6_here
theorem dX6_skips_0 : decode cX6_skips 0 = .ok (.aload_n 0, 1) := by decide +kernel
theorem dX6_skips_1 : decode cX6_skips 1 = .ok (.invokevirtual 172, 3) := by decide +kernel
theorem dX6_skips_4 : decode cX6_skips 4 = .ok (.bipush 32, 2) := by decide +kernel
theorem dX6_skips_6 : decode cX6_skips 6 = .ok (.if_icmp .ne 16, 3) := by decide +kernel
theorem dX6_skips_9 : decode cX6_skips 9 = .ok (.aload_n 0, 1) := by decide +kernel
theorem dX6_skips_10 : decode cX6_skips 10 = .ok (.dup, 1) := by decide +kernel
theorem dX6_skips_11 : decode cX6_skips 11 = .ok (.getfield 169, 3) := by decide +kernel
theorem dX6_skips_14 : decode cX6_skips 14 = .ok (.iconst 1, 1) := by decide +kernel
theorem dX6_skips_15 : decode cX6_skips 15 = .ok (.iadd, 1) := by decide +kernel
theorem dX6_skips_16 : decode cX6_skips 16 = .ok (.putfield 169, 3) := by decide +kernel
theorem dX6_skips_19 : decode cX6_skips 19 = .ok (.goto (-19), 3) := by decide +kernel
theorem dX6_skips_22 : decode cX6_skips 22 = .ok (.aload_n 0, 1) := by decide +kernel
theorem dX6_skips_23 : decode cX6_skips 23 = .ok (.aload_n 0, 1) := by decide +kernel
theorem dX6_skips_24 : decode cX6_skips 24 = .ok (.getfield 169, 3) := by decide +kernel
theorem dX6_skips_27 : decode cX6_skips 27 = .ok (.putfield 175, 3) := by decide +kernel
theorem dX6_skips_30 : decode cX6_skips 30 = .ok (.return_, 1) := by decide +kernel
set_option maxRecDepth 20000 in
theorem ggX6_readsMember_X6_skips : GoodIn wsX6_readsMember wsX6_skips := goodIn_r _ [7, 1, 8, 9, 10, 11, 6, 12, 13, 14, 18, 19, 20, 21, 22, 23, 24, 25, 26, 27, 28, 29, 30, 31, 32, 33, 34, 35, 36, 37, 38] (by decide +kernel) (by decide +kernel)
set_option maxRecDepth 20000 in
theorem gX6_readsMember_X6_skips : GoodIn wsX6_readsMember (wsV RX6 178 RX6 yX6_skips wsX6_skips) := goodIn_app (goodIn_of _ (by decide +kernel)) ggX6_readsMember_X6_skips
set_option maxRecDepth 20000 in
theorem ggX6_readsMember_X6_here : GoodIn wsX6_readsMember wsX6_here := goodIn_r _ [12, 1, 13, 14, 18, 19, 20, 21, 22, 23, 24, 25, 26, 27, 28, 29, 30, 31, 32, 33, 34, 35, 36, 37, 38] (by decide +kernel) (by decide +kernel)
set_option maxRecDepth 20000 in
theorem gX6_readsMember_X6_here : GoodIn wsX6_readsMember (wsV RX6 172 RX6 yX6_here wsX6_here) := goodIn_app (goodIn_of _ (by decide +kernel)) ggX6_readsMember_X6_here
set_option maxRecDepth 20000 in
theorem ggX6_readsMember_X6_in : GoodIn wsX6_readsMember wsX6_in := goodIn_r _ [17] (by decide +kernel) (by decide +kernel)
set_option maxRecDepth 20000 in
theorem gX6_readsMember_X6_in : GoodIn wsX6_readsMember (va_wsS RX6 44 yX6_in wsX6_in) := goodIn_app (goodIn_of _ (by decide +kernel)) ggX6_readsMember_X6_in
theorem dX6_readsMember_0 : decode cX6_readsMember 0 = .ok (.aload_n 0, 1) := by decide +kernel
theorem dX6_readsMember_1 : decode cX6_readsMember 1 = .ok (.invokevirtual 178, 3) := by decide +kernel
theorem dX6_readsMember_4 : decode cX6_readsMember 4 = .ok (.aload_n 0, 1) := by decide +kernel
theorem dX6_readsMember_5 : decode cX6_readsMember 5 = .ok (.invokevirtual 172, 3) := by decide +kernel
theorem dX6_readsMember_8 : decode cX6_readsMember 8 = .ok (.bipush 46, 2) := by decide +kernel
theorem dX6_readsMember_10 : decode cX6_readsMember 10 = .ok (.if_icmp .ne 24, 3) := by decide +kernel
theorem dX6_readsMember_13 : decode cX6_readsMember 13 = .ok (.aload_n 0, 1) := by decide +kernel
theorem dX6_readsMember_14 : decode cX6_readsMember 14 = .ok (.dup, 1) := by decide +kernel
theorem dX6_readsMember_15 : decode cX6_readsMember 15 = .ok (.getfield 169, 3) := by decide +kernel
theorem dX6_readsMember_18 : decode cX6_readsMember 18 = .ok (.iconst 1, 1) := by decide +kernel
theorem dX6_readsMember_19 : decode cX6_readsMember 19 = .ok (.iadd, 1) := by decide +kernel
theorem dX6_readsMember_20 : decode cX6_readsMember 20 = .ok (.putfield 169, 3) := by decide +kernel
theorem dX6_readsMember_23 : decode cX6_readsMember 23 = .ok (.aload_n 0, 1) := by decide +kernel
theorem dX6_readsMember_24 : decode cX6_readsMember 24 = .ok (.getfield 41, 3) := by decide +kernel
theorem dX6_readsMember_27 : decode cX6_readsMember 27 = .ok (.iload_n 1, 1) := by decide +kernel
theorem dX6_readsMember_28 : decode cX6_readsMember 28 = .ok (.sipush (-10000), 3) := by decide +kernel
theorem dX6_readsMember_31 : decode cX6_readsMember 31 = .ok (.iastore, 1) := by decide +kernel
theorem dX6_readsMember_32 : decode cX6_readsMember 32 = .ok (.iconst 1, 1) := by decide +kernel
theorem dX6_readsMember_33 : decode cX6_readsMember 33 = .ok (.ireturn, 1) := by decide +kernel
theorem dX6_readsMember_34 : decode cX6_readsMember 34 = .ok (.aload_n 0, 1) := by decide +kernel
theorem dX6_readsMember_35 : decode cX6_readsMember 35 = .ok (.invokevirtual 172, 3) := by decide +kernel
theorem dX6_readsMember_38 : decode cX6_readsMember 38 = .ok (.bipush 45, 2) := by decide +kernel
theorem dX6_readsMember_40 : decode cX6_readsMember 40 = .ok (.if_icmp .ne 7, 3) := by decide +kernel
theorem dX6_readsMember_43 : decode cX6_readsMember 43 = .ok (.iconst 1, 1) := by decide +kernel
theorem dX6_readsMember_44 : decode cX6_readsMember 44 = .ok (.goto 4, 3) := by decide +kernel
theorem dX6_readsMember_47 : decode cX6_readsMember 47 = .ok (.iconst 0, 1) := by decide +kernel
theorem dX6_readsMember_48 : decode cX6_readsMember 48 = .ok (.istore_n 2, 1) := by decide +kernel
theorem dX6_readsMember_49 : decode cX6_readsMember 49 = .ok (.aload_n 0, 1) := by decide +kernel
theorem dX6_readsMember_50 : decode cX6_readsMember 50 = .ok (.dup, 1) := by decide +kernel
theorem dX6_readsMember_51 : decode cX6_readsMember 51 = .ok (.getfield 169, 3) := by decide +kernel
theorem dX6_readsMember_54 : decode cX6_readsMember 54 = .ok (.iload_n 2, 1) := by decide +kernel
theorem dX6_readsMember_55 : decode cX6_readsMember 55 = .ok (.ifCond .eq 7, 3) := by decide +kernel
theorem dX6_readsMember_58 : decode cX6_readsMember 58 = .ok (.iconst 1, 1) := by decide +kernel
theorem dX6_readsMember_59 : decode cX6_readsMember 59 = .ok (.goto 4, 3) := by decide +kernel
theorem dX6_readsMember_62 : decode cX6_readsMember 62 = .ok (.iconst 0, 1) := by decide +kernel
theorem dX6_readsMember_63 : decode cX6_readsMember 63 = .ok (.iadd, 1) := by decide +kernel
theorem dX6_readsMember_64 : decode cX6_readsMember 64 = .ok (.putfield 169, 3) := by decide +kernel
theorem dX6_readsMember_67 : decode cX6_readsMember 67 = .ok (.iconst 0, 1) := by decide +kernel
theorem dX6_readsMember_68 : decode cX6_readsMember 68 = .ok (.istore_n 3, 1) := by decide +kernel
theorem dX6_readsMember_69 : decode cX6_readsMember 69 = .ok (.iconst 0, 1) := by decide +kernel
theorem dX6_readsMember_70 : decode cX6_readsMember 70 = .ok (.istore 4, 2) := by decide +kernel
theorem dX6_readsMember_72 : decode cX6_readsMember 72 = .ok (.aload_n 0, 1) := by decide +kernel
theorem dX6_readsMember_73 : decode cX6_readsMember 73 = .ok (.invokevirtual 172, 3) := by decide +kernel
theorem dX6_readsMember_76 : decode cX6_readsMember 76 = .ok (.bipush 48, 2) := by decide +kernel
theorem dX6_readsMember_78 : decode cX6_readsMember 78 = .ok (.bipush 57, 2) := by decide +kernel
theorem dX6_readsMember_80 : decode cX6_readsMember 80 = .ok (.invokestatic 44, 3) := by decide +kernel
theorem dX6_readsMember_83 : decode cX6_readsMember 83 = .ok (.ifCond .eq 44, 3) := by decide +kernel
theorem dX6_readsMember_86 : decode cX6_readsMember 86 = .ok (.iload_n 3, 1) := by decide +kernel
theorem dX6_readsMember_87 : decode cX6_readsMember 87 = .ok (.iconst 3, 1) := by decide +kernel
theorem dX6_readsMember_88 : decode cX6_readsMember 88 = .ok (.if_icmp .ge 19, 3) := by decide +kernel
theorem dX6_readsMember_91 : decode cX6_readsMember 91 = .ok (.bipush 10, 2) := by decide +kernel
theorem dX6_readsMember_93 : decode cX6_readsMember 93 = .ok (.iload 4, 2) := by decide +kernel
theorem dX6_readsMember_95 : decode cX6_readsMember 95 = .ok (.imul, 1) := by decide +kernel
theorem dX6_readsMember_96 : decode cX6_readsMember 96 = .ok (.aload_n 0, 1) := by decide +kernel
theorem dX6_readsMember_97 : decode cX6_readsMember 97 = .ok (.invokevirtual 172, 3) := by decide +kernel
theorem dX6_readsMember_100 : decode cX6_readsMember 100 = .ok (.iadd, 1) := by decide +kernel
theorem dX6_readsMember_101 : decode cX6_readsMember 101 = .ok (.bipush 48, 2) := by decide +kernel
theorem dX6_readsMember_103 : decode cX6_readsMember 103 = .ok (.isub, 1) := by decide +kernel
theorem dX6_readsMember_104 : decode cX6_readsMember 104 = .ok (.goto 5, 3) := by decide +kernel
theorem dX6_readsMember_107 : decode cX6_readsMember 107 = .ok (.iload 4, 2) := by decide +kernel
theorem dX6_readsMember_109 : decode cX6_readsMember 109 = .ok (.istore 4, 2) := by decide +kernel
theorem dX6_readsMember_111 : decode cX6_readsMember 111 = .ok (.iinc 3 1, 3) := by decide +kernel
theorem dX6_readsMember_114 : decode cX6_readsMember 114 = .ok (.aload_n 0, 1) := by decide +kernel
theorem dX6_readsMember_115 : decode cX6_readsMember 115 = .ok (.dup, 1) := by decide +kernel
theorem dX6_readsMember_116 : decode cX6_readsMember 116 = .ok (.getfield 169, 3) := by decide +kernel
theorem dX6_readsMember_119 : decode cX6_readsMember 119 = .ok (.iconst 1, 1) := by decide +kernel
theorem dX6_readsMember_120 : decode cX6_readsMember 120 = .ok (.iadd, 1) := by decide +kernel
theorem dX6_readsMember_121 : decode cX6_readsMember 121 = .ok (.putfield 169, 3) := by decide +kernel
theorem dX6_readsMember_124 : decode cX6_readsMember 124 = .ok (.goto (-52), 3) := by decide +kernel
theorem dX6_readsMember_127 : decode cX6_readsMember 127 = .ok (.aload_n 0, 1) := by decide +kernel
theorem dX6_readsMember_128 : decode cX6_readsMember 128 = .ok (.getfield 41, 3) := by decide +kernel
theorem dX6_readsMember_131 : decode cX6_readsMember 131 = .ok (.iload_n 1, 1) := by decide +kernel
theorem dX6_readsMember_132 : decode cX6_readsMember 132 = .ok (.iload_n 2, 1) := by decide +kernel
theorem dX6_readsMember_133 : decode cX6_readsMember 133 = .ok (.ifCond .eq 9, 3) := by decide +kernel
theorem dX6_readsMember_136 : decode cX6_readsMember 136 = .ok (.iload 4, 2) := by decide +kernel
theorem dX6_readsMember_138 : decode cX6_readsMember 138 = .ok (.ineg, 1) := by decide +kernel
theorem dX6_readsMember_139 : decode cX6_readsMember 139 = .ok (.goto 5, 3) := by decide +kernel
theorem dX6_readsMember_142 : decode cX6_readsMember 142 = .ok (.iload 4, 2) := by decide +kernel
theorem dX6_readsMember_144 : decode cX6_readsMember 144 = .ok (.iastore, 1) := by decide +kernel
theorem dX6_readsMember_145 : decode cX6_readsMember 145 = .ok (.iload_n 3, 1) := by decide +kernel
theorem dX6_readsMember_146 : decode cX6_readsMember 146 = .ok (.iconst 1, 1) := by decide +kernel
theorem dX6_readsMember_147 : decode cX6_readsMember 147 = .ok (.iconst 3, 1) := by decide +kernel
theorem dX6_readsMember_148 : decode cX6_readsMember 148 = .ok (.invokestatic 44, 3) := by decide +kernel
theorem dX6_readsMember_151 : decode cX6_readsMember 151 = .ok (.ireturn, 1) := by decide +kernel
set_option maxRecDepth 20000 in
theorem ggX6_readsDay_X6_skips : GoodIn wsX6_readsDay wsX6_skips := goodIn_r _ [8, 2, 9, 10, 11, 12, 7, 13, 14, 15, 29, 30, 31, 32, 33, 34, 35, 36, 37, 38, 39, 40, 41, 42, 43, 44, 45, 46, 47, 48, 49] (by decide +kernel) (by decide +kernel)
set_option maxRecDepth 20000 in
theorem gX6_readsDay_X6_skips : GoodIn wsX6_readsDay (wsV RX6 178 RX6 yX6_skips wsX6_skips) := goodIn_app (goodIn_of _ (by decide +kernel)) ggX6_readsDay_X6_skips
set_option maxRecDepth 20000 in
theorem ggX6_readsDay_X6_readsMember : GoodIn wsX6_readsDay wsX6_readsMember := goodIn_r _ [19, 2, 3, 4, 5, 6, 7, 8, 9, 10, 11, 12, 13, 14, 15, 20, 21, 22, 29, 30, 31, 32, 33, 34, 35, 36, 37, 38, 39, 40, 41, 42, 43, 44, 45, 46, 47, 48, 49] (by decide +kernel) (by decide +kernel)
set_option maxRecDepth 20000 in
theorem gX6_readsDay_X6_readsMember : GoodIn wsX6_readsDay (wsV RX6 184 RX6 yX6_readsMember wsX6_readsMember) := goodIn_app (goodIn_of _ (by decide +kernel)) ggX6_readsDay_X6_readsMember
set_option maxRecDepth 20000 in
theorem ggX6_readsDay_X6_here : GoodIn wsX6_readsDay wsX6_here := goodIn_r _ [13, 2, 14, 15, 29, 30, 31, 32, 33, 34, 35, 36, 37, 38, 39, 40, 41, 42, 43, 44, 45, 46, 47, 48, 49] (by decide +kernel) (by decide +kernel)
set_option maxRecDepth 20000 in
theorem gX6_readsDay_X6_here : GoodIn wsX6_readsDay (wsV RX6 172 RX6 yX6_here wsX6_here) := goodIn_app (goodIn_of _ (by decide +kernel)) ggX6_readsDay_X6_here
set_option maxRecDepth 20000 in
theorem ggX6_readsDay_X6_comes : GoodIn wsX6_readsDay wsX6_comes := goodIn_r _ [26, 27, 28, 29, 30, 31, 32, 33, 34, 35, 36, 37, 38, 39, 40, 41, 42, 43, 44, 45, 46, 47, 48, 49] (by decide +kernel) (by decide +kernel)
set_option maxRecDepth 20000 in
theorem gX6_readsDay_X6_comes : GoodIn wsX6_readsDay (wsV RX6 69 RX6 yX6_comes wsX6_comes) := goodIn_app (goodIn_of _ (by decide +kernel)) ggX6_readsDay_X6_comes
theorem dX6_readsDay_0 : decode cX6_readsDay 0 = .ok (.aload_n 0, 1) := by decide +kernel
theorem dX6_readsDay_1 : decode cX6_readsDay 1 = .ok (.invokevirtual 178, 3) := by decide +kernel
theorem dX6_readsDay_4 : decode cX6_readsDay 4 = .ok (.aload_n 0, 1) := by decide +kernel
theorem dX6_readsDay_5 : decode cX6_readsDay 5 = .ok (.getfield 181, 3) := by decide +kernel
theorem dX6_readsDay_8 : decode cX6_readsDay 8 = .ok (.bipush 50, 2) := by decide +kernel
theorem dX6_readsDay_10 : decode cX6_readsDay 10 = .ok (.if_icmp .ne 5, 3) := by decide +kernel
theorem dX6_readsDay_13 : decode cX6_readsDay 13 = .ok (.iconst 0, 1) := by decide +kernel
theorem dX6_readsDay_14 : decode cX6_readsDay 14 = .ok (.ireturn, 1) := by decide +kernel
theorem dX6_readsDay_15 : decode cX6_readsDay 15 = .ok (.iconst 0, 1) := by decide +kernel
theorem dX6_readsDay_16 : decode cX6_readsDay 16 = .ok (.istore_n 2, 1) := by decide +kernel
theorem dX6_readsDay_17 : decode cX6_readsDay 17 = .ok (.iload_n 2, 1) := by decide +kernel
theorem dX6_readsDay_18 : decode cX6_readsDay 18 = .ok (.iconst 4, 1) := by decide +kernel
theorem dX6_readsDay_19 : decode cX6_readsDay 19 = .ok (.if_icmp .ge 54, 3) := by decide +kernel
theorem dX6_readsDay_22 : decode cX6_readsDay 22 = .ok (.aload_n 0, 1) := by decide +kernel
theorem dX6_readsDay_23 : decode cX6_readsDay 23 = .ok (.iload_n 2, 1) := by decide +kernel
theorem dX6_readsDay_24 : decode cX6_readsDay 24 = .ok (.invokevirtual 184, 3) := by decide +kernel
theorem dX6_readsDay_27 : decode cX6_readsDay 27 = .ok (.ifCond .ne 5, 3) := by decide +kernel
theorem dX6_readsDay_30 : decode cX6_readsDay 30 = .ok (.iconst 0, 1) := by decide +kernel
theorem dX6_readsDay_31 : decode cX6_readsDay 31 = .ok (.ireturn, 1) := by decide +kernel
theorem dX6_readsDay_32 : decode cX6_readsDay 32 = .ok (.aload_n 0, 1) := by decide +kernel
theorem dX6_readsDay_33 : decode cX6_readsDay 33 = .ok (.invokevirtual 178, 3) := by decide +kernel
theorem dX6_readsDay_36 : decode cX6_readsDay 36 = .ok (.aload_n 0, 1) := by decide +kernel
theorem dX6_readsDay_37 : decode cX6_readsDay 37 = .ok (.invokevirtual 172, 3) := by decide +kernel
theorem dX6_readsDay_40 : decode cX6_readsDay 40 = .ok (.iload_n 2, 1) := by decide +kernel
theorem dX6_readsDay_41 : decode cX6_readsDay 41 = .ok (.iconst 3, 1) := by decide +kernel
theorem dX6_readsDay_42 : decode cX6_readsDay 42 = .ok (.if_icmp .ne 8, 3) := by decide +kernel
theorem dX6_readsDay_45 : decode cX6_readsDay 45 = .ok (.bipush 59, 2) := by decide +kernel
theorem dX6_readsDay_47 : decode cX6_readsDay 47 = .ok (.goto 5, 3) := by decide +kernel
theorem dX6_readsDay_50 : decode cX6_readsDay 50 = .ok (.bipush 44, 2) := by decide +kernel
theorem dX6_readsDay_52 : decode cX6_readsDay 52 = .ok (.if_icmp .eq 5, 3) := by decide +kernel
theorem dX6_readsDay_55 : decode cX6_readsDay 55 = .ok (.iconst 0, 1) := by decide +kernel
theorem dX6_readsDay_56 : decode cX6_readsDay 56 = .ok (.ireturn, 1) := by decide +kernel
theorem dX6_readsDay_57 : decode cX6_readsDay 57 = .ok (.aload_n 0, 1) := by decide +kernel
theorem dX6_readsDay_58 : decode cX6_readsDay 58 = .ok (.dup, 1) := by decide +kernel
theorem dX6_readsDay_59 : decode cX6_readsDay 59 = .ok (.getfield 169, 3) := by decide +kernel
theorem dX6_readsDay_62 : decode cX6_readsDay 62 = .ok (.iconst 1, 1) := by decide +kernel
theorem dX6_readsDay_63 : decode cX6_readsDay 63 = .ok (.iadd, 1) := by decide +kernel
theorem dX6_readsDay_64 : decode cX6_readsDay 64 = .ok (.putfield 169, 3) := by decide +kernel
theorem dX6_readsDay_67 : decode cX6_readsDay 67 = .ok (.iinc 2 1, 3) := by decide +kernel
theorem dX6_readsDay_70 : decode cX6_readsDay 70 = .ok (.goto (-53), 3) := by decide +kernel
theorem dX6_readsDay_73 : decode cX6_readsDay 73 = .ok (.aload_n 0, 1) := by decide +kernel
theorem dX6_readsDay_74 : decode cX6_readsDay 74 = .ok (.dup, 1) := by decide +kernel
theorem dX6_readsDay_75 : decode cX6_readsDay 75 = .ok (.getfield 181, 3) := by decide +kernel
theorem dX6_readsDay_78 : decode cX6_readsDay 78 = .ok (.iconst 1, 1) := by decide +kernel
theorem dX6_readsDay_79 : decode cX6_readsDay 79 = .ok (.iadd, 1) := by decide +kernel
theorem dX6_readsDay_80 : decode cX6_readsDay 80 = .ok (.putfield 181, 3) := by decide +kernel
theorem dX6_readsDay_83 : decode cX6_readsDay 83 = .ok (.iload_n 1, 1) := by decide +kernel
theorem dX6_readsDay_84 : decode cX6_readsDay 84 = .ok (.ifCond .eq 31, 3) := by decide +kernel
theorem dX6_readsDay_87 : decode cX6_readsDay 87 = .ok (.aload_n 0, 1) := by decide +kernel
theorem dX6_readsDay_88 : decode cX6_readsDay 88 = .ok (.aload_n 0, 1) := by decide +kernel
theorem dX6_readsDay_89 : decode cX6_readsDay 89 = .ok (.getfield 41, 3) := by decide +kernel
theorem dX6_readsDay_92 : decode cX6_readsDay 92 = .ok (.iconst 0, 1) := by decide +kernel
theorem dX6_readsDay_93 : decode cX6_readsDay 93 = .ok (.iaload, 1) := by decide +kernel
theorem dX6_readsDay_94 : decode cX6_readsDay 94 = .ok (.aload_n 0, 1) := by decide +kernel
theorem dX6_readsDay_95 : decode cX6_readsDay 95 = .ok (.getfield 41, 3) := by decide +kernel
theorem dX6_readsDay_98 : decode cX6_readsDay 98 = .ok (.iconst 1, 1) := by decide +kernel
theorem dX6_readsDay_99 : decode cX6_readsDay 99 = .ok (.iaload, 1) := by decide +kernel
theorem dX6_readsDay_100 : decode cX6_readsDay 100 = .ok (.aload_n 0, 1) := by decide +kernel
theorem dX6_readsDay_101 : decode cX6_readsDay 101 = .ok (.getfield 41, 3) := by decide +kernel
theorem dX6_readsDay_104 : decode cX6_readsDay 104 = .ok (.iconst 2, 1) := by decide +kernel
theorem dX6_readsDay_105 : decode cX6_readsDay 105 = .ok (.iaload, 1) := by decide +kernel
theorem dX6_readsDay_106 : decode cX6_readsDay 106 = .ok (.aload_n 0, 1) := by decide +kernel
theorem dX6_readsDay_107 : decode cX6_readsDay 107 = .ok (.getfield 41, 3) := by decide +kernel
theorem dX6_readsDay_110 : decode cX6_readsDay 110 = .ok (.iconst 3, 1) := by decide +kernel
theorem dX6_readsDay_111 : decode cX6_readsDay 111 = .ok (.iaload, 1) := by decide +kernel
theorem dX6_readsDay_112 : decode cX6_readsDay 112 = .ok (.invokevirtual 69, 3) := by decide +kernel
theorem dX6_readsDay_115 : decode cX6_readsDay 115 = .ok (.iconst 1, 1) := by decide +kernel
theorem dX6_readsDay_116 : decode cX6_readsDay 116 = .ok (.ireturn, 1) := by decide +kernel
set_option maxRecDepth 20000 in
theorem ggX6_goesThrough_X6_skips : GoodIn wsX6_goesThrough wsX6_skips := goodIn_r _ [10, 1, 5, 11, 12, 13, 9, 14, 4, 15, 33, 34, 35, 36, 37, 38, 39, 40, 41, 42, 43, 44, 45, 46, 47, 48, 49, 50, 51, 52, 53] (by decide +kernel) (by decide +kernel)
set_option maxRecDepth 20000 in
theorem gX6_goesThrough_X6_skips : GoodIn wsX6_goesThrough (wsV RX6 178 RX6 yX6_skips wsX6_skips) := goodIn_app (goodIn_of _ (by decide +kernel)) ggX6_goesThrough_X6_skips
set_option maxRecDepth 20000 in
theorem ggX6_goesThrough_X6_readsDay : GoodIn wsX6_goesThrough wsX6_readsDay := goodIn_r _ [19, 3, 1, 20, 6, 7, 8, 9, 10, 5, 11, 12, 13, 14, 4, 15, 21, 22, 23, 24, 25, 26, 27, 28, 29, 30, 31, 32, 2, 33, 34, 35, 36, 37, 38, 39, 40, 41, 42, 43, 44, 45, 46, 47, 48, 49, 50, 51, 52, 53] (by decide +kernel) (by decide +kernel)
set_option maxRecDepth 20000 in
theorem gX6_goesThrough_X6_readsDay : GoodIn wsX6_goesThrough (wsV RX6 187 RX6 yX6_readsDay wsX6_readsDay) := goodIn_app (goodIn_of _ (by decide +kernel)) ggX6_goesThrough_X6_readsDay
theorem dX6_goesThrough_0 : decode cX6_goesThrough 0 = .ok (.aload_n 0, 1) := by decide +kernel
theorem dX6_goesThrough_1 : decode cX6_goesThrough 1 = .ok (.iconst 0, 1) := by decide +kernel
theorem dX6_goesThrough_2 : decode cX6_goesThrough 2 = .ok (.putfield 169, 3) := by decide +kernel
theorem dX6_goesThrough_5 : decode cX6_goesThrough 5 = .ok (.aload_n 0, 1) := by decide +kernel
theorem dX6_goesThrough_6 : decode cX6_goesThrough 6 = .ok (.aload_n 0, 1) := by decide +kernel
theorem dX6_goesThrough_7 : decode cX6_goesThrough 7 = .ok (.getfield 48, 3) := by decide +kernel
theorem dX6_goesThrough_10 : decode cX6_goesThrough 10 = .ok (.putfield 181, 3) := by decide +kernel
theorem dX6_goesThrough_13 : decode cX6_goesThrough 13 = .ok (.aload_n 0, 1) := by decide +kernel
theorem dX6_goesThrough_14 : decode cX6_goesThrough 14 = .ok (.getfield 48, 3) := by decide +kernel
theorem dX6_goesThrough_17 : decode cX6_goesThrough 17 = .ok (.istore_n 2, 1) := by decide +kernel
theorem dX6_goesThrough_18 : decode cX6_goesThrough 18 = .ok (.aload_n 0, 1) := by decide +kernel
theorem dX6_goesThrough_19 : decode cX6_goesThrough 19 = .ok (.invokevirtual 178, 3) := by decide +kernel
theorem dX6_goesThrough_22 : decode cX6_goesThrough 22 = .ok (.aload_n 0, 1) := by decide +kernel
theorem dX6_goesThrough_23 : decode cX6_goesThrough 23 = .ok (.getfield 169, 3) := by decide +kernel
theorem dX6_goesThrough_26 : decode cX6_goesThrough 26 = .ok (.aload_n 0, 1) := by decide +kernel
theorem dX6_goesThrough_27 : decode cX6_goesThrough 27 = .ok (.getfield 166, 3) := by decide +kernel
theorem dX6_goesThrough_30 : decode cX6_goesThrough 30 = .ok (.if_icmp .ne 11, 3) := by decide +kernel
theorem dX6_goesThrough_33 : decode cX6_goesThrough 33 = .ok (.bipush (-10), 2) := by decide +kernel
theorem dX6_goesThrough_35 : decode cX6_goesThrough 35 = .ok (.aload_n 0, 1) := by decide +kernel
theorem dX6_goesThrough_36 : decode cX6_goesThrough 36 = .ok (.getfield 166, 3) := by decide +kernel
theorem dX6_goesThrough_39 : decode cX6_goesThrough 39 = .ok (.isub, 1) := by decide +kernel
theorem dX6_goesThrough_40 : decode cX6_goesThrough 40 = .ok (.ireturn, 1) := by decide +kernel
theorem dX6_goesThrough_41 : decode cX6_goesThrough 41 = .ok (.aload_n 0, 1) := by decide +kernel
theorem dX6_goesThrough_42 : decode cX6_goesThrough 42 = .ok (.getfield 169, 3) := by decide +kernel
theorem dX6_goesThrough_45 : decode cX6_goesThrough 45 = .ok (.aload_n 0, 1) := by decide +kernel
theorem dX6_goesThrough_46 : decode cX6_goesThrough 46 = .ok (.getfield 166, 3) := by decide +kernel
theorem dX6_goesThrough_49 : decode cX6_goesThrough 49 = .ok (.if_icmp .ge 26, 3) := by decide +kernel
theorem dX6_goesThrough_52 : decode cX6_goesThrough 52 = .ok (.aload_n 0, 1) := by decide +kernel
theorem dX6_goesThrough_53 : decode cX6_goesThrough 53 = .ok (.iload_n 1, 1) := by decide +kernel
theorem dX6_goesThrough_54 : decode cX6_goesThrough 54 = .ok (.invokevirtual 187, 3) := by decide +kernel
theorem dX6_goesThrough_57 : decode cX6_goesThrough 57 = .ok (.ifCond .ne 11, 3) := by decide +kernel
theorem dX6_goesThrough_60 : decode cX6_goesThrough 60 = .ok (.bipush (-10), 2) := by decide +kernel
theorem dX6_goesThrough_62 : decode cX6_goesThrough 62 = .ok (.aload_n 0, 1) := by decide +kernel
theorem dX6_goesThrough_63 : decode cX6_goesThrough 63 = .ok (.getfield 175, 3) := by decide +kernel
theorem dX6_goesThrough_66 : decode cX6_goesThrough 66 = .ok (.isub, 1) := by decide +kernel
theorem dX6_goesThrough_67 : decode cX6_goesThrough 67 = .ok (.ireturn, 1) := by decide +kernel
theorem dX6_goesThrough_68 : decode cX6_goesThrough 68 = .ok (.aload_n 0, 1) := by decide +kernel
theorem dX6_goesThrough_69 : decode cX6_goesThrough 69 = .ok (.invokevirtual 178, 3) := by decide +kernel
theorem dX6_goesThrough_72 : decode cX6_goesThrough 72 = .ok (.goto (-31), 3) := by decide +kernel
theorem dX6_goesThrough_75 : decode cX6_goesThrough 75 = .ok (.aload_n 0, 1) := by decide +kernel
theorem dX6_goesThrough_76 : decode cX6_goesThrough 76 = .ok (.getfield 181, 3) := by decide +kernel
theorem dX6_goesThrough_79 : decode cX6_goesThrough 79 = .ok (.iload_n 2, 1) := by decide +kernel
theorem dX6_goesThrough_80 : decode cX6_goesThrough 80 = .ok (.isub, 1) := by decide +kernel
theorem dX6_goesThrough_81 : decode cX6_goesThrough 81 = .ok (.ireturn, 1) := by decide +kernel
set_option maxRecDepth 20000 in
theorem ggX6_reads_X6_goesThrough : GoodIn wsX6_reads wsX6_goesThrough := goodIn_r _ [5, 6, 7, 8, 9, 10, 11, 12, 13, 4, 14, 15, 16, 17, 18, 19, 20, 21, 22, 23, 24, 25, 26, 27, 28, 29, 30, 31, 32, 33, 34, 35, 36, 44, 45, 46, 47, 48, 49, 50, 51, 52, 53, 54, 55, 56, 57, 58, 59, 60, 61, 62, 63, 64] (by decide +kernel) (by decide +kernel)
set_option maxRecDepth 20000 in
theorem gX6_reads_X6_goesThrough : GoodIn wsX6_reads (wsV RX6 191 RX6 yX6_goesThrough wsX6_goesThrough) := goodIn_app (goodIn_of _ (by decide +kernel)) ggX6_reads_X6_goesThrough
set_option maxRecDepth 20000 in
theorem ggX6_reads_X6_leavesState : GoodIn wsX6_reads wsX6_leavesState := goodIn_r _ [40, 41, 42, 7, 43, 36, 44, 45, 46, 47, 48, 49, 50, 51, 52, 53, 54, 55, 56, 57, 58, 59, 60, 61, 62, 63, 64] (by decide +kernel) (by decide +kernel)
set_option maxRecDepth 20000 in
theorem gX6_reads_X6_leavesState : GoodIn wsX6_reads (wsV RX6 66 RX6 yX6_leavesState wsX6_leavesState) := goodIn_app (goodIn_of _ (by decide +kernel)) ggX6_reads_X6_leavesState
theorem dX6_reads_0 : decode cX6_reads 0 = .ok (.aload_n 0, 1) := by decide +kernel
theorem dX6_reads_1 : decode cX6_reads 1 = .ok (.iconst 0, 1) := by decide +kernel
theorem dX6_reads_2 : decode cX6_reads 2 = .ok (.invokevirtual 191, 3) := by decide +kernel
theorem dX6_reads_5 : decode cX6_reads 5 = .ok (.istore_n 1, 1) := by decide +kernel
theorem dX6_reads_6 : decode cX6_reads 6 = .ok (.iload_n 1, 1) := by decide +kernel
theorem dX6_reads_7 : decode cX6_reads 7 = .ok (.ifCond .ge 5, 3) := by decide +kernel
theorem dX6_reads_10 : decode cX6_reads 10 = .ok (.iload_n 1, 1) := by decide +kernel
theorem dX6_reads_11 : decode cX6_reads 11 = .ok (.ireturn, 1) := by decide +kernel
theorem dX6_reads_12 : decode cX6_reads 12 = .ok (.aload_n 0, 1) := by decide +kernel
theorem dX6_reads_13 : decode cX6_reads 13 = .ok (.invokevirtual 66, 3) := by decide +kernel
theorem dX6_reads_16 : decode cX6_reads 16 = .ok (.aload_n 0, 1) := by decide +kernel
theorem dX6_reads_17 : decode cX6_reads 17 = .ok (.iconst 1, 1) := by decide +kernel
theorem dX6_reads_18 : decode cX6_reads 18 = .ok (.invokevirtual 191, 3) := by decide +kernel
theorem dX6_reads_21 : decode cX6_reads 21 = .ok (.ireturn, 1) := by decide +kernel
theorem dX6_toldBy_0 : decode cX6_toldBy 0 = .ok (.iload_n 1, 1) := by decide +kernel
theorem dX6_toldBy_1 : decode cX6_toldBy 1 = .ok (.iconst 3, 1) := by decide +kernel
theorem dX6_toldBy_2 : decode cX6_toldBy 2 = .ok (.if_icmp .ge 12, 3) := by decide +kernel
theorem dX6_toldBy_5 : decode cX6_toldBy 5 = .ok (.aload_n 0, 1) := by decide +kernel
theorem dX6_toldBy_6 : decode cX6_toldBy 6 = .ok (.getfield 1, 3) := by decide +kernel
theorem dX6_toldBy_9 : decode cX6_toldBy 9 = .ok (.iload_n 1, 1) := by decide +kernel
theorem dX6_toldBy_10 : decode cX6_toldBy 10 = .ok (.iaload, 1) := by decide +kernel
theorem dX6_toldBy_11 : decode cX6_toldBy 11 = .ok (.goto 48, 3) := by decide +kernel
theorem dX6_toldBy_14 : decode cX6_toldBy 14 = .ok (.iload_n 1, 1) := by decide +kernel
theorem dX6_toldBy_15 : decode cX6_toldBy 15 = .ok (.iconst 3, 1) := by decide +kernel
theorem dX6_toldBy_16 : decode cX6_toldBy 16 = .ok (.if_icmp .ne 10, 3) := by decide +kernel
theorem dX6_toldBy_19 : decode cX6_toldBy 19 = .ok (.aload_n 0, 1) := by decide +kernel
theorem dX6_toldBy_20 : decode cX6_toldBy 20 = .ok (.getfield 166, 3) := by decide +kernel
theorem dX6_toldBy_23 : decode cX6_toldBy 23 = .ok (.goto 36, 3) := by decide +kernel
theorem dX6_toldBy_26 : decode cX6_toldBy 26 = .ok (.iload_n 1, 1) := by decide +kernel
theorem dX6_toldBy_27 : decode cX6_toldBy 27 = .ok (.iconst 4, 1) := by decide +kernel
theorem dX6_toldBy_28 : decode cX6_toldBy 28 = .ok (.if_icmp .ne 10, 3) := by decide +kernel
theorem dX6_toldBy_31 : decode cX6_toldBy 31 = .ok (.aload_n 0, 1) := by decide +kernel
theorem dX6_toldBy_32 : decode cX6_toldBy 32 = .ok (.getfield 48, 3) := by decide +kernel
theorem dX6_toldBy_35 : decode cX6_toldBy 35 = .ok (.goto 24, 3) := by decide +kernel
theorem dX6_toldBy_38 : decode cX6_toldBy 38 = .ok (.iload_n 1, 1) := by decide +kernel
theorem dX6_toldBy_39 : decode cX6_toldBy 39 = .ok (.bipush 7, 2) := by decide +kernel
theorem dX6_toldBy_41 : decode cX6_toldBy 41 = .ok (.if_icmp .ne 10, 3) := by decide +kernel
theorem dX6_toldBy_44 : decode cX6_toldBy 44 = .ok (.aload_n 0, 1) := by decide +kernel
theorem dX6_toldBy_45 : decode cX6_toldBy 45 = .ok (.getfield 52, 3) := by decide +kernel
theorem dX6_toldBy_48 : decode cX6_toldBy 48 = .ok (.goto 11, 3) := by decide +kernel
theorem dX6_toldBy_51 : decode cX6_toldBy 51 = .ok (.aload_n 0, 1) := by decide +kernel
theorem dX6_toldBy_52 : decode cX6_toldBy 52 = .ok (.getfield 13, 3) := by decide +kernel
theorem dX6_toldBy_55 : decode cX6_toldBy 55 = .ok (.iload_n 1, 1) := by decide +kernel
theorem dX6_toldBy_56 : decode cX6_toldBy 56 = .ok (.iconst 1, 1) := by decide +kernel
theorem dX6_toldBy_57 : decode cX6_toldBy 57 = .ok (.isub, 1) := by decide +kernel
theorem dX6_toldBy_58 : decode cX6_toldBy 58 = .ok (.iaload, 1) := by decide +kernel
theorem dX6_toldBy_59 : decode cX6_toldBy 59 = .ok (.ireturn, 1) := by decide +kernel
set_option maxRecDepth 20000 in
theorem ggX6_told_X6_in : GoodIn wsX6_told wsX6_in := goodIn_r _ [4] (by decide +kernel) (by decide +kernel)
set_option maxRecDepth 20000 in
theorem gX6_told_X6_in : GoodIn wsX6_told (va_wsS RX6 44 yX6_in wsX6_in) := goodIn_app (goodIn_of _ (by decide +kernel)) ggX6_told_X6_in
set_option maxRecDepth 20000 in
theorem ggX6_told_X6_toldBy : GoodIn wsX6_told wsX6_toldBy := goodIn_r _ [8, 9, 10, 11, 12, 13, 18, 19, 20, 21, 22, 23, 24, 25, 26, 27, 28, 29, 30, 31, 32, 33, 34, 35, 36, 37, 38] (by decide +kernel) (by decide +kernel)
set_option maxRecDepth 20000 in
theorem gX6_told_X6_toldBy : GoodIn wsX6_told (wsV RX6 195 RX6 yX6_toldBy wsX6_toldBy) := goodIn_app (goodIn_of _ (by decide +kernel)) ggX6_told_X6_toldBy
set_option maxRecDepth 20000 in
theorem ggX6_told_X6_bad : GoodIn wsX6_told wsX6_bad := goodIn_r _ [17, 9, 18, 19, 20, 21, 22, 23, 24, 25, 26, 27, 28, 29, 30, 31, 32, 33, 34, 35, 36, 37, 38] (by decide +kernel) (by decide +kernel)
set_option maxRecDepth 20000 in
theorem gX6_told_X6_bad : GoodIn wsX6_told (wsV RX6 59 RX6 yX6_bad wsX6_bad) := goodIn_app (goodIn_of _ (by decide +kernel)) ggX6_told_X6_bad
theorem dX6_told_0 : decode cX6_told 0 = .ok (.iload_n 1, 1) := by decide +kernel
theorem dX6_told_1 : decode cX6_told 1 = .ok (.iconst 0, 1) := by decide +kernel
theorem dX6_told_2 : decode cX6_told 2 = .ok (.bipush 7, 2) := by decide +kernel
theorem dX6_told_4 : decode cX6_told 4 = .ok (.invokestatic 44, 3) := by decide +kernel
theorem dX6_told_7 : decode cX6_told 7 = .ok (.ifCond .eq 11, 3) := by decide +kernel
theorem dX6_told_10 : decode cX6_told 10 = .ok (.aload_n 0, 1) := by decide +kernel
theorem dX6_told_11 : decode cX6_told 11 = .ok (.iload_n 1, 1) := by decide +kernel
theorem dX6_told_12 : decode cX6_told 12 = .ok (.invokevirtual 195, 3) := by decide +kernel
theorem dX6_told_15 : decode cX6_told 15 = .ok (.goto 7, 3) := by decide +kernel
theorem dX6_told_18 : decode cX6_told 18 = .ok (.aload_n 0, 1) := by decide +kernel
theorem dX6_told_19 : decode cX6_told 19 = .ok (.invokevirtual 59, 3) := by decide +kernel
theorem dX6_told_22 : decode cX6_told 22 = .ok (.ireturn, 1) := by decide +kernel
set_option maxRecDepth 20000 in
theorem ggX6_digest_X6_toldBy : GoodIn wsX6_digest wsX6_toldBy := goodIn_r _ [13, 14, 15, 4, 16, 3, 75, 76, 77, 78, 79, 80, 81, 82, 83, 84, 85, 86, 87, 88, 89, 90, 91, 92, 93, 94, 95] (by decide +kernel) (by decide +kernel)
set_option maxRecDepth 20000 in
theorem gX6_digest_X6_toldBy : GoodIn wsX6_digest (wsV RX6 195 RX6 yX6_toldBy wsX6_toldBy) := goodIn_app (goodIn_of _ (by decide +kernel)) ggX6_digest_X6_toldBy
set_option maxRecDepth 20000 in
theorem ggX6_digest_X6_setNearest : GoodIn wsX6_digest wsX6_setNearest := goodIn_r _ [20, 6, 3, 21, 22, 23, 12, 24, 4, 25, 8, 7, 26, 27, 28, 29, 30, 31, 32, 33, 5, 34, 35, 36, 37, 38, 39, 40, 41, 75, 76, 77, 78, 79, 80, 81, 82, 83, 84, 85, 86, 87, 88, 89, 90, 91, 92, 93, 94, 95] (by decide +kernel) (by decide +kernel)
set_option maxRecDepth 20000 in
theorem gX6_digest_X6_setNearest : GoodIn wsX6_digest (wsV RX6 135 RX6 yX6_setNearest wsX6_setNearest) := goodIn_app (goodIn_of _ (by decide +kernel)) ggX6_digest_X6_setNearest
set_option maxRecDepth 20000 in
theorem ggX6_digest_Jxf58ca_floatToIntBits_5c35a : GoodIn wsX6_digest wsJxf58ca_floatToIntBits_5c35a := goodIn_r _ [45, 46, 47, 48, 49, 50, 51, 52, 44, 53] (by decide +kernel) (by decide +kernel)
set_option maxRecDepth 20000 in
theorem gX6_digest_Jxf58ca_floatToIntBits_5c35a : GoodIn wsX6_digest (va_wsS RX6 118 yJxf58ca_floatToIntBits_5c35a wsJxf58ca_floatToIntBits_5c35a) := goodIn_app (goodIn_of _ (by decide +kernel)) ggX6_digest_Jxf58ca_floatToIntBits_5c35a
set_option maxRecDepth 20000 in
theorem ggX6_digest_X6_errsTold : GoodIn wsX6_digest wsX6_errsTold := goodIn_r _ [57, 58, 59, 60, 61, 12, 62, 4, 5, 63, 64, 65, 66, 67, 6, 7, 68, 69, 8, 70, 17, 18, 19, 20, 3, 21, 22, 23, 24, 25, 26, 27, 28, 29, 30, 31, 32, 33, 34, 35, 36, 37, 38, 39, 40, 41, 71, 72, 73, 74, 42, 43, 44, 45, 46, 47, 48, 49, 50, 51, 52, 53, 75, 76, 77, 78, 79, 80, 81, 82, 83, 84, 85, 86, 87, 88, 89, 90, 91, 92, 93, 94, 95] (by decide +kernel) (by decide +kernel)
set_option maxRecDepth 20000 in
theorem gX6_digest_X6_errsTold : GoodIn wsX6_digest (wsV RX6 163 RX6 yX6_errsTold wsX6_errsTold) := goodIn_app (goodIn_of _ (by decide +kernel)) ggX6_digest_X6_errsTold
theorem dX6_digest_0 : decode cX6_digest 0 = .ok (.ldc2_w 198, 3) := by decide +kernel
theorem dX6_digest_3 : decode cX6_digest 3 = .ok (.lstore_n 1, 1) := by decide +kernel
theorem dX6_digest_4 : decode cX6_digest 4 = .ok (.iconst 0, 1) := by decide +kernel
theorem dX6_digest_5 : decode cX6_digest 5 = .ok (.istore_n 3, 1) := by decide +kernel
theorem dX6_digest_6 : decode cX6_digest 6 = .ok (.iload_n 3, 1) := by decide +kernel
theorem dX6_digest_7 : decode cX6_digest 7 = .ok (.bipush 8, 2) := by decide +kernel
theorem dX6_digest_9 : decode cX6_digest 9 = .ok (.if_icmp .ge 22, 3) := by decide +kernel
theorem dX6_digest_12 : decode cX6_digest 12 = .ok (.ldc2_w 200, 3) := by decide +kernel
theorem dX6_digest_15 : decode cX6_digest 15 = .ok (.lload_n 1, 1) := by decide +kernel
theorem dX6_digest_16 : decode cX6_digest 16 = .ok (.lmul, 1) := by decide +kernel
theorem dX6_digest_17 : decode cX6_digest 17 = .ok (.aload_n 0, 1) := by decide +kernel
theorem dX6_digest_18 : decode cX6_digest 18 = .ok (.iload_n 3, 1) := by decide +kernel
theorem dX6_digest_19 : decode cX6_digest 19 = .ok (.invokevirtual 195, 3) := by decide +kernel
theorem dX6_digest_22 : decode cX6_digest 22 = .ok (.i2l, 1) := by decide +kernel
theorem dX6_digest_23 : decode cX6_digest 23 = .ok (.ladd, 1) := by decide +kernel
theorem dX6_digest_24 : decode cX6_digest 24 = .ok (.lstore_n 1, 1) := by decide +kernel
theorem dX6_digest_25 : decode cX6_digest 25 = .ok (.iinc 3 1, 3) := by decide +kernel
theorem dX6_digest_28 : decode cX6_digest 28 = .ok (.goto (-22), 3) := by decide +kernel
theorem dX6_digest_31 : decode cX6_digest 31 = .ok (.iconst 0, 1) := by decide +kernel
theorem dX6_digest_32 : decode cX6_digest 32 = .ok (.istore_n 3, 1) := by decide +kernel
theorem dX6_digest_33 : decode cX6_digest 33 = .ok (.iload_n 3, 1) := by decide +kernel
theorem dX6_digest_34 : decode cX6_digest 34 = .ok (.iconst 4, 1) := by decide +kernel
theorem dX6_digest_35 : decode cX6_digest 35 = .ok (.if_icmp .ge 23, 3) := by decide +kernel
theorem dX6_digest_38 : decode cX6_digest 38 = .ok (.ldc2_w 200, 3) := by decide +kernel
theorem dX6_digest_41 : decode cX6_digest 41 = .ok (.lload_n 1, 1) := by decide +kernel
theorem dX6_digest_42 : decode cX6_digest 42 = .ok (.lmul, 1) := by decide +kernel
theorem dX6_digest_43 : decode cX6_digest 43 = .ok (.aload_n 0, 1) := by decide +kernel
theorem dX6_digest_44 : decode cX6_digest 44 = .ok (.getfield 13, 3) := by decide +kernel
theorem dX6_digest_47 : decode cX6_digest 47 = .ok (.iload_n 3, 1) := by decide +kernel
theorem dX6_digest_48 : decode cX6_digest 48 = .ok (.iaload, 1) := by decide +kernel
theorem dX6_digest_49 : decode cX6_digest 49 = .ok (.i2l, 1) := by decide +kernel
theorem dX6_digest_50 : decode cX6_digest 50 = .ok (.ladd, 1) := by decide +kernel
theorem dX6_digest_51 : decode cX6_digest 51 = .ok (.lstore_n 1, 1) := by decide +kernel
theorem dX6_digest_52 : decode cX6_digest 52 = .ok (.iinc 3 1, 3) := by decide +kernel
theorem dX6_digest_55 : decode cX6_digest 55 = .ok (.goto (-22), 3) := by decide +kernel
theorem dX6_digest_58 : decode cX6_digest 58 = .ok (.iconst 0, 1) := by decide +kernel
theorem dX6_digest_59 : decode cX6_digest 59 = .ok (.istore_n 3, 1) := by decide +kernel
theorem dX6_digest_60 : decode cX6_digest 60 = .ok (.iload_n 3, 1) := by decide +kernel
theorem dX6_digest_61 : decode cX6_digest 61 = .ok (.iconst 4, 1) := by decide +kernel
theorem dX6_digest_62 : decode cX6_digest 62 = .ok (.aload_n 0, 1) := by decide +kernel
theorem dX6_digest_63 : decode cX6_digest 63 = .ok (.getfield 48, 3) := by decide +kernel
theorem dX6_digest_66 : decode cX6_digest 66 = .ok (.imul, 1) := by decide +kernel
theorem dX6_digest_67 : decode cX6_digest 67 = .ok (.if_icmp .ge 23, 3) := by decide +kernel
theorem dX6_digest_70 : decode cX6_digest 70 = .ok (.ldc2_w 200, 3) := by decide +kernel
theorem dX6_digest_73 : decode cX6_digest 73 = .ok (.lload_n 1, 1) := by decide +kernel
theorem dX6_digest_74 : decode cX6_digest 74 = .ok (.lmul, 1) := by decide +kernel
theorem dX6_digest_75 : decode cX6_digest 75 = .ok (.aload_n 0, 1) := by decide +kernel
theorem dX6_digest_76 : decode cX6_digest 76 = .ok (.getfield 16, 3) := by decide +kernel
theorem dX6_digest_79 : decode cX6_digest 79 = .ok (.iload_n 3, 1) := by decide +kernel
theorem dX6_digest_80 : decode cX6_digest 80 = .ok (.iaload, 1) := by decide +kernel
theorem dX6_digest_81 : decode cX6_digest 81 = .ok (.i2l, 1) := by decide +kernel
theorem dX6_digest_82 : decode cX6_digest 82 = .ok (.ladd, 1) := by decide +kernel
theorem dX6_digest_83 : decode cX6_digest 83 = .ok (.lstore_n 1, 1) := by decide +kernel
theorem dX6_digest_84 : decode cX6_digest 84 = .ok (.iinc 3 1, 3) := by decide +kernel
theorem dX6_digest_87 : decode cX6_digest 87 = .ok (.goto (-27), 3) := by decide +kernel
theorem dX6_digest_90 : decode cX6_digest 90 = .ok (.iconst 0, 1) := by decide +kernel
theorem dX6_digest_91 : decode cX6_digest 91 = .ok (.istore_n 3, 1) := by decide +kernel
theorem dX6_digest_92 : decode cX6_digest 92 = .ok (.iload_n 3, 1) := by decide +kernel
theorem dX6_digest_93 : decode cX6_digest 93 = .ok (.aload_n 0, 1) := by decide +kernel
theorem dX6_digest_94 : decode cX6_digest 94 = .ok (.getfield 48, 3) := by decide +kernel
theorem dX6_digest_97 : decode cX6_digest 97 = .ok (.if_icmp .ge 67, 3) := by decide +kernel
theorem dX6_digest_100 : decode cX6_digest 100 = .ok (.aload_n 0, 1) := by decide +kernel
theorem dX6_digest_101 : decode cX6_digest 101 = .ok (.iload_n 3, 1) := by decide +kernel
theorem dX6_digest_102 : decode cX6_digest 102 = .ok (.invokevirtual 135, 3) := by decide +kernel
theorem dX6_digest_105 : decode cX6_digest 105 = .ok (.ldc2_w 200, 3) := by decide +kernel
theorem dX6_digest_108 : decode cX6_digest 108 = .ok (.lload_n 1, 1) := by decide +kernel
theorem dX6_digest_109 : decode cX6_digest 109 = .ok (.lmul, 1) := by decide +kernel
theorem dX6_digest_110 : decode cX6_digest 110 = .ok (.aload_n 0, 1) := by decide +kernel
theorem dX6_digest_111 : decode cX6_digest 111 = .ok (.getfield 124, 3) := by decide +kernel
theorem dX6_digest_114 : decode cX6_digest 114 = .ok (.ifCond .ne 7, 3) := by decide +kernel
theorem dX6_digest_117 : decode cX6_digest 117 = .ok (.iconst (-1), 1) := by decide +kernel
theorem dX6_digest_118 : decode cX6_digest 118 = .ok (.goto 9, 3) := by decide +kernel
theorem dX6_digest_121 : decode cX6_digest 121 = .ok (.aload_n 0, 1) := by decide +kernel
theorem dX6_digest_122 : decode cX6_digest 122 = .ok (.getfield 22, 3) := by decide +kernel
theorem dX6_digest_125 : decode cX6_digest 125 = .ok (.iconst 0, 1) := by decide +kernel
theorem dX6_digest_126 : decode cX6_digest 126 = .ok (.iaload, 1) := by decide +kernel
theorem dX6_digest_127 : decode cX6_digest 127 = .ok (.i2l, 1) := by decide +kernel
theorem dX6_digest_128 : decode cX6_digest 128 = .ok (.ladd, 1) := by decide +kernel
theorem dX6_digest_129 : decode cX6_digest 129 = .ok (.lstore_n 1, 1) := by decide +kernel
theorem dX6_digest_130 : decode cX6_digest 130 = .ok (.ldc2_w 200, 3) := by decide +kernel
theorem dX6_digest_133 : decode cX6_digest 133 = .ok (.lload_n 1, 1) := by decide +kernel
theorem dX6_digest_134 : decode cX6_digest 134 = .ok (.lmul, 1) := by decide +kernel
theorem dX6_digest_135 : decode cX6_digest 135 = .ok (.aload_n 0, 1) := by decide +kernel
theorem dX6_digest_136 : decode cX6_digest 136 = .ok (.getfield 124, 3) := by decide +kernel
theorem dX6_digest_139 : decode cX6_digest 139 = .ok (.ifCond .ne 7, 3) := by decide +kernel
theorem dX6_digest_142 : decode cX6_digest 142 = .ok (.iconst (-1), 1) := by decide +kernel
theorem dX6_digest_143 : decode cX6_digest 143 = .ok (.goto 12, 3) := by decide +kernel
theorem dX6_digest_146 : decode cX6_digest 146 = .ok (.aload_n 0, 1) := by decide +kernel
theorem dX6_digest_147 : decode cX6_digest 147 = .ok (.getfield 25, 3) := by decide +kernel
theorem dX6_digest_150 : decode cX6_digest 150 = .ok (.iconst 0, 1) := by decide +kernel
theorem dX6_digest_151 : decode cX6_digest 151 = .ok (.faload, 1) := by decide +kernel
theorem dX6_digest_152 : decode cX6_digest 152 = .ok (.invokestatic 118, 3) := by decide +kernel
theorem dX6_digest_155 : decode cX6_digest 155 = .ok (.i2l, 1) := by decide +kernel
theorem dX6_digest_156 : decode cX6_digest 156 = .ok (.ladd, 1) := by decide +kernel
theorem dX6_digest_157 : decode cX6_digest 157 = .ok (.lstore_n 1, 1) := by decide +kernel
theorem dX6_digest_158 : decode cX6_digest 158 = .ok (.iinc 3 1, 3) := by decide +kernel
theorem dX6_digest_161 : decode cX6_digest 161 = .ok (.goto (-69), 3) := by decide +kernel
theorem dX6_digest_164 : decode cX6_digest 164 = .ok (.ldc2_w 200, 3) := by decide +kernel
theorem dX6_digest_167 : decode cX6_digest 167 = .ok (.lload_n 1, 1) := by decide +kernel
theorem dX6_digest_168 : decode cX6_digest 168 = .ok (.lmul, 1) := by decide +kernel
theorem dX6_digest_169 : decode cX6_digest 169 = .ok (.aload_n 0, 1) := by decide +kernel
theorem dX6_digest_170 : decode cX6_digest 170 = .ok (.iconst 0, 1) := by decide +kernel
theorem dX6_digest_171 : decode cX6_digest 171 = .ok (.invokevirtual 163, 3) := by decide +kernel
theorem dX6_digest_174 : decode cX6_digest 174 = .ok (.i2l, 1) := by decide +kernel
theorem dX6_digest_175 : decode cX6_digest 175 = .ok (.ladd, 1) := by decide +kernel
theorem dX6_digest_176 : decode cX6_digest 176 = .ok (.lreturn, 1) := by decide +kernel
theorem dJxe99ae_isNaN_b9ae7_0 : decode cJxe99ae_isNaN_b9ae7 0 = .ok (.dload_n 0, 1) := by decide +kernel
theorem dJxe99ae_isNaN_b9ae7_1 : decode cJxe99ae_isNaN_b9ae7 1 = .ok (.dload_n 0, 1) := by decide +kernel
theorem dJxe99ae_isNaN_b9ae7_2 : decode cJxe99ae_isNaN_b9ae7 2 = .ok (.dcmp .l, 1) := by decide +kernel
theorem dJxe99ae_isNaN_b9ae7_3 : decode cJxe99ae_isNaN_b9ae7 3 = .ok (.ifCond .eq 7, 3) := by decide +kernel
theorem dJxe99ae_isNaN_b9ae7_6 : decode cJxe99ae_isNaN_b9ae7 6 = .ok (.iconst 1, 1) := by decide +kernel
theorem dJxe99ae_isNaN_b9ae7_7 : decode cJxe99ae_isNaN_b9ae7 7 = .ok (.goto 4, 3) := by decide +kernel
theorem dJxe99ae_isNaN_b9ae7_10 : decode cJxe99ae_isNaN_b9ae7 10 = .ok (.iconst 0, 1) := by decide +kernel
theorem dJxe99ae_isNaN_b9ae7_11 : decode cJxe99ae_isNaN_b9ae7 11 = .ok (.ireturn, 1) := by decide +kernel
set_option maxRecDepth 20000 in
theorem ggJxe99ae_doubleToLongBits_ccdee_Jxe99ae_isNaN_b9ae7 : GoodIn wsJxe99ae_doubleToLongBits_ccdee wsJxe99ae_isNaN_b9ae7 := goodIn_r _ [9] (by decide +kernel) (by decide +kernel)
set_option maxRecDepth 20000 in
theorem gJxe99ae_doubleToLongBits_ccdee_Jxe99ae_isNaN_b9ae7 : GoodIn wsJxe99ae_doubleToLongBits_ccdee (va_wsS RJxe99ae 122 yJxe99ae_isNaN_b9ae7 wsJxe99ae_isNaN_b9ae7) := goodIn_app (goodIn_of _ (by decide +kernel)) ggJxe99ae_doubleToLongBits_ccdee_Jxe99ae_isNaN_b9ae7
theorem dJxe99ae_doubleToLongBits_ccdee_0 : decode cJxe99ae_doubleToLongBits_ccdee 0 = .ok (.dload_n 0, 1) := by decide +kernel
theorem dJxe99ae_doubleToLongBits_ccdee_1 : decode cJxe99ae_doubleToLongBits_ccdee 1 = .ok (.invokestatic 122, 3) := by decide +kernel
theorem dJxe99ae_doubleToLongBits_ccdee_4 : decode cJxe99ae_doubleToLongBits_ccdee 4 = .ok (.ifCond .ne 8, 3) := by decide +kernel
theorem dJxe99ae_doubleToLongBits_ccdee_7 : decode cJxe99ae_doubleToLongBits_ccdee 7 = .ok (.dload_n 0, 1) := by decide +kernel
theorem dJxe99ae_doubleToLongBits_ccdee_8 : decode cJxe99ae_doubleToLongBits_ccdee 8 = .ok (.invokestatic 134, 3) := by decide +kernel
theorem dJxe99ae_doubleToLongBits_ccdee_11 : decode cJxe99ae_doubleToLongBits_ccdee 11 = .ok (.lreturn, 1) := by decide +kernel
theorem dJxe99ae_doubleToLongBits_ccdee_12 : decode cJxe99ae_doubleToLongBits_ccdee 12 = .ok (.ldc2_w 137, 3) := by decide +kernel
theorem dJxe99ae_doubleToLongBits_ccdee_15 : decode cJxe99ae_doubleToLongBits_ccdee 15 = .ok (.lreturn, 1) := by decide +kernel
theorem dJxf58ca_isNaN_12338_0 : decode cJxf58ca_isNaN_12338 0 = .ok (.fload_n 0, 1) := by decide +kernel
theorem dJxf58ca_isNaN_12338_1 : decode cJxf58ca_isNaN_12338 1 = .ok (.fload_n 0, 1) := by decide +kernel
theorem dJxf58ca_isNaN_12338_2 : decode cJxf58ca_isNaN_12338 2 = .ok (.fcmp .l, 1) := by decide +kernel
theorem dJxf58ca_isNaN_12338_3 : decode cJxf58ca_isNaN_12338 3 = .ok (.ifCond .eq 7, 3) := by decide +kernel
theorem dJxf58ca_isNaN_12338_6 : decode cJxf58ca_isNaN_12338 6 = .ok (.iconst 1, 1) := by decide +kernel
theorem dJxf58ca_isNaN_12338_7 : decode cJxf58ca_isNaN_12338 7 = .ok (.goto 4, 3) := by decide +kernel
theorem dJxf58ca_isNaN_12338_10 : decode cJxf58ca_isNaN_12338 10 = .ok (.iconst 0, 1) := by decide +kernel
theorem dJxf58ca_isNaN_12338_11 : decode cJxf58ca_isNaN_12338 11 = .ok (.ireturn, 1) := by decide +kernel
set_option maxRecDepth 20000 in
theorem ggJxf58ca_floatToIntBits_5c35a_Jxf58ca_isNaN_12338 : GoodIn wsJxf58ca_floatToIntBits_5c35a wsJxf58ca_isNaN_12338 := goodIn_r _ [9] (by decide +kernel) (by decide +kernel)
set_option maxRecDepth 20000 in
theorem gJxf58ca_floatToIntBits_5c35a_Jxf58ca_isNaN_12338 : GoodIn wsJxf58ca_floatToIntBits_5c35a (va_wsS RJxf58ca 59 yJxf58ca_isNaN_12338 wsJxf58ca_isNaN_12338) := goodIn_app (goodIn_of _ (by decide +kernel)) ggJxf58ca_floatToIntBits_5c35a_Jxf58ca_isNaN_12338
theorem dJxf58ca_floatToIntBits_5c35a_0 : decode cJxf58ca_floatToIntBits_5c35a 0 = .ok (.fload_n 0, 1) := by decide +kernel
theorem dJxf58ca_floatToIntBits_5c35a_1 : decode cJxf58ca_floatToIntBits_5c35a 1 = .ok (.invokestatic 59, 3) := by decide +kernel
theorem dJxf58ca_floatToIntBits_5c35a_4 : decode cJxf58ca_floatToIntBits_5c35a 4 = .ok (.ifCond .ne 8, 3) := by decide +kernel
theorem dJxf58ca_floatToIntBits_5c35a_7 : decode cJxf58ca_floatToIntBits_5c35a 7 = .ok (.fload_n 0, 1) := by decide +kernel
theorem dJxf58ca_floatToIntBits_5c35a_8 : decode cJxf58ca_floatToIntBits_5c35a 8 = .ok (.invokestatic 74, 3) := by decide +kernel
theorem dJxf58ca_floatToIntBits_5c35a_11 : decode cJxf58ca_floatToIntBits_5c35a 11 = .ok (.ireturn, 1) := by decide +kernel
theorem dJxf58ca_floatToIntBits_5c35a_12 : decode cJxf58ca_floatToIntBits_5c35a 12 = .ok (.ldc 77, 2) := by decide +kernel
theorem dJxf58ca_floatToIntBits_5c35a_14 : decode cJxf58ca_floatToIntBits_5c35a 14 = .ok (.ireturn, 1) := by decide +kernel
theorem dJ9_abs_0f7a4_0 : decode cJ9_abs_0f7a4 0 = .ok (.iload_n 0, 1) := by decide +kernel
theorem dJ9_abs_0f7a4_1 : decode cJ9_abs_0f7a4 1 = .ok (.ifCond .ge 8, 3) := by decide +kernel
theorem dJ9_abs_0f7a4_4 : decode cJ9_abs_0f7a4 4 = .ok (.iload_n 0, 1) := by decide +kernel
theorem dJ9_abs_0f7a4_5 : decode cJ9_abs_0f7a4 5 = .ok (.ineg, 1) := by decide +kernel
theorem dJ9_abs_0f7a4_6 : decode cJ9_abs_0f7a4 6 = .ok (.goto 4, 3) := by decide +kernel
theorem dJ9_abs_0f7a4_9 : decode cJ9_abs_0f7a4 9 = .ok (.iload_n 0, 1) := by decide +kernel
theorem dJ9_abs_0f7a4_10 : decode cJ9_abs_0f7a4 10 = .ok (.ireturn, 1) := by decide +kernel
theorem dJ9_max_7cf53_0 : decode cJ9_max_7cf53 0 = .ok (.iload_n 0, 1) := by decide +kernel
theorem dJ9_max_7cf53_1 : decode cJ9_max_7cf53 1 = .ok (.iload_n 1, 1) := by decide +kernel
theorem dJ9_max_7cf53_2 : decode cJ9_max_7cf53 2 = .ok (.if_icmp .lt 7, 3) := by decide +kernel
theorem dJ9_max_7cf53_5 : decode cJ9_max_7cf53 5 = .ok (.iload_n 0, 1) := by decide +kernel
theorem dJ9_max_7cf53_6 : decode cJ9_max_7cf53 6 = .ok (.goto 4, 3) := by decide +kernel
theorem dJ9_max_7cf53_9 : decode cJ9_max_7cf53 9 = .ok (.iload_n 1, 1) := by decide +kernel
theorem dJ9_max_7cf53_10 : decode cJ9_max_7cf53 10 = .ok (.ireturn, 1) := by decide +kernel
theorem dJ9_min_7cf53_0 : decode cJ9_min_7cf53 0 = .ok (.iload_n 0, 1) := by decide +kernel
theorem dJ9_min_7cf53_1 : decode cJ9_min_7cf53 1 = .ok (.iload_n 1, 1) := by decide +kernel
theorem dJ9_min_7cf53_2 : decode cJ9_min_7cf53 2 = .ok (.if_icmp .gt 7, 3) := by decide +kernel
theorem dJ9_min_7cf53_5 : decode cJ9_min_7cf53 5 = .ok (.iload_n 0, 1) := by decide +kernel
theorem dJ9_min_7cf53_6 : decode cJ9_min_7cf53 6 = .ok (.goto 4, 3) := by decide +kernel
theorem dJ9_min_7cf53_9 : decode cJ9_min_7cf53 9 = .ok (.iload_n 1, 1) := by decide +kernel
theorem dJ9_min_7cf53_10 : decode cJ9_min_7cf53 10 = .ok (.ireturn, 1) := by decide +kernel
theorem dJ7_fill_53178_0 : decode cJ7_fill_53178 0 = .ok (.iconst 0, 1) := by decide +kernel
theorem dJ7_fill_53178_1 : decode cJ7_fill_53178 1 = .ok (.istore_n 2, 1) := by decide +kernel
theorem dJ7_fill_53178_2 : decode cJ7_fill_53178 2 = .ok (.aload_n 0, 1) := by decide +kernel
theorem dJ7_fill_53178_3 : decode cJ7_fill_53178 3 = .ok (.arraylength, 1) := by decide +kernel
theorem dJ7_fill_53178_4 : decode cJ7_fill_53178 4 = .ok (.istore_n 3, 1) := by decide +kernel
theorem dJ7_fill_53178_5 : decode cJ7_fill_53178 5 = .ok (.iload_n 2, 1) := by decide +kernel
theorem dJ7_fill_53178_6 : decode cJ7_fill_53178 6 = .ok (.iload_n 3, 1) := by decide +kernel
theorem dJ7_fill_53178_7 : decode cJ7_fill_53178 7 = .ok (.if_icmp .ge 13, 3) := by decide +kernel
theorem dJ7_fill_53178_10 : decode cJ7_fill_53178 10 = .ok (.aload_n 0, 1) := by decide +kernel
theorem dJ7_fill_53178_11 : decode cJ7_fill_53178 11 = .ok (.iload_n 2, 1) := by decide +kernel
theorem dJ7_fill_53178_12 : decode cJ7_fill_53178 12 = .ok (.iload_n 1, 1) := by decide +kernel
theorem dJ7_fill_53178_13 : decode cJ7_fill_53178 13 = .ok (.iastore, 1) := by decide +kernel
theorem dJ7_fill_53178_14 : decode cJ7_fill_53178 14 = .ok (.iinc 2 1, 3) := by decide +kernel
theorem dJ7_fill_53178_17 : decode cJ7_fill_53178 17 = .ok (.goto (-12), 3) := by decide +kernel
theorem dJ7_fill_53178_20 : decode cJ7_fill_53178 20 = .ok (.return_, 1) := by decide +kernel
abbrev vwCl : List vw_C := [(RX0, TX0, 5), (RX1, TX1, 4), (RX2, TX2, 9), (RX3, TX3, 3), (RX4, TX4, 5), (RX5, TX5, 8), (RX6, TX6, 21)]
end
section
/-! small words for checks that a walk meets -/
def n32 (r : UInt32) : Bool := decide (r &&& 0x7fffffff ≤ 0x7f800000)
def n64 (r : UInt64) : Bool := decide (r &&& 0x7fffffffffffffff ≤ 0x7ff0000000000000)
def inB (i : Int32) (n : Nat) : Bool := decide (¬ (i < 0 ∨ n ≤ i.toNatClampNeg))
theorem n32_ok {r : UInt32} (h : n32 r = true) : vf_n32 r := by unfold vf_n32; exact of_decide_eq_true h
theorem n64_ok {r : UInt64} (h : n64 r = true) : vf_n64 r := by unfold vf_n64; exact of_decide_eq_true h
theorem inB_ok {i : Int32} {n : Nat} (h : inB i n = true) : vp_in i n := by unfold vp_in; exact of_decide_eq_true h
/-- a check, and what is behind it -/
def gd {α : Type} (b : Bool) (k : Option α) : Option α := bif b then k else none
theorem gdP {α : Type} {b : Bool} {k : Option α} {r : α} (h : gd b k = some r) : b = true ∧ k = some r := by
  cases b
  · cases h
  · exact ⟨rfl, h⟩
theorem bnd {α β : Type} {o : Option α} {f : α → Option β} {b : β} (h : o.bind f = some b) : ∃ a, o = some a ∧ f a = some b := by
  cases o with
  | none => cases h
  | some a => exact ⟨a, rfl, h⟩
theorem ifP {c : Prop} [Decidable c] {α : Type} {a b r : α} (hc : c) (h : (if c then a else b) = r) : a = r := by rwa [if_pos hc] at h
theorem ifN {c : Prop} [Decidable c] {α : Type} {a b r : α} (hc : ¬ c) (h : (if c then a else b) = r) : b = r := by rwa [if_neg hc] at h
/-- a loop: a body that says 'again, with this' or 'out, with this' -/
def lpF {σ ε : Type} (B : σ → Option (σ ⊕ ε)) : Nat → σ → Option ε
  | 0, _ => none
  | n + 1, s => (B s).bind fun r => match r with
    | .inl s' => lpF B n s'
    | .inr e => some e
def FU : Nat := 4000
/-! ===== the mini logic: abstract heaps (places instead of addresses), one judgement Wg over the kit's W ===== -/
abbrev aE : Type := (Nat × vp_A) ⊕ (Nat × List Value)
abbrev aH : Type := List aE
def cv (ad : Nat → Nat) : Value → Value
  | .ref k => .ref (ad k)
  | v => v
def cE (ca : Nat → ClassId) (ad : Nat → Nat) : aE → va_E
  | .inl (t, n, .inl f) => .inl (ca t, n, .inl f)
  | .inl (t, n, .inr (.inl f)) => .inl (ca t, n, .inr (.inl f))
  | .inl (t, n, .inr (.inr (.inl f))) => .inl (ca t, n, .inr (.inr (.inl f)))
  | .inl (t, n, .inr (.inr (.inr (.inl f)))) => .inl (ca t, n, .inr (.inr (.inr (.inl f))))
  | .inl (t, n, .inr (.inr (.inr (.inr f)))) => .inl (ca t, n, .inr (.inr (.inr (.inr (fun j => (f j).map ad)))))
  | .inr (c, fs) => .inr (c, fs.map (cv ad))
def cH (ca : Nat → ClassId) (ad : Nat → Nat) (hp : aH) : va_W := hp.mapIdx (fun k e => (ad k, cE ca ad e))
theorem cH_at {ca : Nat → ClassId} {ad : Nat → Nat} {hp : aH} {k : Nat} {e : aE} (h : hp[k]? = some e) : (cH ca ad hp)[k]? = some (ad k, cE ca ad e) := by
  simp [cH, h]
theorem cH_set (ca : Nat → ClassId) (ad : Nat → Nat) (hp : aH) (k : Nat) (e : aE) : (cH ca ad hp).set k (ad k, cE ca ad e) = cH ca ad (hp.set k e) := by
  apply List.ext_getElem?
  intro i
  simp only [cH, List.getElem?_set, List.getElem?_mapIdx, List.length_mapIdx]
  by_cases h : k = i
  · subst h
    by_cases h2 : k < hp.length
    · simp [h2]
    · simp [h2]
  · simp [h]
abbrev tyA (ca : Nat → ClassId) : List (ClassId × FieldType) := [(ca 0, .int), (ca 1, .float), (ca 2, .boolean), (ca 3, .object "AnalogDays$Book")]
def LH (ad : Nat → Nat) (ls : Array Slot) (nL : Nat) (lv : List (Option Value)) : Prop := lv.length = nL ∧ ls.size = nL ∧ lv_wf ls ∧ ∀ (i : Nat) (v : Value), lv[i]? = some (some v) → ls[i]? = some (.val (cv ad v))
def c2 : Option Value → Bool
  | some v => v.category == 2
  | none => false
def clr : List (Option Value) → List (Option Value)
  | [] => []
  | _ :: r => none :: r
def stL : List (Option Value) → Nat → Value → List (Option Value)
  | [], _, _ => []
  | _ :: r, 0, v => some v :: r
  | o :: r, 1, v => (bif c2 o then none else o) :: stL r 0 v
  | o :: r, i + 2, v => o :: stL r (i + 1) v
def stL2 : List (Option Value) → Nat → Value → List (Option Value)
  | [], _, _ => []
  | _ :: r, 0, v => some v :: clr r
  | o :: r, 1, v => (bif c2 o then none else o) :: stL2 r 0 v
  | o :: r, i + 2, v => o :: stL2 r (i + 1) v
def dropL : List (Option Value) → Nat → List (Option Value)
  | [], _ => []
  | _ :: r, 0 => none :: r
  | o :: r, i + 1 => o :: dropL r i
def dropLs (lv : List (Option Value)) : List Nat → List (Option Value)
  | [] => lv
  | k :: ks => dropLs (dropL lv k) ks
theorem stL_len : ∀ (lv : List (Option Value)) (i : Nat) (v : Value), (stL lv i v).length = lv.length
  | [], _, _ => rfl
  | _ :: _, 0, _ => rfl
  | o :: r, 1, v => by simp [stL, stL_len r 0 v]
  | o :: r, i + 2, v => by simp [stL, stL_len r (i + 1) v]
theorem clr_len (r : List (Option Value)) : (clr r).length = r.length := by cases r <;> rfl
theorem stL2_len : ∀ (lv : List (Option Value)) (i : Nat) (v : Value), (stL2 lv i v).length = lv.length
  | [], _, _ => rfl
  | _ :: r, 0, _ => by simp [stL2, clr_len]
  | o :: r, 1, v => by simp [stL2, stL2_len r 0 v]
  | o :: r, i + 2, v => by simp [stL2, stL2_len r (i + 1) v]
theorem dropL_len : ∀ (lv : List (Option Value)) (i : Nat), (dropL lv i).length = lv.length
  | [], _ => rfl
  | _ :: _, 0 => rfl
  | o :: r, i + 1 => by simp [dropL, dropL_len r i]
theorem stL_at : ∀ (lv : List (Option Value)) (i : Nat) (v : Value) (j : Nat) (w : Value), (stL lv i v)[j]? = some (some w) → (j = i ∧ w = v) ∨ (j ≠ i ∧ lv[j]? = some (some w) ∧ ¬ (j + 1 = i ∧ w.category = 2))
  | [], _, _, j, w, h => by simp [stL] at h
  | o :: r, 0, v, j, w, h => by
    cases j with
    | zero => simp [stL] at h; exact Or.inl ⟨rfl, h.symm⟩
    | succ j => simp [stL] at h; exact Or.inr ⟨by omega, by simpa using h, by omega⟩
  | o :: r, 1, v, j, w, h => by
    cases j with
    | zero =>
      refine Or.inr ⟨by omega, ?_, ?_⟩
      · cases hc : c2 o <;> simp [stL, hc] at h
        simpa using h
      · intro ⟨_, hw⟩
        cases hc : c2 o <;> simp [stL, hc] at h
        subst h
        simp [c2, hw] at hc
    | succ j =>
      simp only [stL, List.getElem?_cons_succ] at h
      rcases stL_at r 0 v j w h with ⟨a, b⟩ | ⟨a, b, c⟩
      · exact Or.inl ⟨by omega, b⟩
      · exact Or.inr ⟨by omega, by simpa using b, by omega⟩
  | o :: r, i + 2, v, j, w, h => by
    cases j with
    | zero => simp [stL] at h; exact Or.inr ⟨by omega, by simpa using h, by omega⟩
    | succ j =>
      simp only [stL, List.getElem?_cons_succ] at h
      rcases stL_at r (i + 1) v j w h with ⟨a, b⟩ | ⟨a, b, c⟩
      · exact Or.inl ⟨by omega, b⟩
      · exact Or.inr ⟨by omega, by simpa using b, fun ⟨q1, q2⟩ => c ⟨by omega, q2⟩⟩
theorem clr_at {r : List (Option Value)} {j : Nat} {w : Value} (h : (clr r)[j]? = some (some w)) : j ≠ 0 ∧ r[j]? = some (some w) := by
  cases r with
  | nil => simp [clr] at h
  | cons o r =>
    cases j with
    | zero => simp [clr] at h
    | succ j => simp only [clr, List.getElem?_cons_succ] at h; exact ⟨by omega, by simpa using h⟩
theorem stL2_at : ∀ (lv : List (Option Value)) (i : Nat) (v : Value) (j : Nat) (w : Value), (stL2 lv i v)[j]? = some (some w) → (j = i ∧ w = v) ∨ (j ≠ i ∧ j ≠ i + 1 ∧ lv[j]? = some (some w) ∧ ¬ (j + 1 = i ∧ w.category = 2))
  | [], _, _, j, w, h => by simp [stL2] at h
  | o :: r, 0, v, j, w, h => by
    cases j with
    | zero => simp [stL2] at h; exact Or.inl ⟨rfl, h.symm⟩
    | succ j =>
      simp only [stL2, List.getElem?_cons_succ] at h
      obtain ⟨a, b⟩ := clr_at h
      exact Or.inr ⟨by omega, by omega, by simpa using b, by omega⟩
  | o :: r, 1, v, j, w, h => by
    cases j with
    | zero =>
      refine Or.inr ⟨by omega, by omega, ?_, ?_⟩
      · cases hc : c2 o <;> simp [stL2, hc] at h
        simpa using h
      · intro ⟨_, hw⟩
        cases hc : c2 o <;> simp [stL2, hc] at h
        subst h
        simp [c2, hw] at hc
    | succ j =>
      simp only [stL2, List.getElem?_cons_succ] at h
      rcases stL2_at r 0 v j w h with ⟨a, b⟩ | ⟨a, a2, b, c⟩
      · exact Or.inl ⟨by omega, b⟩
      · exact Or.inr ⟨by omega, by omega, by simpa using b, by omega⟩
  | o :: r, i + 2, v, j, w, h => by
    cases j with
    | zero => simp [stL2] at h; exact Or.inr ⟨by omega, by omega, by simpa using h, by omega⟩
    | succ j =>
      simp only [stL2, List.getElem?_cons_succ] at h
      rcases stL2_at r (i + 1) v j w h with ⟨a, b⟩ | ⟨a, a2, b, c⟩
      · exact Or.inl ⟨by omega, b⟩
      · exact Or.inr ⟨by omega, by omega, by simpa using b, fun ⟨q1, q2⟩ => c ⟨by omega, q2⟩⟩
theorem dropL_at : ∀ (lv : List (Option Value)) (i j : Nat) (w : Value), (dropL lv i)[j]? = some (some w) → lv[j]? = some (some w)
  | [], _, j, w, h => by simp [dropL] at h
  | o :: r, 0, j, w, h => by
    cases j with
    | zero => simp [dropL] at h
    | succ j => simpa [dropL] using h
  | o :: r, i + 1, j, w, h => by
    cases j with
    | zero => simpa [dropL] using h
    | succ j =>
      simp only [dropL, List.getElem?_cons_succ] at h
      simpa using dropL_at r i j w h
theorem dropLs_len : ∀ (ks : List Nat) (lv : List (Option Value)), (dropLs lv ks).length = lv.length
  | [], _ => rfl
  | k :: ks, lv => by rw [dropLs, dropLs_len ks, dropL_len]
theorem dropLs_at : ∀ (ks : List Nat) (lv : List (Option Value)) (j : Nat) (w : Value), (dropLs lv ks)[j]? = some (some w) → lv[j]? = some (some w)
  | [], _, _, _, h => h
  | k :: ks, lv, j, w, h => dropL_at lv k j w (dropLs_at ks _ j w h)
theorem LH.drop {ad : Nat → Nat} {ls : Array Slot} {nL : Nat} {lv : List (Option Value)} (h : LH ad ls nL lv) (ks : List Nat) : LH ad ls nL (dropLs lv ks) :=
  ⟨(dropLs_len ks lv).trans h.1, h.2.1, h.2.2.1, fun i v hi => h.2.2.2 i v (dropLs_at ks lv i v hi)⟩
theorem cv_cat (ad : Nat → Nat) (v : Value) : (cv ad v).category = v.category := by cases v <;> rfl
/-- the listed locals as the kit has them -/
def lvF (ad : Nat → Nat) (lv : List (Option Value)) : List (Nat × Value) := (lv.mapIdx (fun i o => o.map (fun v => (i, cv ad v)))).filterMap id
theorem lvF_mem {ad : Nat → Nat} {lv : List (Option Value)} {q : Nat × Value} : q ∈ lvF ad lv ↔ ∃ v, lv[q.1]? = some (some v) ∧ q.2 = cv ad v := by
  obtain ⟨i, w⟩ := q
  simp only [lvF, List.mem_filterMap, id]
  constructor
  · rintro ⟨o, ho, rfl⟩
    obtain ⟨k, hk⟩ := List.getElem?_of_mem ho
    rw [List.getElem?_mapIdx] at hk
    cases hq : lv[k]? with
    | none => rw [hq] at hk; cases hk
    | some x =>
      rw [hq] at hk
      cases x with
      | none => cases hk
      | some v =>
        simp only [Option.map_some, Option.some.injEq, Prod.mk.injEq] at hk
        obtain ⟨rfl, rfl⟩ := hk
        exact ⟨v, hq, rfl⟩
  · rintro ⟨v, hv, rfl⟩
    refine ⟨some (i, cv ad v), ?_, rfl⟩
    apply List.mem_of_getElem? (i := i)
    rw [List.getElem?_mapIdx, hv]
    rfl
theorem LH.has {ad : Nat → Nat} {ls : Array Slot} {nL : Nat} {lv : List (Option Value)} (h : LH ad ls nL lv) : lv_has ls nL (lvF ad lv) := by
  refine ⟨h.2.1, h.2.2.1, fun q hq => ?_⟩
  obtain ⟨v, hv, e⟩ := lvF_mem.mp hq
  rw [e]
  exact h.2.2.2 q.1 v hv
theorem LH.st {ad : Nat → Nat} {ls : Array Slot} {nL : Nat} {lv : List (Option Value)} {i : Nat} {v : Value} (hn : lv.length = nL) (h : lv_has ls nL ((i, cv ad v) :: (lvF ad lv).filter (fun q => !(q.1 == i) && !(q.1 + 1 == i && q.2.category == 2)))) : LH ad ls nL (stL lv i v) := by
  refine ⟨(stL_len lv i v).trans hn, h.1, h.2.1, fun j w hj => ?_⟩
  rcases stL_at lv i v j w hj with ⟨rfl, rfl⟩ | ⟨a, b, c⟩
  · exact h.2.2 (j, cv ad w) List.mem_cons_self
  · refine h.2.2 (j, cv ad w) (List.mem_cons_of_mem _ (List.mem_filter.mpr ⟨lvF_mem.mpr ⟨w, b, rfl⟩, ?_⟩))
    simp only [Bool.and_eq_true, Bool.not_eq_true', beq_eq_false_iff_ne, ne_eq, Bool.and_eq_false_iff, cv_cat]
    refine ⟨a, ?_⟩
    by_cases q : j + 1 = i
    · exact Or.inr fun z => c ⟨q, z⟩
    · exact Or.inl q
theorem LH.st2 {ad : Nat → Nat} {ls : Array Slot} {nL : Nat} {lv : List (Option Value)} {i : Nat} {v : Value} (hn : lv.length = nL) (h : lv_has ls nL ((i, cv ad v) :: (lvF ad lv).filter (fun q => !(q.1 == i) && (!(q.1 == i + 1) && !(q.1 + 1 == i && q.2.category == 2))))) : LH ad ls nL (stL2 lv i v) := by
  refine ⟨(stL2_len lv i v).trans hn, h.1, h.2.1, fun j w hj => ?_⟩
  rcases stL2_at lv i v j w hj with ⟨rfl, rfl⟩ | ⟨a, a2, b, c⟩
  · exact h.2.2 (j, cv ad w) List.mem_cons_self
  · refine h.2.2 (j, cv ad w) (List.mem_cons_of_mem _ (List.mem_filter.mpr ⟨lvF_mem.mpr ⟨w, b, rfl⟩, ?_⟩))
    simp only [Bool.and_eq_true, Bool.not_eq_true', beq_eq_false_iff_ne, ne_eq, Bool.and_eq_false_iff, cv_cat]
    refine ⟨a, a2, ?_⟩
    by_cases q : j + 1 = i
    · exact Or.inr fun z => c ⟨q, z⟩
    · exact Or.inl q
/-- the nest's links: they are no words that a contract keeps, so they come with the world -/
def Nws (U : State) : Prop := va_Nw (.methodLinkNest RX0 38 yX5_isMember RX5) U ∧ va_Nw (.methodLinkNest RX2 87 yX5_valueOf RX5) U ∧ va_Nw (.methodLinkNest RX1 57 yX5_valueOf RX5) U ∧ va_Nw (.methodLinkNest RX4 56 yX5_isWithin RX5) U ∧ va_Nw (.methodLinkNest RX4 25 yX5_isMember RX5) U
theorem Nws.warm {s U : State} (hW : s.WarmedH U.vm) (h : Nws s) : Nws U := ⟨h.1.warmM hW, h.2.1.warmM hW, h.2.2.1.warmM hW, h.2.2.2.1.warmM hW, h.2.2.2.2.warmM hW⟩
theorem Nws.same {s U : State} (hv : s.vm = U.vm) (h : Nws s) : Nws U := ⟨h.1.same rfl hv, h.2.1.same rfl hv, h.2.2.1.same rfl hv, h.2.2.2.1.same rfl hv, h.2.2.2.2.same rfl hv⟩
abbrev CX : Type := Program × Launch × Env × Room × State × MethodId × Array Value × List Frame × Method × Code × va_G × (Nat → ClassId) × (Nat → Nat) × (Nat → Prop) × Nat × Nat × Nat × (State → Prop)
def Wg (X : CX) (pc : Nat) (lv : List (Option Value)) (st : List Value) (hp : aH) : Prop :=
  match X with
  | (p, l, e, R, s, m, args, below, meth, c, D, ca, ad, A, cells, slots, nL, QM) => ∀ (H : Heap) (locs : List Loc) (ls : Array Slot), LH ad ls nL lv → va_P D vwCl (cH ca ad hp) H → va_D A (cH ca ad hp) → va_S A s.heap H locs → W p l e R s m args below meth c H locs cells slots QM (F0 m pc ls (st.map (cv ad)))
def Ok (X : CX) (own : String) (cc : ByteArray) (ws : List Cond) (rm : Room) : Prop :=
  match X with
  | (p, _, _, R, s, m, args, _, meth, c, D, ca, _, A, cells, slots, nL, _) => p.tables.exec = Jvm.exec ∧ c.code = cc ∧ c.maxLocals = nL ∧ s.vm.findClass own = some m.cls ∧ (∀ w ∈ ws, w.before args s = true) ∧ va_K D vwCl (tyA ca) s ∧ Nws s ∧ meth.locks = false ∧ (∀ q, s.heap.size ≤ q → A q) ∧ R = rm ∧ cells ≤ R.cells ∧ slots ≤ R.slots
/-- what a method's end says -/
def Qm (D : va_G) (ca : Nat → ClassId) (ad : Nat → Nat) (A : Nat → Prop) (r : Option Value) (hp : aH) : Array Value → State → Outcome → State → Prop := fun _ st o t => o = .returned (r.map (cv ad)) ∧ va_P D vwCl (cH ca ad hp) t.heap ∧ va_D A (cH ca ad hp) ∧ va_F A st t
def Rt (X : CX) (ret : Option FieldType) (r : Option Value) (hp : aH) : Prop :=
  match X with
  | (_, _, _, _, s, _, args, below, meth, _, D, ca, ad, A, cells, slots, _, QM) => meth.sig.returnType = ret ∧ QM = MQ below (Qm D ca ad A r hp) args s cells slots A
section Rules
variable {X : CX} {own : String} {cc : ByteArray} {ws : List Cond} {rm : Room} {pc : Nat} {lv : List (Option Value)} {st : List Value} {hp : aH}

theorem wg_iconst (C : Ok X own cc ws rm) {n : Int} {v : Int32} (d : decode cc pc = .ok (.iconst n, 1)) (hv : Int32.ofInt n = v) (k : Wg X (pc + 1) lv (.int v :: st) hp) : Wg X pc lv (st) hp := by
  obtain ⟨p, l, e, R, s, m, args, below, meth, c, D, ca, ad, A, cells, slots, nL, QM⟩ := X
  obtain ⟨hx, hb, hml, hown, hts, hK, hN, hlk, hA, hR, hc, hs⟩ := C
  intro H locs ls hl hP hD hS
  exact lv_iconst hx hb d hv (k H locs ls hl hP hD hS)
theorem wg_bipush (C : Ok X own cc ws rm) {n : Int} {v : Int32} (d : decode cc pc = .ok (.bipush n, 2)) (hv : (Int8.ofInt n).toInt32 = v) (k : Wg X (pc + 2) lv (.int v :: st) hp) : Wg X pc lv (st) hp := by
  obtain ⟨p, l, e, R, s, m, args, below, meth, c, D, ca, ad, A, cells, slots, nL, QM⟩ := X
  obtain ⟨hx, hb, hml, hown, hts, hK, hN, hlk, hA, hR, hc, hs⟩ := C
  intro H locs ls hl hP hD hS
  exact lv_bipush hx hb d hv (k H locs ls hl hP hD hS)
theorem wg_sipush (C : Ok X own cc ws rm) {n : Int} {v : Int32} (d : decode cc pc = .ok (.sipush n, 3)) (hv : (Int16.ofInt n).toInt32 = v) (k : Wg X (pc + 3) lv (.int v :: st) hp) : Wg X pc lv (st) hp := by
  obtain ⟨p, l, e, R, s, m, args, below, meth, c, D, ca, ad, A, cells, slots, nL, QM⟩ := X
  obtain ⟨hx, hb, hml, hown, hts, hK, hN, hlk, hA, hR, hc, hs⟩ := C
  intro H locs ls hl hP hD hS
  exact lv_sipush hx hb d hv (k H locs ls hl hP hD hS)
theorem wg_lconst (C : Ok X own cc ws rm) {n : Fin 2} {v : Int64} (d : decode cc pc = .ok (.lconst n, 1)) (hv : Int64.ofNat (n : Nat) = v) (k : Wg X (pc + 1) lv (.long v :: st) hp) : Wg X pc lv (st) hp := by
  obtain ⟨p, l, e, R, s, m, args, below, meth, c, D, ca, ad, A, cells, slots, nL, QM⟩ := X
  obtain ⟨hx, hb, hml, hown, hts, hK, hN, hlk, hA, hR, hc, hs⟩ := C
  intro H locs ls hl hP hD hS
  exact lv_lconst hx hb d hv (k H locs ls hl hP hD hS)
theorem wg_fconst0 (C : Ok X own cc ws rm)  (d : decode cc pc = .ok (.fconst 0, 1))  (k : Wg X (pc + 1) lv (.float FP.fconst0 :: st) hp) : Wg X pc lv (st) hp := by
  obtain ⟨p, l, e, R, s, m, args, below, meth, c, D, ca, ad, A, cells, slots, nL, QM⟩ := X
  obtain ⟨hx, hb, hml, hown, hts, hK, hN, hlk, hA, hR, hc, hs⟩ := C
  intro H locs ls hl hP hD hS
  exact lv_fconst0 hx hb d  (k H locs ls hl hP hD hS)
theorem wg_fconst1 (C : Ok X own cc ws rm)  (d : decode cc pc = .ok (.fconst 1, 1))  (k : Wg X (pc + 1) lv (.float FP.fconst1 :: st) hp) : Wg X pc lv (st) hp := by
  obtain ⟨p, l, e, R, s, m, args, below, meth, c, D, ca, ad, A, cells, slots, nL, QM⟩ := X
  obtain ⟨hx, hb, hml, hown, hts, hK, hN, hlk, hA, hR, hc, hs⟩ := C
  intro H locs ls hl hP hD hS
  exact lv_fconst1 hx hb d  (k H locs ls hl hP hD hS)
theorem wg_fconst2 (C : Ok X own cc ws rm)  (d : decode cc pc = .ok (.fconst 2, 1))  (k : Wg X (pc + 1) lv (.float FP.fconst2 :: st) hp) : Wg X pc lv (st) hp := by
  obtain ⟨p, l, e, R, s, m, args, below, meth, c, D, ca, ad, A, cells, slots, nL, QM⟩ := X
  obtain ⟨hx, hb, hml, hown, hts, hK, hN, hlk, hA, hR, hc, hs⟩ := C
  intro H locs ls hl hP hD hS
  exact lv_fconst2 hx hb d  (k H locs ls hl hP hD hS)
theorem wg_dconst0 (C : Ok X own cc ws rm)  (d : decode cc pc = .ok (.dconst 0, 1))  (k : Wg X (pc + 1) lv (.double FP.dconst0 :: st) hp) : Wg X pc lv (st) hp := by
  obtain ⟨p, l, e, R, s, m, args, below, meth, c, D, ca, ad, A, cells, slots, nL, QM⟩ := X
  obtain ⟨hx, hb, hml, hown, hts, hK, hN, hlk, hA, hR, hc, hs⟩ := C
  intro H locs ls hl hP hD hS
  exact lv_dconst0 hx hb d  (k H locs ls hl hP hD hS)
theorem wg_dconst1 (C : Ok X own cc ws rm)  (d : decode cc pc = .ok (.dconst 1, 1))  (k : Wg X (pc + 1) lv (.double FP.dconst1 :: st) hp) : Wg X pc lv (st) hp := by
  obtain ⟨p, l, e, R, s, m, args, below, meth, c, D, ca, ad, A, cells, slots, nL, QM⟩ := X
  obtain ⟨hx, hb, hml, hown, hts, hK, hN, hlk, hA, hR, hc, hs⟩ := C
  intro H locs ls hl hP hD hS
  exact lv_dconst1 hx hb d  (k H locs ls hl hP hD hS)
theorem wg_dup (C : Ok X own cc ws rm) {va : Value} (d : decode cc pc = .ok (.dup, 1)) (hva : va.category = 1) (k : Wg X (pc + 1) lv (va :: va :: st) hp) : Wg X pc lv (va :: st) hp := by
  obtain ⟨p, l, e, R, s, m, args, below, meth, c, D, ca, ad, A, cells, slots, nL, QM⟩ := X
  obtain ⟨hx, hb, hml, hown, hts, hK, hN, hlk, hA, hR, hc, hs⟩ := C
  intro H locs ls hl hP hD hS
  exact lv_dup hx hb d ((cv_cat ad va).trans hva) (k H locs ls hl hP hD hS)
theorem wg_dup2 (C : Ok X own cc ws rm) {va : Value} {vb : Value} (d : decode cc pc = .ok (.dup2, 1)) (hva : va.category = 1) (hvb : vb.category = 1) (k : Wg X (pc + 1) lv (va :: vb :: va :: vb :: st) hp) : Wg X pc lv (va :: vb :: st) hp := by
  obtain ⟨p, l, e, R, s, m, args, below, meth, c, D, ca, ad, A, cells, slots, nL, QM⟩ := X
  obtain ⟨hx, hb, hml, hown, hts, hK, hN, hlk, hA, hR, hc, hs⟩ := C
  intro H locs ls hl hP hD hS
  exact lv_dup2_11 hx hb d ((cv_cat ad va).trans hva) ((cv_cat ad vb).trans hvb) (k H locs ls hl hP hD hS)
theorem wg_pop (C : Ok X own cc ws rm) {va : Value} (d : decode cc pc = .ok (.pop, 1)) (hva : va.category = 1) (k : Wg X (pc + 1) lv (st) hp) : Wg X pc lv (va :: st) hp := by
  obtain ⟨p, l, e, R, s, m, args, below, meth, c, D, ca, ad, A, cells, slots, nL, QM⟩ := X
  obtain ⟨hx, hb, hml, hown, hts, hK, hN, hlk, hA, hR, hc, hs⟩ := C
  intro H locs ls hl hP hD hS
  exact lv_pop hx hb d ((cv_cat ad va).trans hva) (k H locs ls hl hP hD hS)
theorem wg_iadd (C : Ok X own cc ws rm) {x : Int32} {y : Int32} (d : decode cc pc = .ok (.iadd, 1))  (k : Wg X (pc + 1) lv (.int (x + y) :: st) hp) : Wg X pc lv (.int y :: .int x :: st) hp := by
  obtain ⟨p, l, e, R, s, m, args, below, meth, c, D, ca, ad, A, cells, slots, nL, QM⟩ := X
  obtain ⟨hx, hb, hml, hown, hts, hK, hN, hlk, hA, hR, hc, hs⟩ := C
  intro H locs ls hl hP hD hS
  exact lv_iadd hx hb d  (k H locs ls hl hP hD hS)
theorem wg_isub (C : Ok X own cc ws rm) {x : Int32} {y : Int32} (d : decode cc pc = .ok (.isub, 1))  (k : Wg X (pc + 1) lv (.int (x - y) :: st) hp) : Wg X pc lv (.int y :: .int x :: st) hp := by
  obtain ⟨p, l, e, R, s, m, args, below, meth, c, D, ca, ad, A, cells, slots, nL, QM⟩ := X
  obtain ⟨hx, hb, hml, hown, hts, hK, hN, hlk, hA, hR, hc, hs⟩ := C
  intro H locs ls hl hP hD hS
  exact lv_isub hx hb d  (k H locs ls hl hP hD hS)
theorem wg_imul (C : Ok X own cc ws rm) {x : Int32} {y : Int32} (d : decode cc pc = .ok (.imul, 1))  (k : Wg X (pc + 1) lv (.int (x * y) :: st) hp) : Wg X pc lv (.int y :: .int x :: st) hp := by
  obtain ⟨p, l, e, R, s, m, args, below, meth, c, D, ca, ad, A, cells, slots, nL, QM⟩ := X
  obtain ⟨hx, hb, hml, hown, hts, hK, hN, hlk, hA, hR, hc, hs⟩ := C
  intro H locs ls hl hP hD hS
  exact lv_imul hx hb d  (k H locs ls hl hP hD hS)
theorem wg_iand (C : Ok X own cc ws rm) {x : Int32} {y : Int32} (d : decode cc pc = .ok (.iand, 1))  (k : Wg X (pc + 1) lv (.int (x &&& y) :: st) hp) : Wg X pc lv (.int y :: .int x :: st) hp := by
  obtain ⟨p, l, e, R, s, m, args, below, meth, c, D, ca, ad, A, cells, slots, nL, QM⟩ := X
  obtain ⟨hx, hb, hml, hown, hts, hK, hN, hlk, hA, hR, hc, hs⟩ := C
  intro H locs ls hl hP hD hS
  exact lv_iand hx hb d  (k H locs ls hl hP hD hS)
theorem wg_ior (C : Ok X own cc ws rm) {x : Int32} {y : Int32} (d : decode cc pc = .ok (.ior, 1))  (k : Wg X (pc + 1) lv (.int (x ||| y) :: st) hp) : Wg X pc lv (.int y :: .int x :: st) hp := by
  obtain ⟨p, l, e, R, s, m, args, below, meth, c, D, ca, ad, A, cells, slots, nL, QM⟩ := X
  obtain ⟨hx, hb, hml, hown, hts, hK, hN, hlk, hA, hR, hc, hs⟩ := C
  intro H locs ls hl hP hD hS
  exact lv_ior hx hb d  (k H locs ls hl hP hD hS)
theorem wg_ishl (C : Ok X own cc ws rm) {x : Int32} {y : Int32} (d : decode cc pc = .ok (.ishl, 1))  (k : Wg X (pc + 1) lv (.int (x <<< (y &&& 31)) :: st) hp) : Wg X pc lv (.int y :: .int x :: st) hp := by
  obtain ⟨p, l, e, R, s, m, args, below, meth, c, D, ca, ad, A, cells, slots, nL, QM⟩ := X
  obtain ⟨hx, hb, hml, hown, hts, hK, hN, hlk, hA, hR, hc, hs⟩ := C
  intro H locs ls hl hP hD hS
  exact lv_ishl hx hb d  (k H locs ls hl hP hD hS)
theorem wg_idiv (C : Ok X own cc ws rm) {x : Int32} {y : Int32} (d : decode cc pc = .ok (.idiv, 1)) (hne : ¬ y = 0) (k : Wg X (pc + 1) lv (.int (x / y) :: st) hp) : Wg X pc lv (.int y :: .int x :: st) hp := by
  obtain ⟨p, l, e, R, s, m, args, below, meth, c, D, ca, ad, A, cells, slots, nL, QM⟩ := X
  obtain ⟨hx, hb, hml, hown, hts, hK, hN, hlk, hA, hR, hc, hs⟩ := C
  intro H locs ls hl hP hD hS
  exact lv_idiv hx hb d hne (k H locs ls hl hP hD hS)
theorem wg_irem (C : Ok X own cc ws rm) {x : Int32} {y : Int32} (d : decode cc pc = .ok (.irem, 1)) (hne : ¬ y = 0) (k : Wg X (pc + 1) lv (.int (x - x / y * y) :: st) hp) : Wg X pc lv (.int y :: .int x :: st) hp := by
  obtain ⟨p, l, e, R, s, m, args, below, meth, c, D, ca, ad, A, cells, slots, nL, QM⟩ := X
  obtain ⟨hx, hb, hml, hown, hts, hK, hN, hlk, hA, hR, hc, hs⟩ := C
  intro H locs ls hl hP hD hS
  exact lv_irem hx hb d hne (k H locs ls hl hP hD hS)
theorem wg_ineg (C : Ok X own cc ws rm) {x : Int32} (d : decode cc pc = .ok (.ineg, 1))  (k : Wg X (pc + 1) lv (.int (-x) :: st) hp) : Wg X pc lv (.int x :: st) hp := by
  obtain ⟨p, l, e, R, s, m, args, below, meth, c, D, ca, ad, A, cells, slots, nL, QM⟩ := X
  obtain ⟨hx, hb, hml, hown, hts, hK, hN, hlk, hA, hR, hc, hs⟩ := C
  intro H locs ls hl hP hD hS
  exact lv_ineg hx hb d  (k H locs ls hl hP hD hS)
theorem wg_ladd (C : Ok X own cc ws rm) {x : Int64} {y : Int64} (d : decode cc pc = .ok (.ladd, 1))  (k : Wg X (pc + 1) lv (.long (x + y) :: st) hp) : Wg X pc lv (.long y :: .long x :: st) hp := by
  obtain ⟨p, l, e, R, s, m, args, below, meth, c, D, ca, ad, A, cells, slots, nL, QM⟩ := X
  obtain ⟨hx, hb, hml, hown, hts, hK, hN, hlk, hA, hR, hc, hs⟩ := C
  intro H locs ls hl hP hD hS
  exact lv_ladd hx hb d  (k H locs ls hl hP hD hS)
theorem wg_lmul (C : Ok X own cc ws rm) {x : Int64} {y : Int64} (d : decode cc pc = .ok (.lmul, 1))  (k : Wg X (pc + 1) lv (.long (x * y) :: st) hp) : Wg X pc lv (.long y :: .long x :: st) hp := by
  obtain ⟨p, l, e, R, s, m, args, below, meth, c, D, ca, ad, A, cells, slots, nL, QM⟩ := X
  obtain ⟨hx, hb, hml, hown, hts, hK, hN, hlk, hA, hR, hc, hs⟩ := C
  intro H locs ls hl hP hD hS
  exact lv_lmul hx hb d  (k H locs ls hl hP hD hS)
theorem wg_lor (C : Ok X own cc ws rm) {x : Int64} {y : Int64} (d : decode cc pc = .ok (.lor, 1))  (k : Wg X (pc + 1) lv (.long (x ||| y) :: st) hp) : Wg X pc lv (.long y :: .long x :: st) hp := by
  obtain ⟨p, l, e, R, s, m, args, below, meth, c, D, ca, ad, A, cells, slots, nL, QM⟩ := X
  obtain ⟨hx, hb, hml, hown, hts, hK, hN, hlk, hA, hR, hc, hs⟩ := C
  intro H locs ls hl hP hD hS
  exact lv_lor hx hb d  (k H locs ls hl hP hD hS)
theorem wg_ldiv (C : Ok X own cc ws rm) {x : Int64} {y : Int64} (d : decode cc pc = .ok (.ldiv, 1)) (hne : ¬ y = 0) (k : Wg X (pc + 1) lv (.long (x / y) :: st) hp) : Wg X pc lv (.long y :: .long x :: st) hp := by
  obtain ⟨p, l, e, R, s, m, args, below, meth, c, D, ca, ad, A, cells, slots, nL, QM⟩ := X
  obtain ⟨hx, hb, hml, hown, hts, hK, hN, hlk, hA, hR, hc, hs⟩ := C
  intro H locs ls hl hP hD hS
  exact lv_ldiv hx hb d hne (k H locs ls hl hP hD hS)
theorem wg_lrem (C : Ok X own cc ws rm) {x : Int64} {y : Int64} (d : decode cc pc = .ok (.lrem, 1)) (hne : ¬ y = 0) (k : Wg X (pc + 1) lv (.long (x - x / y * y) :: st) hp) : Wg X pc lv (.long y :: .long x :: st) hp := by
  obtain ⟨p, l, e, R, s, m, args, below, meth, c, D, ca, ad, A, cells, slots, nL, QM⟩ := X
  obtain ⟨hx, hb, hml, hown, hts, hK, hN, hlk, hA, hR, hc, hs⟩ := C
  intro H locs ls hl hP hD hS
  exact lv_lrem hx hb d hne (k H locs ls hl hP hD hS)
theorem wg_lshl (C : Ok X own cc ws rm) {x : Int64} {y : Int32} (d : decode cc pc = .ok (.lshl, 1))  (k : Wg X (pc + 1) lv (.long (x <<< (y.toInt64 &&& 63)) :: st) hp) : Wg X pc lv (.int y :: .long x :: st) hp := by
  obtain ⟨p, l, e, R, s, m, args, below, meth, c, D, ca, ad, A, cells, slots, nL, QM⟩ := X
  obtain ⟨hx, hb, hml, hown, hts, hK, hN, hlk, hA, hR, hc, hs⟩ := C
  intro H locs ls hl hP hD hS
  exact lv_lshl hx hb d rfl (k H locs ls hl hP hD hS)
theorem wg_i2l (C : Ok X own cc ws rm) {x : Int32} (d : decode cc pc = .ok (.i2l, 1))  (k : Wg X (pc + 1) lv (.long x.toInt64 :: st) hp) : Wg X pc lv (.int x :: st) hp := by
  obtain ⟨p, l, e, R, s, m, args, below, meth, c, D, ca, ad, A, cells, slots, nL, QM⟩ := X
  obtain ⟨hx, hb, hml, hown, hts, hK, hN, hlk, hA, hR, hc, hs⟩ := C
  intro H locs ls hl hP hD hS
  exact lv_i2l hx hb d rfl (k H locs ls hl hP hD hS)
theorem wg_l2i (C : Ok X own cc ws rm) {x : Int64} (d : decode cc pc = .ok (.l2i, 1))  (k : Wg X (pc + 1) lv (.int x.toInt32 :: st) hp) : Wg X pc lv (.long x :: st) hp := by
  obtain ⟨p, l, e, R, s, m, args, below, meth, c, D, ca, ad, A, cells, slots, nL, QM⟩ := X
  obtain ⟨hx, hb, hml, hown, hts, hK, hN, hlk, hA, hR, hc, hs⟩ := C
  intro H locs ls hl hP hD hS
  exact lv_l2i hx hb d rfl (k H locs ls hl hP hD hS)
theorem wg_i2f (C : Ok X own cc ws rm) {x : Int32} (d : decode cc pc = .ok (.i2f, 1))  (k : Wg X (pc + 1) lv (.float (FP.i2f x) :: st) hp) : Wg X pc lv (.int x :: st) hp := by
  obtain ⟨p, l, e, R, s, m, args, below, meth, c, D, ca, ad, A, cells, slots, nL, QM⟩ := X
  obtain ⟨hx, hb, hml, hown, hts, hK, hN, hlk, hA, hR, hc, hs⟩ := C
  intro H locs ls hl hP hD hS
  exact lv_i2f hx hb d  (k H locs ls hl hP hD hS)
theorem wg_i2d (C : Ok X own cc ws rm) {x : Int32} (d : decode cc pc = .ok (.i2d, 1))  (k : Wg X (pc + 1) lv (.double (FP.i2d x) :: st) hp) : Wg X pc lv (.int x :: st) hp := by
  obtain ⟨p, l, e, R, s, m, args, below, meth, c, D, ca, ad, A, cells, slots, nL, QM⟩ := X
  obtain ⟨hx, hb, hml, hown, hts, hK, hN, hlk, hA, hR, hc, hs⟩ := C
  intro H locs ls hl hP hD hS
  exact lv_i2d hx hb d  (k H locs ls hl hP hD hS)
theorem wg_f2i (C : Ok X own cc ws rm) {x : UInt32} (d : decode cc pc = .ok (.f2i, 1))  (k : Wg X (pc + 1) lv (.int (FP.f2i x) :: st) hp) : Wg X pc lv (.float x :: st) hp := by
  obtain ⟨p, l, e, R, s, m, args, below, meth, c, D, ca, ad, A, cells, slots, nL, QM⟩ := X
  obtain ⟨hx, hb, hml, hown, hts, hK, hN, hlk, hA, hR, hc, hs⟩ := C
  intro H locs ls hl hP hD hS
  exact lv_f2i hx hb d  (k H locs ls hl hP hD hS)
theorem wg_d2l (C : Ok X own cc ws rm) {x : UInt64} (d : decode cc pc = .ok (.d2l, 1))  (k : Wg X (pc + 1) lv (.long (FP.d2l x) :: st) hp) : Wg X pc lv (.double x :: st) hp := by
  obtain ⟨p, l, e, R, s, m, args, below, meth, c, D, ca, ad, A, cells, slots, nL, QM⟩ := X
  obtain ⟨hx, hb, hml, hown, hts, hK, hN, hlk, hA, hR, hc, hs⟩ := C
  intro H locs ls hl hP hD hS
  exact lv_d2l hx hb d  (k H locs ls hl hP hD hS)
theorem wg_f2d (C : Ok X own cc ws rm) {x : UInt32} (d : decode cc pc = .ok (.f2d, 1)) (hn : n64 (FP.f2d x) = true) (k : Wg X (pc + 1) lv (.double (FP.f2d x) :: st) hp) : Wg X pc lv (.float x :: st) hp := by
  obtain ⟨p, l, e, R, s, m, args, below, meth, c, D, ca, ad, A, cells, slots, nL, QM⟩ := X
  obtain ⟨hx, hb, hml, hown, hts, hK, hN, hlk, hA, hR, hc, hs⟩ := C
  intro H locs ls hl hP hD hS
  exact lv_f2d hx hb d (n64_ok hn) (k H locs ls hl hP hD hS)
theorem wg_lcmp (C : Ok X own cc ws rm) {x : Int64} {y : Int64} (d : decode cc pc = .ok (.lcmp, 1))  (k : Wg X (pc + 1) lv (.int (lg_cmp x y) :: st) hp) : Wg X pc lv (.long y :: .long x :: st) hp := by
  obtain ⟨p, l, e, R, s, m, args, below, meth, c, D, ca, ad, A, cells, slots, nL, QM⟩ := X
  obtain ⟨hx, hb, hml, hown, hts, hK, hN, hlk, hA, hR, hc, hs⟩ := C
  intro H locs ls hl hP hD hS
  exact W.lcmp hx hb d  (k H locs ls hl hP hD hS)
theorem wg_fadd (C : Ok X own cc ws rm) {x : UInt32} {y : UInt32} (d : decode cc pc = .ok (.fadd, 1)) (hn : n32 (FP.fadd x y) = true) (k : Wg X (pc + 1) lv (.float (FP.fadd x y) :: st) hp) : Wg X pc lv (.float y :: .float x :: st) hp := by
  obtain ⟨p, l, e, R, s, m, args, below, meth, c, D, ca, ad, A, cells, slots, nL, QM⟩ := X
  obtain ⟨hx, hb, hml, hown, hts, hK, hN, hlk, hA, hR, hc, hs⟩ := C
  intro H locs ls hl hP hD hS
  exact lv_fadd hx hb d (n32_ok hn) (k H locs ls hl hP hD hS)
theorem wg_fsub (C : Ok X own cc ws rm) {x : UInt32} {y : UInt32} (d : decode cc pc = .ok (.fsub, 1)) (hn : n32 (FP.fsub x y) = true) (k : Wg X (pc + 1) lv (.float (FP.fsub x y) :: st) hp) : Wg X pc lv (.float y :: .float x :: st) hp := by
  obtain ⟨p, l, e, R, s, m, args, below, meth, c, D, ca, ad, A, cells, slots, nL, QM⟩ := X
  obtain ⟨hx, hb, hml, hown, hts, hK, hN, hlk, hA, hR, hc, hs⟩ := C
  intro H locs ls hl hP hD hS
  exact lv_fsub hx hb d (n32_ok hn) (k H locs ls hl hP hD hS)
theorem wg_fmul (C : Ok X own cc ws rm) {x : UInt32} {y : UInt32} (d : decode cc pc = .ok (.fmul, 1)) (hn : n32 (FP.fmul x y) = true) (k : Wg X (pc + 1) lv (.float (FP.fmul x y) :: st) hp) : Wg X pc lv (.float y :: .float x :: st) hp := by
  obtain ⟨p, l, e, R, s, m, args, below, meth, c, D, ca, ad, A, cells, slots, nL, QM⟩ := X
  obtain ⟨hx, hb, hml, hown, hts, hK, hN, hlk, hA, hR, hc, hs⟩ := C
  intro H locs ls hl hP hD hS
  exact lv_fmul hx hb d (n32_ok hn) (k H locs ls hl hP hD hS)
theorem wg_fdiv (C : Ok X own cc ws rm) {x : UInt32} {y : UInt32} (d : decode cc pc = .ok (.fdiv, 1)) (hn : n32 (FP.fdiv x y) = true) (k : Wg X (pc + 1) lv (.float (FP.fdiv x y) :: st) hp) : Wg X pc lv (.float y :: .float x :: st) hp := by
  obtain ⟨p, l, e, R, s, m, args, below, meth, c, D, ca, ad, A, cells, slots, nL, QM⟩ := X
  obtain ⟨hx, hb, hml, hown, hts, hK, hN, hlk, hA, hR, hc, hs⟩ := C
  intro H locs ls hl hP hD hS
  exact lv_fdiv hx hb d (n32_ok hn) (k H locs ls hl hP hD hS)
theorem wg_dadd (C : Ok X own cc ws rm) {x : UInt64} {y : UInt64} (d : decode cc pc = .ok (.dadd, 1)) (hn : n64 (FP.dadd x y) = true) (k : Wg X (pc + 1) lv (.double (FP.dadd x y) :: st) hp) : Wg X pc lv (.double y :: .double x :: st) hp := by
  obtain ⟨p, l, e, R, s, m, args, below, meth, c, D, ca, ad, A, cells, slots, nL, QM⟩ := X
  obtain ⟨hx, hb, hml, hown, hts, hK, hN, hlk, hA, hR, hc, hs⟩ := C
  intro H locs ls hl hP hD hS
  exact lv_dadd hx hb d (n64_ok hn) (k H locs ls hl hP hD hS)
theorem wg_dsub (C : Ok X own cc ws rm) {x : UInt64} {y : UInt64} (d : decode cc pc = .ok (.dsub, 1)) (hn : n64 (FP.dsub x y) = true) (k : Wg X (pc + 1) lv (.double (FP.dsub x y) :: st) hp) : Wg X pc lv (.double y :: .double x :: st) hp := by
  obtain ⟨p, l, e, R, s, m, args, below, meth, c, D, ca, ad, A, cells, slots, nL, QM⟩ := X
  obtain ⟨hx, hb, hml, hown, hts, hK, hN, hlk, hA, hR, hc, hs⟩ := C
  intro H locs ls hl hP hD hS
  exact lv_dsub hx hb d (n64_ok hn) (k H locs ls hl hP hD hS)
theorem wg_dmul (C : Ok X own cc ws rm) {x : UInt64} {y : UInt64} (d : decode cc pc = .ok (.dmul, 1)) (hn : n64 (FP.dmul x y) = true) (k : Wg X (pc + 1) lv (.double (FP.dmul x y) :: st) hp) : Wg X pc lv (.double y :: .double x :: st) hp := by
  obtain ⟨p, l, e, R, s, m, args, below, meth, c, D, ca, ad, A, cells, slots, nL, QM⟩ := X
  obtain ⟨hx, hb, hml, hown, hts, hK, hN, hlk, hA, hR, hc, hs⟩ := C
  intro H locs ls hl hP hD hS
  exact lv_dmul hx hb d (n64_ok hn) (k H locs ls hl hP hD hS)
theorem wg_ddiv (C : Ok X own cc ws rm) {x : UInt64} {y : UInt64} (d : decode cc pc = .ok (.ddiv, 1)) (hn : n64 (FP.ddiv x y) = true) (k : Wg X (pc + 1) lv (.double (FP.ddiv x y) :: st) hp) : Wg X pc lv (.double y :: .double x :: st) hp := by
  obtain ⟨p, l, e, R, s, m, args, below, meth, c, D, ca, ad, A, cells, slots, nL, QM⟩ := X
  obtain ⟨hx, hb, hml, hown, hts, hK, hN, hlk, hA, hR, hc, hs⟩ := C
  intro H locs ls hl hP hD hS
  exact lv_ddiv hx hb d (n64_ok hn) (k H locs ls hl hP hD hS)
theorem wg_fneg (C : Ok X own cc ws rm) {x : UInt32} (d : decode cc pc = .ok (.fneg, 1))  (k : Wg X (pc + 1) lv (.float (FP.fneg x) :: st) hp) : Wg X pc lv (.float x :: st) hp := by
  obtain ⟨p, l, e, R, s, m, args, below, meth, c, D, ca, ad, A, cells, slots, nL, QM⟩ := X
  obtain ⟨hx, hb, hml, hown, hts, hK, hN, hlk, hA, hR, hc, hs⟩ := C
  intro H locs ls hl hP hD hS
  exact lv_fneg hx hb d  (k H locs ls hl hP hD hS)
theorem wg_dneg (C : Ok X own cc ws rm) {x : UInt64} (d : decode cc pc = .ok (.dneg, 1))  (k : Wg X (pc + 1) lv (.double (FP.dneg x) :: st) hp) : Wg X pc lv (.double x :: st) hp := by
  obtain ⟨p, l, e, R, s, m, args, below, meth, c, D, ca, ad, A, cells, slots, nL, QM⟩ := X
  obtain ⟨hx, hb, hml, hown, hts, hK, hN, hlk, hA, hR, hc, hs⟩ := C
  intro H locs ls hl hP hD hS
  exact lv_dneg hx hb d  (k H locs ls hl hP hD hS)
theorem wg_fcmp (C : Ok X own cc ws rm) {x : UInt32} {y : UInt32} {op : CmpOp} (d : decode cc pc = .ok (.fcmp op, 1))  (k : Wg X (pc + 1) lv (.int (Op.cmpValue (FP.fcmp x y) op) :: st) hp) : Wg X pc lv (.float y :: .float x :: st) hp := by
  obtain ⟨p, l, e, R, s, m, args, below, meth, c, D, ca, ad, A, cells, slots, nL, QM⟩ := X
  obtain ⟨hx, hb, hml, hown, hts, hK, hN, hlk, hA, hR, hc, hs⟩ := C
  intro H locs ls hl hP hD hS
  exact lv_fcmp hx hb d  (k H locs ls hl hP hD hS)
theorem wg_dcmp (C : Ok X own cc ws rm) {x : UInt64} {y : UInt64} {op : CmpOp} (d : decode cc pc = .ok (.dcmp op, 1))  (k : Wg X (pc + 1) lv (.int (Op.cmpValue (FP.dcmp x y) op) :: st) hp) : Wg X pc lv (.double y :: .double x :: st) hp := by
  obtain ⟨p, l, e, R, s, m, args, below, meth, c, D, ca, ad, A, cells, slots, nL, QM⟩ := X
  obtain ⟨hx, hb, hml, hown, hts, hK, hN, hlk, hA, hR, hc, hs⟩ := C
  intro H locs ls hl hP hD hS
  exact lv_dcmp hx hb d  (k H locs ls hl hP hD hS)
theorem wg_ldci (C : Ok X own cc ws rm) {index : Nat} {v : Int32} (hw : Cond.constant own index v ∈ ws) (d : decode cc pc = .ok (.ldc index, 2)) (k : Wg X (pc + 2) lv (.int v :: st) hp) : Wg X pc lv st hp := by
  obtain ⟨p, l, e, R, s, m, args, below, meth, c, D, ca, ad, A, cells, slots, nL, QM⟩ := X
  obtain ⟨hx, hb, hml, hown, hts, hK, hN, hlk, hA, hR, hc, hs⟩ := C
  intro H locs ls hl hP hD hS
  exact lv_ldc hx hb hown (hts _ hw) d (k H locs ls hl hP hD hS)
theorem wg_ldcf (C : Ok X own cc ws rm) {index : Nat} {v : UInt32} (hw : Cond.constantFloat own index v ∈ ws) (d : decode cc pc = .ok (.ldc index, 2)) (k : Wg X (pc + 2) lv (.float v :: st) hp) : Wg X pc lv st hp := by
  obtain ⟨p, l, e, R, s, m, args, below, meth, c, D, ca, ad, A, cells, slots, nL, QM⟩ := X
  obtain ⟨hx, hb, hml, hown, hts, hK, hN, hlk, hA, hR, hc, hs⟩ := C
  intro H locs ls hl hP hD hS
  exact lv_ldcf hx hb hown (hts _ hw) d (k H locs ls hl hP hD hS)
theorem wg_ldcl (C : Ok X own cc ws rm) {index : Nat} {v : Int64} (hw : Cond.constantLong own index v ∈ ws) (d : decode cc pc = .ok (.ldc2_w index, 3)) (k : Wg X (pc + 3) lv (.long v :: st) hp) : Wg X pc lv st hp := by
  obtain ⟨p, l, e, R, s, m, args, below, meth, c, D, ca, ad, A, cells, slots, nL, QM⟩ := X
  obtain ⟨hx, hb, hml, hown, hts, hK, hN, hlk, hA, hR, hc, hs⟩ := C
  intro H locs ls hl hP hD hS
  exact lv_ldc2 hx hb hown (hts _ hw) d (k H locs ls hl hP hD hS)
theorem wg_ldcd (C : Ok X own cc ws rm) {index : Nat} {v : UInt64} (hw : Cond.constantDouble own index v ∈ ws) (d : decode cc pc = .ok (.ldc2_w index, 3)) (k : Wg X (pc + 3) lv (.double v :: st) hp) : Wg X pc lv st hp := by
  obtain ⟨p, l, e, R, s, m, args, below, meth, c, D, ca, ad, A, cells, slots, nL, QM⟩ := X
  obtain ⟨hx, hb, hml, hown, hts, hK, hN, hlk, hA, hR, hc, hs⟩ := C
  intro H locs ls hl hP hD hS
  exact lv_ldc2d hx hb hown (hts _ hw) d (k H locs ls hl hP hD hS)
theorem wg_iload (C : Ok X own cc ws rm) {i : Nat} {x : Int32} (d : decode cc pc = .ok (.iload i, 2)) (hg : lv[i]? = some (some (.int x))) (k : Wg X (pc + 2) lv (.int x :: st) hp) : Wg X pc lv st hp := by
  obtain ⟨p, l, e, R, s, m, args, below, meth, c, D, ca, ad, A, cells, slots, nL, QM⟩ := X
  obtain ⟨hx, hb, hml, hown, hts, hK, hN, hlk, hA, hR, hc, hs⟩ := C
  intro H locs ls hl hP hD hS
  exact lv_iload hx hb d (hl.2.2.2 i _ hg) (k H locs ls hl hP hD hS)
theorem wg_iload_n (C : Ok X own cc ws rm) {i : Fin 4} {x : Int32} (d : decode cc pc = .ok (.iload_n i, 1)) (hg : lv[(i : Nat)]? = some (some (.int x))) (k : Wg X (pc + 1) lv (.int x :: st) hp) : Wg X pc lv st hp := by
  obtain ⟨p, l, e, R, s, m, args, below, meth, c, D, ca, ad, A, cells, slots, nL, QM⟩ := X
  obtain ⟨hx, hb, hml, hown, hts, hK, hN, hlk, hA, hR, hc, hs⟩ := C
  intro H locs ls hl hP hD hS
  exact lv_iload_n hx hb d rfl (hl.2.2.2 _ _ hg) (k H locs ls hl hP hD hS)
theorem wg_lload (C : Ok X own cc ws rm) {i : Nat} {x : Int64} (d : decode cc pc = .ok (.lload i, 2)) (hg : lv[i]? = some (some (.long x))) (k : Wg X (pc + 2) lv (.long x :: st) hp) : Wg X pc lv st hp := by
  obtain ⟨p, l, e, R, s, m, args, below, meth, c, D, ca, ad, A, cells, slots, nL, QM⟩ := X
  obtain ⟨hx, hb, hml, hown, hts, hK, hN, hlk, hA, hR, hc, hs⟩ := C
  intro H locs ls hl hP hD hS
  exact lv_lload hx hb d (hl.2.2.2 i _ hg) (k H locs ls hl hP hD hS)
theorem wg_lload_n (C : Ok X own cc ws rm) {i : Fin 4} {x : Int64} (d : decode cc pc = .ok (.lload_n i, 1)) (hg : lv[(i : Nat)]? = some (some (.long x))) (k : Wg X (pc + 1) lv (.long x :: st) hp) : Wg X pc lv st hp := by
  obtain ⟨p, l, e, R, s, m, args, below, meth, c, D, ca, ad, A, cells, slots, nL, QM⟩ := X
  obtain ⟨hx, hb, hml, hown, hts, hK, hN, hlk, hA, hR, hc, hs⟩ := C
  intro H locs ls hl hP hD hS
  exact lv_lload_n hx hb d rfl (hl.2.2.2 _ _ hg) (k H locs ls hl hP hD hS)
theorem wg_fload (C : Ok X own cc ws rm) {i : Nat} {x : UInt32} (d : decode cc pc = .ok (.fload i, 2)) (hg : lv[i]? = some (some (.float x))) (k : Wg X (pc + 2) lv (.float x :: st) hp) : Wg X pc lv st hp := by
  obtain ⟨p, l, e, R, s, m, args, below, meth, c, D, ca, ad, A, cells, slots, nL, QM⟩ := X
  obtain ⟨hx, hb, hml, hown, hts, hK, hN, hlk, hA, hR, hc, hs⟩ := C
  intro H locs ls hl hP hD hS
  exact lv_fload hx hb d (hl.2.2.2 i _ hg) (k H locs ls hl hP hD hS)
theorem wg_fload_n (C : Ok X own cc ws rm) {i : Fin 4} {x : UInt32} (d : decode cc pc = .ok (.fload_n i, 1)) (hg : lv[(i : Nat)]? = some (some (.float x))) (k : Wg X (pc + 1) lv (.float x :: st) hp) : Wg X pc lv st hp := by
  obtain ⟨p, l, e, R, s, m, args, below, meth, c, D, ca, ad, A, cells, slots, nL, QM⟩ := X
  obtain ⟨hx, hb, hml, hown, hts, hK, hN, hlk, hA, hR, hc, hs⟩ := C
  intro H locs ls hl hP hD hS
  exact lv_fload_n hx hb d rfl (hl.2.2.2 _ _ hg) (k H locs ls hl hP hD hS)
theorem wg_dload (C : Ok X own cc ws rm) {i : Nat} {x : UInt64} (d : decode cc pc = .ok (.dload i, 2)) (hg : lv[i]? = some (some (.double x))) (k : Wg X (pc + 2) lv (.double x :: st) hp) : Wg X pc lv st hp := by
  obtain ⟨p, l, e, R, s, m, args, below, meth, c, D, ca, ad, A, cells, slots, nL, QM⟩ := X
  obtain ⟨hx, hb, hml, hown, hts, hK, hN, hlk, hA, hR, hc, hs⟩ := C
  intro H locs ls hl hP hD hS
  exact lv_dload hx hb d (hl.2.2.2 i _ hg) (k H locs ls hl hP hD hS)
theorem wg_dload_n (C : Ok X own cc ws rm) {i : Fin 4} {x : UInt64} (d : decode cc pc = .ok (.dload_n i, 1)) (hg : lv[(i : Nat)]? = some (some (.double x))) (k : Wg X (pc + 1) lv (.double x :: st) hp) : Wg X pc lv st hp := by
  obtain ⟨p, l, e, R, s, m, args, below, meth, c, D, ca, ad, A, cells, slots, nL, QM⟩ := X
  obtain ⟨hx, hb, hml, hown, hts, hK, hN, hlk, hA, hR, hc, hs⟩ := C
  intro H locs ls hl hP hD hS
  exact lv_dload_n hx hb d rfl (hl.2.2.2 _ _ hg) (k H locs ls hl hP hD hS)
theorem wg_aload (C : Ok X own cc ws rm) {i : Nat} {x : Nat} (d : decode cc pc = .ok (.aload i, 2)) (hg : lv[i]? = some (some (.ref x))) (k : Wg X (pc + 2) lv (.ref x :: st) hp) : Wg X pc lv st hp := by
  obtain ⟨p, l, e, R, s, m, args, below, meth, c, D, ca, ad, A, cells, slots, nL, QM⟩ := X
  obtain ⟨hx, hb, hml, hown, hts, hK, hN, hlk, hA, hR, hc, hs⟩ := C
  intro H locs ls hl hP hD hS
  exact lv_aload hx hb d (hl.2.2.2 i _ hg) (k H locs ls hl hP hD hS)
theorem wg_aload_n (C : Ok X own cc ws rm) {i : Fin 4} {x : Nat} (d : decode cc pc = .ok (.aload_n i, 1)) (hg : lv[(i : Nat)]? = some (some (.ref x))) (k : Wg X (pc + 1) lv (.ref x :: st) hp) : Wg X pc lv st hp := by
  obtain ⟨p, l, e, R, s, m, args, below, meth, c, D, ca, ad, A, cells, slots, nL, QM⟩ := X
  obtain ⟨hx, hb, hml, hown, hts, hK, hN, hlk, hA, hR, hc, hs⟩ := C
  intro H locs ls hl hP hD hS
  exact lv_aload_n hx hb d rfl (hl.2.2.2 _ _ hg) (k H locs ls hl hP hD hS)
theorem wg_istore (C : Ok X own cc ws rm) {i : Nat} {x : Int32} {lv' : List (Option Value)} (d : decode cc pc = .ok (.istore i, 2)) (hi : i < lv.length) (he : stL lv i (.int x) = lv') (k : Wg X (pc + 2) lv' st hp) : Wg X pc lv (.int x :: st) hp := by
  obtain ⟨p, l, e, R, s, m, args, below, meth, c, D, ca, ad, A, cells, slots, nL, QM⟩ := X
  obtain ⟨hx, hb, hml, hown, hts, hK, hN, hlk, hA, hR, hc, hs⟩ := C
  intro H locs ls hl hP hD hS
  exact lv_istore hx hb d hl.has (by rw [← hl.1]; exact hi) rfl (fun ls' hl' => k H locs ls' (he ▸ LH.st hl.1 hl') hP hD hS)
theorem wg_istore_n (C : Ok X own cc ws rm) {i : Fin 4} {x : Int32} {lv' : List (Option Value)} (d : decode cc pc = .ok (.istore_n i, 1)) (hi : (i : Nat) < lv.length) (he : stL lv (i : Nat) (.int x) = lv') (k : Wg X (pc + 1) lv' st hp) : Wg X pc lv (.int x :: st) hp := by
  obtain ⟨p, l, e, R, s, m, args, below, meth, c, D, ca, ad, A, cells, slots, nL, QM⟩ := X
  obtain ⟨hx, hb, hml, hown, hts, hK, hN, hlk, hA, hR, hc, hs⟩ := C
  intro H locs ls hl hP hD hS
  exact lv_istore_n hx hb d rfl hl.has (by rw [← hl.1]; exact hi) rfl (fun ls' hl' => k H locs ls' (he ▸ LH.st hl.1 hl') hP hD hS)
theorem wg_lstore (C : Ok X own cc ws rm) {i : Nat} {x : Int64} {lv' : List (Option Value)} (d : decode cc pc = .ok (.lstore i, 2)) (hi : i + 1 < lv.length) (he : stL2 lv i (.long x) = lv') (k : Wg X (pc + 2) lv' st hp) : Wg X pc lv (.long x :: st) hp := by
  obtain ⟨p, l, e, R, s, m, args, below, meth, c, D, ca, ad, A, cells, slots, nL, QM⟩ := X
  obtain ⟨hx, hb, hml, hown, hts, hK, hN, hlk, hA, hR, hc, hs⟩ := C
  intro H locs ls hl hP hD hS
  exact lv_lstore hx hb d hl.has (by rw [← hl.1]; exact hi) rfl (fun ls' hl' => k H locs ls' (he ▸ LH.st2 hl.1 hl') hP hD hS)
theorem wg_lstore_n (C : Ok X own cc ws rm) {i : Fin 4} {x : Int64} {lv' : List (Option Value)} (d : decode cc pc = .ok (.lstore_n i, 1)) (hi : (i : Nat) + 1 < lv.length) (he : stL2 lv (i : Nat) (.long x) = lv') (k : Wg X (pc + 1) lv' st hp) : Wg X pc lv (.long x :: st) hp := by
  obtain ⟨p, l, e, R, s, m, args, below, meth, c, D, ca, ad, A, cells, slots, nL, QM⟩ := X
  obtain ⟨hx, hb, hml, hown, hts, hK, hN, hlk, hA, hR, hc, hs⟩ := C
  intro H locs ls hl hP hD hS
  exact lv_lstore_n hx hb d rfl hl.has (by rw [← hl.1]; exact hi) rfl (fun ls' hl' => k H locs ls' (he ▸ LH.st2 hl.1 hl') hP hD hS)
theorem wg_fstore (C : Ok X own cc ws rm) {i : Nat} {x : UInt32} {lv' : List (Option Value)} (d : decode cc pc = .ok (.fstore i, 2)) (hi : i < lv.length) (he : stL lv i (.float x) = lv') (k : Wg X (pc + 2) lv' st hp) : Wg X pc lv (.float x :: st) hp := by
  obtain ⟨p, l, e, R, s, m, args, below, meth, c, D, ca, ad, A, cells, slots, nL, QM⟩ := X
  obtain ⟨hx, hb, hml, hown, hts, hK, hN, hlk, hA, hR, hc, hs⟩ := C
  intro H locs ls hl hP hD hS
  exact lv_fstore hx hb d hl.has (by rw [← hl.1]; exact hi) rfl (fun ls' hl' => k H locs ls' (he ▸ LH.st hl.1 hl') hP hD hS)
theorem wg_fstore_n (C : Ok X own cc ws rm) {i : Fin 4} {x : UInt32} {lv' : List (Option Value)} (d : decode cc pc = .ok (.fstore_n i, 1)) (hi : (i : Nat) < lv.length) (he : stL lv (i : Nat) (.float x) = lv') (k : Wg X (pc + 1) lv' st hp) : Wg X pc lv (.float x :: st) hp := by
  obtain ⟨p, l, e, R, s, m, args, below, meth, c, D, ca, ad, A, cells, slots, nL, QM⟩ := X
  obtain ⟨hx, hb, hml, hown, hts, hK, hN, hlk, hA, hR, hc, hs⟩ := C
  intro H locs ls hl hP hD hS
  exact lv_fstore_n hx hb d rfl hl.has (by rw [← hl.1]; exact hi) rfl (fun ls' hl' => k H locs ls' (he ▸ LH.st hl.1 hl') hP hD hS)
theorem wg_dstore (C : Ok X own cc ws rm) {i : Nat} {x : UInt64} {lv' : List (Option Value)} (d : decode cc pc = .ok (.dstore i, 2)) (hi : i + 1 < lv.length) (he : stL2 lv i (.double x) = lv') (k : Wg X (pc + 2) lv' st hp) : Wg X pc lv (.double x :: st) hp := by
  obtain ⟨p, l, e, R, s, m, args, below, meth, c, D, ca, ad, A, cells, slots, nL, QM⟩ := X
  obtain ⟨hx, hb, hml, hown, hts, hK, hN, hlk, hA, hR, hc, hs⟩ := C
  intro H locs ls hl hP hD hS
  exact lv_dstore hx hb d hl.has (by rw [← hl.1]; exact hi) rfl (fun ls' hl' => k H locs ls' (he ▸ LH.st2 hl.1 hl') hP hD hS)
theorem wg_dstore_n (C : Ok X own cc ws rm) {i : Fin 4} {x : UInt64} {lv' : List (Option Value)} (d : decode cc pc = .ok (.dstore_n i, 1)) (hi : (i : Nat) + 1 < lv.length) (he : stL2 lv (i : Nat) (.double x) = lv') (k : Wg X (pc + 1) lv' st hp) : Wg X pc lv (.double x :: st) hp := by
  obtain ⟨p, l, e, R, s, m, args, below, meth, c, D, ca, ad, A, cells, slots, nL, QM⟩ := X
  obtain ⟨hx, hb, hml, hown, hts, hK, hN, hlk, hA, hR, hc, hs⟩ := C
  intro H locs ls hl hP hD hS
  exact lv_dstore_n hx hb d rfl hl.has (by rw [← hl.1]; exact hi) rfl (fun ls' hl' => k H locs ls' (he ▸ LH.st2 hl.1 hl') hP hD hS)
theorem wg_astore_n (C : Ok X own cc ws rm) {i : Fin 4} {x : Nat} {lv' : List (Option Value)} (d : decode cc pc = .ok (.astore_n i, 1)) (hi : (i : Nat) < lv.length) (he : stL lv (i : Nat) (.ref x) = lv') (k : Wg X (pc + 1) lv' st hp) : Wg X pc lv (.ref x :: st) hp := by
  obtain ⟨p, l, e, R, s, m, args, below, meth, c, D, ca, ad, A, cells, slots, nL, QM⟩ := X
  obtain ⟨hx, hb, hml, hown, hts, hK, hN, hlk, hA, hR, hc, hs⟩ := C
  intro H locs ls hl hP hD hS
  exact lv_astore_n hx hb d rfl hl.has (by rw [← hl.1]; exact hi) rfl (fun ls' hl' => k H locs ls' (he ▸ LH.st hl.1 hl') hP hD hS)
theorem wg_drop {lv' : List (Option Value)} (ks : List Nat) (he : dropLs lv ks = lv') (k : Wg X pc lv' st hp) : Wg X pc lv st hp := by
  obtain ⟨p, l, e, R, s, m, args, below, meth, c, D, ca, ad, A, cells, slots, nL, QM⟩ := X
  intro H locs ls hl hP hD hS
  exact k H locs ls (he ▸ hl.drop ks) hP hD hS
theorem wg_iinc (C : Ok X own cc ws rm) {i : Nat} {n : Int} {x v : Int32} {lv' : List (Option Value)} (d : decode cc pc = .ok (.iinc i n, 3)) (hg : lv[i]? = some (some (.int x))) (hv : x + Int32.ofInt n = v) (he : stL lv i (.int v) = lv') (k : Wg X (pc + 3) lv' st hp) : Wg X pc lv st hp := by
  obtain ⟨p, l, e, R, s, m, args, below, meth, c, D, ca, ad, A, cells, slots, nL, QM⟩ := X
  obtain ⟨hx, hb, hml, hown, hts, hK, hN, hlk, hA, hR, hc, hs⟩ := C
  intro H locs ls hl hP hD hS
  have hm : (i, Value.int x) ∈ lvF ad lv := lvF_mem.mpr ⟨.int x, hg, rfl⟩
  obtain ⟨kk, hkk⟩ := List.getElem?_of_mem hm
  exact lv_iinc hx hb d hl.has hkk hv (by rw [← hl.1]; exact (List.getElem?_eq_some_iff.mp hg).1) rfl (fun ls' hl' => k H locs ls' (he ▸ LH.st hl.1 hl') hP hD hS)
theorem wg_goto (C : Ok X own cc ws rm) {off : Int} {tgt : Nat} (d : decode cc pc = .ok (.goto off, 3)) (ht : (pc : Int) + off = (tgt : Int)) (k : Wg X tgt lv st hp) : Wg X pc lv st hp := by
  obtain ⟨p, l, e, R, s, m, args, below, meth, c, D, ca, ad, A, cells, slots, nL, QM⟩ := X
  obtain ⟨hx, hb, hml, hown, hts, hK, hN, hlk, hA, hR, hc, hs⟩ := C
  intro H locs ls hl hP hD hS
  exact lv_goto hx hb d ht (k H locs ls hl hP hD hS)
theorem wg_if_eq (C : Ok X own cc ws rm) {x : Int32} {off : Int} {tgt : Nat} (d : decode cc pc = .ok (.ifCond .eq off, 3)) (ht : (pc : Int) + off = (tgt : Int)) (kt : x = 0 → Wg X tgt lv st hp) (kf : ¬ (x = 0) → Wg X (pc + 3) lv st hp) : Wg X pc lv (.int x :: st) hp := by
  obtain ⟨p, l, e, R, s, m, args, below, meth, c, D, ca, ad, A, cells, slots, nL, QM⟩ := X
  obtain ⟨hx, hb, hml, hown, hts, hK, hN, hlk, hA, hR, hc, hs⟩ := C
  intro H locs ls hl hP hD hS
  exact lv_if_eq hx hb d ht (fun q => kt q H locs ls hl hP hD hS) (fun q => kf q H locs ls hl hP hD hS)
theorem wg_if_ne (C : Ok X own cc ws rm) {x : Int32} {off : Int} {tgt : Nat} (d : decode cc pc = .ok (.ifCond .ne off, 3)) (ht : (pc : Int) + off = (tgt : Int)) (kt : ¬ x = 0 → Wg X tgt lv st hp) (kf : ¬ (¬ x = 0) → Wg X (pc + 3) lv st hp) : Wg X pc lv (.int x :: st) hp := by
  obtain ⟨p, l, e, R, s, m, args, below, meth, c, D, ca, ad, A, cells, slots, nL, QM⟩ := X
  obtain ⟨hx, hb, hml, hown, hts, hK, hN, hlk, hA, hR, hc, hs⟩ := C
  intro H locs ls hl hP hD hS
  exact lv_if_ne hx hb d ht (fun q => kt q H locs ls hl hP hD hS) (fun q => kf (fun z => z q) H locs ls hl hP hD hS)
theorem wg_if_lt (C : Ok X own cc ws rm) {x : Int32} {off : Int} {tgt : Nat} (d : decode cc pc = .ok (.ifCond .lt off, 3)) (ht : (pc : Int) + off = (tgt : Int)) (kt : x < 0 → Wg X tgt lv st hp) (kf : ¬ (x < 0) → Wg X (pc + 3) lv st hp) : Wg X pc lv (.int x :: st) hp := by
  obtain ⟨p, l, e, R, s, m, args, below, meth, c, D, ca, ad, A, cells, slots, nL, QM⟩ := X
  obtain ⟨hx, hb, hml, hown, hts, hK, hN, hlk, hA, hR, hc, hs⟩ := C
  intro H locs ls hl hP hD hS
  exact lv_if_lt hx hb d ht (fun q => kt q H locs ls hl hP hD hS) (fun q => kf q H locs ls hl hP hD hS)
theorem wg_if_ge (C : Ok X own cc ws rm) {x : Int32} {off : Int} {tgt : Nat} (d : decode cc pc = .ok (.ifCond .ge off, 3)) (ht : (pc : Int) + off = (tgt : Int)) (kt : 0 ≤ x → Wg X tgt lv st hp) (kf : ¬ (0 ≤ x) → Wg X (pc + 3) lv st hp) : Wg X pc lv (.int x :: st) hp := by
  obtain ⟨p, l, e, R, s, m, args, below, meth, c, D, ca, ad, A, cells, slots, nL, QM⟩ := X
  obtain ⟨hx, hb, hml, hown, hts, hK, hN, hlk, hA, hR, hc, hs⟩ := C
  intro H locs ls hl hP hD hS
  exact lv_if_ge hx hb d ht (fun q => kt q H locs ls hl hP hD hS) (fun q => kf q H locs ls hl hP hD hS)
theorem wg_if_gt (C : Ok X own cc ws rm) {x : Int32} {off : Int} {tgt : Nat} (d : decode cc pc = .ok (.ifCond .gt off, 3)) (ht : (pc : Int) + off = (tgt : Int)) (kt : 0 < x → Wg X tgt lv st hp) (kf : ¬ (0 < x) → Wg X (pc + 3) lv st hp) : Wg X pc lv (.int x :: st) hp := by
  obtain ⟨p, l, e, R, s, m, args, below, meth, c, D, ca, ad, A, cells, slots, nL, QM⟩ := X
  obtain ⟨hx, hb, hml, hown, hts, hK, hN, hlk, hA, hR, hc, hs⟩ := C
  intro H locs ls hl hP hD hS
  exact lv_if_gt hx hb d ht (fun q => kt q H locs ls hl hP hD hS) (fun q => kf q H locs ls hl hP hD hS)
theorem wg_if_le (C : Ok X own cc ws rm) {x : Int32} {off : Int} {tgt : Nat} (d : decode cc pc = .ok (.ifCond .le off, 3)) (ht : (pc : Int) + off = (tgt : Int)) (kt : x ≤ 0 → Wg X tgt lv st hp) (kf : ¬ (x ≤ 0) → Wg X (pc + 3) lv st hp) : Wg X pc lv (.int x :: st) hp := by
  obtain ⟨p, l, e, R, s, m, args, below, meth, c, D, ca, ad, A, cells, slots, nL, QM⟩ := X
  obtain ⟨hx, hb, hml, hown, hts, hK, hN, hlk, hA, hR, hc, hs⟩ := C
  intro H locs ls hl hP hD hS
  exact lv_if_le hx hb d ht (fun q => kt q H locs ls hl hP hD hS) (fun q => kf q H locs ls hl hP hD hS)
theorem wg_icmp_eq (C : Ok X own cc ws rm) {x y : Int32} {off : Int} {tgt : Nat} (d : decode cc pc = .ok (.if_icmp .eq off, 3)) (ht : (pc : Int) + off = (tgt : Int)) (kt : x = y → Wg X tgt lv st hp) (kf : ¬ (x = y) → Wg X (pc + 3) lv st hp) : Wg X pc lv (.int y :: .int x :: st) hp := by
  obtain ⟨p, l, e, R, s, m, args, below, meth, c, D, ca, ad, A, cells, slots, nL, QM⟩ := X
  obtain ⟨hx, hb, hml, hown, hts, hK, hN, hlk, hA, hR, hc, hs⟩ := C
  intro H locs ls hl hP hD hS
  exact lv_icmp_eq hx hb d ht (fun q => kt q H locs ls hl hP hD hS) (fun q => kf q H locs ls hl hP hD hS)
theorem wg_icmp_ne (C : Ok X own cc ws rm) {x y : Int32} {off : Int} {tgt : Nat} (d : decode cc pc = .ok (.if_icmp .ne off, 3)) (ht : (pc : Int) + off = (tgt : Int)) (kt : ¬ x = y → Wg X tgt lv st hp) (kf : ¬ (¬ x = y) → Wg X (pc + 3) lv st hp) : Wg X pc lv (.int y :: .int x :: st) hp := by
  obtain ⟨p, l, e, R, s, m, args, below, meth, c, D, ca, ad, A, cells, slots, nL, QM⟩ := X
  obtain ⟨hx, hb, hml, hown, hts, hK, hN, hlk, hA, hR, hc, hs⟩ := C
  intro H locs ls hl hP hD hS
  exact lv_icmp_ne hx hb d ht (fun q => kt q H locs ls hl hP hD hS) (fun q => kf (fun z => z q) H locs ls hl hP hD hS)
theorem wg_icmp_lt (C : Ok X own cc ws rm) {x y : Int32} {off : Int} {tgt : Nat} (d : decode cc pc = .ok (.if_icmp .lt off, 3)) (ht : (pc : Int) + off = (tgt : Int)) (kt : x < y → Wg X tgt lv st hp) (kf : ¬ (x < y) → Wg X (pc + 3) lv st hp) : Wg X pc lv (.int y :: .int x :: st) hp := by
  obtain ⟨p, l, e, R, s, m, args, below, meth, c, D, ca, ad, A, cells, slots, nL, QM⟩ := X
  obtain ⟨hx, hb, hml, hown, hts, hK, hN, hlk, hA, hR, hc, hs⟩ := C
  intro H locs ls hl hP hD hS
  exact lv_icmp_lt hx hb d ht (fun q => kt q H locs ls hl hP hD hS) (fun q => kf q H locs ls hl hP hD hS)
theorem wg_icmp_ge (C : Ok X own cc ws rm) {x y : Int32} {off : Int} {tgt : Nat} (d : decode cc pc = .ok (.if_icmp .ge off, 3)) (ht : (pc : Int) + off = (tgt : Int)) (kt : y ≤ x → Wg X tgt lv st hp) (kf : ¬ (y ≤ x) → Wg X (pc + 3) lv st hp) : Wg X pc lv (.int y :: .int x :: st) hp := by
  obtain ⟨p, l, e, R, s, m, args, below, meth, c, D, ca, ad, A, cells, slots, nL, QM⟩ := X
  obtain ⟨hx, hb, hml, hown, hts, hK, hN, hlk, hA, hR, hc, hs⟩ := C
  intro H locs ls hl hP hD hS
  exact lv_icmp_ge hx hb d ht (fun q => kt q H locs ls hl hP hD hS) (fun q => kf q H locs ls hl hP hD hS)
theorem wg_icmp_gt (C : Ok X own cc ws rm) {x y : Int32} {off : Int} {tgt : Nat} (d : decode cc pc = .ok (.if_icmp .gt off, 3)) (ht : (pc : Int) + off = (tgt : Int)) (kt : y < x → Wg X tgt lv st hp) (kf : ¬ (y < x) → Wg X (pc + 3) lv st hp) : Wg X pc lv (.int y :: .int x :: st) hp := by
  obtain ⟨p, l, e, R, s, m, args, below, meth, c, D, ca, ad, A, cells, slots, nL, QM⟩ := X
  obtain ⟨hx, hb, hml, hown, hts, hK, hN, hlk, hA, hR, hc, hs⟩ := C
  intro H locs ls hl hP hD hS
  exact lv_icmp_gt hx hb d ht (fun q => kt q H locs ls hl hP hD hS) (fun q => kf q H locs ls hl hP hD hS)
theorem wg_icmp_le (C : Ok X own cc ws rm) {x y : Int32} {off : Int} {tgt : Nat} (d : decode cc pc = .ok (.if_icmp .le off, 3)) (ht : (pc : Int) + off = (tgt : Int)) (kt : x ≤ y → Wg X tgt lv st hp) (kf : ¬ (x ≤ y) → Wg X (pc + 3) lv st hp) : Wg X pc lv (.int y :: .int x :: st) hp := by
  obtain ⟨p, l, e, R, s, m, args, below, meth, c, D, ca, ad, A, cells, slots, nL, QM⟩ := X
  obtain ⟨hx, hb, hml, hown, hts, hK, hN, hlk, hA, hR, hc, hs⟩ := C
  intro H locs ls hl hP hD hS
  exact lv_icmp_le hx hb d ht (fun q => kt q H locs ls hl hP hD hS) (fun q => kf q H locs ls hl hP hD hS)
theorem wg_tin (C : Ok X own cc ws rm) {dflt lo hi : Int} {offs : Array Int} {len : Nat} {x : Int32} {off : Int} {tgt : Nat} (d : decode cc pc = .ok (.tableswitch dflt lo hi offs, len)) (h1 : ¬ x.toInt < lo) (h2 : ¬ hi < x.toInt) (ho : offs[(x.toInt - lo).toNat]? = some off) (ht : (pc : Int) + off = (tgt : Int)) (k : Wg X tgt lv st hp) : Wg X pc lv (.int x :: st) hp := by
  obtain ⟨p, l, e, R, s, m, args, below, meth, c, D, ca, ad, A, cells, slots, nL, QM⟩ := X
  obtain ⟨hx, hb, hml, hown, hts, hK, hN, hlk, hA, hR, hc, hs⟩ := C
  intro H locs ls hl hP hD hS
  exact lv_tableIn hx hb d h1 h2 ho ht (k H locs ls hl hP hD hS)
theorem wg_tout (C : Ok X own cc ws rm) {dflt lo hi : Int} {offs : Array Int} {len : Nat} {x : Int32} {tgt : Nat} (d : decode cc pc = .ok (.tableswitch dflt lo hi offs, len)) (h : x.toInt < lo ∨ hi < x.toInt) (ht : (pc : Int) + dflt = (tgt : Int)) (k : Wg X tgt lv st hp) : Wg X pc lv (.int x :: st) hp := by
  obtain ⟨p, l, e, R, s, m, args, below, meth, c, D, ca, ad, A, cells, slots, nL, QM⟩ := X
  obtain ⟨hx, hb, hml, hown, hts, hK, hN, hlk, hA, hR, hc, hs⟩ := C
  intro H locs ls hl hP hD hS
  exact lv_tableOut hx hb d h ht (k H locs ls hl hP hD hS)
/-- a field that may be read, and one that may be written -/
def FG (ws : List Cond) (own : String) (idx ci k : Nat) : Prop := ∃ (C : String) (T : u_T) (N : Nat), vwCl[ci]? = some (C, T, N) ∧ k < N ∧ Cond.fieldLink own idx (T k).1 (T k).2.1 (T k).2.2.1 ∈ ws ∧ ∀ w ∈ u_ws C T N, w ∈ ws
def FW (ws : List Cond) (own : String) (idx ci k : Nat) (ty : FieldType) : Prop := ∃ (C : String) (T : u_T) (N : Nat) (ty0 : Nat → FieldType), vwCl[ci]? = some (C, T, N) ∧ k < N ∧ Cond.fieldLink own idx (T k).1 (T k).2.1 (T k).2.2.1 ∈ ws ∧ (∀ w ∈ u_ws C T N, w ∈ ws) ∧ (∀ k, k < N → parseFieldDescriptor (T k).2.2.1 = some (ty0 k)) ∧ (∀ a, a < N → ∀ b, b < N → a ≠ b → (T a).2.1 ≠ (T b).2.1) ∧ (T k).2.2.2 = false ∧ parseFieldDescriptor (T k).2.2.1 = some ty
theorem wg_get (C : Ok X own cc ws rm) {idx ci q j : Nat} {fs : List Value} {v : Value} (f : FG ws own idx ci j) (hq : hp[q]? = some (.inr (ci, fs))) (hv : fs[j]? = some v) (d : decode cc pc = .ok (.getfield idx, 3)) (k : Wg X (pc + 3) lv (v :: st) hp) : Wg X pc lv (.ref q :: st) hp := by
  obtain ⟨p, l, e, R, s, m, args, below, meth, c, D, ca, ad, A, cells, slots, nL, QM⟩ := X
  obtain ⟨hx, hb, hml, hown, hts, hK, hN, hlk, hA, hR, hc, hs⟩ := C
  intro H locs ls hl hP hD hS
  obtain ⟨K, T, N, h1, h2, h3, h4⟩ := f
  exact va_get hx hb hts h4 hown hK hP q (cH_at hq) h1 j h2 (hts _ h3) (fun _ h => h) (v := cv ad v) (by simp [List.getElem?_map, hv]) d (k H locs ls hl hP hD hS)
theorem wg_put (C : Ok X own cc ws rm) {idx ci q j : Nat} {fs : List Value} {x : Int32} {ty : FieldType} {hp' : aH} (f : FW ws own idx ci j ty) (hq : hp[q]? = some (.inr (ci, fs))) (hj : j < fs.length) (hn : narrow ty (.int x) = .int x) (hf : fits ty (.int x) = true) (he : hp.set q (.inr (ci, fs.set j (.int x))) = hp') (d : decode cc pc = .ok (.putfield idx, 3)) (k : Wg X (pc + 3) lv st hp') : Wg X pc lv (.int x :: .ref q :: st) hp := by
  obtain ⟨p, l, e, R, s, m, args, below, meth, c, D, ca, ad, A, cells, slots, nL, QM⟩ := X
  obtain ⟨hx, hb, hml, hown, hts, hK, hN, hlk, hA, hR, hc, hs⟩ := C
  intro H locs ls hl hP hD hS
  obtain ⟨K, T, N, ty0, h1, h2, h3, h4, h5, h6, h7, h8⟩ := f
  subst he
  refine va_put (ty := ty) (v := .int x) hx hb hts h4 ty0 h5 h6 hown hK hP hD hS q (cH_at hq) h1 j h2 (hts _ h3) (fun _ h => h) h7 h8 hn hf (by simpa using hj) d (fun H1 locs1 hP1 hD1 hS1 => ?_)
  have e : (cH ca ad hp).set q (ad q, .inr (ci, (fs.map (cv ad)).set j (.int x))) = cH ca ad (hp.set q (.inr (ci, fs.set j (.int x)))) := by
    rw [← cH_set]
    simp [cE, List.map_set, cv]
  rw [e] at hP1 hD1
  exact k H1 locs1 ls hl hP1 hD1 hS1
theorem wg_iald (C : Ok X own cc ws rm) {q n : Nat} {f : Nat → Int32} {i : Int32} (hq : hp[q]? = some (.inl (0, n, .inl f))) (hi : inB i n = true) (d : decode cc pc = .ok (.iaload, 1)) (k : Wg X (pc + 1) lv (.int (f i.toNatClampNeg) :: st) hp) : Wg X pc lv (.int i :: .ref q :: st) hp := by
  obtain ⟨p, l, e, R, s, m, args, below, meth, c, D, ca, ad, A, cells, slots, nL, QM⟩ := X
  obtain ⟨hx, hb, hml, hown, hts, hK, hN, hlk, hA, hR, hc, hs⟩ := C
  intro H locs ls hl hP hD hS
  exact va_iald hx hb hK hP q 0 (cH_at hq) rfl (inB_ok hi) d (k H locs ls hl hP hD hS)
theorem wg_fald (C : Ok X own cc ws rm) {q n : Nat} {f : Nat → UInt32} {i : Int32} (hq : hp[q]? = some (.inl (1, n, .inr (.inr (.inl f))))) (hi : inB i n = true) (d : decode cc pc = .ok (.faload, 1)) (k : Wg X (pc + 1) lv (.float (f i.toNatClampNeg) :: st) hp) : Wg X pc lv (.int i :: .ref q :: st) hp := by
  obtain ⟨p, l, e, R, s, m, args, below, meth, c, D, ca, ad, A, cells, slots, nL, QM⟩ := X
  obtain ⟨hx, hb, hml, hown, hts, hK, hN, hlk, hA, hR, hc, hs⟩ := C
  intro H locs ls hl hP hD hS
  exact va_fald hx hb hK hP q 1 (cH_at hq) rfl (inB_ok hi) d (k H locs ls hl hP hD hS)
theorem wg_zald (C : Ok X own cc ws rm) {q n : Nat} {f : Nat → Int32} {i : Int32} (hq : hp[q]? = some (.inl (2, n, .inl f))) (hi : inB i n = true) (d : decode cc pc = .ok (.baload, 1)) (k : Wg X (pc + 1) lv (.int (f i.toNatClampNeg) :: st) hp) : Wg X pc lv (.int i :: .ref q :: st) hp := by
  obtain ⟨p, l, e, R, s, m, args, below, meth, c, D, ca, ad, A, cells, slots, nL, QM⟩ := X
  obtain ⟨hx, hb, hml, hown, hts, hK, hN, hlk, hA, hR, hc, hs⟩ := C
  intro H locs ls hl hP hD hS
  exact va_zald hx hb hK hP q 2 (cH_at hq) rfl (inB_ok hi) d (k H locs ls hl hP hD hS)
theorem wg_iast (C : Ok X own cc ws rm) {q n : Nat} {f : Nat → Int32} {i : Int32} {x : Int32} {hp' : aH} (hq : hp[q]? = some (.inl (0, n, .inl f))) (hi : inB i n = true) (he : hp.set q (.inl (0, n, .inl (upd f i.toNatClampNeg x))) = hp') (d : decode cc pc = .ok (.iastore, 1)) (k : Wg X (pc + 1) lv st hp') : Wg X pc lv (.int x :: .int i :: .ref q :: st) hp := by
  obtain ⟨p, l, e, R, s, m, args, below, meth, c, D, ca, ad, A, cells, slots, nL, QM⟩ := X
  obtain ⟨hx, hb, hml, hown, hts, hK, hN, hlk, hA, hR, hc, hs⟩ := C
  intro H locs ls hl hP hD hS
  subst he
  refine va_iast hx hb hK hP hD hS q 0 (cH_at hq) rfl (inB_ok hi) d (fun H1 locs1 hP1 hD1 hS1 => ?_)
  have e : (cH ca ad hp).set q (ad q, .inl (ca 0, n, .inl (upd f i.toNatClampNeg x))) = cH ca ad (hp.set q (.inl (0, n, .inl (upd f i.toNatClampNeg x)))) := cH_set ca ad hp q (.inl (0, n, .inl (upd f i.toNatClampNeg x)))
  rw [e] at hP1 hD1
  exact k H1 locs1 ls hl hP1 hD1 hS1
theorem wg_fast (C : Ok X own cc ws rm) {q n : Nat} {f : Nat → UInt32} {i : Int32} {x : UInt32} {hp' : aH} (hq : hp[q]? = some (.inl (1, n, .inr (.inr (.inl f))))) (hi : inB i n = true) (he : hp.set q (.inl (1, n, .inr (.inr (.inl (vf_upd f i.toNatClampNeg x))))) = hp') (d : decode cc pc = .ok (.fastore, 1)) (k : Wg X (pc + 1) lv st hp') : Wg X pc lv (.float x :: .int i :: .ref q :: st) hp := by
  obtain ⟨p, l, e, R, s, m, args, below, meth, c, D, ca, ad, A, cells, slots, nL, QM⟩ := X
  obtain ⟨hx, hb, hml, hown, hts, hK, hN, hlk, hA, hR, hc, hs⟩ := C
  intro H locs ls hl hP hD hS
  subst he
  refine va_fast hx hb hK hP hD hS q 1 (cH_at hq) rfl (inB_ok hi) d (fun H1 locs1 hP1 hD1 hS1 => ?_)
  have e : (cH ca ad hp).set q (ad q, .inl (ca 1, n, .inr (.inr (.inl (vf_upd f i.toNatClampNeg x))))) = cH ca ad (hp.set q (.inl (1, n, .inr (.inr (.inl (vf_upd f i.toNatClampNeg x)))))) := cH_set ca ad hp q (.inl (1, n, .inr (.inr (.inl (vf_upd f i.toNatClampNeg x)))))
  rw [e] at hP1 hD1
  exact k H1 locs1 ls hl hP1 hD1 hS1
theorem wg_zast (C : Ok X own cc ws rm) {q n : Nat} {f : Nat → Int32} {i : Int32} {x : Int32} {hp' : aH} (hq : hp[q]? = some (.inl (2, n, .inl f))) (hi : inB i n = true) (he : hp.set q (.inl (2, n, .inl (upd f i.toNatClampNeg (vp_nar .boolean x)))) = hp') (d : decode cc pc = .ok (.bastore, 1)) (k : Wg X (pc + 1) lv st hp') : Wg X pc lv (.int x :: .int i :: .ref q :: st) hp := by
  obtain ⟨p, l, e, R, s, m, args, below, meth, c, D, ca, ad, A, cells, slots, nL, QM⟩ := X
  obtain ⟨hx, hb, hml, hown, hts, hK, hN, hlk, hA, hR, hc, hs⟩ := C
  intro H locs ls hl hP hD hS
  subst he
  refine va_zast hx hb hK hP hD hS q 2 (cH_at hq) rfl (inB_ok hi) d (fun H1 locs1 hP1 hD1 hS1 => ?_)
  have e : (cH ca ad hp).set q (ad q, .inl (ca 2, n, .inl (upd f i.toNatClampNeg (vp_nar .boolean x)))) = cH ca ad (hp.set q (.inl (2, n, .inl (upd f i.toNatClampNeg (vp_nar .boolean x))))) := cH_set ca ad hp q (.inl (2, n, .inl (upd f i.toNatClampNeg (vp_nar .boolean x))))
  rw [e] at hP1 hD1
  exact k H1 locs1 ls hl hP1 hD1 hS1
theorem wg_aald (C : Ok X own cc ws rm) {q n y : Nat} {f : Nat → Option Nat} {i : Int32} (hq : hp[q]? = some (.inl (3, n, .inr (.inr (.inr (.inr f)))))) (hi : inB i n = true) (hy : f i.toNatClampNeg = some y) (d : decode cc pc = .ok (.aaload, 1)) (k : Wg X (pc + 1) lv (.ref y :: st) hp) : Wg X pc lv (.int i :: .ref q :: st) hp := by
  obtain ⟨p, l, e, R, s, m, args, below, meth, c, D, ca, ad, A, cells, slots, nL, QM⟩ := X
  obtain ⟨hx, hb, hml, hown, hts, hK, hN, hlk, hA, hR, hc, hs⟩ := C
  intro H locs ls hl hP hD hS
  refine va_aldq hx hb hK hP q 3 (cH_at hq) rfl (inB_ok hi) d ?_
  have k1 := k H locs ls hl hP hD hS
  simp only [hy]
  exact k1
theorem wg_alen (C : Ok X own cc ws rm) {q t : Nat} {x : vp_A} {ty : FieldType} {v : Int32} (hq : hp[q]? = some (.inl (t, x))) (ht : (tyA (fun j => j))[t]?.map Prod.fst = some t) (hv : Int32.ofNat x.1 = v) (d : decode cc pc = .ok (.arraylength, 1)) (k : Wg X (pc + 1) lv (.int v :: st) hp) : Wg X pc lv (.ref q :: st) hp := by
  obtain ⟨p, l, e, R, s, m, args, below, meth, c, D, ca, ad, A, cells, slots, nL, QM⟩ := X
  obtain ⟨hx, hb, hml, hown, hts, hK, hN, hlk, hA, hR, hc, hs⟩ := C
  intro H locs ls hl hP hD hS
  obtain ⟨n, x⟩ := x
  have hz : ∃ ty, (tyA ca)[t]? = some (ca t, ty) := by
    match t, ht with
    | 0, _ => exact ⟨_, rfl⟩
    | 1, _ => exact ⟨_, rfl⟩
    | 2, _ => exact ⟨_, rfl⟩
    | 3, _ => exact ⟨_, rfl⟩
    | t + 4, h => simp [tyA] at h
  obtain ⟨ty, hz⟩ := hz
  have hw : ∃ y : vp_A, y.1 = n ∧ cE ca ad (.inl (t, n, x)) = .inl (ca t, y) := by
    rcases x with f | f | f | f | f
    · exact ⟨(n, .inl f), rfl, rfl⟩
    · exact ⟨(n, .inr (.inl f)), rfl, rfl⟩
    · exact ⟨(n, .inr (.inr (.inl f))), rfl, rfl⟩
    · exact ⟨(n, .inr (.inr (.inr (.inl f)))), rfl, rfl⟩
    · exact ⟨(n, .inr (.inr (.inr (.inr (fun j => (f j).map ad))))), rfl, rfl⟩
  obtain ⟨y, hy1, hy2⟩ := hw
  have h1 := cH_at (ca := ca) (ad := ad) hq
  rw [hy2] at h1
  exact va_alen hx hb hK hP q t h1 hz (by rw [hy1]; exact hv) d (k H locs ls hl hP hD hS)
theorem wg_copy (C : Ok X own cc ws rm) {q0 q1 n0 n1 index : Nat} {f g : Nat → Int32} {sp dp n : Int32} {hp' : aH} (hw : Cond.methodLink own index arraycopyName ∈ ws ∧ Cond.native arraycopyName ∈ ws ∧ Cond.static arraycopyName ∈ ws ∧ Cond.initialized "java/lang/System" ∈ ws) (hq0 : hp[q0]? = some (.inl (0, n0, .inl f))) (hq1 : hp[q1]? = some (.inl (0, n1, .inl g))) (h1 : ¬ sp < 0) (h2 : ¬ dp < 0) (h3 : ¬ n < 0) (h4 : sp.toNatClampNeg + n.toNatClampNeg ≤ n0) (h5 : dp.toNatClampNeg + n.toNatClampNeg ≤ n1) (hr : 1 ≤ rm.frames ∧ (st.map fun v => v.category).sum + (nativeFrameWords "java/lang/System" "arraycopy" 5 + 11) ≤ rm.locals) (he : hp.set q1 (.inl (0, n1, .inl (va_cpy f g sp.toNatClampNeg dp.toNatClampNeg n.toNatClampNeg))) = hp') (d : decode cc pc = .ok (.invokestatic index, 3)) (k : Wg X (pc + 3) lv st hp') : Wg X pc lv (.int n :: .int dp :: .ref q1 :: .int sp :: .ref q0 :: st) hp := by
  obtain ⟨p, l, e, R, s, m, args, below, meth, c, D, ca, ad, A, cells, slots, nL, QM⟩ := X
  obtain ⟨hx, hb, hml, hown, hts, hK, hN, hlk, hA, hR, hc, hs⟩ := C
  intro H locs ls hl hP hD hS
  subst he
  have hcs : ((st.map (cv ad)).map fun v => v.category) = st.map fun v => v.category := by rw [List.map_map]; exact List.map_congr_left (fun v _ => cv_cat ad v)
  refine va_copyi hx hb (hml.trans hl.2.1.symm) hown (hts _ hw.1) (hts _ hw.2.1) (hts _ hw.2.2.1) (hts _ hw.2.2.2) hK hP hD hS q0 q1 0 0 (cH_at hq0) (cH_at hq1) rfl rfl rfl h1 h2 h3 h4 h5 (fun _ _ => rfl) (by rw [hR]; exact hr.1) (by rw [hR, hcs]; exact hr.2) d (fun H1 locs1 hP1 hD1 hS1 => ?_)
  have e : (cH ca ad hp).set q1 (ad q1, .inl (ca 0, n1, .inl (va_cpy f g sp.toNatClampNeg dp.toNatClampNeg n.toNatClampNeg))) = cH ca ad (hp.set q1 (.inl (0, n1, .inl (va_cpy f g sp.toNatClampNeg dp.toNatClampNeg n.toNatClampNeg)))) := cH_set ca ad hp q1 (.inl (0, n1, .inl (va_cpy f g sp.toNatClampNeg dp.toNatClampNeg n.toNatClampNeg)))
  rw [e] at hP1 hD1
  exact k H1 locs1 ls hl hP1 hD1 hS1
theorem wg_mmax (C : Ok X own cc ws rm) {index : Nat} {x y : Int32} (hw : Cond.methodLink own index Lib.Math.max.name ∈ ws ∧ Cond.static Lib.Math.max.name ∈ ws ∧ Cond.initialized "java/lang/Math" ∈ ws ∧ Cond.code Lib.Math.max.name Lib.Math.max.code 2 (some .int) ∈ ws) (hr : 1 ≤ rm.frames ∧ (st.map fun v => v.category).sum + 13 ≤ rm.locals) (d : decode cc pc = .ok (.invokestatic index, 3)) (k : Wg X (pc + 3) lv (.int (if x < y then y else x) :: st) hp) : Wg X pc lv (.int y :: .int x :: st) hp := by
  obtain ⟨p, l, e, R, s, m, args, below, meth, c, D, ca, ad, A, cells, slots, nL, QM⟩ := X
  obtain ⟨hx, hb, hml, hown, hts, hK, hN, hlk, hA, hR, hc, hs⟩ := C
  intro H locs ls hl hP hD hS
  have hcs : ((st.map (cv ad)).map fun v => v.category) = st.map fun v => v.category := by rw [List.map_map]; exact List.map_congr_left (fun v _ => cv_cat ad v)
  exact va_mmax hx hb (hml.trans hl.2.1.symm) hown (hts _ hw.1) (hts _ hw.2.1) (hts _ hw.2.2.1) (hts _ hw.2.2.2) (by rw [hR]; exact hr.1) (by rw [hR, hcs]; exact hr.2) hc hs d (k H locs ls hl hP hD hS)
theorem wg_mmin (C : Ok X own cc ws rm) {index : Nat} {x y : Int32} (hw : Cond.methodLink own index Lib.Math.min.name ∈ ws ∧ Cond.static Lib.Math.min.name ∈ ws ∧ Cond.initialized "java/lang/Math" ∈ ws ∧ Cond.code Lib.Math.min.name Lib.Math.min.code 2 (some .int) ∈ ws) (hr : 1 ≤ rm.frames ∧ (st.map fun v => v.category).sum + 13 ≤ rm.locals) (d : decode cc pc = .ok (.invokestatic index, 3)) (k : Wg X (pc + 3) lv (.int (if y < x then y else x) :: st) hp) : Wg X pc lv (.int y :: .int x :: st) hp := by
  obtain ⟨p, l, e, R, s, m, args, below, meth, c, D, ca, ad, A, cells, slots, nL, QM⟩ := X
  obtain ⟨hx, hb, hml, hown, hts, hK, hN, hlk, hA, hR, hc, hs⟩ := C
  intro H locs ls hl hP hD hS
  have hcs : ((st.map (cv ad)).map fun v => v.category) = st.map fun v => v.category := by rw [List.map_map]; exact List.map_congr_left (fun v _ => cv_cat ad v)
  exact va_mmin hx hb (hml.trans hl.2.1.symm) hown (hts _ hw.1) (hts _ hw.2.1) (hts _ hw.2.2.1) (hts _ hw.2.2.2) (by rw [hR]; exact hr.1) (by rw [hR, hcs]; exact hr.2) hc hs d (k H locs ls hl hP hD hS)
theorem wg_mabs (C : Ok X own cc ws rm) {index : Nat} {x : Int32} (hw : Cond.methodLink own index Lib.Math.abs.name ∈ ws ∧ Cond.static Lib.Math.abs.name ∈ ws ∧ Cond.initialized "java/lang/Math" ∈ ws ∧ Cond.code Lib.Math.abs.name Lib.Math.abs.code 1 (some .int) ∈ ws) (hr : 1 ≤ rm.frames ∧ (st.map fun v => v.category).sum + 13 ≤ rm.locals) (d : decode cc pc = .ok (.invokestatic index, 3)) (k : Wg X (pc + 3) lv (.int (if 0 ≤ x then x else 0 - x) :: st) hp) : Wg X pc lv (.int x :: st) hp := by
  obtain ⟨p, l, e, R, s, m, args, below, meth, c, D, ca, ad, A, cells, slots, nL, QM⟩ := X
  obtain ⟨hx, hb, hml, hown, hts, hK, hN, hlk, hA, hR, hc, hs⟩ := C
  intro H locs ls hl hP hD hS
  have hcs : ((st.map (cv ad)).map fun v => v.category) = st.map fun v => v.category := by rw [List.map_map]; exact List.map_congr_left (fun v _ => cv_cat ad v)
  exact va_mabs hx hb (hml.trans hl.2.1.symm) hown (hts _ hw.1) (hts _ hw.2.1) (hts _ hw.2.2.1) (hts _ hw.2.2.2) (by rw [hR]; exact hr.1) (by rw [hR, hcs]; exact hr.2) hc hs d (k H locs ls hl hP hD hS)
theorem wg_f2b (C : Ok X own cc ws rm) {index : Nat} {b : UInt32} (hw : Cond.methodLink own index ⟨"java/lang/Float", "floatToRawIntBits", "(F)I"⟩ ∈ ws ∧ Cond.native ⟨"java/lang/Float", "floatToRawIntBits", "(F)I"⟩ ∈ ws ∧ Cond.static ⟨"java/lang/Float", "floatToRawIntBits", "(F)I"⟩ ∈ ws ∧ Cond.initialized "java/lang/Float" ∈ ws) (hr : 1 ≤ rm.frames ∧ (st.map fun v => v.category).sum + 15 ≤ rm.locals) (d : decode cc pc = .ok (.invokestatic index, 3)) (k : Wg X (pc + 3) lv (.int b.toInt32 :: st) hp) : Wg X pc lv (.float b :: st) hp := by
  obtain ⟨p, l, e, R, s, m, args, below, meth, c, D, ca, ad, A, cells, slots, nL, QM⟩ := X
  obtain ⟨hx, hb, hml, hown, hts, hK, hN, hlk, hA, hR, hc, hs⟩ := C
  intro H locs ls hl hP hD hS
  have hcs : ((st.map (cv ad)).map fun v => v.category) = st.map fun v => v.category := by rw [List.map_map]; exact List.map_congr_left (fun v _ => cv_cat ad v)
  exact vn_f2i hx hb (hml.trans hl.2.1.symm) hown (hts _ hw.1) (hts _ hw.2.1) (hts _ hw.2.2.1) (hts _ hw.2.2.2) (by rw [hR]; exact hr.1) (by rw [hR, hcs]; exact hr.2) d (k H locs ls hl hP hD hS)
theorem wg_d2b (C : Ok X own cc ws rm) {index : Nat} {b : UInt64} (hw : Cond.methodLink own index ⟨"java/lang/Double", "doubleToRawLongBits", "(D)J"⟩ ∈ ws ∧ Cond.native ⟨"java/lang/Double", "doubleToRawLongBits", "(D)J"⟩ ∈ ws ∧ Cond.static ⟨"java/lang/Double", "doubleToRawLongBits", "(D)J"⟩ ∈ ws ∧ Cond.initialized "java/lang/Double" ∈ ws) (hr : 1 ≤ rm.frames ∧ (st.map fun v => v.category).sum + 15 ≤ rm.locals) (d : decode cc pc = .ok (.invokestatic index, 3)) (k : Wg X (pc + 3) lv (.long b.toInt64 :: st) hp) : Wg X pc lv (.double b :: st) hp := by
  obtain ⟨p, l, e, R, s, m, args, below, meth, c, D, ca, ad, A, cells, slots, nL, QM⟩ := X
  obtain ⟨hx, hb, hml, hown, hts, hK, hN, hlk, hA, hR, hc, hs⟩ := C
  intro H locs ls hl hP hD hS
  have hcs : ((st.map (cv ad)).map fun v => v.category) = st.map fun v => v.category := by rw [List.map_map]; exact List.map_congr_left (fun v _ => cv_cat ad v)
  exact vn_d2l hx hb (hml.trans hl.2.1.symm) hown (hts _ hw.1) (hts _ hw.2.1) (hts _ hw.2.2.1) (hts _ hw.2.2.2) (by rw [hR]; exact hr.1) (by rw [hR, hcs]; exact hr.2) d (k H locs ls hl hP hD hS)
theorem wg_iret (C : Ok X own cc ws rm) {v : Int32} (hT : Rt X (some .int) (some (.int v)) hp) (d : decode cc pc = .ok (.ireturn, 1)) : Wg X pc lv [.int v] hp := by
  obtain ⟨p, l, e, R, s, m, args, below, meth, c, D, ca, ad, A, cells, slots, nL, QM⟩ := X
  obtain ⟨hx, hb, hml, hown, hts, hK, hN, hlk, hA, hR, hc, hs⟩ := C
  intro H locs ls hl hP hD hS
  obtain ⟨hr, rfl⟩ := hT
  exact W.iret hx hb hr (fun t ht _ => ⟨rfl, by rw [ht]; exact hP, hD, hS.F ht⟩) hS.2.2 d hlk
theorem wg_lret (C : Ok X own cc ws rm) {v : Int64} (hT : Rt X (some .long) (some (.long v)) hp) (d : decode cc pc = .ok (.lreturn, 1)) : Wg X pc lv [.long v] hp := by
  obtain ⟨p, l, e, R, s, m, args, below, meth, c, D, ca, ad, A, cells, slots, nL, QM⟩ := X
  obtain ⟨hx, hb, hml, hown, hts, hK, hN, hlk, hA, hR, hc, hs⟩ := C
  intro H locs ls hl hP hD hS
  obtain ⟨hr, rfl⟩ := hT
  exact W.lret hx hb hr (fun t ht _ => ⟨rfl, by rw [ht]; exact hP, hD, hS.F ht⟩) hS.2.2 d hlk
theorem wg_fret (C : Ok X own cc ws rm) {v : UInt32} (hT : Rt X (some .float) (some (.float v)) hp) (d : decode cc pc = .ok (.freturn, 1)) : Wg X pc lv [.float v] hp := by
  obtain ⟨p, l, e, R, s, m, args, below, meth, c, D, ca, ad, A, cells, slots, nL, QM⟩ := X
  obtain ⟨hx, hb, hml, hown, hts, hK, hN, hlk, hA, hR, hc, hs⟩ := C
  intro H locs ls hl hP hD hS
  obtain ⟨hr, rfl⟩ := hT
  exact W.fret hx hb hr (fun t ht _ => ⟨rfl, by rw [ht]; exact hP, hD, hS.F ht⟩) hS.2.2 d hlk
theorem wg_dret (C : Ok X own cc ws rm) {v : UInt64} (hT : Rt X (some .double) (some (.double v)) hp) (d : decode cc pc = .ok (.dreturn, 1)) : Wg X pc lv [.double v] hp := by
  obtain ⟨p, l, e, R, s, m, args, below, meth, c, D, ca, ad, A, cells, slots, nL, QM⟩ := X
  obtain ⟨hx, hb, hml, hown, hts, hK, hN, hlk, hA, hR, hc, hs⟩ := C
  intro H locs ls hl hP hD hS
  obtain ⟨hr, rfl⟩ := hT
  exact W.dret hx hb hr (fun t ht _ => ⟨rfl, by rw [ht]; exact hP, hD, hS.F ht⟩) hS.2.2 d hlk
theorem wg_zret (C : Ok X own cc ws rm) {v : Int32} (hT : Rt X (some .boolean) (some (.int v)) hp) (hb1 : v &&& 1 = v) (d : decode cc pc = .ok (.ireturn, 1)) : Wg X pc lv [.int v] hp := by
  obtain ⟨p, l, e, R, s, m, args, below, meth, c, D, ca, ad, A, cells, slots, nL, QM⟩ := X
  obtain ⟨hx, hb, hml, hown, hts, hK, hN, hlk, hA, hR, hc, hs⟩ := C
  intro H locs ls hl hP hD hS
  obtain ⟨hr, rfl⟩ := hT
  exact W.zret hx hb hr (congrArg Value.int hb1) (fun t ht _ => ⟨rfl, by rw [ht]; exact hP, hD, hS.F ht⟩) hS.2.2 d hlk
theorem wg_vret (C : Ok X own cc ws rm) (hT : Rt X none none hp) (d : decode cc pc = .ok (.return_, 1)) : Wg X pc lv [] hp := by
  obtain ⟨p, l, e, R, s, m, args, below, meth, c, D, ca, ad, A, cells, slots, nL, QM⟩ := X
  obtain ⟨hx, hb, hml, hown, hts, hK, hN, hlk, hA, hR, hc, hs⟩ := C
  intro H locs ls hl hP hD hS
  obtain ⟨hr, rfl⟩ := hT
  exact W.vret hx hb hr (fun t ht _ => ⟨rfl, by rw [ht]; exact hP, hD, hS.F ht⟩) hS.2.2 d hlk
end Rules
/-- a method's contract, in places: from the heap hp it answers r and leaves hp' -/
def Sp (y : MethodName) (ws : List Cond) (rm : Room) (ar : List Value) (hp : aH) (r : Option Value) (hp' : aH) : Prop :=
  ∀ (l : Launch) (D : va_G) (ca : Nat → ClassId) (ad : Nat → Nat) (sz : Nat), Met l y ws rm (va_Pc (ar.map (cv ad)) (fun U => U.heap.size = sz ∧ va_P D vwCl (cH ca ad hp) U.heap ∧ va_K D vwCl (tyA ca) U ∧ va_D (fun _ => True) (cH ca ad hp) ∧ Nws U)) (Qm D ca ad (va_A (cH ca ad hp) sz) r hp') 0 0 (va_A (cH ca ad hp) sz)
def entA : List Value → List (Option Value)
  | [] => []
  | v :: r => bif v.category == 2 then some v :: none :: entA r else some v :: entA r
def entL (n : Nat) (ar : List Value) : List (Option Value) := entA ar ++ List.replicate (n - (entA ar).length) none
theorem entA_args (ad : Nat → Nat) : ∀ (ar : List Value) (o i : Nat) (v : Value), (entA ar)[i]? = some (some v) → (o + i, cv ad v) ∈ lv_args o (ar.map (cv ad))
  | [], o, i, v, h => by simp [entA] at h
  | a :: r, o, i, v, h => by
    simp only [List.map_cons, lv_args, cv_cat]
    by_cases hc : a.category = 2
    · simp only [entA, hc, beq_self_eq_true, cond_true] at h
      rw [if_pos hc]
      match i, h with
      | 0, h => simp at h; subst h; exact List.mem_cons_self
      | 1, h => simp at h
      | i + 2, h =>
        have := entA_args ad r (o + 2) i v (by simpa using h)
        refine List.mem_cons_of_mem _ ?_
        rw [show o + (i + 2) = o + 2 + i by omega]
        exact this
    · have hb : (a.category == 2) = false := by simpa using hc
      simp only [entA, hb, cond_false] at h
      rw [if_neg hc]
      match i, h with
      | 0, h => simp at h; subst h; exact List.mem_cons_self
      | i + 1, h =>
        have := entA_args ad r (o + 1) i v (by simpa using h)
        refine List.mem_cons_of_mem _ ?_
        rw [show o + (i + 1) = o + 1 + i by omega]
        exact this
theorem entA_len (ad : Nat → Nat) : ∀ (ar : List Value), (lg_sl (ar.map (cv ad))).length = (entA ar).length
  | [] => rfl
  | a :: r => by
    have ih := entA_len ad r
    simp only [lg_sl, List.map_cons, List.flatMap_cons, cv_cat, entA] at ih ⊢
    by_cases hc : a.category = 2
    · simp [hc, ih]
    · have hb : (a.category == 2) = false := by simpa using hc
      simp [hc, hb, ih]
theorem entL_LH (ad : Nat → Nat) (ar : List Value) (n : Nat) (h : (entA ar).length ≤ n) : LH ad ((lg_sl (ar.map (cv ad)) ++ List.replicate (n - (lg_sl (ar.map (cv ad))).length) Slot.unset).toArray) n (entL n ar) := by
  have h1 := lv_entry (ar.map (cv ad)) (n := n) (by rw [entA_len]; exact h)
  refine ⟨by simp [entL]; omega, h1.1, h1.2.1, fun i v hi => ?_⟩
  have h2 : (entA ar)[i]? = some (some v) := by
    unfold entL at hi
    by_cases q : i < (entA ar).length
    · rwa [List.getElem?_append_left q] at hi
    · rw [List.getElem?_append_right (by omega)] at hi
      have := List.eq_of_mem_replicate (List.mem_of_getElem? hi)
      cases this
  have h3 := h1.2.2 _ (entA_args ad ar 0 i v h2)
  simpa using h3
theorem Sp.of {y : MethodName} {ws ws' : List Cond} {rm : Room} {ar : List Value} {hp hp' : aH} {r : Option Value} {cc : ByteArray} {maxL : Nat} {ret : Option FieldType} {lv : List (Option Value)} (own : String) (hy : plainName y.cls = true ∧ y.cls = own) (hw : ws = Cond.code y cc maxL ret :: ws') (hn : (entA ar).length ≤ maxL) (hl : entL maxL ar = lv)
    (body : ∀ X : CX, Ok X own cc ws rm → Rt X ret r hp' → Wg X 0 lv [] hp) : Sp y ws rm ar hp r hp' := by
  intro l D ca ad sz
  obtain ⟨hy, hyo⟩ := hy
  subst hyo; subst hl
  refine Met.ofW (cc := cc) (maxL := maxL) (ret := ret) hy hw ?_
  intro p e s m args below meth c s₁ B hml hv
  obtain ⟨rfl, hsz, hP, hK, hD0, hN⟩ := hv
  subst hsz
  rw [lg_entry_eq]
  have hts := atoms_spec (ws := ws) B.pre
  exact body (p, l, e, rm, s, m, (ar.map (cv ad)).toArray, below, meth, c, D, ca, ad, va_A (cH ca ad hp) s.heap.size, 0, 0, maxL, MQ below (Qm D ca ad (va_A (cH ca ad hp) s.heap.size) r hp') (ar.map (cv ad)).toArray s 0 0 (va_A (cH ca ad hp) s.heap.size))
    ⟨B.exec, B.bytes, hml, findClass_of_methodNamed B.named, hts, hK, hN, B.notSynchronized, fun q h => Or.inr h, rfl, Nat.zero_le _, Nat.zero_le _⟩ ⟨B.returns, rfl⟩ s.heap [] _ (entL_LH ad ar maxL hn) hP hD0.self va_S.rf
/-- behind a call of any kind -/
theorem wg_run {X : CX} {own : String} {cc : ByteArray} {ws : List Cond} {rm : Room} {pc : Nat} {lv : List (Option Value)} {st stk : List Value} {hp hp' : aH} {r : Option Value} (C : Ok X own cc ws rm)
    (hr : match X with
      | (p, l, e, R, s, m, args, below, meth, c, D, ca, ad, A, cells, slots, nL, QM) => ∀ (H : Heap) (locs : List Loc) (ls : Array Slot), LH ad ls nL lv → va_P D vwCl (cH ca ad hp) H → va_D A (cH ca ad hp) → va_Run p l e R s m args below meth c H locs cells slots 0 0 (F0 m pc ls (stk.map (cv ad))) (st.map (cv ad)) (Qm D ca ad (va_A (cH ca ad hp) H.size) r hp' #[]) (va_A (cH ca ad hp) H.size))
    (k : Wg X (pc + 3) lv (r.toList ++ st) hp') : Wg X pc lv stk hp := by
  obtain ⟨p, l, e, R, s, m, args, below, meth, c, D, ca, ad, A, cells, slots, nL, QM⟩ := X
  obtain ⟨hx, hb, hml, hown, hts, hK, hN, hlk, hA, hR, hc, hs⟩ := C
  intro H locs ls hl hP hD hS T hT Y
  have hF : ∀ q, va_A (cH ca ad hp) H.size q → A q := by
    intro q h
    rcases h with ⟨k0, e0, h⟩ | h
    · exact hD.2 k0 (q, e0) h
    · exact hA q (Nat.le_trans hS.1 h)
  obtain ⟨v, st₀, t, T', L, h0, Y', hL, e1, e2, ⟨hv, hP1, hD1, hz, hk⟩, go⟩ := hr H locs ls hl hP hD T hT Y
  have hv' : v = r.map (cv ad) := by injection hv
  subst hv'
  rw [h0] at hz hk
  rw [← e1] at hP1
  have hS1 : va_S A s.heap T'.heap (locs ++ L) := ⟨Nat.le_trans hS.1 (by rw [e1]; exact hz), fun q h1 h2 => by rw [e1, hk q (Nat.lt_of_lt_of_le h1 hS.1) (fun z => h2 (hF q z))]; exact hS.2.1 q h1 h2, fun q hq => by
    rcases List.mem_append.mp hq with h | h
    · exact hS.2.2 q h
    · exact hF _ (hL q h)⟩
  obtain ⟨t2, a1, b1⟩ := k T'.heap (locs ++ L) ls hl hP1 (hD1.weaken (fun _ q _ h => hF q.1 h)) hS1 T' rfl Y'
  refine ⟨t2, go t2 ?_, b1⟩
  have e3 : (r.toList ++ st).map (cv ad) = (r.map (cv ad)).toList ++ st.map (cv ad) := by cases r <;> rfl
  rw [e3] at a1
  exact a1
theorem Pc_blind (D : va_G) (ca : Nat → ClassId) (ad : Nat → Nat) (sz : Nat) (ar : List Value) (hp : aH) : FrameBlind (va_Pc ar (fun U => U.heap.size = sz ∧ va_P D vwCl (cH ca ad hp) U.heap ∧ va_K D vwCl (tyA ca) U ∧ va_D (fun _ => True) (cH ca ad hp) ∧ Nws U)) := by
  intro a U g mk q
  obtain ⟨q0, q1, qP, qK, qD, qN⟩ := q
  exact ⟨q0, q1, qP, va_K.moved (u := U) (U := U.calling g mk a) (Vm.Alike.refl U.vm) qK, qD, qN.same rfl⟩
section Calls2
variable {X : CX} {own : String} {cc : ByteArray} {ws wsC ws' : List Cond} {rm rmC : Room} {pc : Nat} {lv : List (Option Value)} {st st' stk As : List Value} {hp hp' : aH} {r : Option Value} {y : MethodName} {bytes : ByteArray} {maxL n idx : Nat} {ret : Option FieldType}
theorem st_room {ad : Nat → Nat} {st : List Value} (h : (st.map fun v => v.category).sum ≤ 8) : 2 * 0 + ((st.map (cv ad)).map fun v => v.category).sum ≤ 8 := by
  have hcs : ((st.map (cv ad)).map fun v => v.category) = st.map fun v => v.category := by rw [List.map_map]; exact List.map_congr_left (fun v _ => cv_cat ad v)
  rw [hcs]; omega
theorem wg_callV (C : Ok X own cc ws rm) {q ci : Nat} {fs : List Value} {K : String} {T : u_T} {N : Nat} (S : Sp y wsC rmC (.ref q :: As) hp r hp') (G : GoodIn ws (wsV own idx K y wsC)) (hw : wsC = Cond.code y bytes maxL ret :: ws') (hd : y.cls = K ∧ y.cls ≠ "java/lang/invoke/MethodHandle" ∧ y.cls ≠ "java/lang/invoke/VarHandle" ∧ (parseMethodDescriptor y.desc).map (fun d => d.parameters.length) = some n) (hroom : (rmC.cells = 0 ∧ rmC.slots = 0) ∧ rmC.frames + 1 ≤ rm.frames ∧ 8 + (maxL + 11) + rmC.locals ≤ rm.locals) (hq : hp[q]? = some (.inr (ci, fs))) (hci : vwCl[ci]? = some (K, T, N)) (hn : As.length = n) (hs : stk = As.reverse ++ .ref q :: st) (hcat : (st.map fun v => v.category).sum ≤ 8) (d : decode cc pc = .ok (.invokevirtual idx, 3)) (hst : r.toList ++ st = st') (k : Wg X (pc + 3) lv st' hp') : Wg X pc lv stk hp := by
  subst hst
  refine wg_run C ?_ k
  obtain ⟨p, l, e, R, s, m, args, below, meth, c, D, ca, ad, A, cells, slots, nL, QM⟩ := X
  obtain ⟨hx, hb, hml, hown, hts, hK, hN, hlk, hA, hR, hc, hsl⟩ := C
  intro H locs ls hl hP hD
  subst hR
  exact va_runV (C := K) (b := ad q) (As := As.map (cv ad)) (bytes := bytes) (maxL := maxL) (ret := ret) (n := n) ⟨hx, hb, hml, hown, hts⟩ (S l D ca ad H.size) (cwV n hts G hw hroom.1.1 hroom.1.2 hd hroom.2)
    ⟨Pc_blind D ca ad H.size _ hp, va_recv hK hP hci (cH_at hq), fun U hU hW => ⟨rfl, by rw [hU], by rw [hU]; exact hP, va_K.moved hW.alike hK, hD.weaken (fun _ _ _ _ => trivial), hN.warm hW⟩⟩ rfl (by simpa using hn) hl.2.1 (by rw [hs]; simp [cv]) (st_room hcat) d ⟨hc, hsl⟩
theorem wg_callS (C : Ok X own cc ws rm) (S : Sp y wsC rmC As hp r hp') (G : GoodIn ws (wsS own idx y wsC)) (hw : wsC = Cond.code y bytes maxL ret :: ws') (hd : y.cls = own ∧ y.cls ≠ "java/lang/invoke/MethodHandle" ∧ y.cls ≠ "java/lang/invoke/VarHandle" ∧ (parseMethodDescriptor y.desc).map (fun d => d.parameters.length) = some n) (hroom : (rmC.cells = 0 ∧ rmC.slots = 0) ∧ rmC.frames + 1 ≤ rm.frames ∧ 8 + (maxL + 11) + rmC.locals ≤ rm.locals) (hn : As.length = n) (hs : stk = As.reverse ++ st) (hcat : (st.map fun v => v.category).sum ≤ 8) (d : decode cc pc = .ok (.invokestatic idx, 3)) (hst : r.toList ++ st = st') (k : Wg X (pc + 3) lv st' hp') : Wg X pc lv stk hp := by
  subst hst
  refine wg_run C ?_ k
  obtain ⟨p, l, e, R, s, m, args, below, meth, c, D, ca, ad, A, cells, slots, nL, QM⟩ := X
  obtain ⟨hx, hb, hml, hown, hts, hK, hN, hlk, hA, hR, hc, hsl⟩ := C
  intro H locs ls hl hP hD
  subst hR
  exact va_runS (As := As.map (cv ad)) (bytes := bytes) (maxL := maxL) (ret := ret) (n := n) ⟨hx, hb, hml, hown, hts⟩ (S l D ca ad H.size) (cwS n hts G hw hroom.1.1 hroom.1.2 hd hroom.2)
    ⟨Pc_blind D ca ad H.size _ hp, fun U hU hW => ⟨rfl, by rw [hU], by rw [hU]; exact hP, va_K.moved hW.alike hK, hD.weaken (fun _ _ _ _ => trivial), hN.warm hW⟩⟩ rfl (by simpa using hn) hl.2.1 (by rw [hs]; simp) (st_room hcat) d ⟨hc, hsl⟩
theorem wg_callT (C : Ok X own cc ws rm) (S : Sp y wsC rmC As hp r hp') (G : GoodIn ws (va_wsS own idx y wsC)) (hw : wsC = Cond.code y bytes maxL ret :: ws') (hd : y.cls ≠ "java/lang/invoke/MethodHandle" ∧ y.cls ≠ "java/lang/invoke/VarHandle" ∧ (parseMethodDescriptor y.desc).map (fun d => d.parameters.length) = some n) (hroom : (rmC.cells = 0 ∧ rmC.slots = 0) ∧ rmC.frames + 1 ≤ rm.frames ∧ 8 + (maxL + 11) + rmC.locals ≤ rm.locals) (hn : As.length = n) (hs : stk = As.reverse ++ st) (hcat : (st.map fun v => v.category).sum ≤ 8) (d : decode cc pc = .ok (.invokestatic idx, 3)) (hst : r.toList ++ st = st') (k : Wg X (pc + 3) lv st' hp') : Wg X pc lv stk hp := by
  subst hst
  refine wg_run C ?_ k
  obtain ⟨p, l, e, R, s, m, args, below, meth, c, D, ca, ad, A, cells, slots, nL, QM⟩ := X
  obtain ⟨hx, hb, hml, hown, hts, hK, hN, hlk, hA, hR, hc, hsl⟩ := C
  intro H locs ls hl hP hD
  subst hR
  exact va_runS (As := As.map (cv ad)) (bytes := bytes) (maxL := maxL) (ret := ret) (n := n) ⟨hx, hb, hml, hown, hts⟩ (S l D ca ad H.size) (va_cwS n hts G hw hroom.1.1 hroom.1.2 hd hroom.2)
    ⟨Pc_blind D ca ad H.size _ hp, fun U hU hW => ⟨rfl, by rw [hU], by rw [hU]; exact hP, va_K.moved hW.alike hK, hD.weaken (fun _ _ _ _ => trivial), hN.warm hW⟩⟩ rfl (by simpa using hn) hl.2.1 (by rw [hs]; simp) (st_room hcat) d ⟨hc, hsl⟩
/-- a nest mate's private static method: hl is its place among Nws -/
theorem wg_callN (C : Ok X own cc ws rm) {host : String} (S : Sp y wsC rmC As hp r hp') (hnest : ∀ U, Nws U → va_Nw (.methodLinkNest own idx y host) U) (G : GoodIn ws wsC) (hst : Cond.static y ∈ ws ∧ Cond.initialized y.cls ∈ ws) (hw : wsC = Cond.code y bytes maxL ret :: ws') (hd : y.cls ≠ "java/lang/invoke/MethodHandle" ∧ y.cls ≠ "java/lang/invoke/VarHandle" ∧ (parseMethodDescriptor y.desc).map (fun d => d.parameters.length) = some n) (hroom : (rmC.cells = 0 ∧ rmC.slots = 0) ∧ rmC.frames + 1 ≤ rm.frames ∧ 8 + (maxL + 11) + rmC.locals ≤ rm.locals) (hn : As.length = n) (hs : stk = As.reverse ++ st) (hcat : (st.map fun v => v.category).sum ≤ 8) (d : decode cc pc = .ok (.invokestatic idx, 3)) (hst : r.toList ++ st = st') (k : Wg X (pc + 3) lv st' hp') : Wg X pc lv stk hp := by
  subst hst
  refine wg_run C ?_ k
  obtain ⟨p, l, e, R, s, m, args, below, meth, c, D, ca, ad, A, cells, slots, nL, QM⟩ := X
  obtain ⟨hx, hb, hml, hown, hts, hK, hN, hlk, hA, hR, hc, hsl⟩ := C
  intro H locs ls hl hP hD
  subst hR
  exact va_runSN (As := As.map (cv ad)) (bytes := bytes) (maxL := maxL) (ret := ret) (n := n) (host := host) ⟨hx, hb, hml, hown, hts⟩ (S l D ca ad H.size) ⟨va_cnB n hts G hw hroom.1.1 hroom.1.2 (hnest s hN) (hts _ hst.2) hd hroom.2, hts _ hst.1, trivial⟩
    ⟨Pc_blind D ca ad H.size _ hp, fun U hU hW => ⟨rfl, by rw [hU], by rw [hU]; exact hP, va_K.moved hW.alike hK, hD.weaken (fun _ _ _ _ => trivial), hN.warm hW⟩⟩ rfl (by simpa using hn) hl.2.1 (by rw [hs]; simp) (st_room hcat) d ⟨hc, hsl⟩
end Calls2
end
section
/-! the groups of the heap, and the heap out of them -/
abbrev Tcn : Type := Int32 × Int32 × Int32
abbrev Tbk : Type := (Nat → Int32) × (Nat → Int32) × Int32 × Int32 × Int32
abbrev Tst : Type := Int32 × Int32
abbrev Tli : Type := (Nat → UInt32) × (Nat → Int32) × (Nat → UInt32) × (Nat → UInt32) × (Nat → Int32) × (Nat → Int32) × (Nat → Int32) × Int32 × Int32
abbrev Tfo : Type := (Nat → Int32) × (Nat → UInt32) × (Nat → Int32) × Int32
abbrev Ttx : Type := (Nat → Int32) × (Nat → Int32) × Int32 × Int32 × Int32
abbrev Tco : Type := Int32 × (Nat → Int32) × (Nat → Int32)
abbrev Tke : Type := Int32 × (Nat → Int32)
abbrev Tlk : Type := Int32 × (Nat → Int32) × (Nat → UInt32)
abbrev Tfl : Type := Int32 × (Nat → Int32) × (Nat → UInt32) × (Nat → Int32)
abbrev Ttm : Type := (Nat → Int32) × Int32
abbrev Trd : Type := Int32 × Int32 × Int32 × (Nat → Int32)
def rgF : Nat → Option Nat := fun j => match j with | 0 => some 6 | 1 => some 9 | 2 => some 12 | 3 => some 15 | 4 => some 18 | _ => none
def mkH (cn : Tcn) (bk : Tbk) (st : Tst) (r0 : Tbk) (r1 : Tbk) (r2 : Tbk) (r3 : Tbk) (r4 : Tbk) (li : Tli) (fo : Tfo) (tx : Ttx) (co : Tco) (ke : Tke) (rf : (Nat → Int32)) (cp : Int32) (lk : Tlk) (fl : Tfl) (em : Int32) (tm : Ttm) (rd : Trd) : aH :=
  [.inr (5, [.ref 1, .ref 4, .ref 21, .ref 29, .ref 33, .int cn.1, .int cn.2.1, .int cn.2.2]),
   .inr (0, [.ref 2, .ref 3, .int bk.2.2.1, .int bk.2.2.2.1, .int bk.2.2.2.2]),
   .inl (0, 200, .inl bk.1),
   .inl (0, 4, .inl bk.2.1),
   .inr (3, [.ref 5, .int st.1, .int st.2]),
   .inl (3, 5, .inr (.inr (.inr (.inr rgF)))),
   .inr (0, [.ref 7, .ref 8, .int r0.2.2.1, .int r0.2.2.2.1, .int r0.2.2.2.2]),
   .inl (0, 200, .inl r0.1),
   .inl (0, 4, .inl r0.2.1),
   .inr (0, [.ref 10, .ref 11, .int r1.2.2.1, .int r1.2.2.2.1, .int r1.2.2.2.2]),
   .inl (0, 200, .inl r1.1),
   .inl (0, 4, .inl r1.2.1),
   .inr (0, [.ref 13, .ref 14, .int r2.2.2.1, .int r2.2.2.2.1, .int r2.2.2.2.2]),
   .inl (0, 200, .inl r2.1),
   .inl (0, 4, .inl r2.2.1),
   .inr (0, [.ref 16, .ref 17, .int r3.2.2.1, .int r3.2.2.2.1, .int r3.2.2.2.2]),
   .inl (0, 200, .inl r3.1),
   .inl (0, 4, .inl r3.2.1),
   .inr (0, [.ref 19, .ref 20, .int r4.2.2.1, .int r4.2.2.2.1, .int r4.2.2.2.2]),
   .inl (0, 200, .inl r4.1),
   .inl (0, 4, .inl r4.2.1),
   .inr (2, [.ref 22, .ref 23, .ref 24, .ref 25, .ref 26, .ref 27, .ref 28, .int li.2.2.2.2.2.2.2.1, .int li.2.2.2.2.2.2.2.2]),
   .inl (1, 200, .inr (.inr (.inl li.1))),
   .inl (2, 200, .inl li.2.1),
   .inl (1, 4, .inr (.inr (.inl li.2.2.1))),
   .inl (1, 2500, .inr (.inr (.inl li.2.2.2.1))),
   .inl (0, 600, .inl li.2.2.2.2.1),
   .inl (0, 50, .inl li.2.2.2.2.2.1),
   .inl (0, 50, .inl li.2.2.2.2.2.2.1),
   .inr (1, [.ref 30, .ref 31, .ref 32, .int fo.2.2.2]),
   .inl (0, 12, .inl fo.1),
   .inl (1, 12, .inr (.inr (.inl fo.2.1))),
   .inl (0, 12, .inl fo.2.2.1),
   .inr (4, [.ref 34, .ref 35, .int tx.2.2.1, .int tx.2.2.2.1, .int tx.2.2.2.2]),
   .inl (0, 120, .inl tx.1),
   .inl (0, 200, .inl tx.2.1),
   .inr (6, [.ref 37, .int co.1, .ref 38, .ref 39, .int ke.1, .ref 40, .int cp, .int lk.1, .ref 41, .ref 42, .int fl.1, .ref 43, .ref 44, .ref 45, .int em, .ref 46, .int tm.2, .int rd.1, .int rd.2.1, .int rd.2.2.1, .ref 47]),
   .inl (0, 3, .inl rf),
   .inl (0, 6, .inl co.2.1),
   .inl (0, 200, .inl co.2.2),
   .inl (0, 1035, .inl ke.2),
   .inl (0, 50, .inl lk.2.1),
   .inl (1, 50, .inr (.inr (.inl lk.2.2))),
   .inl (0, 50, .inl fl.2.1),
   .inl (1, 50, .inr (.inr (.inl fl.2.2.1))),
   .inl (0, 50, .inl fl.2.2.2),
   .inl (0, 120, .inl tm.1),
   .inl (0, 4, .inl rd.2.2.2)]
end
