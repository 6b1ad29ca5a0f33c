set_option maxRecDepth 20000 in
theorem g_wsL_law_r1 : GoodIn lw_tbl wsL_law_r1 := goodIn_p _ [58, 61] (by decide +kernel) (by decide +kernel)
set_option maxRecDepth 20000 in
theorem g_wsL_law_r2 : GoodIn lw_tbl wsL_law_r2 := goodIn_p _ [66, 70, 92] (by decide +kernel) (by decide +kernel)
set_option maxRecDepth 20000 in
theorem g_wsL_law_r3 : GoodIn lw_tbl wsL_law_r3 := goodIn_p _ [111, 147] (by decide +kernel) (by decide +kernel)
set_option maxRecDepth 20000 in
theorem g_wsL_law_r4 : GoodIn lw_tbl wsL_law_r4 := goodIn_p _ [166, 614] (by decide +kernel) (by decide +kernel)
set_option maxRecDepth 20000 in
theorem g_wsL_law_r5 : GoodIn lw_tbl wsL_law_r5 := goodIn_p _ [212, 215, 218, 222, 226, 230] (by decide +kernel) (by decide +kernel)
set_option maxRecDepth 20000 in
theorem g_wsL_law_r6 : GoodIn lw_tbl wsL_law_r6 := goodIn_p _ [234, 238, 241, 245] (by decide +kernel) (by decide +kernel)
set_option maxRecDepth 20000 in
theorem g_wsL_law_r7 : GoodIn lw_tbl wsL_law_r7 := goodIn_p _ [252, 256, 260, 264, 267, 687, 690] (by decide +kernel) (by decide +kernel)
set_option maxRecDepth 20000 in
theorem g_wsL_law_r8 : GoodIn lw_tbl wsL_law_r8 := goodIn_p _ [693, 697, 701, 705, 709, 271] (by decide +kernel) (by decide +kernel)
set_option maxRecDepth 20000 in
theorem g_wsL_law_r9 : GoodIn lw_tbl wsL_law_r9 := goodIn_p _ [277, 713, 717, 720, 724] (by decide +kernel) (by decide +kernel)
set_option maxRecDepth 20000 in
theorem g_wsL_law_r10 : GoodIn lw_tbl wsL_law_r10 := goodIn_p _ [282, 287, 291, 302] (by decide +kernel) (by decide +kernel)
set_option maxRecDepth 20000 in
theorem g_wsL_law_r11 : GoodIn lw_tbl wsL_law_r11 := goodIn_p _ [728, 738, 307, 311] (by decide +kernel) (by decide +kernel)
set_option maxRecDepth 20000 in
theorem g_wsL_law_r12 : GoodIn lw_tbl wsL_law_r12 := goodIn_p _ [744, 315, 318, 322, 326, 748] (by decide +kernel) (by decide +kernel)
set_option maxRecDepth 20000 in
theorem g_wsL_law_r13 : GoodIn lw_tbl wsL_law_r13 := goodIn_p _ [330, 752, 334, 338, 344, 348] (by decide +kernel) (by decide +kernel)
set_option maxRecDepth 20000 in
theorem g_wsL_law_r14 : GoodIn lw_tbl wsL_law_r14 := goodIn_p _ [355, 360, 364, 367, 371] (by decide +kernel) (by decide +kernel)
set_option maxRecDepth 20000 in
theorem g_wsL_law_r15 : GoodIn lw_tbl wsL_law_r15 := goodIn_p _ [375, 379, 383, 386, 756, 760] (by decide +kernel) (by decide +kernel)
set_option maxRecDepth 20000 in
theorem g_wsL_law_r16 : GoodIn lw_tbl wsL_law_r16 := goodIn_p _ [763, 767, 771, 774, 392] (by decide +kernel) (by decide +kernel)
set_option maxRecDepth 20000 in
theorem g_wsL_law_r17 : GoodIn lw_tbl wsL_law_r17 := goodIn_p _ [396, 400, 404, 782, 786] (by decide +kernel) (by decide +kernel)
set_option maxRecDepth 20000 in
theorem g_wsL_law_r18 : GoodIn lw_tbl wsL_law_r18 := goodIn_p _ [790, 794, 408, 412, 798, 416] (by decide +kernel) (by decide +kernel)
set_option maxRecDepth 20000 in
theorem g_wsL_law_r19 : GoodIn lw_tbl wsL_law_r19 := goodIn_p _ [420, 802, 426, 430, 806, 434] (by decide +kernel) (by decide +kernel)
set_option maxRecDepth 20000 in
theorem g_wsL_law_r20 : GoodIn lw_tbl wsL_law_r20 := goodIn_p _ [810, 438, 442, 446, 454] (by decide +kernel) (by decide +kernel)
set_option maxRecDepth 20000 in
theorem g_wsL_law_r21 : GoodIn lw_tbl wsL_law_r21 := goodIn_p _ [458, 462, 466, 471, 814] (by decide +kernel) (by decide +kernel)
set_option maxRecDepth 20000 in
theorem g_wsL_law_r22 : GoodIn lw_tbl wsL_law_r22 := goodIn_p _ [818, 476, 480, 822, 826, 485] (by decide +kernel) (by decide +kernel)
set_option maxRecDepth 20000 in
theorem g_wsL_law_r23 : GoodIn lw_tbl wsL_law_r23 := goodIn_p _ [490, 493, 830, 834] (by decide +kernel) (by decide +kernel)
set_option maxRecDepth 20000 in
theorem g_wsL_law_r24 : GoodIn lw_tbl wsL_law_r24 := goodIn_p _ [837, 500, 845, 504, 508, 849] (by decide +kernel) (by decide +kernel)
set_option maxRecDepth 20000 in
theorem g_wsL_law_r25 : GoodIn lw_tbl wsL_law_r25 := goodIn_p _ [853, 857, 513, 861, 517] (by decide +kernel) (by decide +kernel)
set_option maxRecDepth 20000 in
theorem g_wsL_law_r26 : GoodIn lw_tbl wsL_law_r26 := goodIn_p _ [865, 521, 525, 529, 869, 533] (by decide +kernel) (by decide +kernel)
set_option maxRecDepth 20000 in
theorem g_wsL_law_r27 : GoodIn lw_tbl wsL_law_r27 := goodIn_p _ [537, 873, 541, 545, 549] (by decide +kernel) (by decide +kernel)
set_option maxRecDepth 20000 in
theorem g_wsL_law_r28 : GoodIn lw_tbl wsL_law_r28 := goodIn_p _ [553, 557, 561, 565, 569, 574] (by decide +kernel) (by decide +kernel)
set_option maxRecDepth 20000 in
theorem g_wsL_law_r29 : GoodIn lw_tbl wsL_law_r29 := goodIn_p _ [578, 582, 877, 881, 885, 889] (by decide +kernel) (by decide +kernel)
set_option maxRecDepth 20000 in
theorem g_wsL_law_r30 : GoodIn lw_tbl wsL_law_r30 := goodIn_p _ [893, 897, 587, 591, 595] (by decide +kernel) (by decide +kernel)
set_option maxRecDepth 20000 in
theorem g_wsL_law_r31 : GoodIn lw_tbl wsL_law_r31 := goodIn_p _ [683, 599, 901, 905, 604] (by decide +kernel) (by decide +kernel)
set_option maxRecDepth 20000 in
theorem g_wsL_law_r32 : GoodIn lw_tbl wsL_law_r32 := goodIn_p _ [909] (by decide +kernel) (by decide +kernel)
set_option maxRecDepth 20000 in
theorem g_wsX50 : GoodIn lw_tbl wsX50 := goodIn_of _ (by decide +kernel)
set_option maxRecDepth 20000 in
theorem g_wsX60 : GoodIn lw_tbl wsX60 := goodIn_of _ (by decide +kernel)
set_option maxRecDepth 20000 in
theorem g_wsX00 : GoodIn lw_tbl wsX00 := goodIn_of _ (by decide +kernel)
set_option maxRecDepth 20000 in
theorem g_wsX30 : GoodIn lw_tbl wsX30 := goodIn_of _ (by decide +kernel)
set_option maxRecDepth 20000 in
theorem g_wsX20 : GoodIn lw_tbl wsX20 := goodIn_of _ (by decide +kernel)
set_option maxRecDepth 20000 in
theorem g_wsX10 : GoodIn lw_tbl wsX10 := goodIn_of _ (by decide +kernel)
set_option maxRecDepth 20000 in
theorem g_wsX40 : GoodIn lw_tbl wsX40 := goodIn_of _ (by decide +kernel)
theorem g_wsL_law : GoodIn lw_tbl wsL_law := by
  unfold wsL_law
  exact goodIn_app (goodIn_app (goodIn_app (goodIn_app (goodIn_app (goodIn_app (goodIn_app (goodIn_app (goodIn_app g_wsL_law_r1 (goodIn_app g_wsL_law_r2 (goodIn_app g_wsL_law_r3 (goodIn_app g_wsL_law_r4 (goodIn_app g_wsL_law_r5 (goodIn_app g_wsL_law_r6 (goodIn_app g_wsL_law_r7 (goodIn_app g_wsL_law_r8 (goodIn_app g_wsL_law_r9 (goodIn_app g_wsL_law_r10 (goodIn_app g_wsL_law_r11 (goodIn_app g_wsL_law_r12 (goodIn_app g_wsL_law_r13 (goodIn_app g_wsL_law_r14 (goodIn_app g_wsL_law_r15 (goodIn_app g_wsL_law_r16 (goodIn_app g_wsL_law_r17 (goodIn_app g_wsL_law_r18 (goodIn_app g_wsL_law_r19 (goodIn_app g_wsL_law_r20 (goodIn_app g_wsL_law_r21 (goodIn_app g_wsL_law_r22 (goodIn_app g_wsL_law_r23 (goodIn_app g_wsL_law_r24 (goodIn_app g_wsL_law_r25 (goodIn_app g_wsL_law_r26 (goodIn_app g_wsL_law_r27 (goodIn_app g_wsL_law_r28 (goodIn_app g_wsL_law_r29 (goodIn_app g_wsL_law_r30 (goodIn_app g_wsL_law_r31 (g_wsL_law_r32)))))))))))))))))))))))))))))))) g_wsX50) g_wsX60) g_wsX00) g_wsX30) g_wsX20) g_wsX10) g_wsX40) (fun w h => absurd h List.not_mem_nil)
theorem wsL_law_in : ∀ w ∈ wsL_law, w ∈ lw_tbl := fun w h => (g_wsL_law w h).1
theorem inX0 : ∀ w ∈ wsX00, w ∈ lw_tbl := fun w h => (g_wsX00 w h).1
theorem inX1 : ∀ w ∈ wsX10, w ∈ lw_tbl := fun w h => (g_wsX10 w h).1
theorem inX2 : ∀ w ∈ wsX20, w ∈ lw_tbl := fun w h => (g_wsX20 w h).1
theorem inX3 : ∀ w ∈ wsX30, w ∈ lw_tbl := fun w h => (g_wsX30 w h).1
theorem inX4 : ∀ w ∈ wsX40, w ∈ lw_tbl := fun w h => (g_wsX40 w h).1
theorem inX5 : ∀ w ∈ wsX50, w ∈ lw_tbl := fun w h => (g_wsX50 w h).1
theorem inX6 : ∀ w ∈ wsX60, w ∈ lw_tbl := fun w h => (g_wsX60 w h).1
