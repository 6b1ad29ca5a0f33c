/-! the functions that the methods compute, printed by wip/whole/decomp.py -/
def jX5_isWithin_15  (y0 : Int32) : Option (Int32) :=
  gd (decide (y0 &&& 1 = y0)) (some y0)

def jX5_isWithin_14   : Option (Int32) :=
  jX5_isWithin_15  (0 : Int32)

def fX5_isWithin  (x0 : Int32) (x1 : Int32) (x2 : Int32) : Option (Int32) :=
  if x0 < x1 then (jX5_isWithin_14) else (if x2 < x0 then (jX5_isWithin_14) else (jX5_isWithin_15  (1 : Int32)))

def jX5_isNote_25  (y0 : Int32) : Option (Int32) :=
  gd (decide (y0 &&& 1 = y0)) (some y0)

def jX5_isNote_20   : Option (Int32) :=
  jX5_isNote_25  (1 : Int32)

def fX5_isNote  (x0 : Int32) : Option (Int32) :=
  if x0 = (-10000 : Int32) then (jX5_isNote_20) else ((fX5_isWithin  x0 (-999 : Int32) (999 : Int32)).bind fun q3 => if q3 = 0 then (jX5_isNote_25  (0 : Int32)) else (jX5_isNote_20))

def fX5_refuseBad (cn : Tcn) (x1 : Int32) : Option (Int32 × Tcn) :=
  some (x1, ((cn.1 + (1 : Int32)), cn.2.1, cn.2.2))

def fX0_days (bk : Tbk)  : Option (Int32) :=
  some bk.2.2.1

def fX0_copyFrom_6_1 (bk : Tbk) (r0 : Tbk)  : Option (Tbk) :=
  some ((va_cpy bk.1 r0.1 ((0 : Int32)).toNatClampNeg ((0 : Int32)).toNatClampNeg ((200 : Int32)).toNatClampNeg), (va_cpy bk.2.1 r0.2.1 ((0 : Int32)).toNatClampNeg ((0 : Int32)).toNatClampNeg ((4 : Int32)).toNatClampNeg), bk.2.2.1, bk.2.2.2.1, bk.2.2.2.2)

def fX0_copyFrom_9_1 (bk : Tbk) (r1 : Tbk)  : Option (Tbk) :=
  some ((va_cpy bk.1 r1.1 ((0 : Int32)).toNatClampNeg ((0 : Int32)).toNatClampNeg ((200 : Int32)).toNatClampNeg), (va_cpy bk.2.1 r1.2.1 ((0 : Int32)).toNatClampNeg ((0 : Int32)).toNatClampNeg ((4 : Int32)).toNatClampNeg), bk.2.2.1, bk.2.2.2.1, bk.2.2.2.2)

def fX0_copyFrom_12_1 (bk : Tbk) (r2 : Tbk)  : Option (Tbk) :=
  some ((va_cpy bk.1 r2.1 ((0 : Int32)).toNatClampNeg ((0 : Int32)).toNatClampNeg ((200 : Int32)).toNatClampNeg), (va_cpy bk.2.1 r2.2.1 ((0 : Int32)).toNatClampNeg ((0 : Int32)).toNatClampNeg ((4 : Int32)).toNatClampNeg), bk.2.2.1, bk.2.2.2.1, bk.2.2.2.2)

def fX0_copyFrom_15_1 (bk : Tbk) (r3 : Tbk)  : Option (Tbk) :=
  some ((va_cpy bk.1 r3.1 ((0 : Int32)).toNatClampNeg ((0 : Int32)).toNatClampNeg ((200 : Int32)).toNatClampNeg), (va_cpy bk.2.1 r3.2.1 ((0 : Int32)).toNatClampNeg ((0 : Int32)).toNatClampNeg ((4 : Int32)).toNatClampNeg), bk.2.2.1, bk.2.2.2.1, bk.2.2.2.2)

def fX0_copyFrom_18_1 (bk : Tbk) (r4 : Tbk)  : Option (Tbk) :=
  some ((va_cpy bk.1 r4.1 ((0 : Int32)).toNatClampNeg ((0 : Int32)).toNatClampNeg ((200 : Int32)).toNatClampNeg), (va_cpy bk.2.1 r4.2.1 ((0 : Int32)).toNatClampNeg ((0 : Int32)).toNatClampNeg ((4 : Int32)).toNatClampNeg), bk.2.2.1, bk.2.2.2.1, bk.2.2.2.2)

def fX3_push (bk : Tbk) (st : Tst) (r0 : Tbk) (r1 : Tbk) (r2 : Tbk) (r3 : Tbk) (r4 : Tbk)  : Option (Tst × Tbk × Tbk × Tbk × Tbk × Tbk) :=
  if ((st.1 + (1 : Int32)) - (st.1 + (1 : Int32)) / (5 : Int32) * (5 : Int32)) = 0 then ((fX0_copyFrom_6_1 bk r0).bind fun q1 => some ((((st.1 + (1 : Int32)) - (st.1 + (1 : Int32)) / (5 : Int32) * (5 : Int32)), (if (5 : Int32) < (st.2 + (1 : Int32)) then (5 : Int32) else (st.2 + (1 : Int32)))), q1, r1, r2, r3, r4)) else (if ((st.1 + (1 : Int32)) - (st.1 + (1 : Int32)) / (5 : Int32) * (5 : Int32)) = 1 then ((fX0_copyFrom_9_1 bk r1).bind fun q2 => some ((((st.1 + (1 : Int32)) - (st.1 + (1 : Int32)) / (5 : Int32) * (5 : Int32)), (if (5 : Int32) < (st.2 + (1 : Int32)) then (5 : Int32) else (st.2 + (1 : Int32)))), r0, q2, r2, r3, r4)) else (if ((st.1 + (1 : Int32)) - (st.1 + (1 : Int32)) / (5 : Int32) * (5 : Int32)) = 2 then ((fX0_copyFrom_12_1 bk r2).bind fun q3 => some ((((st.1 + (1 : Int32)) - (st.1 + (1 : Int32)) / (5 : Int32) * (5 : Int32)), (if (5 : Int32) < (st.2 + (1 : Int32)) then (5 : Int32) else (st.2 + (1 : Int32)))), r0, r1, q3, r3, r4)) else (if ((st.1 + (1 : Int32)) - (st.1 + (1 : Int32)) / (5 : Int32) * (5 : Int32)) = 3 then ((fX0_copyFrom_15_1 bk r3).bind fun q4 => some ((((st.1 + (1 : Int32)) - (st.1 + (1 : Int32)) / (5 : Int32) * (5 : Int32)), (if (5 : Int32) < (st.2 + (1 : Int32)) then (5 : Int32) else (st.2 + (1 : Int32)))), r0, r1, r2, q4, r4)) else (if ((st.1 + (1 : Int32)) - (st.1 + (1 : Int32)) / (5 : Int32) * (5 : Int32)) = 4 then ((fX0_copyFrom_18_1 bk r4).bind fun q5 => some ((((st.1 + (1 : Int32)) - (st.1 + (1 : Int32)) / (5 : Int32) * (5 : Int32)), (if (5 : Int32) < (st.2 + (1 : Int32)) then (5 : Int32) else (st.2 + (1 : Int32)))), r0, r1, r2, r3, q5)) else none))))

def fX2_forget (li : Tli)  : Option (Tli) :=
  some (li.1, li.2.1, li.2.2.1, li.2.2.2.1, li.2.2.2.2.1, li.2.2.2.2.2.1, li.2.2.2.2.2.2.1, li.2.2.2.2.2.2.2.1, (-2 : Int32))

def fX5_keepState (bk : Tbk) (st : Tst) (r0 : Tbk) (r1 : Tbk) (r2 : Tbk) (r3 : Tbk) (r4 : Tbk) (li : Tli)  : Option (Tst × Tbk × Tbk × Tbk × Tbk × Tbk × Tli) :=
  (fX3_push bk st r0 r1 r2 r3 r4).bind fun q1 => (fX2_forget li).bind fun q2 => some (q1.1, q1.2.1, q1.2.2.1, q1.2.2.2.1, q1.2.2.2.2.1, q1.2.2.2.2.2, q2)

def jX0_has_17 (bk : Tbk) (y0 : Int32) : Option (Int32) :=
  gd (decide (y0 &&& 1 = y0)) (some y0)

def jX0_has_16 (bk : Tbk)  : Option (Int32) :=
  jX0_has_17 bk (0 : Int32)

def fX0_has (bk : Tbk) (x1 : Int32) : Option (Int32) :=
  if x1 < 0 then (jX0_has_16 bk) else (if bk.2.2.1 ≤ x1 then (jX0_has_16 bk) else (jX0_has_17 bk (1 : Int32)))

def fX5_isMember  (x0 : Int32) : Option (Int32) :=
  (fX5_isWithin  x0 (0 : Int32) (3 : Int32)).bind fun q1 => gd (decide (q1 &&& 1 = q1)) (some q1)

def jX0_put_26 (bk : Tbk)  : Option (Tbk) :=
  some bk

def fX0_put (bk : Tbk) (x1 : Int32) (x2 : Int32) (x3 : Int32) : Option (Tbk) :=
  (fX0_has bk x1).bind fun q1 => if q1 = 0 then (jX0_put_26 bk) else ((fX5_isMember  x2).bind fun q3 => if q3 = 0 then (jX0_put_26 bk) else (gd (inB ((x1 * (4 : Int32)) + x2) 200) (jX0_put_26 ((upd bk.1 (((x1 * (4 : Int32)) + x2)).toNatClampNeg x3), bk.2.1, bk.2.2.1, bk.2.2.2.1, bk.2.2.2.2))))

def fX0_append (bk : Tbk) (x1 : Int32) (x2 : Int32) (x3 : Int32) (x4 : Int32) : Option (Int32 × Tbk) :=
  if bk.2.2.1 < (50 : Int32) then ((fX0_put (bk.1, bk.2.1, (bk.2.2.1 + (1 : Int32)), bk.2.2.2.1, bk.2.2.2.2) bk.2.2.1 (0 : Int32) x1).bind fun q2 => (fX0_put q2 bk.2.2.1 (1 : Int32) x2).bind fun q3 => (fX0_put q3 bk.2.2.1 (2 : Int32) x3).bind fun q4 => (fX0_put q4 bk.2.2.1 (3 : Int32) x4).bind fun q5 => some (bk.2.2.1, q5)) else (some ((-4 : Int32), bk))

def fX5_refuseFull (cn : Tcn)  : Option (Int32 × Tcn) :=
  some ((-4 : Int32), (cn.1, cn.2.1, (cn.2.2 + (1 : Int32))))

def jX5_day_29 (cn : Tcn) (bk : Tbk) (st : Tst) (r0 : Tbk) (r1 : Tbk) (r2 : Tbk) (r3 : Tbk) (r4 : Tbk) (li : Tli)  : Option (Int32 × Tcn × Tbk × Tst × Tbk × Tbk × Tbk × Tbk × Tbk × Tli) :=
  (fX5_refuseBad cn (-2 : Int32)).bind fun q3 => some (q3.1, q3.2, bk, st, r0, r1, r2, r3, r4, li)

def fX5_day (cn : Tcn) (bk : Tbk) (st : Tst) (r0 : Tbk) (r1 : Tbk) (r2 : Tbk) (r3 : Tbk) (r4 : Tbk) (li : Tli) (x1 : Int32) (x2 : Int32) (x3 : Int32) (x4 : Int32) : Option (Int32 × Tcn × Tbk × Tst × Tbk × Tbk × Tbk × Tbk × Tbk × Tli) :=
  (fX5_isNote  x1).bind fun q1 => if q1 = 0 then (jX5_day_29 cn bk st r0 r1 r2 r3 r4 li) else ((fX5_isNote  x2).bind fun q4 => if q4 = 0 then (jX5_day_29 cn bk st r0 r1 r2 r3 r4 li) else ((fX5_isNote  x3).bind fun q6 => if q6 = 0 then (jX5_day_29 cn bk st r0 r1 r2 r3 r4 li) else ((fX5_isNote  x4).bind fun q8 => if ¬ q8 = 0 then ((fX0_days bk).bind fun q10 => if q10 < (50 : Int32) then ((fX5_keepState bk st r0 r1 r2 r3 r4 li).bind fun q12 => (fX0_append bk x1 x2 x3 x4).bind fun q13 => some (q13.1, cn, q13.2, q12.1, q12.2.1, q12.2.2.1, q12.2.2.2.1, q12.2.2.2.2.1, q12.2.2.2.2.2.1, q12.2.2.2.2.2.2)) else ((fX5_refuseFull cn).bind fun q14 => some (q14.1, q14.2, bk, st, r0, r1, r2, r3, r4, li))) else (jX5_day_29 cn bk st r0 r1 r2 r3 r4 li))))

def jX0_member_31 (bk : Tbk) (y0 : Int32) : Option (Int32) :=
  some y0

def jX0_member_28 (bk : Tbk)  : Option (Int32) :=
  jX0_member_31 bk (-10000 : Int32)

def fX0_member (bk : Tbk) (x1 : Int32) (x2 : Int32) : Option (Int32) :=
  (fX0_has bk x1).bind fun q1 => if q1 = 0 then (jX0_member_28 bk) else ((fX5_isMember  x2).bind fun q3 => if q3 = 0 then (jX0_member_28 bk) else (gd (inB ((x1 * (4 : Int32)) + x2) 200) (jX0_member_31 bk (bk.1 (((x1 * (4 : Int32)) + x2)).toNatClampNeg))))

def jX5_sets_25 (cn : Tcn) (bk : Tbk) (st : Tst) (r0 : Tbk) (r1 : Tbk) (r2 : Tbk) (r3 : Tbk) (r4 : Tbk) (li : Tli)  : Option (Int32 × Tcn × Tbk × Tst × Tbk × Tbk × Tbk × Tbk × Tbk × Tli) :=
  (fX5_refuseBad cn (-20000 : Int32)).bind fun q3 => some (q3.1, q3.2, bk, st, r0, r1, r2, r3, r4, li)

def fX5_sets (cn : Tcn) (bk : Tbk) (st : Tst) (r0 : Tbk) (r1 : Tbk) (r2 : Tbk) (r3 : Tbk) (r4 : Tbk) (li : Tli) (x1 : Int32) (x2 : Int32) (x3 : Int32) : Option (Int32 × Tcn × Tbk × Tst × Tbk × Tbk × Tbk × Tbk × Tbk × Tli) :=
  (fX0_has bk x1).bind fun q1 => if q1 = 0 then (jX5_sets_25 cn bk st r0 r1 r2 r3 r4 li) else ((fX5_isMember  x2).bind fun q4 => if q4 = 0 then (jX5_sets_25 cn bk st r0 r1 r2 r3 r4 li) else ((fX5_isNote  x3).bind fun q6 => if ¬ q6 = 0 then ((fX0_member bk x1 x2).bind fun q8 => (fX5_keepState bk st r0 r1 r2 r3 r4 li).bind fun q9 => (fX0_put bk x1 x2 x3).bind fun q10 => some (q8, cn, q10, q9.1, q9.2.1, q9.2.2.1, q9.2.2.2.1, q9.2.2.2.2.1, q9.2.2.2.2.2.1, q9.2.2.2.2.2.2)) else (jX5_sets_25 cn bk st r0 r1 r2 r3 r4 li)))

def bX0_lastNoted_4 (bk : Tbk) (x2 : Int32) (z : Int32) : Option ((Int32) ⊕ (Int32 ⊕ Unit)) :=
  if z < 0 then (some (.inr (.inr ()))) else ((fX0_member bk z x2).bind fun q2 => if q2 = (-10000 : Int32) then (some (.inl (z + (-1 : Int32)))) else (some (.inr (.inl q2))))

def fX0_lastNoted (bk : Tbk) (x1 : Int32) (x2 : Int32) : Option (Int32) :=
  (lpF (bX0_lastNoted_4 bk x2) FU (x1 - (1 : Int32))).bind fun t4 => (match t4 with | (.inl u4) => (some u4) | (.inr u4) => (some (0 : Int32)))

def jX0_fillByChance_35_132 (bk : Tbk) (x3 : Int64) (x5 : Int32) (x6 : Int32) (x7 : Int32) : Option ((Int64 × Int32 × Int32 × Tbk) ⊕ (Int64 × Int32 × Tbk)) :=
  some (.inl (x3, x5, (x7 + (1 : Int32)), bk))

def bX0_fillByChance_35  (x6 : Int32) (z : Int64 × Int32 × Int32 × Tbk) : Option ((Int64 × Int32 × Int32 × Tbk) ⊕ (Int64 × Int32 × Tbk)) :=
  if (4 : Int32) ≤ z.2.2.1 then (some (.inr (z.1, z.2.1, z.2.2.2))) else (if ¬ (lg_cmp (((((z.1 * (1103515245 : Int64)) + (12345 : Int64)) - ((z.1 * (1103515245 : Int64)) + (12345 : Int64)) / (2147483648 : Int64) * (2147483648 : Int64)) / (65536 : Int64)) - ((((z.1 * (1103515245 : Int64)) + (12345 : Int64)) - ((z.1 * (1103515245 : Int64)) + (12345 : Int64)) / (2147483648 : Int64) * (2147483648 : Int64)) / (65536 : Int64)) / (16 : Int64) * (16 : Int64)) (0 : Int64)) = 0 then ((fX0_lastNoted z.2.2.2 x6 z.2.2.1).bind fun q4 => (fX0_put z.2.2.2 x6 z.2.2.1 (if (-999 : Int32) < (if (999 : Int32) < (q4 + (((((((z.1 * (1103515245 : Int64)) + (12345 : Int64)) - ((z.1 * (1103515245 : Int64)) + (12345 : Int64)) / (2147483648 : Int64) * (2147483648 : Int64)) / (1024 : Int64)) - ((((z.1 * (1103515245 : Int64)) + (12345 : Int64)) - ((z.1 * (1103515245 : Int64)) + (12345 : Int64)) / (2147483648 : Int64) * (2147483648 : Int64)) / (1024 : Int64)) / (41 : Int64) * (41 : Int64))).toInt32 - (20 : Int32))) then (999 : Int32) else (q4 + (((((((z.1 * (1103515245 : Int64)) + (12345 : Int64)) - ((z.1 * (1103515245 : Int64)) + (12345 : Int64)) / (2147483648 : Int64) * (2147483648 : Int64)) / (1024 : Int64)) - ((((z.1 * (1103515245 : Int64)) + (12345 : Int64)) - ((z.1 * (1103515245 : Int64)) + (12345 : Int64)) / (2147483648 : Int64) * (2147483648 : Int64)) / (1024 : Int64)) / (41 : Int64) * (41 : Int64))).toInt32 - (20 : Int32)))) then (if (999 : Int32) < (q4 + (((((((z.1 * (1103515245 : Int64)) + (12345 : Int64)) - ((z.1 * (1103515245 : Int64)) + (12345 : Int64)) / (2147483648 : Int64) * (2147483648 : Int64)) / (1024 : Int64)) - ((((z.1 * (1103515245 : Int64)) + (12345 : Int64)) - ((z.1 * (1103515245 : Int64)) + (12345 : Int64)) / (2147483648 : Int64) * (2147483648 : Int64)) / (1024 : Int64)) / (41 : Int64) * (41 : Int64))).toInt32 - (20 : Int32))) then (999 : Int32) else (q4 + (((((((z.1 * (1103515245 : Int64)) + (12345 : Int64)) - ((z.1 * (1103515245 : Int64)) + (12345 : Int64)) / (2147483648 : Int64) * (2147483648 : Int64)) / (1024 : Int64)) - ((((z.1 * (1103515245 : Int64)) + (12345 : Int64)) - ((z.1 * (1103515245 : Int64)) + (12345 : Int64)) / (2147483648 : Int64) * (2147483648 : Int64)) / (1024 : Int64)) / (41 : Int64) * (41 : Int64))).toInt32 - (20 : Int32)))) else (-999 : Int32))).bind fun q5 => jX0_fillByChance_35_132 q5 (((z.1 * (1103515245 : Int64)) + (12345 : Int64)) - ((z.1 * (1103515245 : Int64)) + (12345 : Int64)) / (2147483648 : Int64) * (2147483648 : Int64)) z.2.1 x6 z.2.2.1) else ((fX0_put z.2.2.2 x6 z.2.2.1 (-10000 : Int32)).bind fun q6 => jX0_fillByChance_35_132 q6 (((z.1 * (1103515245 : Int64)) + (12345 : Int64)) - ((z.1 * (1103515245 : Int64)) + (12345 : Int64)) / (2147483648 : Int64) * (2147483648 : Int64)) (z.2.1 + (1 : Int32)) x6 z.2.2.1))

def bX0_fillByChance_23   (z : Int64 × Int32 × Int32 × Tbk) : Option ((Int64 × Int32 × Int32 × Tbk) ⊕ (Int32 × Tbk)) :=
  if z.2.2.2.2.2.1 ≤ z.2.2.1 then (some (.inr (z.2.1, z.2.2.2))) else ((lpF (bX0_fillByChance_35  z.2.2.1) FU (z.1, z.2.1, (0 : Int32), z.2.2.2)).bind fun t7 => some (.inl (t7.1, t7.2.1, (z.2.2.1 + (1 : Int32)), t7.2.2)))

def fX0_fillByChance (bk : Tbk) (x1 : Int32) (x2 : Int32) : Option (Int32 × Tbk) :=
  (lpF (bX0_fillByChance_23  ) FU ((x1).toInt64, (0 : Int32), (0 : Int32), (bk.1, bk.2.1, (if (0 : Int32) < (if (50 : Int32) < x2 then (50 : Int32) else x2) then (if (50 : Int32) < x2 then (50 : Int32) else x2) else (0 : Int32)), bk.2.2.2.1, bk.2.2.2.2))).bind fun t8 => some (t8.1, t8.2)

def jX5_draw_20 (cn : Tcn) (bk : Tbk) (st : Tst) (r0 : Tbk) (r1 : Tbk) (r2 : Tbk) (r3 : Tbk) (r4 : Tbk) (li : Tli)  : Option (Int32 × Tcn × Tbk × Tst × Tbk × Tbk × Tbk × Tbk × Tbk × Tli) :=
  (fX5_refuseBad cn (-2 : Int32)).bind fun q3 => some (q3.1, q3.2, bk, st, r0, r1, r2, r3, r4, li)

def fX5_draw (cn : Tcn) (bk : Tbk) (st : Tst) (r0 : Tbk) (r1 : Tbk) (r2 : Tbk) (r3 : Tbk) (r4 : Tbk) (li : Tli) (x1 : Int32) (x2 : Int32) : Option (Int32 × Tcn × Tbk × Tst × Tbk × Tbk × Tbk × Tbk × Tbk × Tli) :=
  (fX5_isWithin  x1 (0 : Int32) (999999 : Int32)).bind fun q1 => if q1 = 0 then (jX5_draw_20 cn bk st r0 r1 r2 r3 r4 li) else ((fX5_isWithin  x2 (1 : Int32) (50 : Int32)).bind fun q4 => if ¬ q4 = 0 then ((fX5_keepState bk st r0 r1 r2 r3 r4 li).bind fun q6 => (fX0_fillByChance bk x1 x2).bind fun q7 => some (q7.1, cn, q7.2, q6.1, q6.2.1, q6.2.2.1, q6.2.2.2.1, q6.2.2.2.2.1, q6.2.2.2.2.2.1, q6.2.2.2.2.2.2)) else (jX5_draw_20 cn bk st r0 r1 r2 r3 r4 li))

def fX0_removeAll (bk : Tbk)  : Option (Tbk) :=
  some (bk.1, bk.2.1, (0 : Int32), bk.2.2.2.1, bk.2.2.2.2)

def fX5_empties (bk : Tbk) (st : Tst) (r0 : Tbk) (r1 : Tbk) (r2 : Tbk) (r3 : Tbk) (r4 : Tbk) (li : Tli)  : Option (Int32 × Tbk × Tst × Tbk × Tbk × Tbk × Tbk × Tbk × Tli) :=
  (fX0_days bk).bind fun q1 => (fX5_keepState bk st r0 r1 r2 r3 r4 li).bind fun q2 => (fX0_removeAll bk).bind fun q3 => some (q1, q3, q2.1, q2.2.1, q2.2.2.1, q2.2.2.2.1, q2.2.2.2.2.1, q2.2.2.2.2.2.1, q2.2.2.2.2.2.2)

def jX5_isRule_48  (y0 : Int32) : Option (Int32) :=
  gd (decide (y0 &&& 1 = y0)) (some y0)

def jX5_isRule_47   : Option (Int32) :=
  jX5_isRule_48  (0 : Int32)

def fX5_isRule  (x0 : Int32) (x1 : Int32) : Option (Int32) :=
  if ¬ x0 = (4 : Int32) then (if ¬ x0 = (5 : Int32) then ((fX5_isMember  x0).bind fun q3 => if q3 = 0 then (jX5_isRule_47) else ((fX5_isWithin  x1 (0 : Int32) (80 : Int32)).bind fun q6 => if q6 = 0 then (jX5_isRule_47) else (jX5_isRule_48  (1 : Int32)))) else ((fX5_isWithin  x1 (1 : Int32) (12 : Int32)).bind fun q8 => gd (decide (q8 &&& 1 = q8)) (some q8))) else ((fX5_isWithin  x1 (0 : Int32) (9 : Int32)).bind fun q10 => gd (decide (q10 &&& 1 = q10)) (some q10))

def jX0_rule_37 (bk : Tbk) (y0 : Int32) : Option (Int32) :=
  some y0

def fX0_rule (bk : Tbk) (x1 : Int32) : Option (Int32) :=
  if ¬ x1 = (4 : Int32) then (if ¬ x1 = (5 : Int32) then ((fX5_isMember  x1).bind fun q3 => if q3 = 0 then (jX0_rule_37 bk (0 : Int32)) else (gd (inB x1 4) (jX0_rule_37 bk (bk.2.1 (x1).toNatClampNeg)))) else (some bk.2.2.2.2)) else (some bk.2.2.2.1)

def jX0_setRule_40 (bk : Tbk)  : Option (Tbk) :=
  some bk

def fX0_setRule (bk : Tbk) (x1 : Int32) (x2 : Int32) : Option (Tbk) :=
  if ¬ x1 = (4 : Int32) then (if ¬ x1 = (5 : Int32) then ((fX5_isMember  x1).bind fun q3 => if q3 = 0 then (jX0_setRule_40 bk) else (gd (inB x1 4) (jX0_setRule_40 (bk.1, (upd bk.2.1 (x1).toNatClampNeg x2), bk.2.2.1, bk.2.2.2.1, bk.2.2.2.2)))) else (jX0_setRule_40 (bk.1, bk.2.1, bk.2.2.1, bk.2.2.2.1, x2))) else (jX0_setRule_40 (bk.1, bk.2.1, bk.2.2.1, x2, bk.2.2.2.2))

def fX5_rules (cn : Tcn) (bk : Tbk) (st : Tst) (r0 : Tbk) (r1 : Tbk) (r2 : Tbk) (r3 : Tbk) (r4 : Tbk) (li : Tli) (x1 : Int32) (x2 : Int32) : Option (Int32 × Tcn × Tbk × Tst × Tbk × Tbk × Tbk × Tbk × Tbk × Tli) :=
  (fX5_isRule  x1 x2).bind fun q1 => if ¬ q1 = 0 then ((fX0_rule bk x1).bind fun q3 => (fX5_keepState bk st r0 r1 r2 r3 r4 li).bind fun q4 => (fX0_setRule bk x1 x2).bind fun q5 => some (q3, cn, q5, q4.1, q4.2.1, q4.2.2.1, q4.2.2.2.1, q4.2.2.2.2.1, q4.2.2.2.2.2.1, q4.2.2.2.2.2.2)) else ((fX5_refuseBad cn (-2 : Int32)).bind fun q6 => some (q6.1, q6.2, bk, st, r0, r1, r2, r3, r4, li))

def jX5_at_18 (cn : Tcn) (bk : Tbk)  : Option (Int32 × Tcn) :=
  (fX5_refuseBad cn (-20000 : Int32)).bind fun q3 => some (q3.1, q3.2)

def fX5_at (cn : Tcn) (bk : Tbk) (x1 : Int32) (x2 : Int32) : Option (Int32 × Tcn) :=
  (fX0_has bk x1).bind fun q1 => if q1 = 0 then (jX5_at_18 cn bk) else ((fX5_isMember  x2).bind fun q4 => if ¬ q4 = 0 then ((fX0_member bk x1 x2).bind fun q6 => some (q6, cn)) else (jX5_at_18 cn bk))

def fX5_valueOf  (x0 : Int32) : Option (UInt32) :=
  gd (n32 (FP.fdiv (FP.i2f x0) (1092616192 : UInt32))) (some (FP.fdiv (FP.i2f x0) (1092616192 : UInt32)))

def jX2_takeNotes_12_47 (bk : Tbk) (li : Tli) (x2 : Int32) (x3 : Int32) (x4 : Int32) (y1 : Int32) (y2 : Int32) : Option ((Int32 × Tli) ⊕ Tli) :=
  gd (inB y1 200) ((fX5_valueOf  x4).bind fun q6 => gd (inB ((x2 * (4 : Int32)) + x3) 200) (some (.inl ((x3 + (1 : Int32)), ((vf_upd li.1 (((x2 * (4 : Int32)) + x3)).toNatClampNeg q6), (upd li.2.1 (y1).toNatClampNeg (vp_nar .boolean y2)), li.2.2.1, li.2.2.2.1, li.2.2.2.2.1, li.2.2.2.2.2.1, li.2.2.2.2.2.2.1, li.2.2.2.2.2.2.2.1, li.2.2.2.2.2.2.2.2)))))

def bX2_takeNotes_12 (bk : Tbk) (x2 : Int32) (z : Int32 × Tli) : Option ((Int32 × Tli) ⊕ Tli) :=
  if (4 : Int32) ≤ z.1 then (some (.inr z.2)) else ((fX0_member bk x2 z.1).bind fun q3 => if q3 = (-10000 : Int32) then (jX2_takeNotes_12_47 bk z.2 x2 z.1 q3 ((x2 * (4 : Int32)) + z.1) (0 : Int32)) else (jX2_takeNotes_12_47 bk z.2 x2 z.1 q3 ((x2 * (4 : Int32)) + z.1) (1 : Int32)))

def bX2_takeNotes_2 (bk : Tbk)  (z : Int32 × Tli) : Option ((Int32 × Tli) ⊕ Tli) :=
  if z.2.2.2.2.2.2.2.2.1 ≤ z.1 then (some (.inr z.2)) else ((lpF (bX2_takeNotes_12 bk z.1) FU ((0 : Int32), z.2)).bind fun t8 => some (.inl ((z.1 + (1 : Int32)), t8)))

def fX2_takeNotes (bk : Tbk) (li : Tli)  : Option (Tli) :=
  (lpF (bX2_takeNotes_2 bk ) FU ((0 : Int32), li)).bind fun t9 => some t9

def jX2_measure_8_107 (li : Tli) (x1 : Int32) (x2 : Int32) (x3 : UInt32) (x4 : UInt32) (x5 : Int32) : Option ((UInt32 × UInt32 × Int32) ⊕ (UInt32 × UInt32)) :=
  some (.inl (x3, x4, (x5 + (1 : Int32))))

def bX2_measure_8 (li : Tli) (x1 : Int32) (x2 : Int32) (z : UInt32 × UInt32 × Int32) : Option ((UInt32 × UInt32 × Int32) ⊕ (UInt32 × UInt32)) :=
  if (4 : Int32) ≤ z.2.2 then (some (.inr (z.1, z.2.1))) else (gd (inB ((x1 * (4 : Int32)) + z.2.2) 200) (if (li.2.1 (((x1 * (4 : Int32)) + z.2.2)).toNatClampNeg) = 0 then (jX2_measure_8_107 li x1 x2 z.1 z.2.1 z.2.2) else (gd (inB ((x2 * (4 : Int32)) + z.2.2) 200) (if (li.2.1 (((x2 * (4 : Int32)) + z.2.2)).toNatClampNeg) = 0 then (jX2_measure_8_107 li x1 x2 z.1 z.2.1 z.2.2) else (gd (inB z.2.2 4) (if (Op.cmpValue (FP.fcmp (li.2.2.1 (z.2.2).toNatClampNeg) FP.fconst0) CmpOp.l) ≤ 0 then (jX2_measure_8_107 li x1 x2 z.1 z.2.1 z.2.2) else (gd (inB ((x1 * (4 : Int32)) + z.2.2) 200) (gd (inB ((x2 * (4 : Int32)) + z.2.2) 200) (gd (n32 (FP.fsub (li.1 (((x1 * (4 : Int32)) + z.2.2)).toNatClampNeg) (li.1 (((x2 * (4 : Int32)) + z.2.2)).toNatClampNeg))) (gd (inB z.2.2 4) (gd (n32 (FP.fmul (FP.fsub (li.1 (((x1 * (4 : Int32)) + z.2.2)).toNatClampNeg) (li.1 (((x2 * (4 : Int32)) + z.2.2)).toNatClampNeg)) (FP.fsub (li.1 (((x1 * (4 : Int32)) + z.2.2)).toNatClampNeg) (li.1 (((x2 * (4 : Int32)) + z.2.2)).toNatClampNeg)))) (gd (n32 (FP.fmul (li.2.2.1 (z.2.2).toNatClampNeg) (FP.fmul (FP.fsub (li.1 (((x1 * (4 : Int32)) + z.2.2)).toNatClampNeg) (li.1 (((x2 * (4 : Int32)) + z.2.2)).toNatClampNeg)) (FP.fsub (li.1 (((x1 * (4 : Int32)) + z.2.2)).toNatClampNeg) (li.1 (((x2 * (4 : Int32)) + z.2.2)).toNatClampNeg))))) (gd (n32 (FP.fadd z.1 (FP.fmul (li.2.2.1 (z.2.2).toNatClampNeg) (FP.fmul (FP.fsub (li.1 (((x1 * (4 : Int32)) + z.2.2)).toNatClampNeg) (li.1 (((x2 * (4 : Int32)) + z.2.2)).toNatClampNeg)) (FP.fsub (li.1 (((x1 * (4 : Int32)) + z.2.2)).toNatClampNeg) (li.1 (((x2 * (4 : Int32)) + z.2.2)).toNatClampNeg)))))) (gd (inB z.2.2 4) (gd (n32 (FP.fadd z.2.1 (li.2.2.1 (z.2.2).toNatClampNeg))) (jX2_measure_8_107 li x1 x2 (FP.fadd z.1 (FP.fmul (li.2.2.1 (z.2.2).toNatClampNeg) (FP.fmul (FP.fsub (li.1 (((x1 * (4 : Int32)) + z.2.2)).toNatClampNeg) (li.1 (((x2 * (4 : Int32)) + z.2.2)).toNatClampNeg)) (FP.fsub (li.1 (((x1 * (4 : Int32)) + z.2.2)).toNatClampNeg) (li.1 (((x2 * (4 : Int32)) + z.2.2)).toNatClampNeg))))) (FP.fadd z.2.1 (li.2.2.1 (z.2.2).toNatClampNeg)) z.2.2))))))))))))))))

def jX2_measure_129 (li : Tli) (y0 : UInt32) : Option (UInt32) :=
  some y0

def fX2_measure (li : Tli) (x1 : Int32) (x2 : Int32) : Option (UInt32) :=
  (lpF (bX2_measure_8 li x1 x2) FU (FP.fconst0, FP.fconst0, (0 : Int32))).bind fun t17 => if (Op.cmpValue (FP.fcmp t17.2 FP.fconst0) CmpOp.l) ≤ 0 then (jX2_measure_129 li (3212836864 : UInt32)) else (gd (n32 (FP.fdiv t17.1 t17.2)) (jX2_measure_129 li (FP.fdiv t17.1 t17.2)))

def fX0_gap (bk : Tbk)  : Option (Int32) :=
  some bk.2.2.2.1

def jX2_has_17 (li : Tli) (y0 : Int32) : Option (Int32) :=
  gd (decide (y0 &&& 1 = y0)) (some y0)

def jX2_has_16 (li : Tli)  : Option (Int32) :=
  jX2_has_17 li (0 : Int32)

def fX2_has (li : Tli) (x1 : Int32) : Option (Int32) :=
  if x1 < 0 then (jX2_has_16 li) else (if li.2.2.2.2.2.2.2.1 ≤ x1 then (jX2_has_16 li) else (jX2_has_17 li (1 : Int32)))

def jX2_between_37 (li : Tli) (y0 : UInt32) : Option (UInt32) :=
  some y0

def jX2_between_35 (li : Tli)  : Option (UInt32) :=
  jX2_between_37 li (3212836864 : UInt32)

def fX2_between (li : Tli) (x1 : Int32) (x2 : Int32) : Option (UInt32) :=
  (fX2_has li x1).bind fun q1 => if q1 = 0 then (jX2_between_35 li) else ((fX2_has li x2).bind fun q3 => if q3 = 0 then (jX2_between_35 li) else (if x1 = x2 then (jX2_between_35 li) else (gd (inB ((x1 * (50 : Int32)) + x2) 2500) (jX2_between_37 li (li.2.2.2.1 (((x1 * (50 : Int32)) + x2)).toNatClampNeg)))))

def jX2_enter_10_66 (li : Tli) (x1 : Int32) (x2 : Int32) (x3 : UInt32) (x4 : Int32) (x5 : Int32) (x6 : Int32) : Option ((Int32 × Tli) ⊕ (Int32 × Tli)) :=
  some (.inl ((x6 + (-1 : Int32)), li))

def bX2_enter_10  (x1 : Int32) (x2 : Int32) (x3 : UInt32) (x4 : Int32) (x5 : Int32) (z : Int32 × Tli) : Option ((Int32 × Tli) ⊕ (Int32 × Tli)) :=
  if z.1 ≤ 0 then (some (.inr (z.1, z.2))) else (gd (inB ((x5 + z.1) - (1 : Int32)) 600) ((fX2_between z.2 x1 (z.2.2.2.2.2.1 (((x5 + z.1) - (1 : Int32))).toNatClampNeg)).bind fun q3 => if 0 ≤ (Op.cmpValue (FP.fcmp x3 q3) CmpOp.g) then (some (.inr (z.1, z.2))) else (if (12 : Int32) ≤ z.1 then (jX2_enter_10_66 z.2 x1 x2 x3 x4 x5 z.1) else (gd (inB ((x5 + z.1) - (1 : Int32)) 600) (gd (inB (x5 + z.1) 600) (jX2_enter_10_66 (z.2.1, z.2.2.1, z.2.2.2.1, z.2.2.2.2.1, (upd z.2.2.2.2.2.1 ((x5 + z.1)).toNatClampNeg (z.2.2.2.2.2.1 (((x5 + z.1) - (1 : Int32))).toNatClampNeg)), z.2.2.2.2.2.2.1, z.2.2.2.2.2.2.2.1, z.2.2.2.2.2.2.2.2.1, z.2.2.2.2.2.2.2.2.2) x1 x2 x3 x4 x5 z.1))))))

def jX2_enter_90 (li : Tli) (x4 : Int32) : Option (Int32 × Tli) :=
  some ((if (12 : Int32) < (x4 + (1 : Int32)) then (12 : Int32) else (x4 + (1 : Int32))), li)

def fX2_enter (li : Tli) (x1 : Int32) (x2 : Int32) (x3 : UInt32) (x4 : Int32) : Option (Int32 × Tli) :=
  (lpF (bX2_enter_10  x1 x2 x3 x4 (x1 * (12 : Int32))) FU (x4, li)).bind fun t8 => if (12 : Int32) ≤ t8.1 then (jX2_enter_90 t8.2 x4) else (gd (inB ((x1 * (12 : Int32)) + t8.1) 600) (jX2_enter_90 (t8.2.1, t8.2.2.1, t8.2.2.2.1, t8.2.2.2.2.1, (upd t8.2.2.2.2.2.1 (((x1 * (12 : Int32)) + t8.1)).toNatClampNeg x2), t8.2.2.2.2.2.2.1, t8.2.2.2.2.2.2.2.1, t8.2.2.2.2.2.2.2.2.1, t8.2.2.2.2.2.2.2.2.2) x4))

def jX2_rank_8_87 (li : Tli) (x1 : Int32) (x2 : Int32) (x3 : Int32) (x4 : Int32) (x5 : Int32) : Option ((Int32 × Int32 × Int32 × Tli) ⊕ (Int32 × Int32 × Tli)) :=
  some (.inl (x3, x4, (x5 + (1 : Int32)), li))

def jX2_rank_8_43 (li : Tli) (x1 : Int32) (x2 : Int32) (x3 : Int32) (x4 : Int32) (x5 : Int32) (y0 : Int32) : Option ((Int32 × Int32 × Int32 × Tli) ⊕ (Int32 × Int32 × Tli)) :=
  gd (inB ((x1 * (50 : Int32)) + x5) 2500) (if ¬ y0 = 0 then (jX2_rank_8_87 li x1 x2 x3 x4 x5) else (if (Op.cmpValue (FP.fcmp (li.2.2.2.1 (((x1 * (50 : Int32)) + x5)).toNatClampNeg) FP.fconst0) CmpOp.l) < 0 then (jX2_rank_8_87 li x1 x2 x3 x4 x5) else ((fX2_enter li x1 x5 (li.2.2.2.1 (((x1 * (50 : Int32)) + x5)).toNatClampNeg) x4).bind fun q6 => jX2_rank_8_87 q6.2 x1 x2 (x3 + (1 : Int32)) q6.1 x5)))

def jX2_rank_8_38 (li : Tli) (x1 : Int32) (x2 : Int32) (x3 : Int32) (x4 : Int32) (x5 : Int32) : Option ((Int32 × Int32 × Int32 × Tli) ⊕ (Int32 × Int32 × Tli)) :=
  jX2_rank_8_43 li x1 x2 x3 x4 x5 (1 : Int32)

def bX2_rank_8  (x1 : Int32) (x2 : Int32) (z : Int32 × Int32 × Int32 × Tli) : Option ((Int32 × Int32 × Int32 × Tli) ⊕ (Int32 × Int32 × Tli)) :=
  if z.2.2.2.2.2.2.2.2.2.2.1 ≤ (z.2.2.1 + (1 : Int32)) then (some (.inr (z.1, z.2.1, z.2.2.2))) else (if (if 0 ≤ (z.2.2.1 - x1) then (z.2.2.1 - x1) else 0 - (z.2.2.1 - x1)) ≤ x2 then (jX2_rank_8_38 z.2.2.2 x1 x2 z.1 z.2.1 z.2.2.1) else (if ¬ (z.2.2.1 + (1 : Int32)) = x1 then (jX2_rank_8_43 z.2.2.2 x1 x2 z.1 z.2.1 z.2.2.1 (0 : Int32)) else (jX2_rank_8_38 z.2.2.2 x1 x2 z.1 z.2.1 z.2.2.1)))

def fX2_rank (li : Tli) (x1 : Int32) (x2 : Int32) : Option (Tli) :=
  (lpF (bX2_rank_8  x1 x2) FU ((0 : Int32), (0 : Int32), (0 : Int32), li)).bind fun t8 => gd (inB x1 50) (gd (inB x1 50) (some (t8.2.2.1, t8.2.2.2.1, t8.2.2.2.2.1, t8.2.2.2.2.2.1, t8.2.2.2.2.2.2.1, (upd t8.2.2.2.2.2.2.2.1 (x1).toNatClampNeg t8.2.1), (upd t8.2.2.2.2.2.2.2.2.1 (x1).toNatClampNeg t8.1), t8.2.2.2.2.2.2.2.2.2.1, t8.2.2.2.2.2.2.2.2.2.2)))

def jX2_learn_34_62 (bk : Tbk) (li : Tli) (x2 : Int32) (x3 : Int32) (y1 : Int32) (y2 : UInt32) : Option ((Int32 × Tli) ⊕ Tli) :=
  gd (inB y1 4) (some (.inl ((x3 + (1 : Int32)), (li.1, li.2.1, (vf_upd li.2.2.1 (y1).toNatClampNeg y2), li.2.2.2.1, li.2.2.2.2.1, li.2.2.2.2.2.1, li.2.2.2.2.2.2.1, li.2.2.2.2.2.2.2.1, li.2.2.2.2.2.2.2.2))))

def bX2_learn_34 (bk : Tbk) (x2 : Int32) (z : Int32 × Tli) : Option ((Int32 × Tli) ⊕ Tli) :=
  if (4 : Int32) ≤ z.1 then (some (.inr z.2)) else (if ¬ z.1 = x2 then ((fX0_rule bk z.1).bind fun q6 => gd (n32 (FP.fdiv (FP.i2f q6) (1090519040 : UInt32))) (jX2_learn_34_62 bk z.2 x2 z.1 z.1 (FP.fdiv (FP.i2f q6) (1090519040 : UInt32)))) else (jX2_learn_34_62 bk z.2 x2 z.1 z.1 FP.fconst0))

def bX2_learn_84 (bk : Tbk) (x3 : Int32) (z : Int32 × Tli) : Option ((Int32 × Tli) ⊕ Tli) :=
  if z.2.2.2.2.2.2.2.2.1 ≤ z.1 then (some (.inr z.2)) else ((fX2_measure z.2 x3 z.1).bind fun q12 => gd (inB ((x3 * (50 : Int32)) + z.1) 2500) (gd (inB ((z.1 * (50 : Int32)) + x3) 2500) (some (.inl ((z.1 + (1 : Int32)), (z.2.1, z.2.2.1, z.2.2.2.1, (vf_upd (vf_upd z.2.2.2.2.1 (((x3 * (50 : Int32)) + z.1)).toNatClampNeg q12) (((z.1 * (50 : Int32)) + x3)).toNatClampNeg q12), z.2.2.2.2.2.1, z.2.2.2.2.2.2.1, z.2.2.2.2.2.2.2.1, z.2.2.2.2.2.2.2.2.1, z.2.2.2.2.2.2.2.2.2))))))

def bX2_learn_71 (bk : Tbk)  (z : Int32 × Tli) : Option ((Int32 × Tli) ⊕ Tli) :=
  if z.2.2.2.2.2.2.2.2.1 ≤ z.1 then (some (.inr z.2)) else ((lpF (bX2_learn_84 bk z.1) FU ((z.1 + (1 : Int32)), z.2)).bind fun t15 => some (.inl ((z.1 + (1 : Int32)), t15)))

def bX2_learn_144 (bk : Tbk)  (z : Int32 × Tli) : Option ((Int32 × Tli) ⊕ Tli) :=
  if z.2.2.2.2.2.2.2.2.1 ≤ z.1 then (some (.inr z.2)) else ((fX0_gap bk).bind fun q18 => (fX2_rank z.2 z.1 q18).bind fun q19 => some (.inl ((z.1 + (1 : Int32)), q19)))

def fX2_learn (bk : Tbk) (li : Tli) (x2 : Int32) : Option (Tli) :=
  if ¬ li.2.2.2.2.2.2.2.2 = x2 then ((fX0_days bk).bind fun q2 => (fX2_takeNotes bk (li.1, li.2.1, li.2.2.1, li.2.2.2.1, li.2.2.2.2.1, li.2.2.2.2.2.1, li.2.2.2.2.2.2.1, (if (50 : Int32) < q2 then (50 : Int32) else q2), x2)).bind fun q3 => (lpF (bX2_learn_34 bk x2) FU ((0 : Int32), q3)).bind fun t9 => (lpF (bX2_learn_71 bk ) FU ((0 : Int32), t9)).bind fun t16 => (lpF (bX2_learn_144 bk ) FU ((0 : Int32), t16)).bind fun t20 => some t20) else (some li)

def bX5_floatBits_24  (x0 : UInt32) (z : UInt32 × Int32) : Option ((UInt32 × Int32) ⊕ (UInt32 × Int32)) :=
  if (Op.cmpValue (FP.fcmp z.1 FP.fconst2) CmpOp.l) < 0 then (some (.inr (z.1, z.2))) else (if (254 : Int32) ≤ z.2 then (some (.inr (z.1, z.2))) else (gd (n32 (FP.fdiv z.1 FP.fconst2)) (some (.inl ((FP.fdiv z.1 FP.fconst2), (z.2 + (1 : Int32)))))))

def bX5_floatBits_47  (x0 : UInt32) (z : UInt32 × Int32) : Option ((UInt32 × Int32) ⊕ (UInt32 × Int32)) :=
  if 0 ≤ (Op.cmpValue (FP.fcmp z.1 FP.fconst1) CmpOp.g) then (some (.inr (z.1, z.2))) else (if z.2 ≤ (1 : Int32) then (some (.inr (z.1, z.2))) else (gd (n32 (FP.fmul z.1 FP.fconst2)) (some (.inl ((FP.fmul z.1 FP.fconst2), (z.2 + (-1 : Int32)))))))

def jX5_floatBits_95  (y0 : Int32) : Option (Int32) :=
  some y0

def jX5_floatBits_20  (x0 : UInt32) (y0 : UInt32) : Option (Int32) :=
  (lpF (bX5_floatBits_24  x0) FU (y0, (127 : Int32))).bind fun t6 => (lpF (bX5_floatBits_47  x0) FU (t6.1, t6.2)).bind fun t10 => gd (n32 (FP.fsub t10.1 FP.fconst1)) (gd (n32 (FP.fmul (FP.fsub t10.1 FP.fconst1) (1258291200 : UInt32))) (if 0 ≤ (Op.cmpValue (FP.fcmp x0 FP.fconst0) CmpOp.g) then (jX5_floatBits_95  ((t10.2 <<< ((23 : Int32) &&& 31)) ||| (FP.f2i (FP.fmul (FP.fsub t10.1 FP.fconst1) (1258291200 : UInt32))))) else (jX5_floatBits_95  (((t10.2 <<< ((23 : Int32) &&& 31)) ||| (FP.f2i (FP.fmul (FP.fsub t10.1 FP.fconst1) (1258291200 : UInt32)))) ||| (-2147483648 : Int32)))))

def fX5_floatBits  (x0 : UInt32) : Option (Int32) :=
  if ¬ (Op.cmpValue (FP.fcmp x0 FP.fconst0) CmpOp.l) = 0 then (if 0 ≤ (Op.cmpValue (FP.fcmp x0 FP.fconst0) CmpOp.g) then (jX5_floatBits_20  x0 x0) else (jX5_floatBits_20  x0 (FP.fneg x0))) else (some (0 : Int32))

def jX5_bitsOrNone_14  (y0 : Int32) : Option (Int32) :=
  some y0

def fX5_bitsOrNone  (x0 : UInt32) : Option (Int32) :=
  if 0 ≤ (Op.cmpValue (FP.fcmp x0 FP.fconst0) CmpOp.g) then ((fX5_floatBits  x0).bind fun q2 => jX5_bitsOrNone_14  q2) else (jX5_bitsOrNone_14  (-1 : Int32))

def jX5_distance_27 (cn : Tcn) (bk : Tbk) (li : Tli)  : Option (Int32 × Tcn × Tli) :=
  (fX5_refuseBad cn (-2 : Int32)).bind fun q3 => some (q3.1, q3.2, li)

def fX5_distance (cn : Tcn) (bk : Tbk) (li : Tli) (x1 : Int32) (x2 : Int32) : Option (Int32 × Tcn × Tli) :=
  (fX0_has bk x1).bind fun q1 => if q1 = 0 then (jX5_distance_27 cn bk li) else ((fX0_has bk x2).bind fun q4 => if q4 = 0 then (jX5_distance_27 cn bk li) else (if ¬ x1 = x2 then ((fX2_learn bk li (-1 : Int32)).bind fun q7 => (fX2_between q7 x1 x2).bind fun q8 => (fX5_bitsOrNone  q8).bind fun q9 => some (q9, cn, q7)) else (jX5_distance_27 cn bk li)))

def fX0_few (bk : Tbk)  : Option (Int32) :=
  some bk.2.2.2.2

def jX2_nearOnes_22 (li : Tli) (y0 : Int32) : Option (Int32) :=
  some y0

def fX2_nearOnes (li : Tli) (x1 : Int32) (x2 : Int32) : Option (Int32) :=
  (fX2_has li x1).bind fun q1 => if q1 = 0 then (jX2_nearOnes_22 li (0 : Int32)) else (gd (inB x1 50) (jX2_nearOnes_22 li (if x2 < (li.2.2.2.2.2.1 (x1).toNatClampNeg) then x2 else (li.2.2.2.2.2.1 (x1).toNatClampNeg))))

def jX2_near_37 (li : Tli) (y0 : Int32) : Option (Int32) :=
  some y0

def jX2_near_36 (li : Tli)  : Option (Int32) :=
  jX2_near_37 li (-1 : Int32)

def fX2_near (li : Tli) (x1 : Int32) (x2 : Int32) : Option (Int32) :=
  (fX2_has li x1).bind fun q1 => if q1 = 0 then (jX2_near_36 li) else (if x2 < 0 then (jX2_near_36 li) else (gd (inB x1 50) (if (li.2.2.2.2.2.1 (x1).toNatClampNeg) ≤ x2 then (jX2_near_36 li) else (gd (inB ((x1 * (12 : Int32)) + x2) 600) (jX2_near_37 li (li.2.2.2.2.1 (((x1 * (12 : Int32)) + x2)).toNatClampNeg))))))

def jX5_nearest_24 (cn : Tcn) (bk : Tbk) (li : Tli)  : Option (Int32 × Tcn × Tli) :=
  (fX5_refuseBad cn (-2 : Int32)).bind fun q3 => some (q3.1, q3.2, li)

def jX5_nearest_97 (cn : Tcn) (bk : Tbk) (li : Tli) (y0 : Int32) : Option (Int32 × Tcn × Tli) :=
  some (y0, cn, li)

def fX5_nearest (cn : Tcn) (bk : Tbk) (li : Tli) (x1 : Int32) (x2 : Int32) (x3 : Int32) : Option (Int32 × Tcn × Tli) :=
  (fX0_has bk x1).bind fun q1 => if q1 = 0 then (jX5_nearest_24 cn bk li) else (if x2 < 0 then (jX5_nearest_24 cn bk li) else ((fX5_isWithin  x3 (0 : Int32) (1 : Int32)).bind fun q5 => if ¬ q5 = 0 then ((fX2_learn bk li (-1 : Int32)).bind fun q7 => (fX0_few bk).bind fun q8 => (fX2_nearOnes q7 x1 q8).bind fun q9 => if x2 < q9 then ((fX2_near q7 x1 x2).bind fun q11 => if ¬ x3 = 0 then ((fX2_between q7 x1 q11).bind fun q13 => (fX5_bitsOrNone  q13).bind fun q14 => jX5_nearest_97 cn bk q7 q14) else (jX5_nearest_97 cn bk q7 q11)) else (some ((-1 : Int32), cn, q7))) else (jX5_nearest_24 cn bk li)))

def jX2_likeOnes_18 (li : Tli) (y0 : Int32) : Option (Int32) :=
  some y0

def fX2_likeOnes (li : Tli) (x1 : Int32) : Option (Int32) :=
  (fX2_has li x1).bind fun q1 => if q1 = 0 then (jX2_likeOnes_18 li (0 : Int32)) else (gd (inB x1 50) (jX2_likeOnes_18 li (li.2.2.2.2.2.2.1 (x1).toNatClampNeg)))

def fX5_likes (cn : Tcn) (bk : Tbk) (li : Tli) (x1 : Int32) : Option (Int32 × Tcn × Tli) :=
  (fX0_has bk x1).bind fun q1 => if ¬ q1 = 0 then ((fX2_learn bk li (-1 : Int32)).bind fun q3 => (fX2_likeOnes q3 x1).bind fun q4 => some (q4, cn, q3)) else ((fX5_refuseBad cn (-2 : Int32)).bind fun q5 => some (q5.1, q5.2, li))

def bX2_isNear_3 (li : Tli) (x1 : Int32) (x2 : Int32) (x3 : Int32) (z : Int32) : Option ((Int32) ⊕ (Unit ⊕ Unit)) :=
  (fX2_nearOnes li x1 x3).bind fun q1 => if q1 ≤ z then (some (.inr (.inr ()))) else ((fX2_near li x1 z).bind fun q3 => if ¬ q3 = x2 then (some (.inl (z + (1 : Int32)))) else (some (.inr (.inl ()))))

def fX2_isNear (li : Tli) (x1 : Int32) (x2 : Int32) (x3 : Int32) : Option (Int32) :=
  (lpF (bX2_isNear_3 li x1 x2 x3) FU (0 : Int32)).bind fun t5 => (match t5 with | (.inl u5) => (some (1 : Int32)) | (.inr u5) => (some (0 : Int32)))

def jX5_serves_34_67 (cn : Tcn) (bk : Tbk) (li : Tli) (x1 : Int32) (x2 : Int32) (x3 : Int32) : Option ((Int32 × Int32) ⊕ Int32) :=
  some (.inl (x2, (x3 + (1 : Int32))))

def bX5_serves_34 (cn : Tcn) (bk : Tbk) (li : Tli) (x1 : Int32) (z : Int32 × Int32) : Option ((Int32 × Int32) ⊕ Int32) :=
  (fX0_days bk).bind fun q4 => if q4 ≤ z.2 then (some (.inr z.1)) else ((fX0_few bk).bind fun q6 => (fX2_isNear li z.2 x1 q6).bind fun q7 => if q7 = 0 then (jX5_serves_34_67 cn bk li x1 z.1 z.2) else (jX5_serves_34_67 cn bk li x1 (z.1 + (1 : Int32)) z.2))

def fX5_serves (cn : Tcn) (bk : Tbk) (li : Tli) (x1 : Int32) : Option (Int32 × Tcn × Tli) :=
  (fX0_has bk x1).bind fun q1 => if ¬ q1 = 0 then ((fX2_learn bk li (-1 : Int32)).bind fun q3 => (lpF (bX5_serves_34 cn bk q3 x1) FU ((0 : Int32), (0 : Int32))).bind fun t9 => some (t9, cn, q3)) else ((fX5_refuseBad cn (-2 : Int32)).bind fun q10 => some (q10.1, q10.2, li))

def jX5_isLess_23  (y0 : Int32) : Option (Int32) :=
  gd (decide (y0 &&& 1 = y0)) (some y0)

def jX5_isLess_22   : Option (Int32) :=
  jX5_isLess_23  (0 : Int32)

def jX5_isLess_18   : Option (Int32) :=
  jX5_isLess_23  (1 : Int32)

def fX5_isLess  (x0 : UInt32) (x1 : UInt32) : Option (Int32) :=
  if (Op.cmpValue (FP.fcmp x0 FP.fconst0) CmpOp.l) < 0 then (jX5_isLess_22) else (if (Op.cmpValue (FP.fcmp x1 FP.fconst0) CmpOp.g) < 0 then (jX5_isLess_18) else (if 0 ≤ (Op.cmpValue (FP.fcmp x0 x1) CmpOp.g) then (jX5_isLess_22) else (jX5_isLess_18)))

def jX5_twins_57_102 (cn : Tcn) (bk : Tbk) (li : Tli) (x1 : Int32) (x2 : Int32) (x3 : Int32) (x4 : UInt32) (x5 : Int32) (x6 : Int32) : Option ((Int32 × Int32 × UInt32 × Int32) ⊕ (Int32 × Int32 × UInt32)) :=
  some (.inl (x2, x3, x4, (x6 + (1 : Int32))))

def bX5_twins_57 (cn : Tcn) (bk : Tbk) (li : Tli) (x1 : Int32) (x5 : Int32) (z : Int32 × Int32 × UInt32 × Int32) : Option ((Int32 × Int32 × UInt32 × Int32) ⊕ (Int32 × Int32 × UInt32)) :=
  (fX0_days bk).bind fun q6 => if q6 ≤ z.2.2.2 then (some (.inr (z.1, z.2.1, z.2.2.1))) else ((fX2_between li x5 z.2.2.2).bind fun q8 => (fX5_isLess  q8 z.2.2.1).bind fun q9 => if q9 = 0 then (jX5_twins_57_102 cn bk li x1 z.1 z.2.1 z.2.2.1 x5 z.2.2.2) else (jX5_twins_57_102 cn bk li x1 x5 z.2.2.2 q8 x5 z.2.2.2))

def bX5_twins_39 (cn : Tcn) (bk : Tbk) (li : Tli) (x1 : Int32) (z : Int32 × Int32 × UInt32 × Int32) : Option ((Int32 × Int32 × UInt32 × Int32) ⊕ (Int32 × Int32 × UInt32)) :=
  (fX0_days bk).bind fun q4 => if q4 ≤ z.2.2.2 then (some (.inr (z.1, z.2.1, z.2.2.1))) else ((lpF (bX5_twins_57 cn bk li x1 z.2.2.2) FU (z.1, z.2.1, z.2.2.1, (z.2.2.2 + (1 : Int32)))).bind fun t11 => some (.inl (t11.1, t11.2.1, t11.2.2, (z.2.2.2 + (1 : Int32)))))

def jX5_twins_134 (cn : Tcn) (bk : Tbk) (li : Tli) (y0 : Int32) : Option (Int32 × Tcn × Tli) :=
  some (y0, cn, li)

def fX5_twins (cn : Tcn) (bk : Tbk) (li : Tli) (x1 : Int32) : Option (Int32 × Tcn × Tli) :=
  (fX5_isWithin  x1 (0 : Int32) (2 : Int32)).bind fun q1 => if ¬ q1 = 0 then ((fX2_learn bk li (-1 : Int32)).bind fun q3 => (lpF (bX5_twins_39 cn bk q3 x1) FU ((-1 : Int32), (-1 : Int32), (3212836864 : UInt32), (0 : Int32))).bind fun t12 => if ¬ x1 = (2 : Int32) then (if ¬ x1 = 0 then (jX5_twins_134 cn bk q3 t12.2.1) else (jX5_twins_134 cn bk q3 t12.1)) else ((fX5_bitsOrNone  t12.2.2).bind fun q15 => some (q15, cn, q3))) else ((fX5_refuseBad cn (-2 : Int32)).bind fun q16 => some (q16.1, q16.2, li))

def jX5_strangers_34_67 (cn : Tcn) (bk : Tbk) (li : Tli) (x1 : Int32) (x2 : Int32) (x3 : Int32) : Option ((Int32 × Int32) ⊕ Int32) :=
  some (.inl (x2, (x3 + (1 : Int32))))

def bX5_strangers_34 (cn : Tcn) (bk : Tbk) (li : Tli) (x1 : Int32) (z : Int32 × Int32) : Option ((Int32 × Int32) ⊕ Int32) :=
  (fX0_days bk).bind fun q4 => if q4 ≤ z.2 then (some (.inr z.1)) else (if z.2 = x1 then (jX5_strangers_34_67 cn bk li x1 z.1 z.2) else ((fX2_between li x1 z.2).bind fun q7 => if 0 ≤ (Op.cmpValue (FP.fcmp q7 FP.fconst0) CmpOp.g) then (jX5_strangers_34_67 cn bk li x1 z.1 z.2) else (jX5_strangers_34_67 cn bk li x1 (z.1 + (1 : Int32)) z.2)))

def fX5_strangers (cn : Tcn) (bk : Tbk) (li : Tli) (x1 : Int32) : Option (Int32 × Tcn × Tli) :=
  (fX0_has bk x1).bind fun q1 => if ¬ q1 = 0 then ((fX2_learn bk li (-1 : Int32)).bind fun q3 => (lpF (bX5_strangers_34 cn bk q3 x1) FU ((0 : Int32), (0 : Int32))).bind fun t9 => some (t9, cn, q3)) else ((fX5_refuseBad cn (-2 : Int32)).bind fun q10 => some (q10.1, q10.2, li))

def jX1_add_87 (fo : Tfo)  : Option (Tfo) :=
  some fo

def bX1_add_34  (x1 : Int32) (z : Int32 × Tfo) : Option ((Int32 × Tfo) ⊕ (Int32 × Tfo)) :=
  if z.1 ≤ 0 then (some (.inr (z.1, z.2))) else (gd (inB (z.1 - (1 : Int32)) 12) (if (z.2.2.2.1 ((z.1 - (1 : Int32))).toNatClampNeg) ≤ x1 then (some (.inr (z.1, z.2))) else (gd (inB (z.1 - (1 : Int32)) 12) (gd (inB z.1 12) (some (.inl ((z.1 + (-1 : Int32)), (z.2.1, z.2.2.1, (upd z.2.2.2.1 (z.1).toNatClampNeg (z.2.2.2.1 ((z.1 - (1 : Int32))).toNatClampNeg)), z.2.2.2.2))))))))

def fX1_add (fo : Tfo) (x1 : Int32) (x2 : UInt32) : Option (Tfo) :=
  if (12 : Int32) ≤ fo.2.2.2 then (jX1_add_87 fo) else (gd (inB fo.2.2.2 12) (gd (inB fo.2.2.2 12) ((lpF (bX1_add_34  x1) FU (fo.2.2.2, ((upd fo.1 (fo.2.2.2).toNatClampNeg x1), (vf_upd fo.2.1 (fo.2.2.2).toNatClampNeg x2), fo.2.2.1, fo.2.2.2))).bind fun t9 => gd (inB t9.1 12) (jX1_add_87 (t9.2.1, t9.2.2.1, (upd t9.2.2.2.1 (t9.1).toNatClampNeg x1), (t9.2.2.2.2 + (1 : Int32)))))))

def jX1_gather_8_62 (bk : Tbk) (li : Tli) (fo : Tfo) (x3 : Int32) (x4 : Int32) (x5 : Int32) (x6 : Int32) : Option ((Int32 × Tfo) ⊕ Tfo) :=
  some (.inl ((x6 + (1 : Int32)), fo))

def bX1_gather_8 (bk : Tbk) (li : Tli) (x3 : Int32) (x4 : Int32) (x5 : Int32) (z : Int32 × Tfo) : Option ((Int32 × Tfo) ⊕ Tfo) :=
  (fX2_nearOnes li x3 x5).bind fun q1 => if q1 ≤ z.1 then (some (.inr z.2)) else ((fX2_near li x3 z.1).bind fun q3 => (fX0_member bk (q3 + (1 : Int32)) x4).bind fun q4 => if q4 = (-10000 : Int32) then (jX1_gather_8_62 bk li z.2 x3 x4 x5 z.1) else ((fX2_between li x3 q3).bind fun q6 => (fX1_add z.2 q4 q6).bind fun q7 => jX1_gather_8_62 bk li q7 x3 x4 x5 z.1))

def fX1_gather (bk : Tbk) (li : Tli) (fo : Tfo) (x3 : Int32) (x4 : Int32) (x5 : Int32) : Option (Tfo) :=
  (lpF (bX1_gather_8 bk li x3 x4 x5) FU ((0 : Int32), (fo.1, fo.2.1, fo.2.2.1, (0 : Int32)))).bind fun t8 => some t8

def fX5_gatherFollowers (bk : Tbk) (li : Tli) (fo : Tfo) (x1 : Int32) (x2 : Int32) : Option (Tli × Tfo) :=
  (fX2_learn bk li (-1 : Int32)).bind fun q1 => (fX0_few bk).bind fun q2 => (fX1_gather bk q1 fo x1 x2 q2).bind fun q3 => some (q1, q3)

def fX1_size (fo : Tfo)  : Option (Int32) :=
  some fo.2.2.2

def fX1_spanSize (fo : Tfo) (x1 : Int32) : Option (Int32) :=
  some (if (0 : Int32) < (fo.2.2.2 - ((2 : Int32) * x1)) then (fo.2.2.2 - ((2 : Int32) * x1)) else (0 : Int32))

def jX1_least_24 (fo : Tfo) (y0 : Int32) : Option (Int32) :=
  some y0

def jX1_least_21 (fo : Tfo)  : Option (Int32) :=
  jX1_least_24 fo (-10000 : Int32)

def fX1_least (fo : Tfo) (x1 : Int32) : Option (Int32) :=
  if x1 < 0 then (jX1_least_21 fo) else ((fX1_spanSize fo x1).bind fun q2 => if q2 ≤ 0 then (jX1_least_21 fo) else (gd (inB x1 12) (jX1_least_24 fo (fo.2.2.1 (x1).toNatClampNeg))))

def jX1_greatest_31 (fo : Tfo) (y0 : Int32) : Option (Int32) :=
  some y0

def jX1_greatest_28 (fo : Tfo)  : Option (Int32) :=
  jX1_greatest_31 fo (-10000 : Int32)

def fX1_greatest (fo : Tfo) (x1 : Int32) : Option (Int32) :=
  if x1 < 0 then (jX1_greatest_28 fo) else ((fX1_spanSize fo x1).bind fun q2 => if q2 ≤ 0 then (jX1_greatest_28 fo) else (gd (inB ((fo.2.2.2 - (1 : Int32)) - x1) 12) (jX1_greatest_31 fo (fo.2.2.1 (((fo.2.2.2 - (1 : Int32)) - x1)).toNatClampNeg))))

def jX5_follows_37 (cn : Tcn) (bk : Tbk) (li : Tli) (fo : Tfo)  : Option (Int32 × Tcn × Tli × Tfo) :=
  (fX5_refuseBad cn (-20000 : Int32)).bind fun q3 => some (q3.1, q3.2, li, fo)

def fX5_follows (cn : Tcn) (bk : Tbk) (li : Tli) (fo : Tfo) (x1 : Int32) (x2 : Int32) (x3 : Int32) (x4 : Int32) : Option (Int32 × Tcn × Tli × Tfo) :=
  (fX0_has bk x1).bind fun q1 => if q1 = 0 then (jX5_follows_37 cn bk li fo) else ((fX5_isMember  x2).bind fun q4 => if q4 = 0 then (jX5_follows_37 cn bk li fo) else ((fX5_isWithin  x3 (0 : Int32) (5 : Int32)).bind fun q6 => if q6 = 0 then (jX5_follows_37 cn bk li fo) else ((fX5_isWithin  x4 (0 : Int32) (3 : Int32)).bind fun q8 => if ¬ q8 = 0 then ((fX5_gatherFollowers bk li fo x1 x2).bind fun q10 => if x4 = 0 then ((fX1_size q10.2).bind fun q12 => some (q12, cn, q10.1, q10.2)) else (if x4 = 1 then ((fX1_least q10.2 x3).bind fun q14 => some (q14, cn, q10.1, q10.2)) else (if x4 = 2 then ((fX1_greatest q10.2 x3).bind fun q16 => some (q16, cn, q10.1, q10.2)) else ((fX1_spanSize q10.2 x3).bind fun q17 => some (q17, cn, q10.1, q10.2))))) else (jX5_follows_37 cn bk li fo))))

def bX1_meanValue_6 (fo : Tfo)  (z : UInt32 × UInt32 × Int32) : Option ((UInt32 × UInt32 × Int32) ⊕ (UInt32 × UInt32)) :=
  if fo.2.2.2 ≤ z.2.2 then (some (.inr (z.1, z.2.1))) else (gd (inB z.2.2 12) ((fX5_valueOf  (fo.1 (z.2.2).toNatClampNeg)).bind fun q3 => gd (inB z.2.2 12) (gd (n32 (FP.fadd FP.fconst1 (fo.2.1 (z.2.2).toNatClampNeg))) (gd (n32 (FP.fdiv q3 (FP.fadd FP.fconst1 (fo.2.1 (z.2.2).toNatClampNeg)))) (gd (n32 (FP.fadd z.1 (FP.fdiv q3 (FP.fadd FP.fconst1 (fo.2.1 (z.2.2).toNatClampNeg))))) (gd (inB z.2.2 12) (gd (n32 (FP.fadd FP.fconst1 (fo.2.1 (z.2.2).toNatClampNeg))) (gd (n32 (FP.fdiv FP.fconst1 (FP.fadd FP.fconst1 (fo.2.1 (z.2.2).toNatClampNeg)))) (gd (n32 (FP.fadd z.2.1 (FP.fdiv FP.fconst1 (FP.fadd FP.fconst1 (fo.2.1 (z.2.2).toNatClampNeg))))) (some (.inl ((FP.fadd z.1 (FP.fdiv q3 (FP.fadd FP.fconst1 (fo.2.1 (z.2.2).toNatClampNeg)))), (FP.fadd z.2.1 (FP.fdiv FP.fconst1 (FP.fadd FP.fconst1 (fo.2.1 (z.2.2).toNatClampNeg)))), (z.2.2 + (1 : Int32))))))))))))))

def jX1_meanValue_67 (fo : Tfo) (y0 : UInt32) : Option (UInt32) :=
  some y0

def fX1_meanValue (fo : Tfo)  : Option (UInt32) :=
  (lpF (bX1_meanValue_6 fo ) FU (FP.fconst0, FP.fconst0, (0 : Int32))).bind fun t12 => if (Op.cmpValue (FP.fcmp t12.2 FP.fconst0) CmpOp.l) ≤ 0 then (jX1_meanValue_67 fo FP.fconst0) else (gd (n32 (FP.fdiv t12.1 t12.2)) (jX1_meanValue_67 fo (FP.fdiv t12.1 t12.2)))

def jX5_mean_18 (cn : Tcn) (bk : Tbk) (li : Tli) (fo : Tfo)  : Option (Int32 × Tcn × Tli × Tfo) :=
  (fX5_refuseBad cn (-2 : Int32)).bind fun q3 => some (q3.1, q3.2, li, fo)

def jX5_mean_55 (cn : Tcn) (bk : Tbk) (li : Tli) (fo : Tfo) (y0 : Int32) : Option (Int32 × Tcn × Tli × Tfo) :=
  some (y0, cn, li, fo)

def fX5_mean (cn : Tcn) (bk : Tbk) (li : Tli) (fo : Tfo) (x1 : Int32) (x2 : Int32) : Option (Int32 × Tcn × Tli × Tfo) :=
  (fX0_has bk x1).bind fun q1 => if q1 = 0 then (jX5_mean_18 cn bk li fo) else ((fX5_isMember  x2).bind fun q4 => if ¬ q4 = 0 then ((fX5_gatherFollowers bk li fo x1 x2).bind fun q6 => (fX1_size q6.2).bind fun q7 => if ¬ q7 = 0 then ((fX1_meanValue q6.2).bind fun q9 => (fX5_floatBits  q9).bind fun q10 => jX5_mean_55 cn bk q6.1 q6.2 q10) else (jX5_mean_55 cn bk q6.1 q6.2 (-1 : Int32))) else (jX5_mean_18 cn bk li fo))

def bX1_spreadOfValues_7 (fo : Tfo)  (z : UInt64 × UInt64 × Int32) : Option ((UInt64 × UInt64 × Int32) ⊕ (UInt64 × UInt64)) :=
  if fo.2.2.2 ≤ z.2.2 then (some (.inr (z.1, z.2.1))) else (gd (inB z.2.2 12) ((fX5_valueOf  (fo.1 (z.2.2).toNatClampNeg)).bind fun q3 => gd (n64 (FP.f2d q3)) (gd (n64 (FP.dadd z.1 (FP.f2d q3))) (gd (n64 (FP.dmul (FP.f2d q3) (FP.f2d q3))) (gd (n64 (FP.dadd z.2.1 (FP.dmul (FP.f2d q3) (FP.f2d q3)))) (some (.inl ((FP.dadd z.1 (FP.f2d q3)), (FP.dadd z.2.1 (FP.dmul (FP.f2d q3) (FP.f2d q3))), (z.2.2 + (1 : Int32))))))))))

def jX1_spreadOfValues_80 (fo : Tfo) (y0 : UInt64) : Option (UInt64) :=
  some y0

def fX1_spreadOfValues (fo : Tfo)  : Option (UInt64) :=
  (lpF (bX1_spreadOfValues_7 fo ) FU (FP.dconst0, FP.dconst0, (0 : Int32))).bind fun t8 => if fo.2.2.2 ≤ 0 then (jX1_spreadOfValues_80 fo FP.dconst0) else (gd (n64 (FP.ddiv t8.2 (FP.i2d fo.2.2.2))) (gd (n64 (FP.ddiv t8.1 (FP.i2d fo.2.2.2))) (gd (n64 (FP.ddiv t8.1 (FP.i2d fo.2.2.2))) (gd (n64 (FP.dmul (FP.ddiv t8.1 (FP.i2d fo.2.2.2)) (FP.ddiv t8.1 (FP.i2d fo.2.2.2)))) (gd (n64 (FP.dsub (FP.ddiv t8.2 (FP.i2d fo.2.2.2)) (FP.dmul (FP.ddiv t8.1 (FP.i2d fo.2.2.2)) (FP.ddiv t8.1 (FP.i2d fo.2.2.2))))) (jX1_spreadOfValues_80 fo (FP.dsub (FP.ddiv t8.2 (FP.i2d fo.2.2.2)) (FP.dmul (FP.ddiv t8.1 (FP.i2d fo.2.2.2)) (FP.ddiv t8.1 (FP.i2d fo.2.2.2))))))))))

def bX5_doubleBits_26  (x0 : UInt64) (z : UInt64 × Int32) : Option ((UInt64 × Int32) ⊕ (UInt64 × Int32)) :=
  if (Op.cmpValue (FP.dcmp z.1 (4611686018427387904 : UInt64)) CmpOp.l) < 0 then (some (.inr (z.1, z.2))) else (if (2046 : Int32) ≤ z.2 then (some (.inr (z.1, z.2))) else (gd (n64 (FP.ddiv z.1 (4611686018427387904 : UInt64))) (some (.inl ((FP.ddiv z.1 (4611686018427387904 : UInt64)), (z.2 + (1 : Int32)))))))

def bX5_doubleBits_54  (x0 : UInt64) (z : UInt64 × Int32) : Option ((UInt64 × Int32) ⊕ (UInt64 × Int32)) :=
  if 0 ≤ (Op.cmpValue (FP.dcmp z.1 FP.dconst1) CmpOp.g) then (some (.inr (z.1, z.2))) else (if z.2 ≤ (1 : Int32) then (some (.inr (z.1, z.2))) else (gd (n64 (FP.dmul z.1 (4611686018427387904 : UInt64))) (some (.inl ((FP.dmul z.1 (4611686018427387904 : UInt64)), (z.2 + (-1 : Int32)))))))

def jX5_doubleBits_112  (y0 : Int64) : Option (Int64) :=
  some y0

def jX5_doubleBits_20  (x0 : UInt64) (y0 : UInt64) : Option (Int64) :=
  (lpF (bX5_doubleBits_26  x0) FU (y0, (1023 : Int32))).bind fun t6 => (lpF (bX5_doubleBits_54  x0) FU (t6.1, t6.2)).bind fun t10 => gd (n64 (FP.dsub t10.1 FP.dconst1)) (gd (n64 (FP.dmul (FP.dsub t10.1 FP.dconst1) (4841369599423283200 : UInt64))) (if 0 ≤ (Op.cmpValue (FP.dcmp x0 FP.dconst0) CmpOp.g) then (jX5_doubleBits_112  (((t10.2).toInt64 <<< (((52 : Int32)).toInt64 &&& 63)) ||| (FP.d2l (FP.dmul (FP.dsub t10.1 FP.dconst1) (4841369599423283200 : UInt64))))) else (jX5_doubleBits_112  ((((t10.2).toInt64 <<< (((52 : Int32)).toInt64 &&& 63)) ||| (FP.d2l (FP.dmul (FP.dsub t10.1 FP.dconst1) (4841369599423283200 : UInt64)))) ||| (-9223372036854775808 : Int64)))))

def fX5_doubleBits  (x0 : UInt64) : Option (Int64) :=
  if ¬ (Op.cmpValue (FP.dcmp x0 FP.dconst0) CmpOp.l) = 0 then (if 0 ≤ (Op.cmpValue (FP.dcmp x0 FP.dconst0) CmpOp.g) then (jX5_doubleBits_20  x0 x0) else (jX5_doubleBits_20  x0 (FP.dneg x0))) else (some (0 : Int64))

def jX5_spread_18 (cn : Tcn) (bk : Tbk) (li : Tli) (fo : Tfo)  : Option (Int64 × Tcn × Tli × Tfo) :=
  (fX5_refuseBad cn (-2 : Int32)).bind fun q3 => some ((q3.1).toInt64, q3.2, li, fo)

def jX5_spread_58 (cn : Tcn) (bk : Tbk) (li : Tli) (fo : Tfo) (y0 : Int64) : Option (Int64 × Tcn × Tli × Tfo) :=
  some (y0, cn, li, fo)

def fX5_spread (cn : Tcn) (bk : Tbk) (li : Tli) (fo : Tfo) (x1 : Int32) (x2 : Int32) : Option (Int64 × Tcn × Tli × Tfo) :=
  (fX0_has bk x1).bind fun q1 => if q1 = 0 then (jX5_spread_18 cn bk li fo) else ((fX5_isMember  x2).bind fun q4 => if ¬ q4 = 0 then ((fX5_gatherFollowers bk li fo x1 x2).bind fun q6 => (fX1_size q6.2).bind fun q7 => if ¬ q7 = 0 then ((fX1_spreadOfValues q6.2).bind fun q9 => (fX5_doubleBits  q9).bind fun q10 => jX5_spread_58 cn bk q6.1 q6.2 q10) else (jX5_spread_58 cn bk q6.1 q6.2 (-1 : Int64))) else (jX5_spread_18 cn bk li fo))

def jX5_holds_25 (cn : Tcn) (bk : Tbk) (li : Tli) (fo : Tfo)  : Option (Int32 × Tcn × Tli × Tfo) :=
  (fX5_refuseBad cn (-2 : Int32)).bind fun q3 => some (q3.1, q3.2, li, fo)

def jX5_holds_41_134 (cn : Tcn) (bk : Tbk) (li : Tli) (fo : Tfo) (x1 : Int32) (x2 : Int32) (x3 : Int32) (x4 : Int32) (x5 : Int32) (x6 : Int32) : Option ((Int32 × Int32 × Int32 × Tli × Tfo) ⊕ (Int32 × Int32 × Tli × Tfo)) :=
  some (.inl (x4, x5, (x6 + (1 : Int32)), li, fo))

def jX5_holds_41_131 (cn : Tcn) (bk : Tbk) (li : Tli) (fo : Tfo) (x1 : Int32) (x2 : Int32) (x3 : Int32) (x4 : Int32) (x6 : Int32) (y0 : Int32) (y1 : Int32) : Option ((Int32 × Int32 × Int32 × Tli × Tfo) ⊕ (Int32 × Int32 × Tli × Tfo)) :=
  jX5_holds_41_134 cn bk li fo x1 x2 x3 x4 (y0 + y1) x6

def jX5_holds_41_130 (cn : Tcn) (bk : Tbk) (li : Tli) (fo : Tfo) (x1 : Int32) (x2 : Int32) (x3 : Int32) (x4 : Int32) (x6 : Int32) (y0 : Int32) : Option ((Int32 × Int32 × Int32 × Tli × Tfo) ⊕ (Int32 × Int32 × Tli × Tfo)) :=
  jX5_holds_41_131 cn bk li fo x1 x2 x3 x4 x6 y0 (0 : Int32)

def bX5_holds_41 (cn : Tcn) (bk : Tbk) (x1 : Int32) (x2 : Int32) (x3 : Int32) (z : Int32 × Int32 × Int32 × Tli × Tfo) : Option ((Int32 × Int32 × Int32 × Tli × Tfo) ⊕ (Int32 × Int32 × Tli × Tfo)) :=
  (fX0_days bk).bind fun q8 => if q8 ≤ (z.2.2.1 + (1 : Int32)) then (some (.inr (z.1, z.2.1, z.2.2.2.1, z.2.2.2.2))) else ((fX0_member bk (z.2.2.1 + (1 : Int32)) x1).bind fun q10 => (fX5_gatherFollowers bk z.2.2.2.1 z.2.2.2.2 z.2.2.1 x1).bind fun q11 => if q10 = (-10000 : Int32) then (jX5_holds_41_134 cn bk q11.1 q11.2 x1 x2 x3 z.1 z.2.1 z.2.2.1) else ((fX1_spanSize q11.2 x2).bind fun q13 => if q13 ≤ 0 then (jX5_holds_41_134 cn bk q11.1 q11.2 x1 x2 x3 z.1 z.2.1 z.2.2.1) else ((fX1_least q11.2 x2).bind fun q15 => if q10 < q15 then (jX5_holds_41_130 cn bk q11.1 q11.2 x1 x2 x3 (z.1 + (1 : Int32)) z.2.2.1 z.2.1) else ((fX1_greatest q11.2 x2).bind fun q17 => if q17 < q10 then (jX5_holds_41_130 cn bk q11.1 q11.2 x1 x2 x3 (z.1 + (1 : Int32)) z.2.2.1 z.2.1) else (jX5_holds_41_131 cn bk q11.1 q11.2 x1 x2 x3 (z.1 + (1 : Int32)) z.2.2.1 z.2.1 (1 : Int32))))))

def jX5_holds_175 (cn : Tcn) (bk : Tbk) (li : Tli) (fo : Tfo) (y0 : Int32) : Option (Int32 × Tcn × Tli × Tfo) :=
  some (y0, cn, li, fo)

def jX5_holds_163 (cn : Tcn) (bk : Tbk) (li : Tli) (fo : Tfo) (y0 : Int32) : Option (Int32 × Tcn × Tli × Tfo) :=
  some (y0, cn, li, fo)

def fX5_holds (cn : Tcn) (bk : Tbk) (li : Tli) (fo : Tfo) (x1 : Int32) (x2 : Int32) (x3 : Int32) : Option (Int32 × Tcn × Tli × Tfo) :=
  (fX5_isMember  x1).bind fun q1 => if q1 = 0 then (jX5_holds_25 cn bk li fo) else ((fX5_isWithin  x2 (0 : Int32) (5 : Int32)).bind fun q4 => if q4 = 0 then (jX5_holds_25 cn bk li fo) else ((fX5_isWithin  x3 (0 : Int32) (2 : Int32)).bind fun q6 => if ¬ q6 = 0 then ((lpF (bX5_holds_41 cn bk x1 x2 x3) FU ((0 : Int32), (0 : Int32), (0 : Int32), li, fo)).bind fun t19 => if ¬ x3 = (2 : Int32) then (if ¬ x3 = 0 then (jX5_holds_175 cn bk t19.2.2.1 t19.2.2.2 t19.2.1) else (jX5_holds_175 cn bk t19.2.2.1 t19.2.2.2 t19.1)) else (if ¬ t19.1 = 0 then (gd (decide (¬ t19.1 = 0)) (jX5_holds_163 cn bk t19.2.2.1 t19.2.2.2 ((t19.2.1 * (1000 : Int32)) / t19.1))) else (jX5_holds_163 cn bk t19.2.2.1 t19.2.2.2 (0 : Int32)))) else (jX5_holds_25 cn bk li fo)))

def jX5_meanError_8_109 (bk : Tbk) (li : Tli) (fo : Tfo) (x1 : Int32) (x2 : Int32) (x3 : UInt32) (x4 : Int32) (x5 : Int32) : Option ((UInt32 × Int32 × Int32 × Tfo) ⊕ (UInt32 × Int32 × Tfo)) :=
  some (.inl (x3, x4, (x5 + (1 : Int32)), fo))

def jX5_meanError_8_104 (bk : Tbk) (li : Tli) (fo : Tfo) (x1 : Int32) (x2 : Int32) (x4 : Int32) (x5 : Int32) (y0 : UInt32) (y1 : UInt32) : Option ((UInt32 × Int32 × Int32 × Tfo) ⊕ (UInt32 × Int32 × Tfo)) :=
  gd (n32 (FP.fadd y0 y1)) (jX5_meanError_8_109 bk li fo x1 x2 (FP.fadd y0 y1) (x4 + (1 : Int32)) x5)

def bX5_meanError_8 (bk : Tbk) (li : Tli) (x1 : Int32) (x2 : Int32) (z : UInt32 × Int32 × Int32 × Tfo) : Option ((UInt32 × Int32 × Int32 × Tfo) ⊕ (UInt32 × Int32 × Tfo)) :=
  (fX0_days bk).bind fun q1 => if q1 ≤ (z.2.2.1 + (1 : Int32)) then (some (.inr (z.1, z.2.1, z.2.2.2))) else ((fX0_member bk (z.2.2.1 + (1 : Int32)) x1).bind fun q3 => if q3 = (-10000 : Int32) then (jX5_meanError_8_109 bk li z.2.2.2 x1 x2 z.1 z.2.1 z.2.2.1) else ((fX1_gather bk li z.2.2.2 z.2.2.1 x1 x2).bind fun q5 => (fX1_size q5).bind fun q6 => if q6 ≤ 0 then (jX5_meanError_8_109 bk li q5 x1 x2 z.1 z.2.1 z.2.2.1) else ((fX1_meanValue q5).bind fun q8 => (fX5_valueOf  q3).bind fun q9 => gd (n32 (FP.fsub q8 q9)) (if 0 ≤ (Op.cmpValue (FP.fcmp (FP.fsub q8 q9) FP.fconst0) CmpOp.g) then (jX5_meanError_8_104 bk li q5 x1 x2 z.2.1 z.2.2.1 z.1 (FP.fsub q8 q9)) else (jX5_meanError_8_104 bk li q5 x1 x2 z.2.1 z.2.2.1 z.1 (FP.fneg (FP.fsub q8 q9)))))))

def jX5_meanError_130 (bk : Tbk) (li : Tli) (fo : Tfo) (y0 : UInt32) : Option (UInt32 × Tfo) :=
  some (y0, fo)

def fX5_meanError (bk : Tbk) (li : Tli) (fo : Tfo) (x1 : Int32) (x2 : Int32) : Option (UInt32 × Tfo) :=
  (lpF (bX5_meanError_8 bk li x1 x2) FU (FP.fconst0, (0 : Int32), (0 : Int32), fo)).bind fun t13 => if ¬ t13.2.1 = 0 then (gd (n32 (FP.fdiv t13.1 (FP.i2f t13.2.1))) (jX5_meanError_130 bk li t13.2.2 (FP.fdiv t13.1 (FP.i2f t13.2.1)))) else (jX5_meanError_130 bk li t13.2.2 (3212836864 : UInt32))

def fX5_errs (cn : Tcn) (bk : Tbk) (li : Tli) (fo : Tfo) (x1 : Int32) : Option (Int32 × Tcn × Tli × Tfo) :=
  (fX5_isMember  x1).bind fun q1 => if ¬ q1 = 0 then ((fX2_learn bk li (-1 : Int32)).bind fun q3 => (fX0_few bk).bind fun q4 => (fX5_meanError bk q3 fo x1 q4).bind fun q5 => (fX5_bitsOrNone  q5.1).bind fun q6 => some (q6, cn, q3, q5.2)) else ((fX5_refuseBad cn (-2 : Int32)).bind fun q7 => some (q7.1, q7.2, li, fo))

def jX5_best_16 (cn : Tcn) (bk : Tbk) (li : Tli) (fo : Tfo)  : Option (Int32 × Tcn × Tli × Tfo) :=
  (fX5_refuseBad cn (-2 : Int32)).bind fun q3 => some (q3.1, q3.2, li, fo)

def jX5_best_44_77 (cn : Tcn) (bk : Tbk) (li : Tli) (fo : Tfo) (x1 : Int32) (x2 : Int32) (x3 : Int32) (x4 : UInt32) (x5 : Int32) : Option ((Int32 × UInt32 × Int32 × Tfo) ⊕ (Int32 × UInt32 × Tfo)) :=
  some (.inl (x3, x4, (x5 + (1 : Int32)), fo))

def bX5_best_44 (cn : Tcn) (bk : Tbk) (li : Tli) (x1 : Int32) (x2 : Int32) (z : Int32 × UInt32 × Int32 × Tfo) : Option ((Int32 × UInt32 × Int32 × Tfo) ⊕ (Int32 × UInt32 × Tfo)) :=
  if (12 : Int32) < z.2.2.1 then (some (.inr (z.1, z.2.1, z.2.2.2))) else ((fX5_meanError bk li z.2.2.2 x1 z.2.2.1).bind fun q8 => (fX5_isLess  q8.1 z.2.1).bind fun q9 => if q9 = 0 then (jX5_best_44_77 cn bk li q8.2 x1 x2 z.1 z.2.1 z.2.2.1) else (jX5_best_44_77 cn bk li q8.2 x1 x2 z.2.2.1 q8.1 z.2.2.1))

def jX5_best_96 (cn : Tcn) (bk : Tbk) (li : Tli) (fo : Tfo) (y0 : Int32) : Option (Int32 × Tcn × Tli × Tfo) :=
  some (y0, cn, li, fo)

def fX5_best (cn : Tcn) (bk : Tbk) (li : Tli) (fo : Tfo) (x1 : Int32) (x2 : Int32) : Option (Int32 × Tcn × Tli × Tfo) :=
  (fX5_isMember  x1).bind fun q1 => if q1 = 0 then (jX5_best_16 cn bk li fo) else ((fX5_isWithin  x2 (0 : Int32) (1 : Int32)).bind fun q4 => if ¬ q4 = 0 then ((fX2_learn bk li (-1 : Int32)).bind fun q6 => (lpF (bX5_best_44 cn bk q6 x1 x2) FU ((-1 : Int32), (3212836864 : UInt32), (1 : Int32), fo)).bind fun t11 => if ¬ x2 = 0 then ((fX5_bitsOrNone  t11.2.1).bind fun q13 => jX5_best_96 cn bk q6 t11.2.2 q13) else (jX5_best_96 cn bk q6 t11.2.2 t11.1)) else (jX5_best_16 cn bk li fo))

def jX5_spare_22_70 (cn : Tcn) (bk : Tbk) (li : Tli) (fo : Tfo) (x1 : Int32) (x2 : Int32) (x3 : UInt32) (x4 : Int32) : Option ((Int32 × UInt32 × Int32 × Tli × Tfo) ⊕ (Int32 × Tli × Tfo)) :=
  some (.inl (x2, x3, (x4 + (1 : Int32)), li, fo))

def bX5_spare_22 (cn : Tcn) (bk : Tbk) (x1 : Int32) (z : Int32 × UInt32 × Int32 × Tli × Tfo) : Option ((Int32 × UInt32 × Int32 × Tli × Tfo) ⊕ (Int32 × Tli × Tfo)) :=
  if (4 : Int32) ≤ z.2.2.1 then (some (.inr (z.1, z.2.2.2.1, z.2.2.2.2))) else ((fX2_learn bk z.2.2.2.1 z.2.2.1).bind fun q4 => (fX0_few bk).bind fun q5 => (fX5_meanError bk q4 z.2.2.2.2 x1 q5).bind fun q6 => (fX5_isLess  q6.1 z.2.1).bind fun q7 => if q7 = 0 then (jX5_spare_22_70 cn bk q4 q6.2 x1 z.1 z.2.1 z.2.2.1) else (jX5_spare_22_70 cn bk q4 q6.2 x1 z.2.2.1 q6.1 z.2.2.1))

def fX5_spare (cn : Tcn) (bk : Tbk) (li : Tli) (fo : Tfo) (x1 : Int32) : Option (Int32 × Tcn × Tli × Tfo) :=
  (fX5_isMember  x1).bind fun q1 => if ¬ q1 = 0 then ((lpF (bX5_spare_22 cn bk x1) FU ((-1 : Int32), (3212836864 : UInt32), (0 : Int32), li, fo)).bind fun t9 => some (t9.1, cn, t9.2.1, t9.2.2)) else ((fX5_refuseBad cn (-2 : Int32)).bind fun q10 => some (q10.1, q10.2, li, fo))

def fX4_length (tx : Ttx)  : Option (Int32) :=
  some tx.2.2.1

def jX4_append_29 (tx : Ttx)  : Option (Int32 × Ttx) :=
  some (tx.2.2.1, tx)

def fX4_append (tx : Ttx) (x1 : Int32) : Option (Int32 × Ttx) :=
  if (120 : Int32) ≤ tx.2.2.1 then (jX4_append_29 tx) else (gd (inB tx.2.2.1 120) (jX4_append_29 ((upd tx.1 (tx.2.2.1).toNatClampNeg x1), tx.2.1, (tx.2.2.1 + (1 : Int32)), tx.2.2.2.1, tx.2.2.2.2)))

def fX5_type (cn : Tcn) (tx : Ttx) (x1 : Int32) : Option (Int32 × Tcn × Ttx) :=
  (fX5_isWithin  x1 (0 : Int32) (127 : Int32)).bind fun q1 => if ¬ q1 = 0 then ((fX4_length tx).bind fun q3 => if q3 < (120 : Int32) then ((fX4_append tx x1).bind fun q5 => some (q5.1, cn, q5.2)) else ((fX5_refuseFull cn).bind fun q6 => some (q6.1, q6.2, tx))) else ((fX5_refuseBad cn (-2 : Int32)).bind fun q7 => some (q7.1, q7.2, tx))

def fX4_wipe (tx : Ttx)  : Option (Int32 × Ttx) :=
  some (tx.2.2.1, (tx.1, tx.2.1, (0 : Int32), tx.2.2.2.1, tx.2.2.2.2))

def fX5_clear (tx : Ttx)  : Option (Int32 × Ttx) :=
  (fX4_wipe tx).bind fun q1 => some (q1.1, q1.2)

def jX4_here_31 (tx : Ttx) (y0 : Int32) : Option (Int32) :=
  some y0

def jX4_here_30 (tx : Ttx)  : Option (Int32) :=
  jX4_here_31 tx (-1 : Int32)

def fX4_here (tx : Ttx)  : Option (Int32) :=
  if tx.2.2.2.1 < 0 then (jX4_here_30 tx) else (if tx.2.2.1 ≤ tx.2.2.2.1 then (jX4_here_30 tx) else (gd (inB tx.2.2.2.1 120) (jX4_here_31 tx (tx.1 (tx.2.2.2.1).toNatClampNeg))))

def bX4_skipBlanks_0   (z : Ttx) : Option ((Ttx) ⊕ Ttx) :=
  if z.2.2.1 ≤ z.2.2.2.1 then (some (.inr z)) else ((fX4_here z).bind fun q5 => if ¬ q5 = (32 : Int32) then (some (.inr z)) else (some (.inl (z.1, z.2.1, z.2.2.1, (z.2.2.2.1 + (1 : Int32)), z.2.2.2.2))))

def fX4_skipBlanks (tx : Ttx)  : Option (Ttx) :=
  if tx.2.2.1 ≤ tx.2.2.2.1 then (some tx) else ((fX4_here tx).bind fun q2 => if ¬ q2 = (32 : Int32) then (some tx) else ((lpF (bX4_skipBlanks_0  ) FU (tx.1, tx.2.1, tx.2.2.1, (tx.2.2.2.1 + (1 : Int32)), tx.2.2.2.2)).bind fun t7 => some t7))

def jX4_keepNote_20 (tx : Ttx)  : Option (Int32 × Ttx) :=
  some ((-1 : Int32), tx)

def fX4_keepNote (tx : Ttx) (x1 : Int32) (x2 : Int32) : Option (Int32 × Ttx) :=
  if x1 < 0 then (jX4_keepNote_20 tx) else (if (200 : Int32) ≤ x1 then (jX4_keepNote_20 tx) else (gd (inB x1 200) (jX4_keepNote_20 (tx.1, (upd tx.2.1 (x1).toNatClampNeg x2), tx.2.2.1, tx.2.2.2.1, tx.2.2.2.2))))

def bX4_parseNumber_40  (x1 : Int32) (x2 : Int32) (x3 : Int32) (z : Int32 × Int32 × Ttx) : Option ((Int32 × Int32 × Ttx) ⊕ (Int32 × Int32 × Ttx)) :=
  if z.2.2.2.2.1 ≤ z.2.2.2.2.2.1 then (some (.inr (z.1, z.2.1, z.2.2))) else ((fX4_here z.2.2).bind fun q5 => (fX5_isWithin  q5 (48 : Int32) (57 : Int32)).bind fun q6 => if q6 = 0 then (some (.inr (z.1, z.2.1, z.2.2))) else ((fX4_here z.2.2).bind fun q8 => some (.inl ((z.1 + (1 : Int32)), (((z.2.1 * (10 : Int32)) + q8) - (48 : Int32)), (z.2.2.1, z.2.2.2.1, z.2.2.2.2.1, (z.2.2.2.2.2.1 + (1 : Int32)), z.2.2.2.2.2.2)))))

def jX4_parseNumber_122 (tx : Ttx) (y1 : Int32) (y2 : Int32) : Option (Int32 × Ttx) :=
  (fX4_keepNote tx y1 y2).bind fun q13 => some (q13.1, q13.2)

def jX4_parseNumber_34 (tx : Ttx) (x1 : Int32) (x2 : Int32) (x3 : Int32) : Option (Int32 × Ttx) :=
  (lpF (bX4_parseNumber_40  x1 x2 x3) FU ((0 : Int32), (0 : Int32), tx)).bind fun t9 => (fX5_isWithin  t9.1 (1 : Int32) (3 : Int32)).bind fun q10 => if ¬ q10 = 0 then (if x3 = 0 then (jX4_parseNumber_122 t9.2.2 x1 t9.2.1) else (jX4_parseNumber_122 t9.2.2 x1 (-t9.2.1))) else (some (x2, t9.2.2))

def jX4_parseNumber_19 (tx : Ttx) (x1 : Int32) (x2 : Int32) (y0 : Int32) : Option (Int32 × Ttx) :=
  if y0 = 0 then (jX4_parseNumber_34 tx x1 x2 y0) else (jX4_parseNumber_34 (tx.1, tx.2.1, tx.2.2.1, (tx.2.2.2.1 + (1 : Int32)), tx.2.2.2.2) x1 x2 y0)

def fX4_parseNumber (tx : Ttx) (x1 : Int32) : Option (Int32 × Ttx) :=
  (fX4_here tx).bind fun q1 => if ¬ q1 = (45 : Int32) then (jX4_parseNumber_19 tx x1 tx.2.2.2.1 (0 : Int32)) else (jX4_parseNumber_19 tx x1 tx.2.2.2.1 (1 : Int32))

def jX4_parseMember_55 (tx : Ttx) (y0 : Int32) : Option (Int32 × Ttx) :=
  some (y0, tx)

def fX4_parseMember (tx : Ttx) (x1 : Int32) : Option (Int32 × Ttx) :=
  (fX4_skipBlanks tx).bind fun q1 => (fX4_here q1).bind fun q2 => if ¬ q2 = (46 : Int32) then (if q1.2.2.1 ≤ q1.2.2.2.1 then (jX4_parseMember_55 q1 q1.2.2.1) else ((fX4_parseNumber q1 x1).bind fun q5 => jX4_parseMember_55 q5.2 q5.1)) else ((fX4_keepNote (q1.1, q1.2.1, q1.2.2.1, (q1.2.2.2.1 + (1 : Int32)), q1.2.2.2.2) x1 (-10000 : Int32)).bind fun q6 => some (q6.1, q6.2))

def fX4_parseMark (tx : Ttx) (x1 : Int32) : Option (Int32 × Ttx) :=
  (fX4_skipBlanks tx).bind fun q1 => (fX4_here q1).bind fun q2 => if q2 = x1 then (some ((-1 : Int32), (q1.1, q1.2.1, q1.2.2.1, (q1.2.2.2.1 + (1 : Int32)), q1.2.2.2.2))) else (some (q1.2.2.2.1, q1))

def jX4_parseDay_4_46 (tx : Ttx) (x1 : Int32) (x2 : Int32) (x3 : Int32) : Option ((Int32 × Int32 × Ttx) ⊕ (Int32 × Ttx)) :=
  some (.inl (x2, (x3 + (1 : Int32)), tx))

def jX4_parseDay_4_42 (tx : Ttx) (x1 : Int32) (x3 : Int32) (y1 : Int32) : Option ((Int32 × Int32 × Ttx) ⊕ (Int32 × Ttx)) :=
  (fX4_parseMark tx y1).bind fun q6 => jX4_parseDay_4_46 q6.2 x1 q6.1 x3

def bX4_parseDay_4  (x1 : Int32) (z : Int32 × Int32 × Ttx) : Option ((Int32 × Int32 × Ttx) ⊕ (Int32 × Ttx)) :=
  if (4 : Int32) ≤ z.2.1 then (some (.inr (z.1, z.2.2))) else (if ¬ z.1 = (-1 : Int32) then (some (.inr (z.1, z.2.2))) else ((fX4_parseMember z.2.2 ((x1 * (4 : Int32)) + z.2.1)).bind fun q3 => if ¬ q3.1 = (-1 : Int32) then (jX4_parseDay_4_46 q3.2 x1 q3.1 z.2.1) else (if (3 : Int32) ≤ z.2.1 then (jX4_parseDay_4_42 q3.2 x1 z.2.1 (59 : Int32)) else (jX4_parseDay_4_42 q3.2 x1 z.2.1 (44 : Int32)))))

def fX4_parseDay (tx : Ttx) (x1 : Int32) : Option (Int32 × Ttx) :=
  (lpF (bX4_parseDay_4  x1) FU ((-1 : Int32), (0 : Int32), tx)).bind fun t7 => some (t7.1, t7.2)

def jX4_parse_36_110 (tx : Ttx) (x1 : Int32) (x2 : Int32) (x3 : Int32) : Option ((Int32 × Int32 × Ttx) ⊕ (Int32 × Ttx)) :=
  some (.inl (x2, (x3 + (1 : Int32)), tx))

def jX4_parse_36_90 (tx : Ttx) (x1 : Int32) (x3 : Int32) (y0 : Int32) : Option ((Int32 × Int32 × Ttx) ⊕ (Int32 × Ttx)) :=
  if ¬ y0 = (-1 : Int32) then (jX4_parse_36_110 tx x1 y0 x3) else ((fX4_skipBlanks (tx.1, tx.2.1, tx.2.2.1, tx.2.2.2.1, (tx.2.2.2.2 + (1 : Int32)))).bind fun q8 => jX4_parse_36_110 q8 x1 y0 x3)

def jX4_parse_36_86 (tx : Ttx) (x1 : Int32) (x3 : Int32) : Option ((Int32 × Int32 × Ttx) ⊕ (Int32 × Ttx)) :=
  jX4_parse_36_90 tx x1 x3 tx.2.2.2.1

def bX4_parse_36  (x1 : Int32) (z : Int32 × Int32 × Ttx) : Option ((Int32 × Int32 × Ttx) ⊕ (Int32 × Ttx)) :=
  if (120 : Int32) ≤ z.2.1 then (some (.inr (z.1, z.2.2))) else (if z.2.2.2.2.1 ≤ z.2.2.2.2.2.1 then (some (.inr (z.1, z.2.2))) else (if ¬ z.1 = (-1 : Int32) then (some (.inr (z.1, z.2.2))) else (if x1 ≤ z.2.2.2.2.2.2 then (jX4_parse_36_86 z.2.2 x1 z.2.1) else (if (50 : Int32) ≤ z.2.2.2.2.2.2 then (jX4_parse_36_86 z.2.2 x1 z.2.1) else ((fX4_parseDay z.2.2 z.2.2.2.2.2.2).bind fun q10 => jX4_parse_36_90 q10.2 x1 z.2.1 q10.1)))))

def jX4_parse_33 (tx : Ttx) (x1 : Int32) (y0 : Int32) : Option (Int32 × Ttx) :=
  (lpF (bX4_parse_36  x1) FU (y0, (0 : Int32), tx)).bind fun t11 => some (t11.1, t11.2)

def fX4_parse (tx : Ttx) (x1 : Int32) : Option (Int32 × Ttx) :=
  (fX4_skipBlanks (tx.1, tx.2.1, tx.2.2.1, (0 : Int32), (0 : Int32))).bind fun q1 => if q1.2.2.1 ≤ q1.2.2.2.1 then (jX4_parse_33 q1 x1 q1.2.2.1) else (jX4_parse_33 q1 x1 (-1 : Int32))

def fX4_daysTold (tx : Ttx)  : Option (Int32) :=
  some tx.2.2.2.2

def jX4_note_35 (tx : Ttx) (y0 : Int32) : Option (Int32) :=
  some y0

def jX4_note_32 (tx : Ttx)  : Option (Int32) :=
  jX4_note_35 tx (-10000 : Int32)

def fX4_note (tx : Ttx) (x1 : Int32) (x2 : Int32) : Option (Int32) :=
  if x1 < 0 then (jX4_note_32 tx) else (if tx.2.2.2.2 ≤ x1 then (jX4_note_32 tx) else ((fX5_isMember  x2).bind fun q3 => if q3 = 0 then (jX4_note_32 tx) else (gd (inB ((x1 * (4 : Int32)) + x2) 200) (jX4_note_35 tx (tx.2.1 (((x1 * (4 : Int32)) + x2)).toNatClampNeg)))))

def bX5_reads_34 (st : Tst) (r0 : Tbk) (r1 : Tbk) (r2 : Tbk) (r3 : Tbk) (r4 : Tbk) (li : Tli) (tx : Ttx)  (z : Int32 × Tbk) : Option ((Int32 × Tbk) ⊕ Tbk) :=
  (fX4_daysTold tx).bind fun q5 => if q5 ≤ z.1 then (some (.inr z.2)) else ((fX4_note tx z.1 (0 : Int32)).bind fun q7 => (fX4_note tx z.1 (1 : Int32)).bind fun q8 => (fX4_note tx z.1 (2 : Int32)).bind fun q9 => (fX4_note tx z.1 (3 : Int32)).bind fun q10 => (fX0_append z.2 q7 q8 q9 q10).bind fun q11 => some (.inl ((z.1 + (1 : Int32)), q11.2)))

def fX5_reads (bk : Tbk) (st : Tst) (r0 : Tbk) (r1 : Tbk) (r2 : Tbk) (r3 : Tbk) (r4 : Tbk) (li : Tli) (tx : Ttx)  : Option (Int32 × Tbk × Tst × Tbk × Tbk × Tbk × Tbk × Tbk × Tli × Ttx) :=
  (fX0_days bk).bind fun q1 => (fX4_parse tx ((50 : Int32) - q1)).bind fun q2 => if q2.1 = (-1 : Int32) then ((fX5_keepState bk st r0 r1 r2 r3 r4 li).bind fun q4 => (lpF (bX5_reads_34 q4.1 q4.2.1 q4.2.2.1 q4.2.2.2.1 q4.2.2.2.2.1 q4.2.2.2.2.2.1 q4.2.2.2.2.2.2 q2.2 ) FU ((0 : Int32), bk)).bind fun t12 => (fX4_daysTold q2.2).bind fun q13 => some (q13, t12, q4.1, q4.2.1, q4.2.2.1, q4.2.2.2.1, q4.2.2.2.2.1, q4.2.2.2.2.2.1, q4.2.2.2.2.2.2, q2.2)) else (some (((-10 : Int32) - q2.1), bk, st, r0, r1, r2, r3, r4, li, q2.2))

def fX3_count (st : Tst)  : Option (Int32) :=
  some st.2

def fX0_copyFrom_1_6 (bk : Tbk) (r0 : Tbk)  : Option (Tbk) :=
  some ((va_cpy r0.1 bk.1 ((0 : Int32)).toNatClampNeg ((0 : Int32)).toNatClampNeg ((200 : Int32)).toNatClampNeg), (va_cpy r0.2.1 bk.2.1 ((0 : Int32)).toNatClampNeg ((0 : Int32)).toNatClampNeg ((4 : Int32)).toNatClampNeg), r0.2.2.1, r0.2.2.2.1, r0.2.2.2.2)

def fX0_copyFrom_1_9 (bk : Tbk) (r1 : Tbk)  : Option (Tbk) :=
  some ((va_cpy r1.1 bk.1 ((0 : Int32)).toNatClampNeg ((0 : Int32)).toNatClampNeg ((200 : Int32)).toNatClampNeg), (va_cpy r1.2.1 bk.2.1 ((0 : Int32)).toNatClampNeg ((0 : Int32)).toNatClampNeg ((4 : Int32)).toNatClampNeg), r1.2.2.1, r1.2.2.2.1, r1.2.2.2.2)

def fX0_copyFrom_1_12 (bk : Tbk) (r2 : Tbk)  : Option (Tbk) :=
  some ((va_cpy r2.1 bk.1 ((0 : Int32)).toNatClampNeg ((0 : Int32)).toNatClampNeg ((200 : Int32)).toNatClampNeg), (va_cpy r2.2.1 bk.2.1 ((0 : Int32)).toNatClampNeg ((0 : Int32)).toNatClampNeg ((4 : Int32)).toNatClampNeg), r2.2.2.1, r2.2.2.2.1, r2.2.2.2.2)

def fX0_copyFrom_1_15 (bk : Tbk) (r3 : Tbk)  : Option (Tbk) :=
  some ((va_cpy r3.1 bk.1 ((0 : Int32)).toNatClampNeg ((0 : Int32)).toNatClampNeg ((200 : Int32)).toNatClampNeg), (va_cpy r3.2.1 bk.2.1 ((0 : Int32)).toNatClampNeg ((0 : Int32)).toNatClampNeg ((4 : Int32)).toNatClampNeg), r3.2.2.1, r3.2.2.2.1, r3.2.2.2.2)

def fX0_copyFrom_1_18 (bk : Tbk) (r4 : Tbk)  : Option (Tbk) :=
  some ((va_cpy r4.1 bk.1 ((0 : Int32)).toNatClampNeg ((0 : Int32)).toNatClampNeg ((200 : Int32)).toNatClampNeg), (va_cpy r4.2.1 bk.2.1 ((0 : Int32)).toNatClampNeg ((0 : Int32)).toNatClampNeg ((4 : Int32)).toNatClampNeg), r4.2.2.1, r4.2.2.2.1, r4.2.2.2.2)

def jX3_pop_44 (bk : Tbk) (st : Tst) (r0 : Tbk) (r1 : Tbk) (r2 : Tbk) (r3 : Tbk) (r4 : Tbk)  : Option (Tbk × Tst) :=
  some (bk, st)

def fX3_pop (bk : Tbk) (st : Tst) (r0 : Tbk) (r1 : Tbk) (r2 : Tbk) (r3 : Tbk) (r4 : Tbk)  : Option (Tbk × Tst) :=
  if st.2 ≤ 0 then (jX3_pop_44 bk st r0 r1 r2 r3 r4) else (if st.1 = 0 then ((fX0_copyFrom_1_6 bk r0).bind fun q2 => jX3_pop_44 q2 ((((st.1 + (5 : Int32)) - (1 : Int32)) - ((st.1 + (5 : Int32)) - (1 : Int32)) / (5 : Int32) * (5 : Int32)), (st.2 - (1 : Int32))) r0 r1 r2 r3 r4) else (if st.1 = 1 then ((fX0_copyFrom_1_9 bk r1).bind fun q3 => jX3_pop_44 q3 ((((st.1 + (5 : Int32)) - (1 : Int32)) - ((st.1 + (5 : Int32)) - (1 : Int32)) / (5 : Int32) * (5 : Int32)), (st.2 - (1 : Int32))) r0 r1 r2 r3 r4) else (if st.1 = 2 then ((fX0_copyFrom_1_12 bk r2).bind fun q4 => jX3_pop_44 q4 ((((st.1 + (5 : Int32)) - (1 : Int32)) - ((st.1 + (5 : Int32)) - (1 : Int32)) / (5 : Int32) * (5 : Int32)), (st.2 - (1 : Int32))) r0 r1 r2 r3 r4) else (if st.1 = 3 then ((fX0_copyFrom_1_15 bk r3).bind fun q5 => jX3_pop_44 q5 ((((st.1 + (5 : Int32)) - (1 : Int32)) - ((st.1 + (5 : Int32)) - (1 : Int32)) / (5 : Int32) * (5 : Int32)), (st.2 - (1 : Int32))) r0 r1 r2 r3 r4) else (if st.1 = 4 then ((fX0_copyFrom_1_18 bk r4).bind fun q6 => jX3_pop_44 q6 ((((st.1 + (5 : Int32)) - (1 : Int32)) - ((st.1 + (5 : Int32)) - (1 : Int32)) / (5 : Int32) * (5 : Int32)), (st.2 - (1 : Int32))) r0 r1 r2 r3 r4) else none)))))

def fX5_back (cn : Tcn) (bk : Tbk) (st : Tst) (r0 : Tbk) (r1 : Tbk) (r2 : Tbk) (r3 : Tbk) (r4 : Tbk) (li : Tli)  : Option (Int32 × Tcn × Tbk × Tst × Tli) :=
  (fX3_count st).bind fun q1 => if ¬ q1 = 0 then ((fX3_pop bk st r0 r1 r2 r3 r4).bind fun q3 => (fX2_forget li).bind fun q4 => (fX3_count q3.2).bind fun q5 => some (q5, cn, q3.1, q3.2, q4)) else (some ((-3 : Int32), (cn.1, (cn.2.1 + (1 : Int32)), cn.2.2), bk, st, li))

def fX5_told (cn : Tcn) (bk : Tbk) (st : Tst) (tx : Ttx) (x1 : Int32) : Option (Int32 × Tcn) :=
  if x1 = 0 then (some (cn.1, cn)) else (if x1 = 1 then (some (cn.2.1, cn)) else (if x1 = 2 then (some (cn.2.2, cn)) else (if x1 = 3 then ((fX4_length tx).bind fun q5 => some (q5, cn)) else (if x1 = 4 then ((fX0_days bk).bind fun q7 => some (q7, cn)) else (if x1 = 5 then ((fX0_gap bk).bind fun q9 => some (q9, cn)) else (if x1 = 6 then ((fX0_few bk).bind fun q11 => some (q11, cn)) else (if x1 = 7 then ((fX3_count st).bind fun q13 => some (q13, cn)) else ((fX5_refuseBad cn (-2 : Int32)).bind fun q14 => some (q14.1, q14.2)))))))))

def bX5_digest_6 (bk : Tbk) (st : Tst) (li : Tli) (fo : Tfo) (tx : Ttx)  (z : Int64 × Int32 × Tcn) : Option ((Int64 × Int32 × Tcn) ⊕ (Int64 × Tcn)) :=
  if (8 : Int32) ≤ z.2.1 then (some (.inr (z.1, z.2.2))) else ((fX5_told z.2.2 bk st tx z.2.1).bind fun q2 => some (.inl ((((31 : Int64) * z.1) + (q2.1).toInt64), (z.2.1 + (1 : Int32)), q2.2)))

def bX5_digest_33 (cn : Tcn) (bk : Tbk) (st : Tst) (li : Tli) (fo : Tfo) (tx : Ttx)  (z : Int64 × Int32) : Option ((Int64 × Int32) ⊕ Int64) :=
  if (4 : Int32) ≤ z.2 then (some (.inr z.1)) else ((fX0_rule bk z.2).bind fun q5 => some (.inl ((((31 : Int64) * z.1) + (q5).toInt64), (z.2 + (1 : Int32)))))

def bX5_digest_76 (cn : Tcn) (bk : Tbk) (st : Tst) (li : Tli) (fo : Tfo) (tx : Ttx) (x3 : Int32) (z : Int64 × Int32) : Option ((Int64 × Int32) ⊕ Int64) :=
  if (4 : Int32) ≤ z.2 then (some (.inr z.1)) else ((fX0_member bk x3 z.2).bind fun q10 => some (.inl ((((31 : Int64) * z.1) + (q10).toInt64), (z.2 + (1 : Int32)))))

def bX5_digest_62 (cn : Tcn) (bk : Tbk) (st : Tst) (li : Tli) (fo : Tfo) (tx : Ttx)  (z : Int64 × Int32) : Option ((Int64 × Int32) ⊕ Int64) :=
  (fX0_days bk).bind fun q7 => if q7 ≤ z.2 then (some (.inr z.1)) else ((lpF (bX5_digest_76 cn bk st li fo tx z.2) FU (z.1, (0 : Int32))).bind fun t11 => some (.inl (t11, (z.2 + (1 : Int32)))))

def bX5_digest_114 (bk : Tbk) (st : Tst) (fo : Tfo) (tx : Ttx)  (z : Int64 × Int32 × Tcn × Tli) : Option ((Int64 × Int32 × Tcn × Tli) ⊕ (Int64 × Tcn × Tli)) :=
  (fX0_days bk).bind fun q13 => if q13 ≤ z.2.1 then (some (.inr (z.1, z.2.2.1, z.2.2.2))) else ((fX5_nearest z.2.2.1 bk z.2.2.2 z.2.1 (0 : Int32) (0 : Int32)).bind fun q15 => (fX5_nearest q15.2.1 bk q15.2.2 z.2.1 (0 : Int32) (1 : Int32)).bind fun q16 => some (.inl ((((31 : Int64) * (((31 : Int64) * z.1) + (q15.1).toInt64)) + (q16.1).toInt64), (z.2.1 + (1 : Int32)), q16.2.1, q16.2.2)))

def fX5_digest (cn : Tcn) (bk : Tbk) (st : Tst) (li : Tli) (fo : Tfo) (tx : Ttx)  : Option (Int64 × Tcn × Tli × Tfo) :=
  (lpF (bX5_digest_6 bk st li fo tx ) FU ((2161 : Int64), (0 : Int32), cn)).bind fun t3 => (lpF (bX5_digest_33 t3.2 bk st li fo tx ) FU (t3.1, (0 : Int32))).bind fun t6 => (lpF (bX5_digest_62 t3.2 bk st li fo tx ) FU (t6, (0 : Int32))).bind fun t12 => (lpF (bX5_digest_114 bk st fo tx ) FU (t12, (0 : Int32), t3.2, li)).bind fun t17 => (fX5_errs t17.2.1 bk t17.2.2 fo (0 : Int32)).bind fun q18 => some ((((31 : Int64) * t17.1) + (q18.1).toInt64), q18.2.1, q18.2.2.1, q18.2.2.2)

def jX6_in_15  (y0 : Int32) : Option (Int32) :=
  gd (decide (y0 &&& 1 = y0)) (some y0)

def jX6_in_14   : Option (Int32) :=
  jX6_in_15  (0 : Int32)

def fX6_in  (x0 : Int32) (x1 : Int32) (x2 : Int32) : Option (Int32) :=
  if x0 < x1 then (jX6_in_14) else (if x2 < x0 then (jX6_in_14) else (jX6_in_15  (1 : Int32)))

def jX6_may_25  (y0 : Int32) : Option (Int32) :=
  gd (decide (y0 &&& 1 = y0)) (some y0)

def jX6_may_20   : Option (Int32) :=
  jX6_may_25  (1 : Int32)

def fX6_may  (x0 : Int32) : Option (Int32) :=
  if x0 = (-10000 : Int32) then (jX6_may_20) else ((fX6_in  x0 (-999 : Int32) (999 : Int32)).bind fun q3 => if q3 = 0 then (jX6_may_25  (0 : Int32)) else (jX6_may_20))

def fX6_bad (rf : (Nat → Int32))  : Option (Int32 × (Nat → Int32)) :=
  gd (inB (0 : Int32) 3) (gd (inB (0 : Int32) 3) (some ((-2 : Int32), (upd rf ((0 : Int32)).toNatClampNeg ((rf ((0 : Int32)).toNatClampNeg) + (1 : Int32))))))

def bX6_leavesState_70 (co : Tco) (x1 : Int32) (z : Int32 × Tke) : Option ((Int32 × Tke) ⊕ Tke) :=
  if (6 : Int32) ≤ z.1 then (some (.inr z.2)) else (gd (inB z.1 6) (gd (inB ((x1 + (1 : Int32)) + z.1) 1035) (some (.inl ((z.1 + (1 : Int32)), (z.2.1, (upd z.2.2 (((x1 + (1 : Int32)) + z.1)).toNatClampNeg (co.2.1 (z.1).toNatClampNeg))))))))

def bX6_leavesState_100 (co : Tco) (x1 : Int32) (z : Int32 × Tke) : Option ((Int32 × Tke) ⊕ Tke) :=
  if (200 : Int32) ≤ z.1 then (some (.inr z.2)) else (gd (inB z.1 200) (gd (inB ((x1 + (7 : Int32)) + z.1) 1035) (some (.inl ((z.1 + (1 : Int32)), (z.2.1, (upd z.2.2 (((x1 + (7 : Int32)) + z.1)).toNatClampNeg (co.2.2 (z.1).toNatClampNeg))))))))

def jX6_leavesState_49 (co : Tco) (ke : Tke)  : Option (Tke) :=
  gd (inB ((207 : Int32) * ke.1) 1035) ((lpF (bX6_leavesState_70 co ((207 : Int32) * ke.1)) FU ((0 : Int32), (ke.1, (upd ke.2 (((207 : Int32) * ke.1)).toNatClampNeg co.1)))).bind fun t6 => (lpF (bX6_leavesState_100 co ((207 : Int32) * ke.1)) FU ((0 : Int32), t6)).bind fun t10 => some ((t10.1 + (1 : Int32)), t10.2))

def bX6_leavesState_10 (co : Tco)  (z : Int32 × Tke) : Option ((Int32 × Tke) ⊕ Tke) :=
  if (828 : Int32) ≤ z.1 then (some (.inr z.2)) else (gd (inB (z.1 + (207 : Int32)) 1035) (gd (inB z.1 1035) (some (.inl ((z.1 + (1 : Int32)), (z.2.1, (upd z.2.2 (z.1).toNatClampNeg (z.2.2 ((z.1 + (207 : Int32))).toNatClampNeg))))))))

def fX6_leavesState (co : Tco) (ke : Tke)  : Option (Tke) :=
  if ¬ ke.1 = (5 : Int32) then (jX6_leavesState_49 co ke) else ((lpF (bX6_leavesState_10 co ) FU ((0 : Int32), ke)).bind fun t14 => jX6_leavesState_49 co ((t14.1 - (1 : Int32)), t14.2))

def fX6_comes (co : Tco) (x1 : Int32) (x2 : Int32) (x3 : Int32) (x4 : Int32) : Option (Tco) :=
  gd (inB ((4 : Int32) * co.1) 200) (gd (inB (((4 : Int32) * co.1) + (1 : Int32)) 200) (gd (inB (((4 : Int32) * co.1) + (2 : Int32)) 200) (gd (inB (((4 : Int32) * co.1) + (3 : Int32)) 200) (some ((co.1 + (1 : Int32)), co.2.1, (upd (upd (upd (upd co.2.2 (((4 : Int32) * co.1)).toNatClampNeg x1) ((((4 : Int32) * co.1) + (1 : Int32))).toNatClampNeg x2) ((((4 : Int32) * co.1) + (2 : Int32))).toNatClampNeg x3) ((((4 : Int32) * co.1) + (3 : Int32))).toNatClampNeg x4))))))

def fX6_full (rf : (Nat → Int32))  : Option (Int32 × (Nat → Int32)) :=
  gd (inB (2 : Int32) 3) (gd (inB (2 : Int32) 3) (some ((-4 : Int32), (upd rf ((2 : Int32)).toNatClampNeg ((rf ((2 : Int32)).toNatClampNeg) + (1 : Int32))))))

def jX6_day_29 (co : Tco) (ke : Tke) (rf : (Nat → Int32))  : Option (Int32 × Tco × Tke × (Nat → Int32)) :=
  (fX6_bad rf).bind fun q3 => some (q3.1, co, ke, q3.2)

def fX6_day (co : Tco) (ke : Tke) (rf : (Nat → Int32)) (x1 : Int32) (x2 : Int32) (x3 : Int32) (x4 : Int32) : Option (Int32 × Tco × Tke × (Nat → Int32)) :=
  (fX6_may  x1).bind fun q1 => if q1 = 0 then (jX6_day_29 co ke rf) else ((fX6_may  x2).bind fun q4 => if q4 = 0 then (jX6_day_29 co ke rf) else ((fX6_may  x3).bind fun q6 => if q6 = 0 then (jX6_day_29 co ke rf) else ((fX6_may  x4).bind fun q8 => if ¬ q8 = 0 then (if ¬ co.1 = (50 : Int32) then ((fX6_leavesState co ke).bind fun q11 => (fX6_comes co x1 x2 x3 x4).bind fun q12 => some ((q12.1 - (1 : Int32)), q12, q11, rf)) else ((fX6_full rf).bind fun q13 => some (q13.1, co, ke, q13.2))) else (jX6_day_29 co ke rf))))

def fX6_isDay (co : Tco) (x1 : Int32) : Option (Int32) :=
  (fX6_in  x1 (0 : Int32) (co.1 - (1 : Int32))).bind fun q1 => gd (decide (q1 &&& 1 = q1)) (some q1)

def fX6_badly (rf : (Nat → Int32))  : Option (Int32 × (Nat → Int32)) :=
  gd (inB (0 : Int32) 3) (gd (inB (0 : Int32) 3) (some ((-20000 : Int32), (upd rf ((0 : Int32)).toNatClampNeg ((rf ((0 : Int32)).toNatClampNeg) + (1 : Int32))))))

def fX6_isMember  (x0 : Int32) : Option (Int32) :=
  (fX6_in  x0 (0 : Int32) (3 : Int32)).bind fun q1 => gd (decide (q1 &&& 1 = q1)) (some q1)

def jX6_sets_22 (co : Tco) (ke : Tke) (rf : (Nat → Int32))  : Option (Int32 × Tco × Tke × (Nat → Int32)) :=
  (fX6_badly rf).bind fun q3 => some (q3.1, co, ke, q3.2)

def fX6_sets (co : Tco) (ke : Tke) (rf : (Nat → Int32)) (x1 : Int32) (x2 : Int32) (x3 : Int32) : Option (Int32 × Tco × Tke × (Nat → Int32)) :=
  (fX6_isDay co x1).bind fun q1 => if q1 = 0 then (jX6_sets_22 co ke rf) else ((fX6_isMember  x2).bind fun q4 => if q4 = 0 then (jX6_sets_22 co ke rf) else ((fX6_may  x3).bind fun q6 => if ¬ q6 = 0 then ((fX6_leavesState co ke).bind fun q8 => gd (inB (((4 : Int32) * x1) + x2) 200) (gd (inB (((4 : Int32) * x1) + x2) 200) (some ((co.2.2 ((((4 : Int32) * x1) + x2)).toNatClampNeg), (co.1, co.2.1, (upd co.2.2 ((((4 : Int32) * x1) + x2)).toNatClampNeg x3)), q8, rf)))) else (jX6_sets_22 co ke rf)))

def bX6_before_4 (co : Tco)  (z : Int32) : Option ((Int32) ⊕ Int32) :=
  if z < 0 then (some (.inr z)) else (gd (inB z 200) (if ¬ (co.2.2 (z).toNatClampNeg) = (-10000 : Int32) then (some (.inr z)) else (some (.inl (z + (-4 : Int32))))))

def jX6_before_40 (co : Tco) (y0 : Int32) : Option (Int32) :=
  some y0

def fX6_before (co : Tco) (x1 : Int32) : Option (Int32) :=
  (lpF (bX6_before_4 co ) FU (x1 - (4 : Int32))).bind fun t4 => if 0 ≤ t4 then (gd (inB t4 200) (jX6_before_40 co (co.2.2 (t4).toNatClampNeg))) else (jX6_before_40 co (0 : Int32))

def jX6_draw_20 (co : Tco) (ke : Tke) (rf : (Nat → Int32))  : Option (Int32 × Tco × Tke × (Nat → Int32)) :=
  (fX6_bad rf).bind fun q3 => some (q3.1, co, ke, q3.2)

def jX6_draw_43_154 (co : Tco) (ke : Tke) (rf : (Nat → Int32)) (x2 : Int32) (x3 : Int64) (x5 : Int32) (x6 : Int32) : Option ((Int64 × Int32 × Int32 × Tco) ⊕ (Int32 × Tco)) :=
  some (.inl (x3, x5, (x6 + (1 : Int32)), co))

def jX6_draw_43_153 (co : Tco) (ke : Tke) (rf : (Nat → Int32)) (x2 : Int32) (x3 : Int64) (x5 : Int32) (x6 : Int32) (y1 : Int32) (y2 : Int32) : Option ((Int64 × Int32 × Int32 × Tco) ⊕ (Int32 × Tco)) :=
  gd (inB y1 200) (jX6_draw_43_154 (co.1, co.2.1, (upd co.2.2 (y1).toNatClampNeg y2)) ke rf x2 x3 x5 x6)

def bX6_draw_43 (ke : Tke) (rf : (Nat → Int32)) (x2 : Int32) (z : Int64 × Int32 × Int32 × Tco) : Option ((Int64 × Int32 × Int32 × Tco) ⊕ (Int32 × Tco)) :=
  if ((4 : Int32) * x2) ≤ z.2.2.1 then (some (.inr (z.2.1, z.2.2.2))) else (if ¬ (lg_cmp (((((z.1 * (1103515245 : Int64)) + (12345 : Int64)) - ((z.1 * (1103515245 : Int64)) + (12345 : Int64)) / (2147483648 : Int64) * (2147483648 : Int64)) / (65536 : Int64)) - ((((z.1 * (1103515245 : Int64)) + (12345 : Int64)) - ((z.1 * (1103515245 : Int64)) + (12345 : Int64)) / (2147483648 : Int64) * (2147483648 : Int64)) / (65536 : Int64)) / (16 : Int64) * (16 : Int64)) (0 : Int64)) = 0 then ((fX6_before z.2.2.2 z.2.2.1).bind fun q9 => if ((q9 + ((((((z.1 * (1103515245 : Int64)) + (12345 : Int64)) - ((z.1 * (1103515245 : Int64)) + (12345 : Int64)) / (2147483648 : Int64) * (2147483648 : Int64)) / (1024 : Int64)) - ((((z.1 * (1103515245 : Int64)) + (12345 : Int64)) - ((z.1 * (1103515245 : Int64)) + (12345 : Int64)) / (2147483648 : Int64) * (2147483648 : Int64)) / (1024 : Int64)) / (41 : Int64) * (41 : Int64))).toInt32) - (20 : Int32)) ≤ (999 : Int32) then (if (-999 : Int32) ≤ ((q9 + ((((((z.1 * (1103515245 : Int64)) + (12345 : Int64)) - ((z.1 * (1103515245 : Int64)) + (12345 : Int64)) / (2147483648 : Int64) * (2147483648 : Int64)) / (1024 : Int64)) - ((((z.1 * (1103515245 : Int64)) + (12345 : Int64)) - ((z.1 * (1103515245 : Int64)) + (12345 : Int64)) / (2147483648 : Int64) * (2147483648 : Int64)) / (1024 : Int64)) / (41 : Int64) * (41 : Int64))).toInt32) - (20 : Int32)) then (jX6_draw_43_153 z.2.2.2 ke rf x2 (((z.1 * (1103515245 : Int64)) + (12345 : Int64)) - ((z.1 * (1103515245 : Int64)) + (12345 : Int64)) / (2147483648 : Int64) * (2147483648 : Int64)) z.2.1 z.2.2.1 z.2.2.1 ((q9 + ((((((z.1 * (1103515245 : Int64)) + (12345 : Int64)) - ((z.1 * (1103515245 : Int64)) + (12345 : Int64)) / (2147483648 : Int64) * (2147483648 : Int64)) / (1024 : Int64)) - ((((z.1 * (1103515245 : Int64)) + (12345 : Int64)) - ((z.1 * (1103515245 : Int64)) + (12345 : Int64)) / (2147483648 : Int64) * (2147483648 : Int64)) / (1024 : Int64)) / (41 : Int64) * (41 : Int64))).toInt32) - (20 : Int32))) else (jX6_draw_43_153 z.2.2.2 ke rf x2 (((z.1 * (1103515245 : Int64)) + (12345 : Int64)) - ((z.1 * (1103515245 : Int64)) + (12345 : Int64)) / (2147483648 : Int64) * (2147483648 : Int64)) z.2.1 z.2.2.1 z.2.2.1 (-999 : Int32))) else (jX6_draw_43_153 z.2.2.2 ke rf x2 (((z.1 * (1103515245 : Int64)) + (12345 : Int64)) - ((z.1 * (1103515245 : Int64)) + (12345 : Int64)) / (2147483648 : Int64) * (2147483648 : Int64)) z.2.1 z.2.2.1 z.2.2.1 (999 : Int32))) else (gd (inB z.2.2.1 200) (jX6_draw_43_154 (z.2.2.2.1, z.2.2.2.2.1, (upd z.2.2.2.2.2 (z.2.2.1).toNatClampNeg (-10000 : Int32))) ke rf x2 (((z.1 * (1103515245 : Int64)) + (12345 : Int64)) - ((z.1 * (1103515245 : Int64)) + (12345 : Int64)) / (2147483648 : Int64) * (2147483648 : Int64)) (z.2.1 + (1 : Int32)) z.2.2.1)))

def fX6_draw (co : Tco) (ke : Tke) (rf : (Nat → Int32)) (x1 : Int32) (x2 : Int32) : Option (Int32 × Tco × Tke × (Nat → Int32)) :=
  (fX6_in  x1 (0 : Int32) (999999 : Int32)).bind fun q1 => if q1 = 0 then (jX6_draw_20 co ke rf) else ((fX6_in  x2 (1 : Int32) (50 : Int32)).bind fun q4 => if ¬ q4 = 0 then ((fX6_leavesState co ke).bind fun q6 => (lpF (bX6_draw_43 q6 rf x2) FU ((x1).toInt64, (0 : Int32), (0 : Int32), (x2, co.2.1, co.2.2))).bind fun t14 => some (t14.1, t14.2, q6, rf)) else (jX6_draw_20 co ke rf))

def fX6_empties (co : Tco) (ke : Tke)  : Option (Int32 × Tco × Tke) :=
  (fX6_leavesState co ke).bind fun q1 => some (co.1, ((0 : Int32), co.2.1, co.2.2), q1)

def jX6_rules_52 (co : Tco) (ke : Tke) (rf : (Nat → Int32)) (x1 : Int32) (x2 : Int32) (y0 : Int32) : Option (Int32 × Tco × Tke × (Nat → Int32)) :=
  if ¬ y0 = 0 then ((fX6_leavesState co ke).bind fun q6 => gd (inB x1 6) (gd (inB x1 6) (some ((co.2.1 (x1).toNatClampNeg), (co.1, (upd co.2.1 (x1).toNatClampNeg x2), co.2.2), q6, rf)))) else ((fX6_bad rf).bind fun q9 => some (q9.1, co, ke, q9.2))

def jX6_rules_51 (co : Tco) (ke : Tke) (rf : (Nat → Int32)) (x1 : Int32) (x2 : Int32) : Option (Int32 × Tco × Tke × (Nat → Int32)) :=
  jX6_rules_52 co ke rf x1 x2 (0 : Int32)

def fX6_rules (co : Tco) (ke : Tke) (rf : (Nat → Int32)) (x1 : Int32) (x2 : Int32) : Option (Int32 × Tco × Tke × (Nat → Int32)) :=
  if ¬ x1 = (4 : Int32) then (if ¬ x1 = (5 : Int32) then ((fX6_isMember  x1).bind fun q3 => if q3 = 0 then (jX6_rules_51 co ke rf x1 x2) else ((fX6_in  x2 (0 : Int32) (80 : Int32)).bind fun q10 => if q10 = 0 then (jX6_rules_51 co ke rf x1 x2) else (jX6_rules_52 co ke rf x1 x2 (1 : Int32)))) else ((fX6_in  x2 (1 : Int32) (12 : Int32)).bind fun q12 => jX6_rules_52 co ke rf x1 x2 q12)) else ((fX6_in  x2 (0 : Int32) (9 : Int32)).bind fun q13 => jX6_rules_52 co ke rf x1 x2 q13)

def jX6_at_32 (co : Tco) (rf : (Nat → Int32)) (y0 : Int32) : Option (Int32 × (Nat → Int32)) :=
  some (y0, rf)

def jX6_at_28 (co : Tco) (rf : (Nat → Int32))  : Option (Int32 × (Nat → Int32)) :=
  (fX6_badly rf).bind fun q3 => jX6_at_32 co q3.2 q3.1

def fX6_at (co : Tco) (rf : (Nat → Int32)) (x1 : Int32) (x2 : Int32) : Option (Int32 × (Nat → Int32)) :=
  (fX6_isDay co x1).bind fun q1 => if q1 = 0 then (jX6_at_28 co rf) else ((fX6_isMember  x2).bind fun q4 => if q4 = 0 then (jX6_at_28 co rf) else (gd (inB (((4 : Int32) * x1) + x2) 200) (jX6_at_32 co rf (co.2.2 ((((4 : Int32) * x1) + x2)).toNatClampNeg))))

def jX6_isNoted_12  (y0 : Int32) : Option (Int32) :=
  gd (decide (y0 &&& 1 = y0)) (some y0)

def fX6_isNoted  (x0 : Int32) : Option (Int32) :=
  if x0 = (-10000 : Int32) then (jX6_isNoted_12  (0 : Int32)) else (jX6_isNoted_12  (1 : Int32))

def fX6_value  (x0 : Int32) : Option (UInt32) :=
  gd (n32 (FP.fdiv (FP.i2f x0) (1092616192 : UInt32))) (some (FP.fdiv (FP.i2f x0) (1092616192 : UInt32)))

def jX6_distanceOf_37_147 (co : Tco) (cp : Int32) (x3 : Int32) (x4 : Int32) (x5 : UInt32) (x6 : UInt32) (x7 : Int32) : Option ((UInt32 × UInt32 × Int32 × Int32) ⊕ (UInt32 × UInt32 × Int32)) :=
  some (.inl (x5, x6, (x7 + (1 : Int32)), cp))

def bX6_distanceOf_37 (co : Tco) (x3 : Int32) (x4 : Int32) (z : UInt32 × UInt32 × Int32 × Int32) : Option ((UInt32 × UInt32 × Int32 × Int32) ⊕ (UInt32 × UInt32 × Int32)) :=
  if (4 : Int32) ≤ z.2.2.1 then (some (.inr (z.1, z.2.1, z.2.2.2))) else (gd (inB (((4 : Int32) * x3) + z.2.2.1) 200) (gd (inB (((4 : Int32) * x4) + z.2.2.1) 200) ((fX6_isNoted  (co.2.2 ((((4 : Int32) * x3) + z.2.2.1)).toNatClampNeg)).bind fun q6 => if q6 = 0 then (jX6_distanceOf_37_147 co z.2.2.2 x3 x4 z.1 z.2.1 z.2.2.1) else ((fX6_isNoted  (co.2.2 ((((4 : Int32) * x4) + z.2.2.1)).toNatClampNeg)).bind fun q8 => if q8 = 0 then (jX6_distanceOf_37_147 co z.2.2.2 x3 x4 z.1 z.2.1 z.2.2.1) else (gd (inB z.2.2.1 6) (if (co.2.1 (z.2.2.1).toNatClampNeg) ≤ 0 then (jX6_distanceOf_37_147 co z.2.2.2 x3 x4 z.1 z.2.1 z.2.2.1) else (gd (inB z.2.2.1 6) (gd (n32 (FP.fdiv (FP.i2f (co.2.1 (z.2.2.1).toNatClampNeg)) (1090519040 : UInt32))) ((fX6_value  (co.2.2 ((((4 : Int32) * x3) + z.2.2.1)).toNatClampNeg)).bind fun q14 => (fX6_value  (co.2.2 ((((4 : Int32) * x4) + z.2.2.1)).toNatClampNeg)).bind fun q15 => gd (n32 (FP.fsub q14 q15)) (gd (n32 (FP.fmul (FP.fsub q14 q15) (FP.fsub q14 q15))) (gd (n32 (FP.fmul (FP.fdiv (FP.i2f (co.2.1 (z.2.2.1).toNatClampNeg)) (1090519040 : UInt32)) (FP.fmul (FP.fsub q14 q15) (FP.fsub q14 q15)))) (gd (n32 (FP.fadd z.1 (FP.fmul (FP.fdiv (FP.i2f (co.2.1 (z.2.2.1).toNatClampNeg)) (1090519040 : UInt32)) (FP.fmul (FP.fsub q14 q15) (FP.fsub q14 q15))))) (gd (n32 (FP.fadd z.2.1 (FP.fdiv (FP.i2f (co.2.1 (z.2.2.1).toNatClampNeg)) (1090519040 : UInt32)))) (jX6_distanceOf_37_147 co (1 : Int32) x3 x4 (FP.fadd z.1 (FP.fmul (FP.fdiv (FP.i2f (co.2.1 (z.2.2.1).toNatClampNeg)) (1090519040 : UInt32)) (FP.fmul (FP.fsub q14 q15) (FP.fsub q14 q15)))) (FP.fadd z.2.1 (FP.fdiv (FP.i2f (co.2.1 (z.2.2.1).toNatClampNeg)) (1090519040 : UInt32))) z.2.2.1))))))))))))))

def jX6_distanceOf_169 (co : Tco) (cp : Int32) (y0 : UInt32) : Option (UInt32 × Int32) :=
  some (y0, cp)

def jX6_distanceOf_21 (co : Tco) (cp : Int32) (x3 : Int32) (y0 : Int32) : Option (UInt32 × Int32) :=
  (lpF (bX6_distanceOf_37 co x3 y0) FU (FP.fconst0, FP.fconst0, (0 : Int32), (0 : Int32))).bind fun t21 => if t21.2.2 = 0 then (jX6_distanceOf_169 co t21.2.2 FP.fconst0) else (gd (n32 (FP.fdiv t21.1 t21.2.1)) (jX6_distanceOf_169 co t21.2.2 (FP.fdiv t21.1 t21.2.1)))

def jX6_distanceOf_10 (co : Tco) (cp : Int32) (x1 : Int32) (x2 : Int32) (y0 : Int32) : Option (UInt32 × Int32) :=
  if x2 ≤ x1 then (jX6_distanceOf_21 co cp y0 x1) else (jX6_distanceOf_21 co cp y0 x2)

def fX6_distanceOf (co : Tco) (cp : Int32) (x1 : Int32) (x2 : Int32) : Option (UInt32 × Int32) :=
  if x2 ≤ x1 then (jX6_distanceOf_10 co cp x1 x2 x2) else (jX6_distanceOf_10 co cp x1 x2 x1)

def jJxf58ca_isNaN_12338_11  (y0 : Int32) : Option (Int32) :=
  gd (decide (y0 &&& 1 = y0)) (some y0)

def fJxf58ca_isNaN_12338  (x0 : UInt32) : Option (Int32) :=
  if (Op.cmpValue (FP.fcmp x0 x0) CmpOp.l) = 0 then (jJxf58ca_isNaN_12338_11  (0 : Int32)) else (jJxf58ca_isNaN_12338_11  (1 : Int32))

def fJxf58ca_floatToIntBits_5c35a  (x0 : UInt32) : Option (Int32) :=
  (fJxf58ca_isNaN_12338  x0).bind fun q1 => if ¬ q1 = 0 then (some (2143289344 : Int32)) else (some ((x0).toInt32))

def jX6_distance_21 (co : Tco) (rf : (Nat → Int32)) (cp : Int32)  : Option (Int32 × (Nat → Int32) × Int32) :=
  (fX6_bad rf).bind fun q3 => some (q3.1, q3.2, cp)

def jX6_distance_48 (co : Tco) (rf : (Nat → Int32)) (cp : Int32) (y0 : Int32) : Option (Int32 × (Nat → Int32) × Int32) :=
  some (y0, rf, cp)

def fX6_distance (co : Tco) (rf : (Nat → Int32)) (cp : Int32) (x1 : Int32) (x2 : Int32) : Option (Int32 × (Nat → Int32) × Int32) :=
  (fX6_isDay co x1).bind fun q1 => if q1 = 0 then (jX6_distance_21 co rf cp) else ((fX6_isDay co x2).bind fun q4 => if q4 = 0 then (jX6_distance_21 co rf cp) else (if ¬ x1 = x2 then ((fX6_distanceOf co cp x1 x2).bind fun q7 => if q7.2 = 0 then (jX6_distance_48 co rf q7.2 (-1 : Int32)) else ((fJxf58ca_floatToIntBits_5c35a  q7.1).bind fun q9 => jX6_distance_48 co rf q7.2 q9)) else (jX6_distance_21 co rf cp)))

def jX6_mayBeLike_52 (co : Tco) (y0 : Int32) : Option (Int32) :=
  gd (decide (y0 &&& 1 = y0)) (some y0)

def jX6_mayBeLike_51 (co : Tco)  : Option (Int32) :=
  jX6_mayBeLike_52 co (0 : Int32)

def jX6_mayBeLike_14 (co : Tco) (x1 : Int32) (x2 : Int32) (y0 : Int32) : Option (Int32) :=
  if x2 = x1 then (jX6_mayBeLike_51 co) else (gd (inB (4 : Int32) 6) (if y0 ≤ (co.2.1 ((4 : Int32)).toNatClampNeg) then (jX6_mayBeLike_51 co) else (if co.1 ≤ (x2 + (1 : Int32)) then (jX6_mayBeLike_51 co) else (if (x2 + (1 : Int32)) = x1 then (jX6_mayBeLike_51 co) else (jX6_mayBeLike_52 co (1 : Int32))))))

def fX6_mayBeLike (co : Tco) (x1 : Int32) (x2 : Int32) : Option (Int32) :=
  if x2 ≤ x1 then (jX6_mayBeLike_14 co x1 x2 (x1 - x2)) else (jX6_mayBeLike_14 co x1 x2 (x2 - x1))

def jX6_setLike_7_127 (co : Tco) (cp : Int32) (lk : Tlk) (x1 : Int32) (x2 : Int32) : Option ((Int32 × Int32 × Tlk) ⊕ (Int32 × Tlk)) :=
  some (.inl ((x2 + (1 : Int32)), cp, lk))

def bX6_setLike_44 (co : Tco) (cp : Int32) (x1 : Int32) (x2 : Int32) (x3 : UInt32) (z : Int32 × Tlk) : Option ((Int32 × Tlk) ⊕ (Int32 × Tlk)) :=
  if z.1 ≤ 0 then (some (.inr (z.1, z.2))) else (gd (inB (z.1 - (1 : Int32)) 50) (if (Op.cmpValue (FP.fcmp (z.2.2.2 ((z.1 - (1 : Int32))).toNatClampNeg) x3) CmpOp.l) ≤ 0 then (some (.inr (z.1, z.2))) else (gd (inB (z.1 - (1 : Int32)) 50) (gd (inB z.1 50) (gd (inB (z.1 - (1 : Int32)) 50) (gd (inB z.1 50) (some (.inl ((z.1 + (-1 : Int32)), (z.2.1, (upd z.2.2.1 (z.1).toNatClampNeg (z.2.2.1 ((z.1 - (1 : Int32))).toNatClampNeg)), (vf_upd z.2.2.2 (z.1).toNatClampNeg (z.2.2.2 ((z.1 - (1 : Int32))).toNatClampNeg))))))))))))

def bX6_setLike_7 (co : Tco) (x1 : Int32) (z : Int32 × Int32 × Tlk) : Option ((Int32 × Int32 × Tlk) ⊕ (Int32 × Tlk)) :=
  if co.1 ≤ z.1 then (some (.inr (z.2.1, z.2.2))) else ((fX6_mayBeLike co x1 z.1).bind fun q2 => if q2 = 0 then (jX6_setLike_7_127 co z.2.1 z.2.2 x1 z.1) else ((fX6_distanceOf co z.2.1 x1 z.1).bind fun q4 => if q4.2 = 0 then (jX6_setLike_7_127 co q4.2 z.2.2 x1 z.1) else ((lpF (bX6_setLike_44 co q4.2 x1 z.1 q4.1) FU (z.2.2.1, z.2.2)).bind fun t13 => gd (inB t13.1 50) (gd (inB t13.1 50) (jX6_setLike_7_127 co q4.2 ((t13.2.1 + (1 : Int32)), (upd t13.2.2.1 (t13.1).toNatClampNeg z.1), (vf_upd t13.2.2.2 (t13.1).toNatClampNeg q4.1)) x1 z.1)))))

def fX6_setLike (co : Tco) (cp : Int32) (lk : Tlk) (x1 : Int32) : Option (Int32 × Tlk) :=
  (lpF (bX6_setLike_7 co x1) FU ((0 : Int32), cp, ((0 : Int32), lk.2.1, lk.2.2))).bind fun t16 => some (t16.1, t16.2)

def jX6_setNearest_32 (co : Tco) (cp : Int32) (lk : Tlk) (y1 : Int32) : Option (Int32 × Tlk) :=
  some (cp, (y1, lk.2.1, lk.2.2))

def fX6_setNearest (co : Tco) (cp : Int32) (lk : Tlk) (x1 : Int32) : Option (Int32 × Tlk) :=
  (fX6_setLike co cp lk x1).bind fun q1 => gd (inB (5 : Int32) 6) (if (co.2.1 ((5 : Int32)).toNatClampNeg) ≤ q1.2.1 then (gd (inB (5 : Int32) 6) (jX6_setNearest_32 co q1.1 q1.2 (co.2.1 ((5 : Int32)).toNatClampNeg))) else (jX6_setNearest_32 co q1.1 q1.2 q1.2.1))

def jX6_nearest_21 (co : Tco) (rf : (Nat → Int32)) (cp : Int32) (lk : Tlk)  : Option (Int32 × (Nat → Int32) × Int32 × Tlk) :=
  (fX6_bad rf).bind fun q3 => some (q3.1, q3.2, cp, lk)

def jX6_nearest_63 (co : Tco) (rf : (Nat → Int32)) (cp : Int32) (lk : Tlk) (y0 : Int32) : Option (Int32 × (Nat → Int32) × Int32 × Tlk) :=
  some (y0, rf, cp, lk)

def fX6_nearest (co : Tco) (rf : (Nat → Int32)) (cp : Int32) (lk : Tlk) (x1 : Int32) (x2 : Int32) (x3 : Int32) : Option (Int32 × (Nat → Int32) × Int32 × Tlk) :=
  (fX6_isDay co x1).bind fun q1 => if q1 = 0 then (jX6_nearest_21 co rf cp lk) else (if x2 < 0 then (jX6_nearest_21 co rf cp lk) else ((fX6_in  x3 (0 : Int32) (1 : Int32)).bind fun q5 => if ¬ q5 = 0 then ((fX6_setNearest co cp lk x1).bind fun q7 => if x2 < q7.2.1 then (if ¬ x3 = 0 then (gd (inB x2 50) ((fJxf58ca_floatToIntBits_5c35a  (q7.2.2.2 (x2).toNatClampNeg)).bind fun q11 => jX6_nearest_63 co rf q7.1 q7.2 q11)) else (gd (inB x2 50) (jX6_nearest_63 co rf q7.1 q7.2 (q7.2.2.1 (x2).toNatClampNeg)))) else (some ((-1 : Int32), rf, q7.1, q7.2))) else (jX6_nearest_21 co rf cp lk)))

def fX6_likes (co : Tco) (rf : (Nat → Int32)) (cp : Int32) (lk : Tlk) (x1 : Int32) : Option (Int32 × (Nat → Int32) × Int32 × Tlk) :=
  (fX6_isDay co x1).bind fun q1 => if ¬ q1 = 0 then ((fX6_setLike co cp lk x1).bind fun q3 => some (q3.2.1, rf, q3.1, q3.2)) else ((fX6_bad rf).bind fun q4 => some (q4.1, q4.2, cp, lk))

def jX6_serves_33_59 (co : Tco) (rf : (Nat → Int32)) (cp : Int32) (lk : Tlk) (x1 : Int32) (x3 : Int32) (x4 : Int32) (y0 : Int32) (y1 : Int32) : Option ((Int32 × Int32) ⊕ Int32) :=
  some (.inl ((y0 + y1), (x4 + (1 : Int32))))

def bX6_serves_33 (co : Tco) (rf : (Nat → Int32)) (cp : Int32) (lk : Tlk) (x1 : Int32) (x3 : Int32) (z : Int32 × Int32) : Option ((Int32 × Int32) ⊕ Int32) :=
  if lk.1 ≤ z.2 then (some (.inr z.1)) else (gd (inB z.2 50) (if ¬ (lk.2.1 (z.2).toNatClampNeg) = x1 then (jX6_serves_33_59 co rf cp lk x1 x3 z.2 z.1 (0 : Int32)) else (jX6_serves_33_59 co rf cp lk x1 x3 z.2 z.1 (1 : Int32))))

def bX6_serves_17 (co : Tco) (rf : (Nat → Int32)) (x1 : Int32) (z : Int32 × Int32 × Int32 × Tlk) : Option ((Int32 × Int32 × Int32 × Tlk) ⊕ (Int32 × Int32 × Tlk)) :=
  if co.1 ≤ z.2.1 then (some (.inr (z.1, z.2.2.1, z.2.2.2))) else ((fX6_setNearest co z.2.2.1 z.2.2.2 z.2.1).bind fun q4 => (lpF (bX6_serves_33 co rf q4.1 q4.2 x1 z.2.1) FU (z.1, (0 : Int32))).bind fun t8 => some (.inl (t8, (z.2.1 + (1 : Int32)), q4.1, q4.2)))

def fX6_serves (co : Tco) (rf : (Nat → Int32)) (cp : Int32) (lk : Tlk) (x1 : Int32) : Option (Int32 × (Nat → Int32) × Int32 × Tlk) :=
  (fX6_isDay co x1).bind fun q1 => if ¬ q1 = 0 then ((lpF (bX6_serves_17 co rf x1) FU ((0 : Int32), (0 : Int32), cp, lk)).bind fun t9 => some (t9.1, rf, t9.2.1, t9.2.2)) else ((fX6_bad rf).bind fun q10 => some (q10.1, q10.2, cp, lk))

def jX6_twins_39_88 (co : Tco) (rf : (Nat → Int32)) (cp : Int32) (x1 : Int32) (x2 : Int32) (x3 : Int32) (x4 : UInt32) (x5 : Int32) (x6 : Int32) : Option ((Int32 × Int32 × UInt32 × Int32 × Int32) ⊕ (Int32 × Int32 × UInt32 × Int32)) :=
  some (.inl (x2, x3, x4, (x6 + (1 : Int32)), cp))

def jX6_twins_39_78 (co : Tco) (rf : (Nat → Int32)) (cp : Int32) (x1 : Int32) (x5 : Int32) (x6 : Int32) (x7 : UInt32) : Option ((Int32 × Int32 × UInt32 × Int32 × Int32) ⊕ (Int32 × Int32 × UInt32 × Int32)) :=
  jX6_twins_39_88 co rf cp x1 x5 x6 x7 x5 x6

def bX6_twins_39 (co : Tco) (rf : (Nat → Int32)) (x1 : Int32) (x5 : Int32) (z : Int32 × Int32 × UInt32 × Int32 × Int32) : Option ((Int32 × Int32 × UInt32 × Int32 × Int32) ⊕ (Int32 × Int32 × UInt32 × Int32)) :=
  if co.1 ≤ z.2.2.2.1 then (some (.inr (z.1, z.2.1, z.2.2.1, z.2.2.2.2))) else ((fX6_distanceOf co z.2.2.2.2 x5 z.2.2.2.1).bind fun q5 => if q5.2 = 0 then (jX6_twins_39_88 co rf q5.2 x1 z.1 z.2.1 z.2.2.1 x5 z.2.2.2.1) else (if z.1 = (-1 : Int32) then (jX6_twins_39_78 co rf q5.2 x1 x5 z.2.2.2.1 q5.1) else (if 0 ≤ (Op.cmpValue (FP.fcmp q5.1 z.2.2.1) CmpOp.g) then (jX6_twins_39_88 co rf q5.2 x1 z.1 z.2.1 z.2.2.1 x5 z.2.2.2.1) else (jX6_twins_39_78 co rf q5.2 x1 x5 z.2.2.2.1 q5.1))))

def bX6_twins_24 (co : Tco) (rf : (Nat → Int32)) (x1 : Int32) (z : Int32 × Int32 × UInt32 × Int32 × Int32) : Option ((Int32 × Int32 × UInt32 × Int32 × Int32) ⊕ (Int32 × Int32 × UInt32 × Int32)) :=
  if co.1 ≤ z.2.2.2.1 then (some (.inr (z.1, z.2.1, z.2.2.1, z.2.2.2.2))) else ((lpF (bX6_twins_39 co rf x1 z.2.2.2.1) FU (z.1, z.2.1, z.2.2.1, (z.2.2.2.1 + (1 : Int32)), z.2.2.2.2)).bind fun t9 => some (.inl (t9.1, t9.2.1, t9.2.2.1, (z.2.2.2.1 + (1 : Int32)), t9.2.2.2)))

def jX6_twins_127 (co : Tco) (rf : (Nat → Int32)) (cp : Int32) (y0 : Int32) : Option (Int32 × (Nat → Int32) × Int32) :=
  some (y0, rf, cp)

def jX6_twins_109 (co : Tco) (rf : (Nat → Int32)) (cp : Int32) (x2 : Int32) : Option (Int32 × (Nat → Int32) × Int32) :=
  jX6_twins_127 co rf cp x2

def fX6_twins (co : Tco) (rf : (Nat → Int32)) (cp : Int32) (x1 : Int32) : Option (Int32 × (Nat → Int32) × Int32) :=
  (fX6_in  x1 (0 : Int32) (2 : Int32)).bind fun q1 => if ¬ q1 = 0 then ((lpF (bX6_twins_24 co rf x1) FU ((-1 : Int32), (-1 : Int32), FP.fconst0, (0 : Int32), cp)).bind fun t10 => if x1 = 0 then (jX6_twins_109 co rf t10.2.2.2 t10.1) else (if ¬ t10.1 = (-1 : Int32) then (if ¬ x1 = (1 : Int32) then ((fJxf58ca_floatToIntBits_5c35a  t10.2.2.1).bind fun q14 => jX6_twins_127 co rf t10.2.2.2 q14) else (jX6_twins_127 co rf t10.2.2.2 t10.2.1)) else (jX6_twins_109 co rf t10.2.2.2 t10.1))) else ((fX6_bad rf).bind fun q15 => some (q15.1, q15.2, cp))

def jX6_strangers_17_52 (co : Tco) (rf : (Nat → Int32)) (cp : Int32) (x1 : Int32) (x2 : Int32) (x3 : Int32) : Option ((Int32 × Int32 × Int32) ⊕ (Int32 × Int32)) :=
  some (.inl (x2, (x3 + (1 : Int32)), cp))

def jX6_strangers_17_50 (co : Tco) (rf : (Nat → Int32)) (cp : Int32) (x1 : Int32) (x3 : Int32) (y0 : Int32) (y1 : Int32) : Option ((Int32 × Int32 × Int32) ⊕ (Int32 × Int32)) :=
  jX6_strangers_17_52 co rf cp x1 (y0 + y1) x3

def bX6_strangers_17 (co : Tco) (rf : (Nat → Int32)) (x1 : Int32) (z : Int32 × Int32 × Int32) : Option ((Int32 × Int32 × Int32) ⊕ (Int32 × Int32)) :=
  if co.1 ≤ z.2.1 then (some (.inr (z.1, z.2.2))) else (if z.2.1 = x1 then (jX6_strangers_17_52 co rf z.2.2 x1 z.1 z.2.1) else ((fX6_distanceOf co z.2.2 x1 z.2.1).bind fun q5 => if q5.2 = 0 then (jX6_strangers_17_50 co rf q5.2 x1 z.2.1 z.1 (1 : Int32)) else (jX6_strangers_17_50 co rf q5.2 x1 z.2.1 z.1 (0 : Int32))))

def fX6_strangers (co : Tco) (rf : (Nat → Int32)) (cp : Int32) (x1 : Int32) : Option (Int32 × (Nat → Int32) × Int32) :=
  (fX6_isDay co x1).bind fun q1 => if ¬ q1 = 0 then ((lpF (bX6_strangers_17 co rf x1) FU ((0 : Int32), (0 : Int32), cp)).bind fun t7 => some (t7.1, rf, t7.2)) else ((fX6_bad rf).bind fun q8 => some (q8.1, q8.2, cp))

def jX6_setFollowers_12_83 (co : Tco) (cp : Int32) (lk : Tlk) (fl : Tfl) (x2 : Int32) (x3 : Int32) : Option ((Int32 × Tfl) ⊕ Tfl) :=
  some (.inl ((x3 + (1 : Int32)), fl))

def bX6_setFollowers_12 (co : Tco) (cp : Int32) (lk : Tlk) (x2 : Int32) (z : Int32 × Tfl) : Option ((Int32 × Tfl) ⊕ Tfl) :=
  if lk.1 ≤ z.1 then (some (.inr z.2)) else (gd (inB z.1 50) (gd (inB (((4 : Int32) * ((lk.2.1 (z.1).toNatClampNeg) + (1 : Int32))) + x2) 200) ((fX6_isNoted  (co.2.2 ((((4 : Int32) * ((lk.2.1 (z.1).toNatClampNeg) + (1 : Int32))) + x2)).toNatClampNeg)).bind fun q5 => if q5 = 0 then (jX6_setFollowers_12_83 co cp lk z.2 x2 z.1) else (gd (inB z.2.1 50) (gd (inB z.1 50) (gd (inB z.2.1 50) (jX6_setFollowers_12_83 co cp lk ((z.2.1 + (1 : Int32)), (upd z.2.2.1 (z.2.1).toNatClampNeg (co.2.2 ((((4 : Int32) * ((lk.2.1 (z.1).toNatClampNeg) + (1 : Int32))) + x2)).toNatClampNeg)), (vf_upd z.2.2.2.1 (z.2.1).toNatClampNeg (lk.2.2 (z.1).toNatClampNeg)), z.2.2.2.2) x2 z.1)))))))

def bX6_setFollowers_102 (co : Tco) (cp : Int32) (lk : Tlk) (x3 : Int32) (z : Int32 × Tfl) : Option ((Int32 × Tfl) ⊕ (Int32 × Tfl)) :=
  if z.1 ≤ 0 then (some (.inr (z.1, z.2))) else (gd (inB (z.1 - (1 : Int32)) 50) (gd (inB x3 50) (if (z.2.2.2.2 ((z.1 - (1 : Int32))).toNatClampNeg) ≤ (z.2.2.1 (x3).toNatClampNeg) then (some (.inr (z.1, z.2))) else (gd (inB (z.1 - (1 : Int32)) 50) (gd (inB z.1 50) (some (.inl ((z.1 + (-1 : Int32)), (z.2.1, z.2.2.1, z.2.2.2.1, (upd z.2.2.2.2 (z.1).toNatClampNeg (z.2.2.2.2 ((z.1 - (1 : Int32))).toNatClampNeg)))))))))))

def bX6_setFollowers_91 (co : Tco) (cp : Int32) (lk : Tlk)  (z : Int32 × Tfl) : Option ((Int32 × Tfl) ⊕ Tfl) :=
  if z.2.1 ≤ z.1 then (some (.inr z.2)) else ((lpF (bX6_setFollowers_102 co cp lk z.1) FU (z.1, z.2)).bind fun t18 => gd (inB z.1 50) (gd (inB t18.1 50) (some (.inl ((z.1 + (1 : Int32)), (t18.2.1, t18.2.2.1, t18.2.2.2.1, (upd t18.2.2.2.2 (t18.1).toNatClampNeg (t18.2.2.1 (z.1).toNatClampNeg))))))))

def fX6_setFollowers (co : Tco) (cp : Int32) (lk : Tlk) (fl : Tfl) (x1 : Int32) (x2 : Int32) : Option (Int32 × Tlk × Tfl) :=
  (fX6_setNearest co cp lk x1).bind fun q1 => (lpF (bX6_setFollowers_12 co q1.1 q1.2 x2) FU ((0 : Int32), ((0 : Int32), fl.2.1, fl.2.2.1, fl.2.2.2))).bind fun t10 => (lpF (bX6_setFollowers_91 co q1.1 q1.2 ) FU ((0 : Int32), t10)).bind fun t21 => some (q1.1, q1.2, t21)

def jX6_follows_34 (co : Tco) (rf : (Nat → Int32)) (cp : Int32) (lk : Tlk) (fl : Tfl)  : Option (Int32 × (Nat → Int32) × Int32 × Tlk × Tfl) :=
  (fX6_badly rf).bind fun q3 => some (q3.1, q3.2, cp, lk, fl)

def jX6_follows_94 (co : Tco) (rf : (Nat → Int32)) (cp : Int32) (lk : Tlk) (fl : Tfl) (y0 : Int32) : Option (Int32 × (Nat → Int32) × Int32 × Tlk × Tfl) :=
  some (y0, rf, cp, lk, fl)

def jX6_follows_80 (co : Tco) (rf : (Nat → Int32)) (cp : Int32) (lk : Tlk) (fl : Tfl) (x4 : Int32) (x5 : Int32) : Option (Int32 × (Nat → Int32) × Int32 × Tlk × Tfl) :=
  if ¬ x4 = 0 then (jX6_follows_94 co rf cp lk fl x5) else (jX6_follows_94 co rf cp lk fl fl.1)

def jX6_follows_134 (co : Tco) (rf : (Nat → Int32)) (cp : Int32) (lk : Tlk) (fl : Tfl) (y0 : Int32) : Option (Int32 × (Nat → Int32) × Int32 × Tlk × Tfl) :=
  some (y0, rf, cp, lk, fl)

def jX6_follows_67 (co : Tco) (rf : (Nat → Int32)) (cp : Int32) (lk : Tlk) (fl : Tfl) (x3 : Int32) (x4 : Int32) (y0 : Int32) : Option (Int32 × (Nat → Int32) × Int32 × Tlk × Tfl) :=
  if x4 = 0 then (jX6_follows_80 co rf cp lk fl x4 y0) else (if ¬ x4 = (3 : Int32) then (if ¬ y0 = 0 then (if ¬ x4 = (1 : Int32) then (gd (inB ((fl.1 - (1 : Int32)) - x3) 50) (jX6_follows_134 co rf cp lk fl (fl.2.2.2 (((fl.1 - (1 : Int32)) - x3)).toNatClampNeg))) else (gd (inB x3 50) (jX6_follows_134 co rf cp lk fl (fl.2.2.2 (x3).toNatClampNeg)))) else (jX6_follows_134 co rf cp lk fl (-10000 : Int32))) else (jX6_follows_80 co rf cp lk fl x4 y0))

def fX6_follows (co : Tco) (rf : (Nat → Int32)) (cp : Int32) (lk : Tlk) (fl : Tfl) (x1 : Int32) (x2 : Int32) (x3 : Int32) (x4 : Int32) : Option (Int32 × (Nat → Int32) × Int32 × Tlk × Tfl) :=
  (fX6_isDay co x1).bind fun q1 => if q1 = 0 then (jX6_follows_34 co rf cp lk fl) else ((fX6_isMember  x2).bind fun q4 => if q4 = 0 then (jX6_follows_34 co rf cp lk fl) else ((fX6_in  x3 (0 : Int32) (5 : Int32)).bind fun q6 => if q6 = 0 then (jX6_follows_34 co rf cp lk fl) else ((fX6_in  x4 (0 : Int32) (3 : Int32)).bind fun q8 => if ¬ q8 = 0 then ((fX6_setFollowers co cp lk fl x1 x2).bind fun q10 => if q10.2.2.1 ≤ ((2 : Int32) * x3) then (jX6_follows_67 co rf q10.1 q10.2.1 q10.2.2 x3 x4 (0 : Int32)) else (jX6_follows_67 co rf q10.1 q10.2.1 q10.2.2 x3 x4 (q10.2.2.1 - ((2 : Int32) * x3)))) else (jX6_follows_34 co rf cp lk fl))))

def bX6_meanNow_6 (fl : Tfl)  (z : UInt32 × UInt32 × Int32) : Option ((UInt32 × UInt32 × Int32) ⊕ (UInt32 × UInt32)) :=
  if fl.1 ≤ z.2.2 then (some (.inr (z.1, z.2.1))) else (gd (inB z.2.2 50) ((fX6_value  (fl.2.1 (z.2.2).toNatClampNeg)).bind fun q3 => gd (inB z.2.2 50) (gd (n32 (FP.fadd FP.fconst1 (fl.2.2.1 (z.2.2).toNatClampNeg))) (gd (n32 (FP.fdiv q3 (FP.fadd FP.fconst1 (fl.2.2.1 (z.2.2).toNatClampNeg)))) (gd (n32 (FP.fadd z.1 (FP.fdiv q3 (FP.fadd FP.fconst1 (fl.2.2.1 (z.2.2).toNatClampNeg))))) (gd (inB z.2.2 50) (gd (n32 (FP.fadd FP.fconst1 (fl.2.2.1 (z.2.2).toNatClampNeg))) (gd (n32 (FP.fdiv FP.fconst1 (FP.fadd FP.fconst1 (fl.2.2.1 (z.2.2).toNatClampNeg)))) (gd (n32 (FP.fadd z.2.1 (FP.fdiv FP.fconst1 (FP.fadd FP.fconst1 (fl.2.2.1 (z.2.2).toNatClampNeg))))) (some (.inl ((FP.fadd z.1 (FP.fdiv q3 (FP.fadd FP.fconst1 (fl.2.2.1 (z.2.2).toNatClampNeg)))), (FP.fadd z.2.1 (FP.fdiv FP.fconst1 (FP.fadd FP.fconst1 (fl.2.2.1 (z.2.2).toNatClampNeg)))), (z.2.2 + (1 : Int32))))))))))))))

def fX6_meanNow (fl : Tfl)  : Option (UInt32) :=
  (lpF (bX6_meanNow_6 fl ) FU (FP.fconst0, FP.fconst0, (0 : Int32))).bind fun t12 => gd (n32 (FP.fdiv t12.1 t12.2)) (some (FP.fdiv t12.1 t12.2))

def jX6_mean_15 (co : Tco) (rf : (Nat → Int32)) (cp : Int32) (lk : Tlk) (fl : Tfl)  : Option (Int32 × (Nat → Int32) × Int32 × Tlk × Tfl) :=
  (fX6_bad rf).bind fun q3 => some (q3.1, q3.2, cp, lk, fl)

def jX6_mean_44 (co : Tco) (rf : (Nat → Int32)) (cp : Int32) (lk : Tlk) (fl : Tfl) (y0 : Int32) : Option (Int32 × (Nat → Int32) × Int32 × Tlk × Tfl) :=
  some (y0, rf, cp, lk, fl)

def fX6_mean (co : Tco) (rf : (Nat → Int32)) (cp : Int32) (lk : Tlk) (fl : Tfl) (x1 : Int32) (x2 : Int32) : Option (Int32 × (Nat → Int32) × Int32 × Tlk × Tfl) :=
  (fX6_isDay co x1).bind fun q1 => if q1 = 0 then (jX6_mean_15 co rf cp lk fl) else ((fX6_isMember  x2).bind fun q4 => if ¬ q4 = 0 then ((fX6_setFollowers co cp lk fl x1 x2).bind fun q6 => if ¬ q6.2.2.1 = 0 then ((fX6_meanNow q6.2.2).bind fun q8 => (fJxf58ca_floatToIntBits_5c35a  q8).bind fun q9 => jX6_mean_44 co rf q6.1 q6.2.1 q6.2.2 q9) else (jX6_mean_44 co rf q6.1 q6.2.1 q6.2.2 (-1 : Int32))) else (jX6_mean_15 co rf cp lk fl))

def jJxe99ae_isNaN_b9ae7_11  (y0 : Int32) : Option (Int32) :=
  gd (decide (y0 &&& 1 = y0)) (some y0)

def fJxe99ae_isNaN_b9ae7  (x0 : UInt64) : Option (Int32) :=
  if (Op.cmpValue (FP.dcmp x0 x0) CmpOp.l) = 0 then (jJxe99ae_isNaN_b9ae7_11  (0 : Int32)) else (jJxe99ae_isNaN_b9ae7_11  (1 : Int32))

def fJxe99ae_doubleToLongBits_ccdee  (x0 : UInt64) : Option (Int64) :=
  (fJxe99ae_isNaN_b9ae7  x0).bind fun q1 => if ¬ q1 = 0 then (some (9221120237041090560 : Int64)) else (some ((x0).toInt64))

def jX6_spread_15 (co : Tco) (rf : (Nat → Int32)) (cp : Int32) (lk : Tlk) (fl : Tfl)  : Option (Int64 × (Nat → Int32) × Int32 × Tlk × Tfl) :=
  (fX6_bad rf).bind fun q3 => some ((q3.1).toInt64, q3.2, cp, lk, fl)

def bX6_spread_53 (co : Tco) (rf : (Nat → Int32)) (cp : Int32) (lk : Tlk) (fl : Tfl) (x7 : UInt64) (z : UInt64 × UInt64 × Int32) : Option ((UInt64 × UInt64 × Int32) ⊕ (UInt64 × UInt64)) :=
  if fl.1 ≤ z.2.2 then (some (.inr (z.1, z.2.1))) else (gd (inB z.2.2 50) ((fX6_value  (fl.2.1 (z.2.2).toNatClampNeg)).bind fun q10 => gd (n64 (FP.f2d q10)) (gd (n64 (FP.dadd z.1 (FP.f2d q10))) (gd (n64 (FP.dmul (FP.f2d q10) (FP.f2d q10))) (gd (n64 (FP.dadd z.2.1 (FP.dmul (FP.f2d q10) (FP.f2d q10)))) (some (.inl ((FP.dadd z.1 (FP.f2d q10)), (FP.dadd z.2.1 (FP.dmul (FP.f2d q10) (FP.f2d q10))), (z.2.2 + (1 : Int32))))))))))

def fX6_spread (co : Tco) (rf : (Nat → Int32)) (cp : Int32) (lk : Tlk) (fl : Tfl) (x1 : Int32) (x2 : Int32) : Option (Int64 × (Nat → Int32) × Int32 × Tlk × Tfl) :=
  (fX6_isDay co x1).bind fun q1 => if q1 = 0 then (jX6_spread_15 co rf cp lk fl) else ((fX6_isMember  x2).bind fun q4 => if ¬ q4 = 0 then ((fX6_setFollowers co cp lk fl x1 x2).bind fun q6 => if ¬ q6.2.2.1 = 0 then ((lpF (bX6_spread_53 co rf q6.1 q6.2.1 q6.2.2 (FP.i2d q6.2.2.1)) FU (FP.dconst0, FP.dconst0, (0 : Int32))).bind fun t15 => gd (n64 (FP.ddiv t15.2 (FP.i2d q6.2.2.1))) (gd (n64 (FP.ddiv t15.1 (FP.i2d q6.2.2.1))) (gd (n64 (FP.ddiv t15.1 (FP.i2d q6.2.2.1))) (gd (n64 (FP.dmul (FP.ddiv t15.1 (FP.i2d q6.2.2.1)) (FP.ddiv t15.1 (FP.i2d q6.2.2.1)))) (gd (n64 (FP.dsub (FP.ddiv t15.2 (FP.i2d q6.2.2.1)) (FP.dmul (FP.ddiv t15.1 (FP.i2d q6.2.2.1)) (FP.ddiv t15.1 (FP.i2d q6.2.2.1))))) ((fJxe99ae_doubleToLongBits_ccdee  (FP.dsub (FP.ddiv t15.2 (FP.i2d q6.2.2.1)) (FP.dmul (FP.ddiv t15.1 (FP.i2d q6.2.2.1)) (FP.ddiv t15.1 (FP.i2d q6.2.2.1))))).bind fun q21 => some (q21, rf, q6.1, q6.2.1, q6.2.2))))))) else (some ((-1 : Int64), rf, q6.1, q6.2.1, q6.2.2))) else (jX6_spread_15 co rf cp lk fl))

def jX6_holds_25 (co : Tco) (rf : (Nat → Int32)) (cp : Int32) (lk : Tlk) (fl : Tfl)  : Option (Int32 × (Nat → Int32) × Int32 × Tlk × Tfl) :=
  (fX6_bad rf).bind fun q3 => some (q3.1, q3.2, cp, lk, fl)

def jX6_holds_39_130 (co : Tco) (rf : (Nat → Int32)) (cp : Int32) (lk : Tlk) (fl : Tfl) (x1 : Int32) (x2 : Int32) (x3 : Int32) (x4 : Int32) (x5 : Int32) (x6 : Int32) : Option ((Int32 × Int32 × Int32 × Int32 × Tlk × Tfl) ⊕ (Int32 × Int32 × Int32 × Tlk × Tfl)) :=
  some (.inl (x4, x5, (x6 + (1 : Int32)), cp, lk, fl))

def jX6_holds_39_127 (co : Tco) (rf : (Nat → Int32)) (cp : Int32) (lk : Tlk) (fl : Tfl) (x1 : Int32) (x2 : Int32) (x3 : Int32) (x4 : Int32) (x6 : Int32) (y0 : Int32) (y1 : Int32) : Option ((Int32 × Int32 × Int32 × Int32 × Tlk × Tfl) ⊕ (Int32 × Int32 × Int32 × Tlk × Tfl)) :=
  jX6_holds_39_130 co rf cp lk fl x1 x2 x3 x4 (y0 + y1) x6

def bX6_holds_39 (co : Tco) (rf : (Nat → Int32)) (x1 : Int32) (x2 : Int32) (x3 : Int32) (z : Int32 × Int32 × Int32 × Int32 × Tlk × Tfl) : Option ((Int32 × Int32 × Int32 × Int32 × Tlk × Tfl) ⊕ (Int32 × Int32 × Int32 × Tlk × Tfl)) :=
  if co.1 ≤ (z.2.2.1 + (1 : Int32)) then (some (.inr (z.1, z.2.1, z.2.2.2.1, z.2.2.2.2.1, z.2.2.2.2.2))) else (gd (inB (((4 : Int32) * (z.2.2.1 + (1 : Int32))) + x1) 200) ((fX6_setFollowers co z.2.2.2.1 z.2.2.2.2.1 z.2.2.2.2.2 z.2.2.1 x1).bind fun q10 => (fX6_isNoted  (co.2.2 ((((4 : Int32) * (z.2.2.1 + (1 : Int32))) + x1)).toNatClampNeg)).bind fun q11 => if q11 = 0 then (jX6_holds_39_130 co rf q10.1 q10.2.1 q10.2.2 x1 x2 x3 z.1 z.2.1 z.2.2.1) else (if q10.2.2.1 ≤ ((2 : Int32) * x2) then (jX6_holds_39_130 co rf q10.1 q10.2.1 q10.2.2 x1 x2 x3 z.1 z.2.1 z.2.2.1) else (gd (inB x2 50) (gd (inB ((q10.2.2.1 - (1 : Int32)) - x2) 50) ((fX6_in  (co.2.2 ((((4 : Int32) * (z.2.2.1 + (1 : Int32))) + x1)).toNatClampNeg) (q10.2.2.2.2.2 (x2).toNatClampNeg) (q10.2.2.2.2.2 (((q10.2.2.1 - (1 : Int32)) - x2)).toNatClampNeg)).bind fun q16 => if q16 = 0 then (jX6_holds_39_127 co rf q10.1 q10.2.1 q10.2.2 x1 x2 x3 (z.1 + (1 : Int32)) z.2.2.1 z.2.1 (0 : Int32)) else (jX6_holds_39_127 co rf q10.1 q10.2.1 q10.2.2 x1 x2 x3 (z.1 + (1 : Int32)) z.2.2.1 z.2.1 (1 : Int32))))))))

def jX6_holds_173 (co : Tco) (rf : (Nat → Int32)) (cp : Int32) (lk : Tlk) (fl : Tfl) (y0 : Int32) : Option (Int32 × (Nat → Int32) × Int32 × Tlk × Tfl) :=
  some (y0, rf, cp, lk, fl)

def fX6_holds (co : Tco) (rf : (Nat → Int32)) (cp : Int32) (lk : Tlk) (fl : Tfl) (x1 : Int32) (x2 : Int32) (x3 : Int32) : Option (Int32 × (Nat → Int32) × Int32 × Tlk × Tfl) :=
  (fX6_isMember  x1).bind fun q1 => if q1 = 0 then (jX6_holds_25 co rf cp lk fl) else ((fX6_in  x2 (0 : Int32) (5 : Int32)).bind fun q4 => if q4 = 0 then (jX6_holds_25 co rf cp lk fl) else ((fX6_in  x3 (0 : Int32) (2 : Int32)).bind fun q6 => if ¬ q6 = 0 then ((lpF (bX6_holds_39 co rf x1 x2 x3) FU ((0 : Int32), (0 : Int32), (0 : Int32), cp, lk, fl)).bind fun t18 => if ¬ x3 = 0 then (if ¬ x3 = (1 : Int32) then (if ¬ t18.1 = 0 then (gd (decide (¬ t18.1 = 0)) (jX6_holds_173 co rf t18.2.2.1 t18.2.2.2.1 t18.2.2.2.2 (((1000 : Int32) * t18.2.1) / t18.1))) else (jX6_holds_173 co rf t18.2.2.1 t18.2.2.2.1 t18.2.2.2.2 (0 : Int32))) else (jX6_holds_173 co rf t18.2.2.1 t18.2.2.2.1 t18.2.2.2.2 t18.2.1)) else (jX6_holds_173 co rf t18.2.2.1 t18.2.2.2.1 t18.2.2.2.2 t18.1)) else (jX6_holds_25 co rf cp lk fl)))

def jX6_errsOf_9_94 (co : Tco) (cp : Int32) (lk : Tlk) (fl : Tfl) (em : Int32) (x1 : Int32) (x2 : UInt32) (x3 : Int32) : Option ((UInt32 × Int32 × Int32 × Tlk × Tfl × Int32) ⊕ (UInt32 × Int32 × Tlk × Tfl × Int32)) :=
  some (.inl (x2, (x3 + (1 : Int32)), cp, lk, fl, em))

def jX6_errsOf_9_82 (co : Tco) (cp : Int32) (lk : Tlk) (fl : Tfl) (em : Int32) (x1 : Int32) (x3 : Int32) (y0 : UInt32) (y1 : UInt32) : Option ((UInt32 × Int32 × Int32 × Tlk × Tfl × Int32) ⊕ (UInt32 × Int32 × Tlk × Tfl × Int32)) :=
  gd (n32 (FP.fadd y0 y1)) (jX6_errsOf_9_94 co cp lk fl (em + (1 : Int32)) x1 (FP.fadd y0 y1) x3)

def bX6_errsOf_9 (co : Tco) (x1 : Int32) (z : UInt32 × Int32 × Int32 × Tlk × Tfl × Int32) : Option ((UInt32 × Int32 × Int32 × Tlk × Tfl × Int32) ⊕ (UInt32 × Int32 × Tlk × Tfl × Int32)) :=
  if co.1 ≤ (z.2.1 + (1 : Int32)) then (some (.inr (z.1, z.2.2.1, z.2.2.2.1, z.2.2.2.2.1, z.2.2.2.2.2))) else (gd (inB (((4 : Int32) * (z.2.1 + (1 : Int32))) + x1) 200) ((fX6_setFollowers co z.2.2.1 z.2.2.2.1 z.2.2.2.2.1 z.2.1 x1).bind fun q3 => (fX6_isNoted  (co.2.2 ((((4 : Int32) * (z.2.1 + (1 : Int32))) + x1)).toNatClampNeg)).bind fun q4 => if q4 = 0 then (jX6_errsOf_9_94 co q3.1 q3.2.1 q3.2.2 z.2.2.2.2.2 x1 z.1 z.2.1) else (if q3.2.2.1 ≤ 0 then (jX6_errsOf_9_94 co q3.1 q3.2.1 q3.2.2 z.2.2.2.2.2 x1 z.1 z.2.1) else ((fX6_meanNow q3.2.2).bind fun q7 => (fX6_value  (co.2.2 ((((4 : Int32) * (z.2.1 + (1 : Int32))) + x1)).toNatClampNeg)).bind fun q8 => gd (n32 (FP.fsub q7 q8)) (if 0 ≤ (Op.cmpValue (FP.fcmp (FP.fsub q7 q8) FP.fconst0) CmpOp.g) then (jX6_errsOf_9_82 co q3.1 q3.2.1 q3.2.2 z.2.2.2.2.2 x1 z.2.1 z.1 (FP.fsub q7 q8)) else (jX6_errsOf_9_82 co q3.1 q3.2.1 q3.2.2 z.2.2.2.2.2 x1 z.2.1 z.1 (FP.fneg (FP.fsub q7 q8))))))))

def jX6_errsOf_118 (co : Tco) (cp : Int32) (lk : Tlk) (fl : Tfl) (em : Int32) (y0 : UInt32) : Option (UInt32 × Int32 × Tlk × Tfl × Int32) :=
  some (y0, cp, lk, fl, em)

def fX6_errsOf (co : Tco) (cp : Int32) (lk : Tlk) (fl : Tfl) (em : Int32) (x1 : Int32) : Option (UInt32 × Int32 × Tlk × Tfl × Int32) :=
  (lpF (bX6_errsOf_9 co x1) FU (FP.fconst0, (0 : Int32), cp, lk, fl, (0 : Int32))).bind fun t12 => if ¬ t12.2.2.2.2 = 0 then (gd (n32 (FP.fdiv t12.1 (FP.i2f t12.2.2.2.2))) (jX6_errsOf_118 co t12.2.1 t12.2.2.1 t12.2.2.2.1 t12.2.2.2.2 (FP.fdiv t12.1 (FP.i2f t12.2.2.2.2)))) else (jX6_errsOf_118 co t12.2.1 t12.2.2.1 t12.2.2.2.1 t12.2.2.2.2 FP.fconst0)

def jX6_errsTold_21 (co : Tco) (cp : Int32) (lk : Tlk) (fl : Tfl) (em : Int32) (y0 : Int32) : Option (Int32 × Int32 × Tlk × Tfl × Int32) :=
  some (y0, cp, lk, fl, em)

def fX6_errsTold (co : Tco) (cp : Int32) (lk : Tlk) (fl : Tfl) (em : Int32) (x1 : Int32) : Option (Int32 × Int32 × Tlk × Tfl × Int32) :=
  (fX6_errsOf co cp lk fl em x1).bind fun q1 => if ¬ q1.2.2.2.2 = 0 then ((fJxf58ca_floatToIntBits_5c35a  q1.1).bind fun q3 => jX6_errsTold_21 co q1.2.1 q1.2.2.1 q1.2.2.2.1 q1.2.2.2.2 q3) else (jX6_errsTold_21 co q1.2.1 q1.2.2.1 q1.2.2.2.1 q1.2.2.2.2 (-1 : Int32))

def jX6_errs_19 (co : Tco) (rf : (Nat → Int32)) (cp : Int32) (lk : Tlk) (fl : Tfl) (em : Int32) (y0 : Int32) : Option (Int32 × (Nat → Int32) × Int32 × Tlk × Tfl × Int32) :=
  some (y0, rf, cp, lk, fl, em)

def fX6_errs (co : Tco) (rf : (Nat → Int32)) (cp : Int32) (lk : Tlk) (fl : Tfl) (em : Int32) (x1 : Int32) : Option (Int32 × (Nat → Int32) × Int32 × Tlk × Tfl × Int32) :=
  (fX6_isMember  x1).bind fun q1 => if q1 = 0 then ((fX6_bad rf).bind fun q3 => jX6_errs_19 co q3.2 cp lk fl em q3.1) else ((fX6_errsTold co cp lk fl em x1).bind fun q4 => jX6_errs_19 co rf q4.2.1 q4.2.2.1 q4.2.2.2.1 q4.2.2.2.2 q4.1)

def jX6_best_16 (co : Tco) (rf : (Nat → Int32)) (cp : Int32) (lk : Tlk) (fl : Tfl) (em : Int32)  : Option (Int32 × Tco × (Nat → Int32) × Int32 × Tlk × Tfl × Int32) :=
  (fX6_bad rf).bind fun q3 => some (q3.1, co, q3.2, cp, lk, fl, em)

def jX6_best_37_88 (co : Tco) (rf : (Nat → Int32)) (cp : Int32) (lk : Tlk) (fl : Tfl) (em : Int32) (x1 : Int32) (x2 : Int32) (x3 : Int32) (x4 : Int32) (x5 : UInt32) (x6 : Int32) : Option ((Int32 × UInt32 × Int32 × Tco × Int32 × Tlk × Tfl × Int32) ⊕ (Int32 × UInt32 × Tco × Int32 × Tlk × Tfl × Int32)) :=
  some (.inl (x4, x5, (x6 + (1 : Int32)), co, cp, lk, fl, em))

def jX6_best_37_80 (co : Tco) (rf : (Nat → Int32)) (cp : Int32) (lk : Tlk) (fl : Tfl) (em : Int32) (x1 : Int32) (x2 : Int32) (x3 : Int32) (x6 : Int32) (x7 : UInt32) : Option ((Int32 × UInt32 × Int32 × Tco × Int32 × Tlk × Tfl × Int32) ⊕ (Int32 × UInt32 × Tco × Int32 × Tlk × Tfl × Int32)) :=
  jX6_best_37_88 co rf cp lk fl em x1 x2 x3 x6 x7 x6

def bX6_best_37 (rf : (Nat → Int32)) (x1 : Int32) (x2 : Int32) (x3 : Int32) (z : Int32 × UInt32 × Int32 × Tco × Int32 × Tlk × Tfl × Int32) : Option ((Int32 × UInt32 × Int32 × Tco × Int32 × Tlk × Tfl × Int32) ⊕ (Int32 × UInt32 × Tco × Int32 × Tlk × Tfl × Int32)) :=
  if (12 : Int32) < z.2.2.1 then (some (.inr (z.1, z.2.1, z.2.2.2.1, z.2.2.2.2.1, z.2.2.2.2.2.1, z.2.2.2.2.2.2.1, z.2.2.2.2.2.2.2))) else (gd (inB (5 : Int32) 6) ((fX6_errsOf (z.2.2.2.1.1, (upd z.2.2.2.1.2.1 ((5 : Int32)).toNatClampNeg z.2.2.1), z.2.2.2.1.2.2) z.2.2.2.2.1 z.2.2.2.2.2.1 z.2.2.2.2.2.2.1 z.2.2.2.2.2.2.2 x1).bind fun q9 => if q9.2.2.2.2 ≤ 0 then (jX6_best_37_88 (z.2.2.2.1.1, (upd z.2.2.2.1.2.1 ((5 : Int32)).toNatClampNeg z.2.2.1), z.2.2.2.1.2.2) rf q9.2.1 q9.2.2.1 q9.2.2.2.1 q9.2.2.2.2 x1 x2 x3 z.1 z.2.1 z.2.2.1) else (if z.1 = (-1 : Int32) then (jX6_best_37_80 (z.2.2.2.1.1, (upd z.2.2.2.1.2.1 ((5 : Int32)).toNatClampNeg z.2.2.1), z.2.2.2.1.2.2) rf q9.2.1 q9.2.2.1 q9.2.2.2.1 q9.2.2.2.2 x1 x2 x3 z.2.2.1 q9.1) else (if 0 ≤ (Op.cmpValue (FP.fcmp q9.1 z.2.1) CmpOp.g) then (jX6_best_37_88 (z.2.2.2.1.1, (upd z.2.2.2.1.2.1 ((5 : Int32)).toNatClampNeg z.2.2.1), z.2.2.2.1.2.2) rf q9.2.1 q9.2.2.1 q9.2.2.2.1 q9.2.2.2.2 x1 x2 x3 z.1 z.2.1 z.2.2.1) else (jX6_best_37_80 (z.2.2.2.1.1, (upd z.2.2.2.1.2.1 ((5 : Int32)).toNatClampNeg z.2.2.1), z.2.2.2.1.2.2) rf q9.2.1 q9.2.2.1 q9.2.2.2.1 q9.2.2.2.2 x1 x2 x3 z.2.2.1 q9.1)))))

def jX6_best_121 (co : Tco) (rf : (Nat → Int32)) (cp : Int32) (lk : Tlk) (fl : Tfl) (em : Int32) (y0 : Int32) : Option (Int32 × Tco × (Nat → Int32) × Int32 × Tlk × Tfl × Int32) :=
  some (y0, co, rf, cp, lk, fl, em)

def jX6_best_111 (co : Tco) (rf : (Nat → Int32)) (cp : Int32) (lk : Tlk) (fl : Tfl) (em : Int32) (x4 : Int32) : Option (Int32 × Tco × (Nat → Int32) × Int32 × Tlk × Tfl × Int32) :=
  jX6_best_121 co rf cp lk fl em x4

def fX6_best (co : Tco) (rf : (Nat → Int32)) (cp : Int32) (lk : Tlk) (fl : Tfl) (em : Int32) (x1 : Int32) (x2 : Int32) : Option (Int32 × Tco × (Nat → Int32) × Int32 × Tlk × Tfl × Int32) :=
  (fX6_isMember  x1).bind fun q1 => if q1 = 0 then (jX6_best_16 co rf cp lk fl em) else ((fX6_in  x2 (0 : Int32) (1 : Int32)).bind fun q4 => if ¬ q4 = 0 then (gd (inB (5 : Int32) 6) ((lpF (bX6_best_37 rf x1 x2 (co.2.1 ((5 : Int32)).toNatClampNeg)) FU ((-1 : Int32), FP.fconst0, (1 : Int32), co, cp, lk, fl, em)).bind fun t13 => gd (inB (5 : Int32) 6) (if x2 = 0 then (jX6_best_111 (t13.2.2.1.1, (upd t13.2.2.1.2.1 ((5 : Int32)).toNatClampNeg (co.2.1 ((5 : Int32)).toNatClampNeg)), t13.2.2.1.2.2) rf t13.2.2.2.1 t13.2.2.2.2.1 t13.2.2.2.2.2.1 t13.2.2.2.2.2.2 t13.1) else (if ¬ t13.1 = (-1 : Int32) then ((fJxf58ca_floatToIntBits_5c35a  t13.2.1).bind fun q17 => jX6_best_121 (t13.2.2.1.1, (upd t13.2.2.1.2.1 ((5 : Int32)).toNatClampNeg (co.2.1 ((5 : Int32)).toNatClampNeg)), t13.2.2.1.2.2) rf t13.2.2.2.1 t13.2.2.2.2.1 t13.2.2.2.2.2.1 t13.2.2.2.2.2.2 q17) else (jX6_best_111 (t13.2.2.1.1, (upd t13.2.2.1.2.1 ((5 : Int32)).toNatClampNeg (co.2.1 ((5 : Int32)).toNatClampNeg)), t13.2.2.1.2.2) rf t13.2.2.2.1 t13.2.2.2.2.1 t13.2.2.2.2.2.1 t13.2.2.2.2.2.2 t13.1))))) else (jX6_best_16 co rf cp lk fl em))

def jX6_spare_19_83 (co : Tco) (rf : (Nat → Int32)) (cp : Int32) (lk : Tlk) (fl : Tfl) (em : Int32) (x1 : Int32) (x2 : Int32) (x3 : UInt32) (x4 : Int32) : Option ((Int32 × UInt32 × Int32 × Tco × Int32 × Tlk × Tfl × Int32) ⊕ (Int32 × Tco × Int32 × Tlk × Tfl × Int32)) :=
  some (.inl (x2, x3, (x4 + (1 : Int32)), co, cp, lk, fl, em))

def jX6_spare_19_77 (co : Tco) (rf : (Nat → Int32)) (cp : Int32) (lk : Tlk) (fl : Tfl) (em : Int32) (x1 : Int32) (x4 : Int32) (x6 : UInt32) : Option ((Int32 × UInt32 × Int32 × Tco × Int32 × Tlk × Tfl × Int32) ⊕ (Int32 × Tco × Int32 × Tlk × Tfl × Int32)) :=
  jX6_spare_19_83 co rf cp lk fl em x1 x4 x6 x4

def bX6_spare_19 (rf : (Nat → Int32)) (x1 : Int32) (z : Int32 × UInt32 × Int32 × Tco × Int32 × Tlk × Tfl × Int32) : Option ((Int32 × UInt32 × Int32 × Tco × Int32 × Tlk × Tfl × Int32) ⊕ (Int32 × Tco × Int32 × Tlk × Tfl × Int32)) :=
  if (4 : Int32) ≤ z.2.2.1 then (some (.inr (z.1, z.2.2.2.1, z.2.2.2.2.1, z.2.2.2.2.2.1, z.2.2.2.2.2.2.1, z.2.2.2.2.2.2.2))) else (gd (inB z.2.2.1 6) (gd (inB z.2.2.1 6) ((fX6_errsOf (z.2.2.2.1.1, (upd z.2.2.2.1.2.1 (z.2.2.1).toNatClampNeg (0 : Int32)), z.2.2.2.1.2.2) z.2.2.2.2.1 z.2.2.2.2.2.1 z.2.2.2.2.2.2.1 z.2.2.2.2.2.2.2 x1).bind fun q6 => gd (inB z.2.2.1 6) (if q6.2.2.2.2 ≤ 0 then (jX6_spare_19_83 (z.2.2.2.1.1, (upd (upd z.2.2.2.1.2.1 (z.2.2.1).toNatClampNeg (0 : Int32)) (z.2.2.1).toNatClampNeg (z.2.2.2.1.2.1 (z.2.2.1).toNatClampNeg)), z.2.2.2.1.2.2) rf q6.2.1 q6.2.2.1 q6.2.2.2.1 q6.2.2.2.2 x1 z.1 z.2.1 z.2.2.1) else (if z.1 = (-1 : Int32) then (jX6_spare_19_77 (z.2.2.2.1.1, (upd (upd z.2.2.2.1.2.1 (z.2.2.1).toNatClampNeg (0 : Int32)) (z.2.2.1).toNatClampNeg (z.2.2.2.1.2.1 (z.2.2.1).toNatClampNeg)), z.2.2.2.1.2.2) rf q6.2.1 q6.2.2.1 q6.2.2.2.1 q6.2.2.2.2 x1 z.2.2.1 q6.1) else (if 0 ≤ (Op.cmpValue (FP.fcmp q6.1 z.2.1) CmpOp.g) then (jX6_spare_19_83 (z.2.2.2.1.1, (upd (upd z.2.2.2.1.2.1 (z.2.2.1).toNatClampNeg (0 : Int32)) (z.2.2.1).toNatClampNeg (z.2.2.2.1.2.1 (z.2.2.1).toNatClampNeg)), z.2.2.2.1.2.2) rf q6.2.1 q6.2.2.1 q6.2.2.2.1 q6.2.2.2.2 x1 z.1 z.2.1 z.2.2.1) else (jX6_spare_19_77 (z.2.2.2.1.1, (upd (upd z.2.2.2.1.2.1 (z.2.2.1).toNatClampNeg (0 : Int32)) (z.2.2.1).toNatClampNeg (z.2.2.2.1.2.1 (z.2.2.1).toNatClampNeg)), z.2.2.2.1.2.2) rf q6.2.1 q6.2.2.1 q6.2.2.2.1 q6.2.2.2.2 x1 z.2.2.1 q6.1)))))))

def fX6_spare (co : Tco) (rf : (Nat → Int32)) (cp : Int32) (lk : Tlk) (fl : Tfl) (em : Int32) (x1 : Int32) : Option (Int32 × Tco × (Nat → Int32) × Int32 × Tlk × Tfl × Int32) :=
  (fX6_isMember  x1).bind fun q1 => if ¬ q1 = 0 then ((lpF (bX6_spare_19 rf x1) FU ((-1 : Int32), FP.fconst0, (0 : Int32), co, cp, lk, fl, em)).bind fun t11 => some (t11.1, t11.2.1, rf, t11.2.2.1, t11.2.2.2.1, t11.2.2.2.2.1, t11.2.2.2.2.2)) else ((fX6_bad rf).bind fun q12 => some (q12.1, co, q12.2, cp, lk, fl, em))

def fX6_type (rf : (Nat → Int32)) (tm : Ttm) (x1 : Int32) : Option (Int32 × (Nat → Int32) × Ttm) :=
  (fX6_in  x1 (0 : Int32) (127 : Int32)).bind fun q1 => if ¬ q1 = 0 then (if ¬ tm.2 = (120 : Int32) then (gd (inB tm.2 120) (some ((tm.2 + (1 : Int32)), rf, ((upd tm.1 (tm.2).toNatClampNeg x1), (tm.2 + (1 : Int32)))))) else ((fX6_full rf).bind fun q5 => some (q5.1, q5.2, tm))) else ((fX6_bad rf).bind fun q6 => some (q6.1, q6.2, tm))

def fX6_clear (tm : Ttm)  : Option (Int32 × Ttm) :=
  some (tm.2, (tm.1, (0 : Int32)))

def jX6_here_24 (tm : Ttm) (rd : Trd) (y0 : Int32) : Option (Int32) :=
  some y0

def fX6_here (tm : Ttm) (rd : Trd)  : Option (Int32) :=
  if tm.2 ≤ rd.1 then (jX6_here_24 tm rd (-1 : Int32)) else (gd (inB rd.1 120) (jX6_here_24 tm rd (tm.1 (rd.1).toNatClampNeg)))

def bX6_skips_0 (tm : Ttm)  (z : Trd) : Option ((Trd) ⊕ Trd) :=
  (fX6_here tm z).bind fun q3 => if ¬ q3 = (32 : Int32) then (some (.inr z)) else (some (.inl ((z.1 + (1 : Int32)), z.2.1, z.2.2.1, z.2.2.2)))

def fX6_skips (tm : Ttm) (rd : Trd)  : Option (Trd) :=
  (fX6_here tm rd).bind fun q1 => if ¬ q1 = (32 : Int32) then (some (rd.1, rd.1, rd.2.2.1, rd.2.2.2)) else ((lpF (bX6_skips_0 tm ) FU ((rd.1 + (1 : Int32)), rd.2.1, rd.2.2.1, rd.2.2.2)).bind fun t5 => some (t5.1, t5.1, t5.2.2.1, t5.2.2.2))

def jX6_readsMember_72_109 (tm : Ttm) (rd : Trd) (x1 : Int32) (x2 : Int32) (x3 : Int32) (y0 : Int32) : Option ((Int32 × Int32 × Trd) ⊕ (Int32 × Int32 × Trd)) :=
  some (.inl ((x3 + (1 : Int32)), y0, ((rd.1 + (1 : Int32)), rd.2.1, rd.2.2.1, rd.2.2.2)))

def bX6_readsMember_72 (tm : Ttm) (x1 : Int32) (x2 : Int32) (z : Int32 × Int32 × Trd) : Option ((Int32 × Int32 × Trd) ⊕ (Int32 × Int32 × Trd)) :=
  (fX6_here tm z.2.2).bind fun q7 => (fX6_in  q7 (48 : Int32) (57 : Int32)).bind fun q8 => if q8 = 0 then (some (.inr (z.1, z.2.1, z.2.2))) else (if (3 : Int32) ≤ z.1 then (jX6_readsMember_72_109 tm z.2.2 x1 x2 z.1 z.2.1) else ((fX6_here tm z.2.2).bind fun q11 => jX6_readsMember_72_109 tm z.2.2 x1 x2 z.1 ((((10 : Int32) * z.2.1) + q11) - (48 : Int32))))

def jX6_readsMember_144 (tm : Ttm) (rd : Trd) (x3 : Int32) (y1 : Int32) (y2 : Int32) : Option (Int32 × Trd) :=
  gd (inB y1 4) ((fX6_in  x3 (1 : Int32) (3 : Int32)).bind fun q15 => gd (decide (q15 &&& 1 = q15)) (some (q15, (rd.1, rd.2.1, rd.2.2.1, (upd rd.2.2.2 (y1).toNatClampNeg y2)))))

def jX6_readsMember_63 (tm : Ttm) (rd : Trd) (x1 : Int32) (x2 : Int32) (y1 : Int32) (y2 : Int32) : Option (Int32 × Trd) :=
  (lpF (bX6_readsMember_72 tm x1 x2) FU ((0 : Int32), (0 : Int32), ((y1 + y2), rd.2.1, rd.2.2.1, rd.2.2.2))).bind fun t12 => if x2 = 0 then (jX6_readsMember_144 tm t12.2.2 t12.1 x1 t12.2.1) else (jX6_readsMember_144 tm t12.2.2 t12.1 x1 (-t12.2.1))

def jX6_readsMember_48 (tm : Ttm) (rd : Trd) (x1 : Int32) (y0 : Int32) : Option (Int32 × Trd) :=
  if y0 = 0 then (jX6_readsMember_63 tm rd x1 y0 rd.1 (0 : Int32)) else (jX6_readsMember_63 tm rd x1 y0 rd.1 (1 : Int32))

def fX6_readsMember (tm : Ttm) (rd : Trd) (x1 : Int32) : Option (Int32 × Trd) :=
  (fX6_skips tm rd).bind fun q1 => (fX6_here tm q1).bind fun q2 => if ¬ q2 = (46 : Int32) then ((fX6_here tm q1).bind fun q4 => if ¬ q4 = (45 : Int32) then (jX6_readsMember_48 tm q1 x1 (0 : Int32)) else (jX6_readsMember_48 tm q1 x1 (1 : Int32))) else (gd (inB x1 4) (some ((1 : Int32), ((q1.1 + (1 : Int32)), q1.2.1, q1.2.2.1, (upd q1.2.2.2 (x1).toNatClampNeg (-10000 : Int32))))))

def jX6_readsDay_17_52 (co : Tco) (tm : Ttm) (rd : Trd) (x1 : Int32) (x2 : Int32) (y0 : Int32) (y1 : Int32) : Option ((Int32 × Trd) ⊕ (Trd ⊕ (Trd ⊕ Trd))) :=
  if y0 = y1 then (some (.inl ((x2 + (1 : Int32)), ((rd.1 + (1 : Int32)), rd.2.1, rd.2.2.1, rd.2.2.2)))) else (some (.inr (.inr (.inl rd))))

def bX6_readsDay_17 (co : Tco) (tm : Ttm) (x1 : Int32) (z : Int32 × Trd) : Option ((Int32 × Trd) ⊕ (Trd ⊕ (Trd ⊕ Trd))) :=
  if (4 : Int32) ≤ z.1 then (some (.inr (.inr (.inr z.2)))) else ((fX6_readsMember tm z.2 z.1).bind fun q4 => if ¬ q4.1 = 0 then ((fX6_skips tm q4.2).bind fun q6 => (fX6_here tm q6).bind fun q7 => if ¬ z.1 = (3 : Int32) then (jX6_readsDay_17_52 co tm q6 x1 z.1 q7 (44 : Int32)) else (jX6_readsDay_17_52 co tm q6 x1 z.1 q7 (59 : Int32))) else (some (.inr (.inl q4.2))))

def jX6_readsDay_115 (co : Tco) (tm : Ttm) (rd : Trd)  : Option (Int32 × Tco × Trd) :=
  some ((1 : Int32), co, rd)

def fX6_readsDay (co : Tco) (tm : Ttm) (rd : Trd) (x1 : Int32) : Option (Int32 × Tco × Trd) :=
  (fX6_skips tm rd).bind fun q1 => if ¬ q1.2.2.1 = (50 : Int32) then ((lpF (bX6_readsDay_17 co tm x1) FU ((0 : Int32), q1)).bind fun t10 => (match t10 with | (.inl u10) => (some ((0 : Int32), co, u10)) | (.inr (.inl u10)) => (some ((0 : Int32), co, u10)) | (.inr (.inr u10)) => (if x1 = 0 then (jX6_readsDay_115 co tm (u10.1, u10.2.1, (u10.2.2.1 + (1 : Int32)), u10.2.2.2)) else (gd (inB (0 : Int32) 4) (gd (inB (1 : Int32) 4) (gd (inB (2 : Int32) 4) (gd (inB (3 : Int32) 4) ((fX6_comes co (u10.2.2.2 ((0 : Int32)).toNatClampNeg) (u10.2.2.2 ((1 : Int32)).toNatClampNeg) (u10.2.2.2 ((2 : Int32)).toNatClampNeg) (u10.2.2.2 ((3 : Int32)).toNatClampNeg)).bind fun q16 => jX6_readsDay_115 q16 tm (u10.1, u10.2.1, (u10.2.2.1 + (1 : Int32)), u10.2.2.2))))))))) else (some ((0 : Int32), co, q1))

def bX6_goesThrough_41 (tm : Ttm) (x1 : Int32) (x2 : Int32) (z : Tco × Trd) : Option ((Tco × Trd) ⊕ ((Tco × Trd) ⊕ (Tco × Trd))) :=
  if tm.2 ≤ z.2.1 then (some (.inr (.inr (z.1, z.2)))) else ((fX6_readsDay z.1 tm z.2 x1).bind fun q4 => if ¬ q4.1 = 0 then ((fX6_skips tm q4.2.2).bind fun q6 => some (.inl (q4.2.1, q6))) else (some (.inr (.inl (q4.2.1, q4.2.2)))))

def fX6_goesThrough (co : Tco) (tm : Ttm) (rd : Trd) (x1 : Int32) : Option (Int32 × Tco × Trd) :=
  (fX6_skips tm ((0 : Int32), rd.2.1, co.1, rd.2.2.2)).bind fun q1 => if ¬ q1.1 = tm.2 then ((lpF (bX6_goesThrough_41 tm x1 co.1) FU (co, q1)).bind fun t7 => (match t7 with | (.inl u7) => (some (((-10 : Int32) - u7.2.2.1), u7.1, u7.2)) | (.inr u7) => (some ((u7.2.2.2.1 - co.1), u7.1, u7.2)))) else (some (((-10 : Int32) - tm.2), co, q1))

def fX6_reads (co : Tco) (ke : Tke) (tm : Ttm) (rd : Trd)  : Option (Int32 × Tco × Tke × Trd) :=
  (fX6_goesThrough co tm rd (0 : Int32)).bind fun q1 => if 0 ≤ q1.1 then ((fX6_leavesState q1.2.1 ke).bind fun q3 => (fX6_goesThrough q1.2.1 tm q1.2.2 (1 : Int32)).bind fun q4 => some (q4.1, q4.2.1, q3, q4.2.2)) else (some (q1.1, q1.2.1, ke, q1.2.2))

def bX6_back_51 (ke : Tke) (rf : (Nat → Int32)) (x1 : Int32) (z : Int32 × Tco) : Option ((Int32 × Tco) ⊕ Tco) :=
  if (6 : Int32) ≤ z.1 then (some (.inr z.2)) else (gd (inB ((x1 + (1 : Int32)) + z.1) 1035) (gd (inB z.1 6) (some (.inl ((z.1 + (1 : Int32)), (z.2.1, (upd z.2.2.1 (z.1).toNatClampNeg (ke.2 (((x1 + (1 : Int32)) + z.1)).toNatClampNeg)), z.2.2.2))))))

def bX6_back_81 (ke : Tke) (rf : (Nat → Int32)) (x1 : Int32) (z : Int32 × Tco) : Option ((Int32 × Tco) ⊕ Tco) :=
  if (200 : Int32) ≤ z.1 then (some (.inr z.2)) else (gd (inB ((x1 + (7 : Int32)) + z.1) 1035) (gd (inB z.1 200) (some (.inl ((z.1 + (1 : Int32)), (z.2.1, z.2.2.1, (upd z.2.2.2 (z.1).toNatClampNeg (ke.2 (((x1 + (7 : Int32)) + z.1)).toNatClampNeg))))))))

def fX6_back (co : Tco) (ke : Tke) (rf : (Nat → Int32))  : Option (Int32 × Tco × Tke × (Nat → Int32)) :=
  if ¬ ke.1 = 0 then (gd (inB ((207 : Int32) * (ke.1 - (1 : Int32))) 1035) ((lpF (bX6_back_51 ((ke.1 - (1 : Int32)), ke.2) rf ((207 : Int32) * (ke.1 - (1 : Int32)))) FU ((0 : Int32), ((ke.2 (((207 : Int32) * (ke.1 - (1 : Int32)))).toNatClampNeg), co.2.1, co.2.2))).bind fun t6 => (lpF (bX6_back_81 ((ke.1 - (1 : Int32)), ke.2) rf ((207 : Int32) * (ke.1 - (1 : Int32)))) FU ((0 : Int32), t6)).bind fun t10 => some ((ke.1 - (1 : Int32)), t10, ((ke.1 - (1 : Int32)), ke.2), rf))) else (gd (inB (1 : Int32) 3) (gd (inB (1 : Int32) 3) (some ((-3 : Int32), co, ke, (upd rf ((1 : Int32)).toNatClampNeg ((rf ((1 : Int32)).toNatClampNeg) + (1 : Int32)))))))

def jX6_toldBy_59 (co : Tco) (ke : Tke) (rf : (Nat → Int32)) (tm : Ttm) (y0 : Int32) : Option (Int32) :=
  some y0

def fX6_toldBy (co : Tco) (ke : Tke) (rf : (Nat → Int32)) (tm : Ttm) (x1 : Int32) : Option (Int32) :=
  if (3 : Int32) ≤ x1 then (if ¬ x1 = (3 : Int32) then (if ¬ x1 = (4 : Int32) then (if ¬ x1 = (7 : Int32) then (gd (inB (x1 - (1 : Int32)) 6) (jX6_toldBy_59 co ke rf tm (co.2.1 ((x1 - (1 : Int32))).toNatClampNeg))) else (jX6_toldBy_59 co ke rf tm ke.1)) else (jX6_toldBy_59 co ke rf tm co.1)) else (jX6_toldBy_59 co ke rf tm tm.2)) else (gd (inB x1 3) (jX6_toldBy_59 co ke rf tm (rf (x1).toNatClampNeg)))

def jX6_told_22 (co : Tco) (ke : Tke) (rf : (Nat → Int32)) (tm : Ttm) (y0 : Int32) : Option (Int32 × (Nat → Int32)) :=
  some (y0, rf)

def fX6_told (co : Tco) (ke : Tke) (rf : (Nat → Int32)) (tm : Ttm) (x1 : Int32) : Option (Int32 × (Nat → Int32)) :=
  (fX6_in  x1 (0 : Int32) (7 : Int32)).bind fun q1 => if q1 = 0 then ((fX6_bad rf).bind fun q3 => jX6_told_22 co ke q3.2 tm q3.1) else ((fX6_toldBy co ke rf tm x1).bind fun q4 => jX6_told_22 co ke rf tm q4)

def bX6_digest_6 (co : Tco) (ke : Tke) (rf : (Nat → Int32)) (cp : Int32) (lk : Tlk) (fl : Tfl) (em : Int32) (tm : Ttm)  (z : Int64 × Int32) : Option ((Int64 × Int32) ⊕ Int64) :=
  if (8 : Int32) ≤ z.2 then (some (.inr z.1)) else ((fX6_toldBy co ke rf tm z.2).bind fun q2 => some (.inl ((((31 : Int64) * z.1) + (q2).toInt64), (z.2 + (1 : Int32)))))

def bX6_digest_33 (co : Tco) (ke : Tke) (rf : (Nat → Int32)) (cp : Int32) (lk : Tlk) (fl : Tfl) (em : Int32) (tm : Ttm)  (z : Int64 × Int32) : Option ((Int64 × Int32) ⊕ Int64) :=
  if (4 : Int32) ≤ z.2 then (some (.inr z.1)) else (gd (inB z.2 6) (some (.inl ((((31 : Int64) * z.1) + ((co.2.1 (z.2).toNatClampNeg)).toInt64), (z.2 + (1 : Int32))))))

def bX6_digest_60 (co : Tco) (ke : Tke) (rf : (Nat → Int32)) (cp : Int32) (lk : Tlk) (fl : Tfl) (em : Int32) (tm : Ttm)  (z : Int64 × Int32) : Option ((Int64 × Int32) ⊕ Int64) :=
  if ((4 : Int32) * co.1) ≤ z.2 then (some (.inr z.1)) else (gd (inB z.2 200) (some (.inl ((((31 : Int64) * z.1) + ((co.2.2 (z.2).toNatClampNeg)).toInt64), (z.2 + (1 : Int32))))))

def jX6_digest_92_155 (co : Tco) (ke : Tke) (rf : (Nat → Int32)) (cp : Int32) (lk : Tlk) (fl : Tfl) (em : Int32) (tm : Ttm) (x3 : Int32) (y0 : Int64) (y1 : Int32) : Option ((Int64 × Int32 × Int32 × Tlk) ⊕ (Int64 × Int32 × Tlk)) :=
  some (.inl ((y0 + (y1).toInt64), (x3 + (1 : Int32)), cp, lk))

def jX6_digest_92_127 (co : Tco) (ke : Tke) (rf : (Nat → Int32)) (cp : Int32) (lk : Tlk) (fl : Tfl) (em : Int32) (tm : Ttm) (x3 : Int32) (y0 : Int64) (y1 : Int32) : Option ((Int64 × Int32 × Int32 × Tlk) ⊕ (Int64 × Int32 × Tlk)) :=
  if ¬ lk.1 = 0 then (gd (inB (0 : Int32) 50) ((fJxf58ca_floatToIntBits_5c35a  (lk.2.2 ((0 : Int32)).toNatClampNeg)).bind fun q16 => jX6_digest_92_155 co ke rf cp lk fl em tm x3 ((31 : Int64) * (y0 + (y1).toInt64)) q16)) else (jX6_digest_92_155 co ke rf cp lk fl em tm x3 ((31 : Int64) * (y0 + (y1).toInt64)) (-1 : Int32))

def bX6_digest_92 (co : Tco) (ke : Tke) (rf : (Nat → Int32)) (fl : Tfl) (em : Int32) (tm : Ttm)  (z : Int64 × Int32 × Int32 × Tlk) : Option ((Int64 × Int32 × Int32 × Tlk) ⊕ (Int64 × Int32 × Tlk)) :=
  if co.1 ≤ z.2.1 then (some (.inr (z.1, z.2.2.1, z.2.2.2))) else ((fX6_setNearest co z.2.2.1 z.2.2.2 z.2.1).bind fun q11 => if ¬ q11.2.1 = 0 then (gd (inB (0 : Int32) 50) (jX6_digest_92_127 co ke rf q11.1 q11.2 fl em tm z.2.1 ((31 : Int64) * z.1) (q11.2.2.1 ((0 : Int32)).toNatClampNeg))) else (jX6_digest_92_127 co ke rf q11.1 q11.2 fl em tm z.2.1 ((31 : Int64) * z.1) (-1 : Int32)))

def fX6_digest (co : Tco) (ke : Tke) (rf : (Nat → Int32)) (cp : Int32) (lk : Tlk) (fl : Tfl) (em : Int32) (tm : Ttm)  : Option (Int64 × Int32 × Tlk × Tfl × Int32) :=
  (lpF (bX6_digest_6 co ke rf cp lk fl em tm ) FU ((2161 : Int64), (0 : Int32))).bind fun t3 => (lpF (bX6_digest_33 co ke rf cp lk fl em tm ) FU (t3, (0 : Int32))).bind fun t6 => (lpF (bX6_digest_60 co ke rf cp lk fl em tm ) FU (t6, (0 : Int32))).bind fun t9 => (lpF (bX6_digest_92 co ke rf fl em tm ) FU (t9, (0 : Int32), cp, lk)).bind fun t17 => (fX6_errsTold co t17.2.1 t17.2.2 fl em (0 : Int32)).bind fun q18 => some ((((31 : Int64) * t17.1) + (q18.1).toInt64), q18.2.1, q18.2.2.1, q18.2.2.2.1, q18.2.2.2.2)

