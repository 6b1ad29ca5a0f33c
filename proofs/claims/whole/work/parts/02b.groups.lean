/-! the groups of the heap, and the heap out of them -/
abbrev Tcn : Type := Int32 × Int32 × Int32
abbrev Tbk : Type := (Nat → Int32) × (Nat → Int32) × Int32 × Int32 × Int32
abbrev Tst : Type := Int32 × Int32
abbrev Tli : Type := (Nat → UInt32) × (Nat → Int32) × (Nat → UInt32) × (Nat → UInt32) × (Nat → Int32) × (Nat → Int32) × (Nat → Int32) × Int32 × Int32
abbrev Tfo : Type := (Nat → Int32) × (Nat → UInt32) × (Nat → Int32) × Int32
abbrev Ttx : Type := (Nat → Int32) × (Nat → Int32) × Int32 × Int32 × Int32
abbrev Tco : Type := Int32 × (Nat → Int32) × (Nat → Int32)
abbrev Tke : Type := Int32 × (Nat → Int32)
abbrev Tlk : Type := Int32 × (Nat → Int32) × (Nat → UInt32)
abbrev Tfl : Type := Int32 × (Nat → Int32) × (Nat → UInt32) × (Nat → Int32)
abbrev Ttm : Type := (Nat → Int32) × Int32
abbrev Trd : Type := Int32 × Int32 × Int32 × (Nat → Int32)
def rgF : Nat → Option Nat := fun j => match j with | 0 => some 6 | 1 => some 9 | 2 => some 12 | 3 => some 15 | 4 => some 18 | _ => none
def mkH (cn : Tcn) (bk : Tbk) (st : Tst) (r0 : Tbk) (r1 : Tbk) (r2 : Tbk) (r3 : Tbk) (r4 : Tbk) (li : Tli) (fo : Tfo) (tx : Ttx) (co : Tco) (ke : Tke) (rf : (Nat → Int32)) (cp : Int32) (lk : Tlk) (fl : Tfl) (em : Int32) (tm : Ttm) (rd : Trd) : aH :=
  [.inr (5, [.ref 1, .ref 4, .ref 21, .ref 29, .ref 33, .int cn.1, .int cn.2.1, .int cn.2.2]),
   .inr (0, [.ref 2, .ref 3, .int bk.2.2.1, .int bk.2.2.2.1, .int bk.2.2.2.2]),
   .inl (0, 200, .inl bk.1),
   .inl (0, 4, .inl bk.2.1),
   .inr (3, [.ref 5, .int st.1, .int st.2]),
   .inl (3, 5, .inr (.inr (.inr (.inr rgF)))),
   .inr (0, [.ref 7, .ref 8, .int r0.2.2.1, .int r0.2.2.2.1, .int r0.2.2.2.2]),
   .inl (0, 200, .inl r0.1),
   .inl (0, 4, .inl r0.2.1),
   .inr (0, [.ref 10, .ref 11, .int r1.2.2.1, .int r1.2.2.2.1, .int r1.2.2.2.2]),
   .inl (0, 200, .inl r1.1),
   .inl (0, 4, .inl r1.2.1),
   .inr (0, [.ref 13, .ref 14, .int r2.2.2.1, .int r2.2.2.2.1, .int r2.2.2.2.2]),
   .inl (0, 200, .inl r2.1),
   .inl (0, 4, .inl r2.2.1),
   .inr (0, [.ref 16, .ref 17, .int r3.2.2.1, .int r3.2.2.2.1, .int r3.2.2.2.2]),
   .inl (0, 200, .inl r3.1),
   .inl (0, 4, .inl r3.2.1),
   .inr (0, [.ref 19, .ref 20, .int r4.2.2.1, .int r4.2.2.2.1, .int r4.2.2.2.2]),
   .inl (0, 200, .inl r4.1),
   .inl (0, 4, .inl r4.2.1),
   .inr (2, [.ref 22, .ref 23, .ref 24, .ref 25, .ref 26, .ref 27, .ref 28, .int li.2.2.2.2.2.2.2.1, .int li.2.2.2.2.2.2.2.2]),
   .inl (1, 200, .inr (.inr (.inl li.1))),
   .inl (2, 200, .inl li.2.1),
   .inl (1, 4, .inr (.inr (.inl li.2.2.1))),
   .inl (1, 2500, .inr (.inr (.inl li.2.2.2.1))),
   .inl (0, 600, .inl li.2.2.2.2.1),
   .inl (0, 50, .inl li.2.2.2.2.2.1),
   .inl (0, 50, .inl li.2.2.2.2.2.2.1),
   .inr (1, [.ref 30, .ref 31, .ref 32, .int fo.2.2.2]),
   .inl (0, 12, .inl fo.1),
   .inl (1, 12, .inr (.inr (.inl fo.2.1))),
   .inl (0, 12, .inl fo.2.2.1),
   .inr (4, [.ref 34, .ref 35, .int tx.2.2.1, .int tx.2.2.2.1, .int tx.2.2.2.2]),
   .inl (0, 120, .inl tx.1),
   .inl (0, 200, .inl tx.2.1),
   .inr (6, [.ref 37, .int co.1, .ref 38, .ref 39, .int ke.1, .ref 40, .int cp, .int lk.1, .ref 41, .ref 42, .int fl.1, .ref 43, .ref 44, .ref 45, .int em, .ref 46, .int tm.2, .int rd.1, .int rd.2.1, .int rd.2.2.1, .ref 47]),
   .inl (0, 3, .inl rf),
   .inl (0, 6, .inl co.2.1),
   .inl (0, 200, .inl co.2.2),
   .inl (0, 1035, .inl ke.2),
   .inl (0, 50, .inl lk.2.1),
   .inl (1, 50, .inr (.inr (.inl lk.2.2))),
   .inl (0, 50, .inl fl.2.1),
   .inl (1, 50, .inr (.inr (.inl fl.2.2.1))),
   .inl (0, 50, .inl fl.2.2.2),
   .inl (0, 120, .inl tm.1),
   .inl (0, 4, .inl rd.2.2.2)]
