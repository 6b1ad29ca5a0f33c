/-! ===== draw, type and clear on both sides ===== -/
theorem q_draw {a : TA} {S : List TA} {cn : Tcn} {bk : Tbk} {st : Tst} {r0 r1 r2 r3 r4 : Tbk} {li : Tli} {co : Tco} {ke : Tke} {rf : Nat → Int32} (h : WI a S cn bk st r0 r1 r2 r3 r4 li co ke rf) (x1 x2 : Int32) :
    ∃ r a' S' cn' bk' st' r0' r1' r2' r3' r4' li' co' ke' rf', fX5_draw cn bk st r0 r1 r2 r3 r4 li x1 x2 = some (r, cn', bk', st', r0', r1', r2', r3', r4', li') ∧ fX6_draw co ke rf x1 x2 = some (r, co', ke', rf') ∧ WI a' S' cn' bk' st' r0' r1' r2' r3' r4' li' co' ke' rf' :=
  q_drawG (P := fun x => decide (isMs (lcg x) = 0)) (N := fun x => lcg x) (Q := fun x => stp (lcg x)) (fun x => decide_eq_true_iff.symm) (fun x => rfl) (fun x => rfl) h x1 x2
/-- the text of both: its length, its signs -/
def txP (l : Nat) (ch : Nat → Int32) (tx : Ttx) (tm : Ttm) : Prop := l ≤ 120 ∧ tx.2.2.1 = nI l ∧ tm.2 = nI l ∧ (∀ i, i < l → tx.1 i = ch i ∧ tm.1 i = ch i) ∧ ∀ i, i < l → 0 ≤ (ch i).toInt ∧ (ch i).toInt ≤ 127
