/-! ===== draw, type and clear on both sides ===== -/
theorem q_draw {a : TA} {S : List TA} {cn : Tcn} {bk : Tbk} {st : Tst} {r0 r1 r2 r3 r4 : Tbk} {li : Tli} {co : Tco} {ke : Tke} {rf : Nat → Int32} (h : WI a S cn bk st r0 r1 r2 r3 r4 li co ke rf) (x1 x2 : Int32) :
    ∃ r a' S' cn' bk' st' r0' r1' r2' r3' r4' li' co' ke' rf', fX5_draw cn bk st r0 r1 r2 r3 r4 li x1 x2 = some (r, cn', bk', st', r0', r1', r2', r3', r4', li') ∧ fX6_draw co ke rf x1 x2 = some (r, co', ke', rf') ∧ WI a' S' cn' bk' st' r0' r1' r2' r3' r4' li' co' ke' rf' :=
  q_drawG (P := fun x => decide (isMs (lcg x) = 0)) (N := fun x => lcg x) (Q := fun x => stp (lcg x)) (fun x => decide_eq_true_iff.symm) (fun x => rfl) (fun x => rfl) h x1 x2
/-- the text of both: its length, its signs -/
def txP (l : Nat) (ch : Nat → Int32) (tx : Ttx) (tm : Ttm) : Prop := l ≤ 120 ∧ tx.2.2.1 = nI l ∧ tm.2 = nI l ∧ (∀ i, i < l → tx.1 i = ch i ∧ tm.1 i = ch i) ∧ ∀ i, i < l → 0 ≤ (ch i).toInt ∧ (ch i).toInt ≤ 127
theorem q_type {l : Nat} {ch : Nat → Int32} {tx : Ttx} {tm : Ttm} {cn : Tcn} {rf : Nat → Int32} (h : txP l ch tx tm) (hc : ctP cn rf) (x : Int32) : ∃ r l' ch' cn' tx' rf' tm', fX5_type cn tx x = some (r, cn', tx') ∧ fX6_type rf tm x = some (r, rf', tm') ∧ txP l' ch' tx' tm' ∧ ctP cn' rf' := by
  have hT := h
  obtain ⟨h1, h2, h3, h4, h5⟩ := h
  cases hx : inR x 0 127 with
  | false =>
    refine ⟨-2, l, ch, _, tx, _, tm, ?_, ?_, hT, hc.bad⟩
    · unfold fX5_type; rw [within_ok, hx, Option.bind_some, if_neg (by decide)]; rfl
    · unfold fX6_type; rw [in_ok, hx, Option.bind_some, if_neg (by decide)]; rfl
  | true =>
    have ec : fX5_type cn tx x = (if nI l < (120 : Int32) then ((fX4_append tx x).bind fun q5 => some (q5.1, cn, q5.2)) else ((fX5_refuseFull cn).bind fun q6 => some (q6.1, q6.2, tx))) := by
      unfold fX5_type fX4_length
      rw [within_ok, hx, Option.bind_some, if_pos (by decide), Option.bind_some, h2]
    have em : fX6_type rf tm x = (if ¬ nI l = (120 : Int32) then (gd (inB (nI l) 120) (some ((nI l + (1 : Int32)), rf, ((upd tm.1 (nI l).toNatClampNeg x), (nI l + (1 : Int32)))))) else ((fX6_full rf).bind fun q5 => some (q5.1, q5.2, tm))) := by
      unfold fX6_type
      rw [in_ok, hx, Option.bind_some, if_pos (by decide), h3]
    by_cases c : l < 120
    · refine ⟨nI (l + 1), l + 1, upd ch l x, cn, (upd tx.1 l x, tx.2.1, nI (l + 1), tx.2.2.2.1, tx.2.2.2.2), rf, (upd tm.1 l x, nI (l + 1)), ?_, ?_, ⟨c, rfl, rfl, fun i hi => ⟨upd_ag (fun e => (h4 i (by omega)).1), upd_ag (fun e => (h4 i (by omega)).2)⟩, fun i hi => ?_⟩, hc⟩
      · rw [ec, if_pos (show nI l < (120 : Int32) from nI_lt (b := 120) c (by decide))]
        unfold fX4_append
        rw [h2, if_neg (show ¬ (120 : Int32) ≤ nI l from nI_ge (b := 120) c (by decide)), gd_t (inB_nI c (by decide)), cl_nI (by omega), nI_1]
        rfl
      · rw [em, if_pos (show ¬ nI l = (120 : Int32) from fun z => absurd ((nI_eq (a := l) (b := 120) (by omega) (by decide)).mp z) (by omega)), gd_t (inB_nI c (by decide)), cl_nI (by omega), nI_1]
      · unfold upd
        by_cases e : i = l
        · rw [if_pos e]
          have := of_decide_eq_true hx
          exact this
        · rw [if_neg e]; exact h5 i (by omega)
    · have e120 : l = 120 := by omega
      refine ⟨-4, l, ch, _, tx, _, tm, ?_, ?_, hT, hc.full⟩
      · rw [ec, e120, if_neg (by decide)]; rfl
      · rw [em, e120, if_neg (by decide)]; rfl
theorem q_clear {l : Nat} {ch : Nat → Int32} {tx : Ttx} {tm : Ttm} (h : txP l ch tx tm) : ∃ r l' ch' tx' tm', fX5_clear tx = some (r, tx') ∧ fX6_clear tm = some (r, tm') ∧ txP l' ch' tx' tm' := by
  obtain ⟨h1, h2, h3, h4, h5⟩ := h
  refine ⟨nI l, 0, ch, (tx.1, tx.2.1, (0 : Int32), tx.2.2.2.1, tx.2.2.2.2), (tm.1, (0 : Int32)), ?_, ?_, Nat.zero_le _, rfl, rfl, fun i hi => absurd hi (Nat.not_lt_zero i), fun i hi => absurd hi (Nat.not_lt_zero i)⟩
  · rw [← h2]; rfl
  · rw [← h3]; rfl
