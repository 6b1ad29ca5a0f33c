/-! ===== told on both sides ===== -/
def tdV (a : TA) (S : List TA) (l : Nat) (cn : Tcn) (k : Nat) : Int32 := match k with
  | 0 => cn.1
  | 1 => cn.2.1
  | 2 => cn.2.2
  | 3 => nI l
  | 4 => nI a.1
  | 5 => nI a.2.2.2.1
  | 6 => nI a.2.2.2.2
  | _ => nI S.length
theorem td_c {a : TA} {S : List TA} {cn : Tcn} {bk : Tbk} {st : Tst} {l : Nat} {tx : Ttx} (h1 : clT a bk) (h2 : st.2 = nI S.length) (h3 : tx.2.2.1 = nI l) : ∀ k, k ≤ 7 → fX5_told cn bk st tx (nI k) = some (tdV a S l cn k, cn)
  | 0, _ => rfl
  | 1, _ => rfl
  | 2, _ => rfl
  | 3, _ => by show some (tx.2.2.1, cn) = _; rw [h3]; rfl
  | 4, _ => by show some (bk.2.2.1, cn) = _; rw [h1.2.1]; rfl
  | 5, _ => by show some (bk.2.2.2.1, cn) = _; rw [h1.2.2.2.2.1]; rfl
  | 6, _ => by show some (bk.2.2.2.2, cn) = _; rw [h1.2.2.2.2.2]; rfl
  | 7, _ => by show some (st.2, cn) = _; rw [h2]; rfl
  | k + 8, h => absurd h (by omega)
theorem td_m {a : TA} {S : List TA} {cn : Tcn} {co : Tco} {ke : Tke} {rf : Nat → Int32} {l : Nat} {tm : Ttm} (h1 : moT a co) (h2 : ke.1 = nI S.length) (h3 : tm.2 = nI l) (hc : ctP cn rf) : ∀ k, k ≤ 7 → fX6_toldBy co ke rf tm (nI k) = some (tdV a S l cn k)
  | 0, _ => by show some (rf 0) = _; rw [← hc.1]; rfl
  | 1, _ => by show some (rf 1) = _; rw [← hc.2.1]; rfl
  | 2, _ => by show some (rf 2) = _; rw [← hc.2.2]; rfl
  | 3, _ => by show some tm.2 = _; rw [h3]; rfl
  | 4, _ => by show some co.1 = _; rw [h1.1.2.1]; rfl
  | 5, _ => by show some (co.2.1 4) = _; rw [h1.2.1]; rfl
  | 6, _ => by show some (co.2.1 5) = _; rw [h1.2.2]; rfl
  | 7, _ => by show some ke.1 = _; rw [h2]; rfl
  | k + 8, h => absurd h (by omega)
theorem q_told {a : TA} {S : List TA} {cn : Tcn} {bk : Tbk} {st : Tst} {co : Tco} {ke : Tke} {rf : Nat → Int32} {l : Nat} {tx : Ttx} {tm : Ttm} (h1 : clT a bk) (h2 : moT a co) (h3 : st.2 = nI S.length) (h4 : ke.1 = nI S.length) (h5 : tx.2.2.1 = nI l) (h6 : tm.2 = nI l) (hc : ctP cn rf) (x : Int32) : ∃ r cn' rf', fX5_told cn bk st tx x = some (r, cn') ∧ fX6_told co ke rf tm x = some (r, rf') ∧ ctP cn' rf' := by
  cases hx : inR x 0 7 with
  | false =>
    refine ⟨-2, _, _, ?_, ?_, hc.bad⟩
    · unfold fX5_told
      have ne : ∀ v : Int32, inR v 0 7 = true → ¬ x = v := fun v hv z => by rw [z, hv] at hx; cases hx
      rw [if_neg (ne 0 (by decide)), if_neg (ne 1 (by decide)), if_neg (ne 2 (by decide)), if_neg (ne 3 (by decide)), if_neg (ne 4 (by decide)), if_neg (ne 5 (by decide)), if_neg (ne 6 (by decide)), if_neg (ne 7 (by decide))]
      rfl
    · unfold fX6_told
      rw [in_ok, hx, Option.bind_some, if_pos (by decide)]
      rfl
  | true =>
    obtain ⟨k, hk, rfl⟩ := inR_nI (n := 7) rfl hx
    refine ⟨tdV a S l cn k, cn, rf, td_c h1 h3 h5 k hk, ?_, hc⟩
    unfold fX6_told
    rw [in_ok, hx, Option.bind_some, if_neg (by decide), td_m h2 h4 h6 hc k hk, Option.bind_some]
    rfl
