/-! ===== told on both sides ===== -/
def tdV (a : TA) (S : List TA) (l : Nat) (cn : Tcn) (k : Nat) : Int32 := match k with
  | 0 => cn.1
  | 1 => cn.2.1
  | 2 => cn.2.2
  | 3 => nI l
  | 4 => nI a.1
  | 5 => nI a.2.2.2.1
  | 6 => nI a.2.2.2.2
  | _ => nI S.length
theorem td_c {a : TA} {S : List TA} {cn : Tcn} {bk : Tbk} {st : Tst} {l : Nat} {tx : Ttx} (h1 : clT a bk) (h2 : st.2 = nI S.length) (h3 : tx.2.2.1 = nI l) : ∀ k, k ≤ 7 → fX5_told cn bk st tx (nI k) = some (tdV a S l cn k, cn)
  | 0, _ => rfl
  | 1, _ => rfl
  | 2, _ => rfl
  | 3, _ => by show some (tx.2.2.1, cn) = _; rw [h3]; rfl
  | 4, _ => by show some (bk.2.2.1, cn) = _; rw [h1.2.1]; rfl
  | 5, _ => by show some (bk.2.2.2.1, cn) = _; rw [h1.2.2.2.2.1]; rfl
  | 6, _ => by show some (bk.2.2.2.2, cn) = _; rw [h1.2.2.2.2.2]; rfl
  | 7, _ => by show some (st.2, cn) = _; rw [h2]; rfl
  | k + 8, h => absurd h (by omega)
theorem td_m {a : TA} {S : List TA} {cn : Tcn} {co : Tco} {ke : Tke} {rf : Nat → Int32} {l : Nat} {tm : Ttm} (h1 : moT a co) (h2 : ke.1 = nI S.length) (h3 : tm.2 = nI l) (hc : ctP cn rf) : ∀ k, k ≤ 7 → fX6_toldBy co ke rf tm (nI k) = some (tdV a S l cn k)
  | 0, _ => by show some (rf 0) = _; rw [← hc.1]; rfl
  | 1, _ => by show some (rf 1) = _; rw [← hc.2.1]; rfl
  | 2, _ => by show some (rf 2) = _; rw [← hc.2.2]; rfl
  | 3, _ => by show some tm.2 = _; rw [h3]; rfl
  | 4, _ => by show some co.1 = _; rw [h1.1.2.1]; rfl
  | 5, _ => by show some (co.2.1 4) = _; rw [h1.2.1]; rfl
  | 6, _ => by show some (co.2.1 5) = _; rw [h1.2.2]; rfl
  | 7, _ => by show some ke.1 = _; rw [h2]; rfl
  | k + 8, h => absurd h (by omega)
