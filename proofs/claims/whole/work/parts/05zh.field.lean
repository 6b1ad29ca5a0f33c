/-! ===== reading the text: members, marks and days on both sides ===== -/
def rxP (tx : Ttx) (i : Nat) (v : Int32) : Ttx := (tx.1, upd tx.2.1 i v, tx.2.2.1, tx.2.2.2.1, tx.2.2.2.2)
theorem rx_keep (tx : Ttx) {i : Nat} (hi : i < 200) (v : Int32) : fX4_keepNote tx (nI i) v = some ((-1 : Int32), rxP tx i v) := by
  unfold fX4_keepNote
  rw [if_neg (nI_pos (by omega)), if_neg (show ¬ (200 : Int32) ≤ nI i from nI_ge (b := 200) hi (by decide)), gd_t (inB_nI hi (by decide)), cl_nI (by omega)]
  rfl
theorem rx34 {l : Nat} {ch : Nat → Int32} {tx : Ttx} (h : ttX l ch tx) {p : Nat} (hp : p ≤ l) {i : Nat} (hi : i < 200) (s mi : Int32) (b : Bool) (hb : mi = b2I b) : jX4_parseNumber_34 (sPl tx p) (nI i) s mi = (match rxB (rxG ch (l - p) 0 0 0 p) b with
    | none => some (s, sPl tx (rxG ch (l - p) 0 0 0 p).2.2.2)
    | some r => some ((-1 : Int32), sPl (rxP tx i r.1) r.2)) := by
  have hl := h.1
  have k1 : p + (l - p) = l := by omega
  have k2 : l - p < FU := by rw [FU_eq]; omega
  have k3 : l - p < 2 ^ 31 := by omega
  obtain ⟨g1, g2, g3⟩ := rxG0 ch (l - p) p
  have h0 : lpF (bX4_parseNumber_40 (nI i) s mi) FU ((0 : Int32), (0 : Int32), sPl tx p) = some (nI (rxG ch (l - p) 0 0 0 p).1, (rxG ch (l - p) 0 0 0 p).2.1, sPl tx (rxG ch (l - p) 0 0 0 p).2.2.2) := rxG_c h (nI i) s mi (l - p) p FU 0 0 0 k1 k2
  generalize rxG ch (l - p) 0 0 0 p = r at *
  refine (rx_bind h0).trans ((rx_bind (within_ok _ _ _)).trans ?_)
  show (if ¬ b2I (inR (nI r.1) 1 3) = 0 then (if mi = 0 then jX4_parseNumber_122 (sPl tx r.2.2.2) (nI i) r.2.1 else jX4_parseNumber_122 (sPl tx r.2.2.2) (nI i) (-r.2.1)) else some (s, sPl tx r.2.2.2)) = _
  rw [rx_13 (Nat.lt_of_le_of_lt g1 k3)]
  unfold rxB
  by_cases c : 1 ≤ r.1 ∧ r.1 ≤ 3
  · rw [decide_eq_true c, if_pos (by decide), if_pos c, hb]
    unfold jX4_parseNumber_122
    cases b with
    | false =>
      rw [if_pos (by decide), rx_keep _ hi, Option.bind_some]
      rfl
    | true =>
      rw [if_neg (by decide), rx_keep _ hi, Option.bind_some]
      rfl
  · rw [decide_eq_false c, if_neg (by decide), if_neg c]
theorem rxN_c {l : Nat} {ch : Nat → Int32} {tx : Ttx} (h : ttX l ch tx) {p : Nat} (hp : p ≤ l) {i : Nat} (hi : i < 200) : (rxN l ch p = none → ∃ p', fX4_parseNumber (sPl tx p) (nI i) = some (nI p, sPl tx p')) ∧ (∀ v q, rxN l ch p = some (v, q) → fX4_parseNumber (sPl tx p) (nI i) = some ((-1 : Int32), sPl (rxP tx i v) q)) := by
  have hh : fX4_here (sPl tx p) = some (hr l ch p) := he_c (tx := sPl tx p) h hp rfl
  unfold rxN
  by_cases c : hr l ch p = 45
  · have hlt := hr_lt c (by decide)
    have e : fX4_parseNumber (sPl tx p) (nI i) = jX4_parseNumber_34 (sPl tx (p + 1)) (nI i) (nI p) 1 := by
      refine (rx_bind hh).trans ((if_neg (fun z => z c)).trans ?_)
      refine (if_neg (by decide)).trans ?_
      show jX4_parseNumber_34 (tx.1, tx.2.1, tx.2.2.1, nI p + 1, tx.2.2.2.2) (nI i) (nI p) 1 = _
      rw [nI_1]
      rfl
    rw [if_pos c, e, rx34 h (p := p + 1) (by omega) hi (nI p) 1 true rfl]
    constructor
    · intro z
      rw [z]
      exact ⟨_, rfl⟩
    · intro v q z
      rw [z]
  · have e : fX4_parseNumber (sPl tx p) (nI i) = jX4_parseNumber_34 (sPl tx p) (nI i) (nI p) 0 := by
      refine (rx_bind hh).trans ((if_pos c).trans ?_)
      exact if_pos rfl
    rw [if_neg c, e, rx34 h hp hi (nI p) 0 false rfl]
    constructor
    · intro z
      rw [z]
      exact ⟨_, rfl⟩
    · intro v q z
      rw [z]
theorem rxM_c {l : Nat} {ch : Nat → Int32} {tx : Ttx} (h : ttX l ch tx) {p : Nat} (hp : p ≤ l) {i : Nat} (hi : i < 200) : (rxM l ch p = none → ∃ p', fX4_parseMember (sPl tx p) (nI i) = some (nI (rxS l ch p), sPl tx p')) ∧ (∀ v q, rxM l ch p = some (v, q) → fX4_parseMember (sPl tx p) (nI i) = some ((-1 : Int32), sPl (rxP tx i v) q)) := by
  have hs := rxS_le ch hp
  have hl := h.1
  have h1 : fX4_skipBlanks (sPl tx p) = some (sPl tx (rxS l ch p)) := sb_c (tx := sPl tx p) h hp rfl
  have hh : fX4_here (sPl tx (rxS l ch p)) = some (hr l ch (rxS l ch p)) := he_c (tx := sPl tx (rxS l ch p)) h hs.2 rfl
  unfold rxM
  generalize rxS l ch p = q at *
  by_cases c : hr l ch q = 46
  · rw [if_pos c]
    refine ⟨(fun z => by cases z), fun v q' z => ?_⟩
    cases z
    refine (rx_bind h1).trans ((rx_bind hh).trans ((if_neg (fun z => z c)).trans ?_))
    show (fX4_keepNote (tx.1, tx.2.1, tx.2.2.1, nI q + 1, tx.2.2.2.2) (nI i) (-10000)).bind (fun q6 => some (q6.1, q6.2)) = _
    rw [nI_1, rx_keep _ hi, Option.bind_some]
    rfl
  · rw [if_neg c]
    by_cases c2 : l ≤ q
    · have e : fX4_parseMember (sPl tx p) (nI i) = some (nI l, sPl tx q) := by
        refine (rx_bind h1).trans ((rx_bind hh).trans ((if_pos c).trans ?_))
        refine (if_pos (show tx.2.2.1 ≤ nI q by rw [h.2.1]; exact nI_le c2 (by omega))).trans ?_
        show some (tx.2.2.1, sPl tx q) = _
        rw [h.2.1]
      have ql : q = l := by omega
      have en : rxN l ch q = none := by
        unfold rxN rxB
        have e1 : ¬ hr l ch q = 45 := fun z => absurd (hr_lt z (by decide)) (by omega)
        rw [if_neg e1, show l - q = 0 by omega]
        exact if_neg (by show ¬ (1 ≤ 0 ∧ 0 ≤ 3); omega)
      refine ⟨fun _ => ⟨q, by rw [e, ql]⟩, fun v q' z => ?_⟩
      rw [en] at z
      cases z
    · have e : fX4_parseMember (sPl tx p) (nI i) = (fX4_parseNumber (sPl tx q) (nI i)).bind fun q5 => some (q5.1, q5.2) := by
        refine (rx_bind h1).trans ((rx_bind hh).trans ((if_pos c).trans ?_))
        exact if_neg (show ¬ tx.2.2.1 ≤ nI q by rw [h.2.1]; exact nI_ge (by omega) (by omega))
      obtain ⟨n1, n2⟩ := rxN_c h hs.2 hi
      rw [e]
      constructor
      · intro z
        obtain ⟨p', z2⟩ := n1 z
        exact ⟨p', by rw [z2]; rfl⟩
      · intro v q' z
        rw [n2 v q' z]
        rfl
theorem rxM_m {l : Nat} {ch : Nat → Int32} {tm : Ttm} (h : ttM l ch tm) {p : Nat} (hp : p ≤ l) {m : Nat} (hm : m < 4) (y1 y2 : Int32) (y3 : Nat → Int32) : (rxM l ch p = none → ∃ z1 z3, fX6_readsMember tm (nI p, y1, y2, y3) (nI m) = some ((0 : Int32), (z1, nI (rxS l ch p), y2, z3))) ∧ (∀ v q, rxM l ch p = some (v, q) → fX6_readsMember tm (nI p, y1, y2, y3) (nI m) = some ((1 : Int32), (nI q, nI (rxS l ch p), y2, upd y3 m v))) := by
  have hs := rxS_le ch hp
  have hl := h.1
  have h1 : fX6_skips tm (nI p, y1, y2, y3) = some (nI (rxS l ch p), nI (rxS l ch p), y2, y3) := sb_m (rd := (nI p, y1, y2, y3)) h hp rfl
  have hh : fX6_here tm (nI (rxS l ch p), nI (rxS l ch p), y2, y3) = some (hr l ch (rxS l ch p)) := he_m (rd := (nI (rxS l ch p), nI (rxS l ch p), y2, y3)) h hs.2 rfl
  have hbm : inB (nI m) 4 = true := inB_nI hm (by decide)
  unfold rxM
  generalize rxS l ch p = q at *
  by_cases c : hr l ch q = 46
  · rw [if_pos c]
    refine ⟨(fun z => by cases z), fun v q' z => ?_⟩
    cases z
    refine (rx_bind h1).trans ((rx_bind hh).trans ((if_neg (fun z => z c)).trans ((gd_t hbm).trans ?_)))
    show some ((1 : Int32), (nI q + 1, nI q, y2, upd y3 (nI m).toNatClampNeg (-10000))) = _
    rw [nI_1, cl_nI (by omega)]
  · rw [if_neg c]
    have key : ∀ (b : Bool) (q' : Nat), q' ≤ l → (rxB (rxG ch (l - q') 0 0 0 q') b = none → ∃ z1 z3, (lpF (bX6_readsMember_72 tm (nI m) (b2I b)) FU ((0 : Int32), (0 : Int32), (nI q', nI q, y2, y3))).bind (fun t12 => if b2I b = 0 then (jX6_readsMember_144 tm t12.2.2 t12.1 (nI m) t12.2.1) else (jX6_readsMember_144 tm t12.2.2 t12.1 (nI m) (-t12.2.1))) = some ((0 : Int32), (z1, nI q, y2, z3))) ∧ (∀ v q2, rxB (rxG ch (l - q') 0 0 0 q') b = some (v, q2) → (lpF (bX6_readsMember_72 tm (nI m) (b2I b)) FU ((0 : Int32), (0 : Int32), (nI q', nI q, y2, y3))).bind (fun t12 => if b2I b = 0 then (jX6_readsMember_144 tm t12.2.2 t12.1 (nI m) t12.2.1) else (jX6_readsMember_144 tm t12.2.2 t12.1 (nI m) (-t12.2.1))) = some ((1 : Int32), (nI q2, nI q, y2, upd y3 m v))) := by
      intro b q' hq'
      have k1 : q' + (l - q') = l := by omega
      have k2 : l - q' < FU := by rw [FU_eq]; omega
      have k3 : 0 + (l - q') < 2 ^ 30 := by omega
      have k4 : l - q' < 2 ^ 31 := by omega
      obtain ⟨g1, g2, g3⟩ := rxG0 ch (l - q') q'
      have h0 : lpF (bX6_readsMember_72 tm (nI m) (b2I b)) FU ((0 : Int32), (0 : Int32), (nI q', nI q, y2, y3)) = some (nI (rxG ch (l - q') 0 0 0 q').1, (rxG ch (l - q') 0 0 0 q').2.2.1, (nI (rxG ch (l - q') 0 0 0 q').2.2.2, nI q, y2, y3)) := rxG_m h (nI m) (b2I b) (nI q) y2 y3 (l - q') q' FU 0 0 0 k1 k2 k3
      generalize rxG ch (l - q') 0 0 0 q' = r at *
      have e : ∀ w : Int32, jX6_readsMember_144 tm (nI r.2.2.2, nI q, y2, y3) (nI r.1) (nI m) w = some (b2I (decide (1 ≤ r.1 ∧ r.1 ≤ 3)), (nI r.2.2.2, nI q, y2, upd y3 m w)) := by
        intro w
        refine (gd_t hbm).trans ((rx_bind (in_ok _ _ _)).trans ((gd_b2I _ _).trans ?_))
        rw [rx_13 (Nat.lt_of_le_of_lt g1 k4), cl_nI (by omega)]
      have e2 : (lpF (bX6_readsMember_72 tm (nI m) (b2I b)) FU ((0 : Int32), (0 : Int32), (nI q', nI q, y2, y3))).bind (fun t12 => if b2I b = 0 then (jX6_readsMember_144 tm t12.2.2 t12.1 (nI m) t12.2.1) else (jX6_readsMember_144 tm t12.2.2 t12.1 (nI m) (-t12.2.1))) = some (b2I (decide (1 ≤ r.1 ∧ r.1 ≤ 3)), (nI r.2.2.2, nI q, y2, upd y3 m (bif b then -r.2.2.1 else r.2.2.1))) := by
        refine (rx_bind h0).trans ?_
        cases b with
        | false => exact (if_pos (by decide)).trans (e _)
        | true => exact (if_neg (by decide)).trans (e _)
      rw [e2]
      unfold rxB
      by_cases c : 1 ≤ r.1 ∧ r.1 ≤ 3
      · rw [if_pos c, decide_eq_true c]
        refine ⟨(fun z => by cases z), fun v q2 z => ?_⟩
        obtain ⟨a, a1, a2, a3⟩ := g3 c.2
        rw [a2] at z
        rw [a3]
        cases z
        rfl
      · rw [if_neg c, decide_eq_false c]
        exact ⟨fun _ => ⟨_, _, rfl⟩, fun v q2 z => by cases z⟩
    unfold rxN
    by_cases c2 : hr l ch q = 45
    · have hlt := hr_lt c2 (by decide)
      have e : fX6_readsMember tm (nI p, y1, y2, y3) (nI m) = (lpF (bX6_readsMember_72 tm (nI m) (b2I true)) FU ((0 : Int32), (0 : Int32), (nI (q + 1), nI q, y2, y3))).bind (fun t12 => if b2I true = 0 then (jX6_readsMember_144 tm t12.2.2 t12.1 (nI m) t12.2.1) else (jX6_readsMember_144 tm t12.2.2 t12.1 (nI m) (-t12.2.1))) := by
        refine (rx_bind h1).trans ((rx_bind hh).trans ((if_pos c).trans ((rx_bind hh).trans ((if_neg (fun z => z c2)).trans ((if_neg (by decide)).trans ?_)))))
        rw [← nI_1 q]
        rfl
      rw [if_pos c2, e]
      exact key true (q + 1) (by omega)
    · have e : fX6_readsMember tm (nI p, y1, y2, y3) (nI m) = (lpF (bX6_readsMember_72 tm (nI m) (b2I false)) FU ((0 : Int32), (0 : Int32), (nI q, nI q, y2, y3))).bind (fun t12 => if b2I false = 0 then (jX6_readsMember_144 tm t12.2.2 t12.1 (nI m) t12.2.1) else (jX6_readsMember_144 tm t12.2.2 t12.1 (nI m) (-t12.2.1))) := by
        refine (rx_bind h1).trans ((rx_bind hh).trans ((if_pos c).trans ((rx_bind hh).trans ((if_pos c2).trans ((if_pos rfl).trans ?_)))))
        show (lpF (bX6_readsMember_72 tm (nI m) (b2I false)) FU ((0 : Int32), (0 : Int32), (nI q + 0, nI q, y2, y3))).bind _ = _
        rw [show nI q + (0 : Int32) = nI q from nI_add q 0]
        rfl
      rw [if_neg c2, e]
      exact key false q hs.2
/-- a member and its mark from p on: a fault's place, or the value and the place behind -/
def rxL (l : Nat) (ch : Nat → Int32) (mk : Int32) (p : Nat) : Nat ⊕ (Int32 × Nat) :=
  match rxM l ch p with
  | none => .inl (rxS l ch p)
  | some r => if hr l ch (rxS l ch r.2) = mk then .inr (r.1, rxS l ch r.2 + 1) else .inl (rxS l ch r.2)
theorem rxL_n {l : Nat} {ch : Nat → Int32} {mk : Int32} {p : Nat} (h : rxM l ch p = none) : rxL l ch mk p = .inl (rxS l ch p) := by unfold rxL; rw [h]
theorem rxL_s {l : Nat} {ch : Nat → Int32} {mk : Int32} {p : Nat} {v : Int32} {q : Nat} (h : rxM l ch p = some (v, q)) : rxL l ch mk p = if hr l ch (rxS l ch q) = mk then .inr (v, rxS l ch q + 1) else .inl (rxS l ch q) := by unfold rxL; rw [h]
theorem rxL_x {l : Nat} {ch : Nat → Int32} {mk : Int32} {p : Nat} (hp : p ≤ l) {x : Nat} (h : rxL l ch mk p = .inl x) : x ≤ l := by
  cases hM : rxM l ch p with
  | none =>
    rw [rxL_n hM] at h
    cases h
    exact (rxS_le ch hp).2
  | some r =>
    obtain ⟨v, q⟩ := r
    obtain ⟨a1, a2, a3⟩ := rxM_ok hp hM
    rw [rxL_s hM] at h
    by_cases c : hr l ch (rxS l ch q) = mk
    · rw [if_pos c] at h; cases h
    · rw [if_neg c] at h
      cases h
      exact (rxS_le ch a3).2
theorem rxL_ok {l : Nat} {ch : Nat → Int32} {mk : Int32} (hk : ¬ mk = -1) {p : Nat} (hp : p ≤ l) {v : Int32} {q : Nat} (h : rxL l ch mk p = .inr (v, q)) : okV v ∧ p < q ∧ q ≤ l := by
  cases hM : rxM l ch p with
  | none =>
    rw [rxL_n hM] at h
    cases h
  | some r =>
    obtain ⟨v', q'⟩ := r
    obtain ⟨a1, a2, a3⟩ := rxM_ok hp hM
    rw [rxL_s hM] at h
    by_cases c : hr l ch (rxS l ch q') = mk
    · rw [if_pos c] at h
      have h2 := rxS_le ch a3
      have h3 := hr_lt c hk
      cases h
      exact ⟨a1, by omega, by omega⟩
    · rw [if_neg c] at h; cases h
def rxK (m : Nat) : Int32 := if m = 3 then 59 else 44
theorem rxK_n (m : Nat) : ¬ rxK m = -1 := by unfold rxK; split <;> decide
theorem rx_mark {l : Nat} {ch : Nat → Int32} {tx : Ttx} (h : ttX l ch tx) {p : Nat} (hp : p ≤ l) (mk : Int32) : fX4_parseMark (sPl tx p) mk = if hr l ch (rxS l ch p) = mk then some ((-1 : Int32), sPl tx (rxS l ch p + 1)) else some (nI (rxS l ch p), sPl tx (rxS l ch p)) := by
  have hs := rxS_le ch hp
  have h1 : fX4_skipBlanks (sPl tx p) = some (sPl tx (rxS l ch p)) := sb_c (tx := sPl tx p) h hp rfl
  have hh : fX4_here (sPl tx (rxS l ch p)) = some (hr l ch (rxS l ch p)) := he_c (tx := sPl tx (rxS l ch p)) h hs.2 rfl
  refine (rx_bind h1).trans ((rx_bind hh).trans ?_)
  by_cases c : hr l ch (rxS l ch p) = mk
  · refine (if_pos c).trans ?_
    rw [if_pos c]
    show some ((-1 : Int32), (tx.1, tx.2.1, tx.2.2.1, nI (rxS l ch p) + 1, tx.2.2.2.2)) = _
    rw [nI_1]
    rfl
  · refine (if_neg c).trans ?_
    rw [if_neg c]
    rfl
/-- one member and its mark, the class -/
theorem rxL_c {l : Nat} {ch : Nat → Int32} {tx : Ttx} (h : ttX l ch tx) {p : Nat} (hp : p ≤ l) {d m : Nat} (hd : d < 50) (hm : m < 4) : (∀ x, rxL l ch (rxK m) p = .inl x → ∃ tx', bX4_parseDay_4 (nI d) ((-1 : Int32), nI m, sPl tx p) = some (.inl (nI x, nI (m + 1), tx')) ∧ ttX l ch tx') ∧ (∀ v q, rxL l ch (rxK m) p = .inr (v, q) → bX4_parseDay_4 (nI d) ((-1 : Int32), nI m, sPl tx p) = some (.inl ((-1 : Int32), nI (m + 1), sPl (rxP tx (d * 4 + m) v) q))) := by
  have hl := h.1
  have ei : nI d * (4 : Int32) + nI m = nI (d * 4 + m) := by rw [show (4 : Int32) = nI 4 from rfl, pk_mul, nI_add]
  obtain ⟨n1, n2⟩ := rxM_c h hp (i := d * 4 + m) (by omega)
  have hs := rxS_le ch hp
  have start : ∀ r, fX4_parseMember (sPl tx p) (nI (d * 4 + m)) = some r → bX4_parseDay_4 (nI d) ((-1 : Int32), nI m, sPl tx p) = if ¬ r.1 = (-1 : Int32) then (jX4_parseDay_4_46 r.2 (nI d) r.1 (nI m)) else (if (3 : Int32) ≤ nI m then (jX4_parseDay_4_42 r.2 (nI d) (nI m) (59 : Int32)) else (jX4_parseDay_4_42 r.2 (nI d) (nI m) (44 : Int32))) := by
    intro r hq
    rw [← ei] at hq
    refine (if_neg (show ¬ (4 : Int32) ≤ nI m from nI_ge (b := 4) hm (by decide))).trans ((if_neg (fun z => z rfl)).trans ?_)
    exact rx_bind hq
  cases hM : rxM l ch p with
  | none =>
    rw [rxL_n hM]
    refine ⟨fun x z => ?_, fun v q z => by cases z⟩
    cases z
    obtain ⟨p', e⟩ := n1 hM
    refine ⟨sPl tx p', ?_, h⟩
    rw [start _ e]
    refine (if_pos (rx_nm1 (by omega))).trans ?_
    show some (Sum.inl (nI (rxS l ch p), nI m + 1, sPl tx p')) = _
    rw [nI_1]
  | some r =>
    obtain ⟨v, q⟩ := r
    obtain ⟨a1, a2, a3⟩ := rxM_ok hp hM
    have hs2 := rxS_le ch a3
    have hT : ttX l ch (rxP tx (d * 4 + m) v) := h
    have e2 : bX4_parseDay_4 (nI d) ((-1 : Int32), nI m, sPl tx p) = (fX4_parseMark (sPl (rxP tx (d * 4 + m) v) q) (rxK m)).bind fun q6 => some (.inl (q6.1, nI m + 1, q6.2)) := by
      rw [start _ (n2 v q hM)]
      refine (if_neg (fun z => z rfl)).trans ?_
      by_cases c : m = 3
      · subst c
        exact if_pos (by decide)
      · have ek : rxK m = 44 := if_neg c
        rw [ek]
        exact if_neg (show ¬ (3 : Int32) ≤ nI m from nI_ge (b := 3) (by omega) (by decide))
    rw [rxL_s hM, e2, rx_mark hT a3, nI_1]
    by_cases c : hr l ch (rxS l ch q) = rxK m
    · rw [if_pos c, if_pos c]
      refine ⟨(fun x z => by cases z), fun v' q' z => ?_⟩
      cases z
      rfl
    · rw [if_neg c, if_neg c]
      refine ⟨fun x z => ?_, fun v' q' z => by cases z⟩
      cases z
      exact ⟨_, rfl, hT⟩
/-- one member and its mark, the reference -/
theorem rxL_m {l : Nat} {ch : Nat → Int32} {tm : Ttm} (h : ttM l ch tm) (co : Tco) (x1 : Int32) {p : Nat} (hp : p ≤ l) {m : Nat} (hm : m < 4) (y1 y2 : Int32) (y3 : Nat → Int32) : (∀ x, rxL l ch (rxK m) p = .inl x → ∃ e u, bX6_readsDay_17 co tm x1 (nI m, (nI p, y1, y2, y3)) = some (.inr e) ∧ (e = .inl u ∨ e = .inr (.inl u)) ∧ u.2.1 = nI x ∧ u.2.2.1 = y2) ∧ (∀ v q, rxL l ch (rxK m) p = .inr (v, q) → ∃ z1, bX6_readsDay_17 co tm x1 (nI m, (nI p, y1, y2, y3)) = some (.inl (nI (m + 1), (nI q, z1, y2, upd y3 m v)))) := by
  have hl := h.1
  obtain ⟨n1, n2⟩ := rxM_m h hp hm y1 y2 y3
  have hn4 : ¬ (4 : Int32) ≤ nI m := nI_ge (b := 4) hm (by decide)
  cases hM : rxM l ch p with
  | none =>
    rw [rxL_n hM]
    refine ⟨fun x z => ?_, fun v q z => by cases z⟩
    cases z
    obtain ⟨z1, z3, e⟩ := n1 hM
    refine ⟨.inl (z1, nI (rxS l ch p), y2, z3), (z1, nI (rxS l ch p), y2, z3), ?_, Or.inl rfl, rfl, rfl⟩
    refine (if_neg hn4).trans ((rx_bind e).trans ?_)
    exact if_neg (fun z => z rfl)
  | some r =>
    obtain ⟨v, q⟩ := r
    obtain ⟨a1, a2, a3⟩ := rxM_ok hp hM
    have hs2 := rxS_le ch a3
    have h1 : fX6_skips tm (nI q, nI (rxS l ch p), y2, upd y3 m v) = some (nI (rxS l ch q), nI (rxS l ch q), y2, upd y3 m v) := sb_m (rd := (nI q, nI (rxS l ch p), y2, upd y3 m v)) h a3 rfl
    have hh : fX6_here tm (nI (rxS l ch q), nI (rxS l ch q), y2, upd y3 m v) = some (hr l ch (rxS l ch q)) := he_m (rd := (nI (rxS l ch q), nI (rxS l ch q), y2, upd y3 m v)) h hs2.2 rfl
    have e2 : bX6_readsDay_17 co tm x1 (nI m, (nI p, y1, y2, y3)) = jX6_readsDay_17_52 co tm (nI (rxS l ch q), nI (rxS l ch q), y2, upd y3 m v) x1 (nI m) (hr l ch (rxS l ch q)) (rxK m) := by
      refine (if_neg hn4).trans ((rx_bind (n2 v q hM)).trans ((if_pos (by show ¬ (1 : Int32) = 0; decide)).trans ((rx_bind h1).trans ((rx_bind hh).trans ?_))))
      by_cases c : m = 3
      · subst c
        exact if_neg (fun z => z rfl)
      · have ek : rxK m = 44 := if_neg c
        rw [ek]
        exact if_pos (fun z => c ((nI_eq (a := m) (b := 3) (by omega) (by decide)).mp z))
    rw [rxL_s hM, e2]
    unfold jX6_readsDay_17_52
    by_cases c : hr l ch (rxS l ch q) = rxK m
    · rw [if_pos c, if_pos c]
      refine ⟨(fun x z => by cases z), fun v' q' z => ?_⟩
      cases z
      refine ⟨nI (rxS l ch q), ?_⟩
      rw [nI_1]
      show some (Sum.inl (nI (m + 1), (nI (rxS l ch q) + 1, nI (rxS l ch q), y2, upd y3 m v))) = _
      rw [nI_1]
    · rw [if_neg c, if_neg c]
      refine ⟨fun x z => ?_, fun v' q' z => by cases z⟩
      cases z
      exact ⟨_, _, rfl, Or.inr rfl, rfl, rfl⟩
