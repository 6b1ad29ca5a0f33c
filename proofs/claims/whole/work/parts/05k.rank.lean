/-! ===== learn: the near ones ===== -/
def sND (li : Tli) (f : Nat → Int32) : Tli := (li.1, li.2.1, li.2.2.1, li.2.2.2.1, f, li.2.2.2.2.2)
def rowL (nd : Nat → Int32) (t : Nat) (l : List (Nat × UInt32)) : Prop := repL (fun i => nd (t * 12 + i)) (fun p => nI p.1) l
theorem bt_ok {n : Nat} {nt : Nat → Int32} {w : Nat → Nat} {li : Tli} (hd : li.2.2.2.2.2.2.2.1 = nI n) (hn : n ≤ 50) (ds : dsP n nt w n 0 li) {a b : Nat} (ha : a < n) (hb : b < n) (hab : a ≠ b) : fX2_between li (nI a) (nI b) = some ((dist nt w a b).getD m1F) := by
  unfold fX2_between
  rw [has_l hd hn, Option.bind_some, isD_nI ha (by omega), if_neg (by decide), has_l hd hn, Option.bind_some, isD_nI hb (by omega), if_neg (by decide), if_neg (fun z => hab ((nI_eq (by omega) (by omega)).mp z)), show nI a * (50 : Int32) + nI b = nI (a * 50 + b) by rw [show (50 : Int32) = nI 50 from rfl, pk_mul, nI_add], gd_t (inB_nI (by omega) (by decide)), cl_nI (by omega)]
  unfold jX2_between_37
  rw [ds a b ha hb hab (by omega)]
theorem en_loop {n : Nat} {nt : Nat → Int32} {w : Nat → Nat} {li : Tli} (hd : li.2.2.2.2.2.2.2.1 = nI n) (hn : n ≤ 50) (ds : dsP n nt w n 0 li) (ho : okB n nt w) {t : Nat} (ht : t < n) {l : List (Nat × UInt32)} (hl : ∀ p ∈ l, p.1 < n ∧ p.1 ≠ t ∧ dist nt w t p.1 = some p.2) (hs : srtK kyL l) (hk : l.length ≤ 12) (hr : rowL li.2.2.2.2.1 t l) {d : UInt32} (hdn : FP.Core.val32 d ≠ .nan) (u : Nat) (x4 : Int32) :
    ∃ p, p ≤ l.length ∧ insK kyL (u, d) l = l.take p ++ (u, d) :: l.drop p ∧ lpF (bX2_enter_10 (nI t) (nI u) d x4 (nI (t * 12))) FU (nI l.length, li) = some (nI p, sND li (shf (t * 12 + p) (t * 12 + min l.length 11) li.2.2.2.2.1)) := by
  have h0 : shf (t * 12 + (l.length - 0)) (t * 12 + min l.length 11) li.2.2.2.2.1 = li.2.2.2.2.1 := by
    funext i
    unfold shf
    rw [if_neg (by omega)]
  have key := lp_brk (B := bX2_enter_10 (nI t) (nI u) d x4 (nI (t * 12))) (fun (j : Nat) (z : Int32 × Tli) => z = (nI (l.length - j), sND li (shf (t * 12 + (l.length - j)) (t * 12 + min l.length 11) li.2.2.2.2.1)) ∧ ∀ (i : Nat) (a : Nat × UInt32), l.length - j ≤ i → l[i]? = some a → kyL (u, d) < kyL a)
    (fun (e : Int32 × Tli) => ∃ p, p ≤ l.length ∧ (∀ (i : Nat) (a : Nat × UInt32), i < p → l[i]? = some a → kyL a ≤ kyL (u, d)) ∧ (∀ (i : Nat) (a : Nat × UInt32), p ≤ i → l[i]? = some a → kyL (u, d) < kyL a) ∧ e = (nI p, sND li (shf (t * 12 + p) (t * 12 + min l.length 11) li.2.2.2.2.1))) l.length (by omega) ?_ ?_ (nI l.length, li) ⟨by rw [h0]; rfl, fun i a hi ha => by have := (List.getElem?_eq_some_iff.mp ha).1; omega⟩
  · obtain ⟨e, h1, p, h2, h3, h4, h5⟩ := key
    exact ⟨p, h2, insK_at kyL (u, d) l p h2 h3 h4, by rw [h1, h5]⟩
  · rintro j z hj ⟨hz, hi⟩
    subst hz
    generalize hpe : l.length - j = p at *
    have hp : 0 < p := by omega
    obtain ⟨a, ha⟩ : ∃ a, l[p - 1]? = some a := ⟨_, List.getElem?_eq_getElem (by omega)⟩
    obtain ⟨m1, m2, m3⟩ := hl a (List.mem_of_getElem? ha)
    have hv : shf (t * 12 + p) (t * 12 + min l.length 11) li.2.2.2.2.1 (t * 12 + p - 1) = nI a.1 := by
      rw [shf_lt (by omega), show t * 12 + p - 1 = t * 12 + (p - 1) by omega]
      exact hr _ a ha
    have e1 : nI (t * 12) + nI p - (1 : Int32) = nI (t * 12 + p - 1) := by rw [nI_add, sub1 (by omega)]
    have hb : fX2_between (sND li (shf (t * 12 + p) (t * 12 + min l.length 11) li.2.2.2.2.1)) (nI t) (nI a.1) = some a.2 := by
      rw [bt_ok (n := n) (nt := nt) (w := w) (li := sND li (shf (t * 12 + p) (t * 12 + min l.length 11) li.2.2.2.2.1)) hd hn ds ht m1 (Ne.symm m2), m3]; rfl
    have hc := (fc_lt .g hdn (dist_n ho ht m1 m3).1.ne).2.2.1
    unfold bX2_enter_10
    rw [if_neg (nI_nle hp (by omega)), e1, gd_t (inB_nI (by omega) (by decide)), cl_nI (by omega)]
    rw [show (sND li (shf (t * 12 + p) (t * 12 + min l.length 11) li.2.2.2.2.1)).2.2.2.2.1 (t * 12 + p - 1) = nI a.1 from hv, hb, Option.bind_some]
    by_cases c : zf a.2 ≤ zf d
    · refine Or.inr ⟨_, if_pos (hc.mpr c), p, by omega, fun i b hib hb => ?_, hi, rfl⟩
      have h1 := hs i (p - 1) b a (by omega) hb ha
      have h2 : kyL a ≤ kyL (u, d) := c
      omega
    · refine Or.inl ⟨(nI (l.length - (j + 1)), sND li (shf (t * 12 + (l.length - (j + 1))) (t * 12 + min l.length 11) li.2.2.2.2.1)), ?_, rfl, fun i b hib hb => ?_⟩
      · rw [if_neg (fun z => c (hc.mp z)), show l.length - (j + 1) = p - 1 by omega]
        by_cases c12 : 12 ≤ p
        · rw [if_pos (show (12 : Int32) ≤ nI p from nI_le (a := 12) c12 (by omega))]
          unfold jX2_enter_10_66
          rw [add_m1 hp]
          have : shf (t * 12 + p) (t * 12 + min l.length 11) li.2.2.2.2.1 = shf (t * 12 + (p - 1)) (t * 12 + min l.length 11) li.2.2.2.2.1 := by
            funext i
            unfold shf
            rw [if_neg (by omega), if_neg (by omega)]
          rw [this]
        · rw [if_neg (show ¬ (12 : Int32) ≤ nI p from nI_ge (b := 12) (by omega) (by decide)), gd_t (inB_nI (by omega) (by decide)), nI_add, gd_t (inB_nI (by omega) (by decide)), cl_nI (by omega)]
          unfold jX2_enter_10_66
          rw [add_m1 hp]
          have := upd_shf (p := t * 12 + p) (L := t * 12 + min l.length 11) (f := li.2.2.2.2.1) (by omega) (by omega)
          rw [hv, show t * 12 + p - 1 = t * 12 + (p - 1) by omega] at this
          show some (Sum.inl (nI (p - 1), sND li (upd (shf (t * 12 + p) (t * 12 + min l.length 11) li.2.2.2.2.1) (t * 12 + p) (nI a.1)))) = _
          rw [this]
      · by_cases c2 : i = p - 1
        · subst c2
          rw [ha] at hb
          cases hb
          show zf d < zf a.2
          omega
        · exact hi i b (by omega) hb
  · rintro z ⟨hz, hi⟩
    subst hz
    rw [Nat.sub_self]
    refine ⟨_, ?_, 0, by omega, fun i a h => absurd h (by omega), fun i a _ ha => hi i a (by omega) ha, rfl⟩
    unfold bX2_enter_10
    dsimp only
    rw [if_pos (by decide)]
theorem en_ok {n : Nat} {nt : Nat → Int32} {w : Nat → Nat} {li : Tli} (hd : li.2.2.2.2.2.2.2.1 = nI n) (hn : n ≤ 50) (ds : dsP n nt w n 0 li) (ho : okB n nt w) {t : Nat} (ht : t < n) {l : List (Nat × UInt32)} (hl : ∀ p ∈ l, p.1 < n ∧ p.1 ≠ t ∧ dist nt w t p.1 = some p.2) (hs : srtK kyL l) (hk : l.length ≤ 12) (hr : rowL li.2.2.2.2.1 t l) {d : UInt32} (hdn : FP.Core.val32 d ≠ .nan) (u : Nat) :
    ∃ f, fX2_enter li (nI t) (nI u) d (nI l.length) = some (nI (min 12 (l.length + 1)), sND li f) ∧ rowL f t ((insK kyL (u, d) l).take 12) ∧ ∀ j, (j < t * 12 ∨ t * 12 + 12 ≤ j) → f j = li.2.2.2.2.1 j := by
  obtain ⟨p, p1, p2, p3⟩ := en_loop hd hn ds ho ht hl hs hk hr hdn u (nI l.length)
  have e0 : nI t * (12 : Int32) = nI (t * 12) := by rw [show (12 : Int32) = nI 12 from rfl, pk_mul]
  have e1 : ∀ q : Tli, jX2_enter_90 q (nI l.length) = some (nI (min 12 (l.length + 1)), q) := by
    intro q
    unfold jX2_enter_90
    rw [show nI l.length + (1 : Int32) = nI (l.length + 1) from nI_1 _]
    by_cases c : l.length + 1 ≤ 12
    · rw [if_neg (show ¬ (12 : Int32) < nI (l.length + 1) from nI_nlt (a := 12) c (by decide)), Nat.min_eq_right c]
    · rw [if_pos (show (12 : Int32) < nI (l.length + 1) from nI_lt (a := 12) (by omega) (by omega)), Nat.min_eq_left (by omega)]; rfl
  have rep : ∀ f : Nat → Int32, (∀ i, i < 12 → i ≤ l.length → f (t * 12 + i) = if i = p then nI u else shf p l.length (fun i => li.2.2.2.2.1 (t * 12 + i)) i) → rowL f t ((insK kyL (u, d) l).take 12) := by
    intro f hf
    rw [p2]
    refine repL_ext (repL_take (repL_ins (f' := fun i => if i = p then nI u else shf p l.length (fun i => li.2.2.2.2.1 (t * 12 + i)) i) (u, d) hr p1 (fun i hi => rfl)) 12) (fun i hi => ?_)
    have h1 : i < 12 ∧ i ≤ l.length := by
      rw [List.length_take, List.length_append, List.length_cons, List.length_take, List.length_drop] at hi
      omega
    exact hf i h1.1 h1.2
  unfold fX2_enter
  rw [e0, p3, Option.bind_some]
  dsimp only
  by_cases c : 12 ≤ p
  · rw [if_pos (show (12 : Int32) ≤ nI p from nI_le (a := 12) c (by omega)), e1]
    refine ⟨_, rfl, rep _ ?_, fun j hj => ?_⟩
    · intro i h1 h2
      rw [if_neg (by omega), shf_lt (by omega), shf_lt (by omega)]
    · unfold shf
      rw [if_neg (by omega)]
  · rw [if_neg (show ¬ (12 : Int32) ≤ nI p from nI_ge (b := 12) (by omega) (by decide)), nI_add, gd_t (inB_nI (by omega) (by decide)), cl_nI (by omega), e1]
    refine ⟨upd (shf (t * 12 + p) (t * 12 + min l.length 11) li.2.2.2.2.1) (t * 12 + p) (nI u), rfl, rep _ ?_, fun j hj => ?_⟩
    · intro i h1 h2
      unfold upd
      by_cases c2 : i = p
      · rw [if_pos (by omega), if_pos c2]
      · rw [if_neg (by omega), if_neg c2]
        unfold shf
        by_cases c3 : p < i ∧ i ≤ l.length
        · rw [if_pos c3, if_pos (by omega), show t * 12 + i - 1 = t * 12 + (i - 1) by omega]
        · rw [if_neg c3, if_neg (by omega)]
    · unfold upd
      rw [if_neg (by omega)]
      unfold shf
      rw [if_neg (by omega)]
