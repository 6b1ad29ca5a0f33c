/-! ===== the reference: all that are like a day ===== -/
def moA (n : Nat) (nt : Nat → Int32) (w : Nat → Nat) (g f : Nat) (co : Tco) : Prop := moB n nt w co ∧ co.2.1 4 = nI g ∧ co.2.1 5 = nI f
def lkP (l : List (Nat × UInt32)) (lk : Tlk) : Prop := lk.1 = nI l.length ∧ repL lk.2.1 (fun p => nI p.1) l ∧ repL lk.2.2 (fun p => p.2) l
theorem mbl_ok {n g f : Nat} {nt : Nat → Int32} {w : Nat → Nat} {co : Tco} (h : moA n nt w g f co) (hg : g ≤ 9) {t u : Nat} (ht : t < n) (hu : u < n) : fX6_mayBeLike co (nI t) (nI u) = some (b2I (mayL n g t u)) := by
  obtain ⟨⟨hn, h1, -⟩, h2, -⟩ := h
  have key : ∀ a : Nat, a ≤ 50 → (u - t) + (t - u) = a → jX6_mayBeLike_14 co (nI t) (nI u) (nI a) = some (b2I (mayL n g t u)) := by
    intro a ha he
    unfold jX6_mayBeLike_14
    by_cases c1 : u = t
    · rw [if_pos (by rw [c1]), show mayL n g t u = false from decide_eq_false (by omega)]; rfl
    · rw [if_neg (fun z => c1 ((nI_eq (by omega) (by omega)).mp z)), gd_t (by decide), show ((4 : Int32)).toNatClampNeg = 4 from rfl, h2, h1, show nI u + (1 : Int32) = nI (u + 1) from nI_1 u]
      by_cases c2 : a ≤ g
      · rw [if_pos (nI_le c2 (by omega)), show mayL n g t u = false from decide_eq_false (by omega)]; rfl
      · rw [if_neg (nI_ge (by omega) (by omega))]
        by_cases c3 : n ≤ u + 1
        · rw [if_pos (nI_le c3 (by omega)), show mayL n g t u = false from decide_eq_false (by omega)]; rfl
        · rw [if_neg (nI_ge (by omega) (by omega))]
          by_cases c4 : u + 1 = t
          · rw [if_pos (by rw [c4]), show mayL n g t u = false from decide_eq_false (by omega)]; rfl
          · rw [if_neg (fun z => c4 ((nI_eq (by omega) (by omega)).mp z)), show mayL n g t u = true from decide_eq_true (by omega)]; rfl
  unfold fX6_mayBeLike
  by_cases c : u ≤ t
  · rw [if_pos (nI_le c (by omega)), pk_sub c]
    exact key (t - u) (by omega) (by omega)
  · rw [if_neg (nI_ge (by omega) (by omega)), pk_sub (by omega)]
    exact key (u - t) (by omega) (by omega)
theorem upd_shf {p L : Nat} {f : Nat → Int32} (h : 0 < p) (hp : p ≤ L) : upd (shf p L f) p (shf p L f (p - 1)) = shf (p - 1) L f := by
  funext i
  rw [shf_lt (i := p - 1) (by omega)]
  exact shf_step h hp i
theorem vupd_shf {p L : Nat} {f : Nat → UInt32} (h : 0 < p) (hp : p ≤ L) : vf_upd (shf p L f) p (shf p L f (p - 1)) = shf (p - 1) L f := by
  funext i
  rw [shf_lt (i := p - 1) (by omega)]
  exact shf_step h hp i
theorem sub1 {p : Nat} (h : 0 < p) : nI p - 1 = nI (p - 1) := by
  rw [show p = (p - 1) + 1 by omega]; exact nI_pred _
theorem add_m1 {p : Nat} (h : 0 < p) : nI p + (-1) = nI (p - 1) := by
  rw [show p = (p - 1) + 1 by omega]; exact pk_m1 _
theorem sl_loop {co : Tco} {cp x1 x2 : Int32} {lk : Tlk} {l : List (Nat × UInt32)} {d : UInt32} (hlk : lkP l lk) (hs : srtK kyL l) (hL : l.length < 50) (hnan : ∀ p ∈ l, FP.Core.val32 p.2 ≠ .nan) (hd : FP.Core.val32 d ≠ .nan) (x : Nat) :
    ∃ p, p ≤ l.length ∧ insK kyL (x, d) l = l.take p ++ (x, d) :: l.drop p ∧ lpF (bX6_setLike_44 co cp x1 x2 d) FU (nI l.length, lk) = some (nI p, (lk.1, shf p l.length lk.2.1, shf p l.length lk.2.2)) := by
  obtain ⟨-, r1, r2⟩ := hlk
  have key := lp_brk (B := bX6_setLike_44 co cp x1 x2 d) (fun (j : Nat) (z : Int32 × Tlk) => z = (nI (l.length - j), (lk.1, shf (l.length - j) l.length lk.2.1, shf (l.length - j) l.length lk.2.2)) ∧ ∀ (i : Nat) (a : Nat × UInt32), l.length - j ≤ i → l[i]? = some a → kyL (x, d) < kyL a)
    (fun (e : Int32 × Tlk) => ∃ p, p ≤ l.length ∧ (∀ (i : Nat) (a : Nat × UInt32), i < p → l[i]? = some a → kyL a ≤ kyL (x, d)) ∧ (∀ (i : Nat) (a : Nat × UInt32), p ≤ i → l[i]? = some a → kyL (x, d) < kyL a) ∧ e = (nI p, (lk.1, shf p l.length lk.2.1, shf p l.length lk.2.2))) l.length (by omega) ?_ ?_ (nI l.length, lk) ⟨by rw [Nat.sub_zero, shf_self, shf_self], fun i a hi ha => by have := (List.getElem?_eq_some_iff.mp ha).1; omega⟩
  · obtain ⟨e, h1, p, h2, h3, h4, h5⟩ := key
    exact ⟨p, h2, insK_at kyL (x, d) l p h2 h3 h4, by rw [h1, h5]⟩
  · rintro j z hj ⟨hz, hi⟩
    subst hz
    have hp : 0 < l.length - j := by omega
    obtain ⟨a, ha⟩ : ∃ a, l[l.length - j - 1]? = some a := ⟨_, List.getElem?_eq_getElem (by omega)⟩
    have hv : shf (l.length - j) l.length lk.2.2 (l.length - j - 1) = a.2 := by
      rw [shf_lt (by omega)]
      exact r2 _ a ha
    have hc := (fc_lt .l (hnan a (List.mem_of_getElem? ha)) hd).2.1
    unfold bX6_setLike_44
    dsimp only
    rw [if_neg (nI_nle hp (by omega)), sub1 hp, gd_t (inB_nI (by omega) (by decide)), cl_nI (by omega)]
    by_cases c : zf a.2 ≤ zf d
    · refine Or.inr ⟨_, if_pos (by rw [hv]; exact hc.mpr c), l.length - j, by omega, fun i b hib hb => ?_, hi, rfl⟩
      have h1 := hs i (l.length - j - 1) b a (by omega) hb ha
      have h2 : kyL a ≤ kyL (x, d) := c
      omega
    · refine Or.inl ⟨(nI (l.length - (j + 1)), (lk.1, shf (l.length - (j + 1)) l.length lk.2.1, shf (l.length - (j + 1)) l.length lk.2.2)), ?_, rfl, fun i b hib hb => ?_⟩
      · rw [if_neg (fun z => c (hc.mp (by rw [hv] at z; exact z))), gd_t (inB_nI (by omega) (by decide)), gd_t (inB_nI (by omega) (by decide)), gd_t (inB_nI (by omega) (by decide)), gd_t (inB_nI (by omega) (by decide)), add_m1 hp, cl_nI (by omega), vupd_shf hp (by omega), upd_shf hp (by omega), show l.length - (j + 1) = l.length - j - 1 by omega]
      · by_cases c2 : i = l.length - j - 1
        · subst c2
          rw [ha] at hb
          cases hb
          show zf d < zf a.2
          omega
        · exact hi i b (by omega) hb
  · rintro z ⟨hz, hi⟩
    subst hz
    rw [Nat.sub_self]
    refine ⟨_, ?_, 0, by omega, fun i a h => absurd h (by omega), fun i a _ ha => hi i a (by omega) ha, rfl⟩
    unfold bX6_setLike_44
    dsimp only
    rw [if_pos (by decide)]
theorem dist_n {n : Nat} {nt : Nat → Int32} {w : Nat → Nat} (ho : okB n nt w) {t u : Nat} (ht : t < n) (hu : u < n) {d : UInt32} (hd : dist nt w t u = some d) : G32 61 176 d ∧ FP.Core.sgn (FP.Core.val32 d) = false := by
  refine dst0_ok (ho.d ?_ ?_) hd
  · omega
  · omega
theorem likeL_n {n g : Nat} {nt : Nat → Int32} {w : Nat → Nat} (ho : okB n nt w) {t u : Nat} (ht : t < n) (hu : u ≤ n) : ∀ p ∈ likeL n g nt w t u, G32 61 176 p.2 ∧ FP.Core.sgn (FP.Core.val32 p.2) = false := by
  intro p hp
  obtain ⟨h1, -, h2⟩ := likeL_mem n g nt w t u p hp
  exact dist_n ho ht (by omega) h2
theorem sl_ok {n g f : Nat} {nt : Nat → Int32} {w : Nat → Nat} {co : Tco} (h : moA n nt w g f co) (ho : okB n nt w) (hg : g ≤ 9) {t : Nat} (ht : t < n) (cp : Int32) (lk : Tlk) : ∃ cp' lk', fX6_setLike co cp lk (nI t) = some (cp', lk') ∧ lkP (likeL n g nt w t n) lk' := by
  have hn := h.1.1
  have key := lp_cnt (B := bX6_setLike_7 co (nI t)) (fun (u : Nat) (z : Int32 × Int32 × Tlk) => z.1 = nI u ∧ lkP (likeL n g nt w t u) z.2.2) (fun (e : Int32 × Tlk) => lkP (likeL n g nt w t n) e.2) n (by omega) ?_ ?_ ((0 : Int32), cp, ((0 : Int32), lk.2.1, lk.2.2)) ⟨rfl, rfl, (fun i a ha => by cases ha), (fun i a ha => by cases ha)⟩
  · obtain ⟨⟨c2, l2⟩, h1, h2⟩ := key
    refine ⟨c2, l2, ?_, h2⟩
    unfold fX6_setLike
    rw [h1]; rfl
  · rintro u ⟨zu, zc, zl⟩ hu ⟨h1, h2⟩
    have h1 : zu = nI u := h1
    subst h1
    have h2 : lkP (likeL n g nt w t u) zl := h2
    have hlen := likeL_len n g nt w t u
    have step : ∀ c : Int32, ∀ l' : Tlk, jX6_setLike_7_127 co c l' (nI t) (nI u) = some (.inl (nI (u + 1), c, l')) := by
      intro c l'
      unfold jX6_setLike_7_127
      rw [show nI u + (1 : Int32) = nI (u + 1) from nI_1 u]
    unfold bX6_setLike_7
    dsimp only
    rw [h.1.2.1, if_neg (nI_ge hu (by omega)), mbl_ok h hg ht hu, Option.bind_some]
    cases hm : mayL n g t u with
    | false =>
      rw [if_pos (by decide), step]
      refine ⟨_, rfl, rfl, ?_⟩
      simp only [likeL, cnL, hm, cond_false]
      exact h2
    | true =>
      rw [if_neg (by decide), mo_dist h.1 ho zc ht hu, Option.bind_some]
      cases hd : dist nt w t u with
      | none =>
        dsimp only [Option.isSome]
        rw [if_pos (by decide), step]
        refine ⟨_, rfl, rfl, ?_⟩
        simp only [likeL, cnL, hm, cond_true, hd]
        exact h2
      | some d =>
        obtain ⟨gd1, -⟩ := dist_n ho ht hu hd
        obtain ⟨p, p1, p2, p3⟩ := sl_loop (co := co) (cp := bif true then 1 else 0) (x1 := nI t) (x2 := nI u) h2 (likeL_srt n g nt w t u) (by omega) (fun q hq => (likeL_n ho ht (by omega) q hq).1.ne) gd1.ne u
        dsimp only [Option.isSome, Option.getD_some]
        rw [if_neg (by decide), h2.1, p3, Option.bind_some]
        dsimp only
        rw [gd_t (inB_nI (by omega) (by decide)), gd_t (inB_nI (by omega) (by decide)), cl_nI (by omega), h2.1, step, show nI (likeL n g nt w t u).length + (1 : Int32) = nI ((likeL n g nt w t u).length + 1) from nI_1 _]
        refine ⟨_, rfl, rfl, ?_⟩
        have e : likeL n g nt w t (u + 1) = (likeL n g nt w t u).take p ++ (u, d) :: (likeL n g nt w t u).drop p := by
          rw [← p2]
          simp only [likeL, cnL, hm, cond_true, hd]
        have e2 : (likeL n g nt w t (u + 1)).length = (likeL n g nt w t u).length + 1 := by
          simp only [likeL, cnL, hm, cond_true, hd, insK_len]
        refine ⟨by rw [e2], ?_, ?_⟩
        · rw [e]
          exact repL_ins (u, d) h2.2.1 p1 (fun i hi => rfl)
        · rw [e]
          exact repL_ins (u, d) h2.2.2 p1 (fun i hi => rfl)
  · rintro ⟨zu, zc, zl⟩ ⟨h1, h2⟩
    have h1 : zu = nI n := h1
    subst h1
    refine ⟨(zc, zl), ?_, h2⟩
    unfold bX6_setLike_7
    dsimp only
    rw [h.1.2.1, if_pos (nI_le (Nat.le_refl n) (by omega))]
/-- the NEAREST, f at most -/
def nearL (n g f : Nat) (nt : Nat → Int32) (w : Nat → Nat) (t : Nat) : List (Nat × UInt32) := (likeL n g nt w t n).take f
theorem repL_take {α β : Type} {f : Nat → β} {m : α → β} {l : List α} (h : repL f m l) (k : Nat) : repL f m (l.take k) := by
  intro i a ha
  rw [List.getElem?_take] at ha
  split at ha
  · exact h i a ha
  · cases ha
theorem sn_ok {n g f : Nat} {nt : Nat → Int32} {w : Nat → Nat} {co : Tco} (h : moA n nt w g f co) (ho : okB n nt w) (hg : g ≤ 9) (hf : f ≤ 12) {t : Nat} (ht : t < n) (cp : Int32) (lk : Tlk) : ∃ cp' lk', fX6_setNearest co cp lk (nI t) = some (cp', lk') ∧ lkP (nearL n g f nt w t) lk' := by
  have hn := h.1.1
  obtain ⟨c1, l1, e1, e2⟩ := sl_ok h ho hg ht cp lk
  have hlen := likeL_len n g nt w t n
  unfold fX6_setNearest
  rw [e1, Option.bind_some, gd_t (by decide), show ((5 : Int32)).toNatClampNeg = 5 from rfl, h.2.2]
  dsimp only
  rw [e2.1]
  by_cases c : f ≤ (likeL n g nt w t n).length
  · rw [if_pos (nI_le c (by omega)), gd_t (by decide)]
    refine ⟨_, _, rfl, ?_, repL_take e2.2.1 f, repL_take e2.2.2 f⟩
    show nI f = nI _
    unfold nearL
    rw [List.length_take, Nat.min_eq_left c]
  · rw [if_neg (nI_ge (by omega) (by omega))]
    refine ⟨_, _, rfl, ?_, repL_take e2.2.1 f, repL_take e2.2.2 f⟩
    show nI _ = nI _
    unfold nearL
    rw [List.length_take, Nat.min_eq_right (by omega)]
