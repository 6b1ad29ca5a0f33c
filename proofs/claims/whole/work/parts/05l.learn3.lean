/-! ===== rank and learn ===== -/
theorem zf_nn {g E : Nat} {x : UInt32} (h : G32 g E x) (hs : FP.Core.sgn (FP.Core.val32 x) = false) : 0 ≤ zf x := by
  obtain ⟨s, c, q, e, -⟩ := h
  show 0 ≤ FP.Core.zval FP.Core.b32 (FP.Core.val32 x)
  rw [e] at hs ⊢
  have hs : s = false := hs
  subst hs
  show 0 ≤ ((FP.Core.zmag FP.Core.b32 (.fin false c q) : Nat) : Int)
  omega
theorem zf_nn' {g E : Nat} {x : UInt32} (h : G32 g E x) (hs : FP.Core.sgn (FP.Core.val32 x) = false) : ¬ Op.cmpValue (FP.fcmp x FP.fconst0) CmpOp.l < 0 := by
  rw [(fc_lt .l h.ne (G32_0 0 0).ne).1, z_zero32]
  have := zf_nn h hs
  omega
theorem absI {u t : Nat} (hu : u < 2 ^ 30) (ht : t < 2 ^ 30) : (if 0 ≤ nI u - nI t then nI u - nI t else 0 - (nI u - nI t)) = nI ((u - t) + (t - u)) := by
  by_cases c : t ≤ u
  · rw [pk_sub c, if_pos (nI_pos' (by omega)), show t - u = 0 by omega, Nat.add_zero]
  · have h : ¬ (0 : Int32) ≤ nI u - nI t := by
      rw [Int32.le_iff_toInt_le, pk_sub_toInt hu ht]
      show ¬ (0 : Int) ≤ _
      omega
    rw [if_neg h, Int32.zero_sub, Int32.neg_sub, pk_sub (by omega), show u - t = 0 by omega, Nat.zero_add]
theorem likeL_last {n g : Nat} {nt : Nat → Int32} {w : Nat → Nat} {t : Nat} (hn : 0 < n) : likeL n g nt w t n = likeL n g nt w t (n - 1) := by
  obtain ⟨k, rfl⟩ : ∃ k, n = k + 1 := ⟨n - 1, by omega⟩
  have : mayL (k + 1) g t k = false := decide_eq_false (by omega)
  simp only [likeL, cnL, this, cond_false, Nat.add_sub_cancel]
theorem mayL_ne {n g t u : Nat} (h : mayL n g t u = true) : u ≠ t := by
  have := of_decide_eq_true h
  omega
theorem rk_loop {n g : Nat} {nt : Nat → Int32} {w : Nat → Nat} {li : Tli} (hd : li.2.2.2.2.2.2.2.1 = nI n) (hn : n ≤ 50) (ds : dsP n nt w n 0 li) (ho : okB n nt w) (hg : g ≤ 9) {t : Nat} (ht : t < n) :
    ∃ f, lpF (bX2_rank_8 (nI t) (nI g)) FU ((0 : Int32), (0 : Int32), (0 : Int32), li) = some (nI (likeL n g nt w t n).length, nI (min 12 (likeL n g nt w t n).length), sND li f) ∧ rowL f t ((likeL n g nt w t n).take 12) ∧ ∀ j, (j < t * 12 ∨ t * 12 + 12 ≤ j) → f j = li.2.2.2.2.1 j := by
  have key := lp_cnt (B := bX2_rank_8 (nI t) (nI g)) (fun (u : Nat) (z : Int32 × Int32 × Int32 × Tli) => ∃ f, z = (nI (likeL n g nt w t u).length, nI (min 12 (likeL n g nt w t u).length), nI u, sND li f) ∧ rowL f t ((likeL n g nt w t u).take 12) ∧ ∀ j, (j < t * 12 ∨ t * 12 + 12 ≤ j) → f j = li.2.2.2.2.1 j)
    (fun (e : Int32 × Int32 × Tli) => ∃ f, e = (nI (likeL n g nt w t n).length, nI (min 12 (likeL n g nt w t n).length), sND li f) ∧ rowL f t ((likeL n g nt w t n).take 12) ∧ ∀ j, (j < t * 12 ∨ t * 12 + 12 ≤ j) → f j = li.2.2.2.2.1 j) (n - 1) (by omega) ?_ ?_ ((0 : Int32), (0 : Int32), (0 : Int32), li) ⟨li.2.2.2.2.1, rfl, (fun i a ha => by cases ha), fun j _ => rfl⟩
  · obtain ⟨e, h1, f, h2, h3, h4⟩ := key
    exact ⟨f, by rw [h1, h2], h3, h4⟩
  · rintro u z hu ⟨f, hz, h2, h3⟩
    subst hz
    have hlen := likeL_len n g nt w t u
    have e1 : nI u + (1 : Int32) = nI (u + 1) := nI_1 u
    have ea := absI (u := u) (t := t) (by omega) (by omega)
    have ei : nI t * (50 : Int32) + nI u = nI (t * 50 + u) := by rw [show (50 : Int32) = nI 50 from rfl, pk_mul, nI_add]
    have step : ∀ (a b : Int32) (l' : Tli), jX2_rank_8_87 l' (nI t) (nI g) a b (nI u) = some (.inl (a, b, nI (u + 1), l')) := by
      intro a b l'
      unfold jX2_rank_8_87
      rw [e1]
    have bar : ∀ (a b : Int32) (l' : Tli), jX2_rank_8_38 l' (nI t) (nI g) a b (nI u) = some (.inl (a, b, nI (u + 1), l')) := by
      intro a b l'
      unfold jX2_rank_8_38 jX2_rank_8_43
      rw [ei, gd_t (inB_nI (by omega) (by decide)), if_pos (by decide), step]
    unfold bX2_rank_8
    dsimp only
    rw [if_neg (show ¬ (sND li f).2.2.2.2.2.2.2.1 ≤ nI u + (1 : Int32) by rw [e1]; show ¬ li.2.2.2.2.2.2.2.1 ≤ _; rw [hd]; exact nI_ge (by omega) (by omega)), ea, e1]
    cases hm : mayL n g t u with
    | false =>
      have hm' := of_decide_eq_false hm
      have e2 : likeL n g nt w t (u + 1) = likeL n g nt w t u := by simp only [likeL, cnL, hm, cond_false]
      refine ⟨_, ?_, f, rfl, by rw [e2]; exact h2, h3⟩
      rw [e2]
      by_cases c : (u - t) + (t - u) ≤ g
      · rw [if_pos (nI_le c (by omega)), bar]
      · rw [if_neg (nI_ge (by omega) (by omega)), if_neg (fun z => z (by rw [show u + 1 = t by omega])), bar]
    | true =>
      have hm' := of_decide_eq_true hm
      have hne := mayL_ne hm
      rw [if_neg (nI_ge (by omega) (by omega)), if_pos (fun z => hm'.2.2 ((nI_eq (by omega) (by omega)).mp z))]
      unfold jX2_rank_8_43
      rw [ei, gd_t (inB_nI (by omega) (by decide)), if_neg (by decide), cl_nI (by omega), show (sND li f).2.2.2.1 (t * 50 + u) = (dist nt w t u).getD m1F from ds t u ht (by omega) (Ne.symm hne) (by omega)]
      cases hdd : dist nt w t u with
      | none =>
        have e2 : likeL n g nt w t (u + 1) = likeL n g nt w t u := by simp only [likeL, cnL, hm, cond_true, hdd]
        refine ⟨_, ?_, f, rfl, by rw [e2]; exact h2, h3⟩
        dsimp only [Option.getD_none]
        rw [if_pos (by decide +kernel), step, e2]
      | some d =>
        obtain ⟨gd1, gd2⟩ := dist_n ho ht (show u < n by omega) hdd
        have e2 : likeL n g nt w t (u + 1) = insK kyL (u, d) (likeL n g nt w t u) := by simp only [likeL, cnL, hm, cond_true, hdd]
        have e3 : ((likeL n g nt w t u).take 12).length = min 12 (likeL n g nt w t u).length := List.length_take
        obtain ⟨f', p1, p2, p3⟩ := en_ok (li := sND li f) (nt := nt) (w := w) hd hn ds ho ht (l := (likeL n g nt w t u).take 12) (fun p hp => by
          obtain ⟨q1, q2, q3⟩ := likeL_mem n g nt w t u p (List.mem_of_mem_take hp)
          exact ⟨by omega, mayL_ne q2, q3⟩) (srtK_take (likeL_srt n g nt w t u) 12) (by rw [e3]; omega) h2 gd1.ne u
        rw [insK_take, ← e2] at p2
        rw [e3] at p1
        dsimp only [Option.getD_some]
        rw [if_neg (zf_nn' gd1 gd2), p1, Option.bind_some]
        refine ⟨_, step _ _ _, f', ?_, p2, fun j hj => (p3 j hj).trans (h3 j hj)⟩
        rw [e2, insK_len, nI_1, show min 12 (min 12 (likeL n g nt w t u).length + 1) = min 12 ((likeL n g nt w t u).length + 1) by omega]
        rfl
  · rintro z ⟨f, hz, h2, h3⟩
    subst hz
    refine ⟨_, ?_, f, rfl, by rw [likeL_last (by omega)]; exact h2, h3⟩
    unfold bX2_rank_8
    dsimp only
    rw [if_pos (show (sND li f).2.2.2.2.2.2.2.1 ≤ nI (n - 1) + (1 : Int32) by rw [nI_1]; show li.2.2.2.2.2.2.2.1 ≤ _; rw [hd]; exact nI_le (by omega) (by omega)), likeL_last (n := n) (by omega)]
theorem rk_ok {n g : Nat} {nt : Nat → Int32} {w : Nat → Nat} {li : Tli} (hd : li.2.2.2.2.2.2.2.1 = nI n) (hn : n ≤ 50) (ds : dsP n nt w n 0 li) (ho : okB n nt w) (hg : g ≤ 9) {t : Nat} (ht : t < n) :
    ∃ f, fX2_rank li (nI t) (nI g) = some (li.1, li.2.1, li.2.2.1, li.2.2.2.1, f, upd li.2.2.2.2.2.1 t (nI (min 12 (likeL n g nt w t n).length)), upd li.2.2.2.2.2.2.1 t (nI (likeL n g nt w t n).length), li.2.2.2.2.2.2.2) ∧ rowL f t ((likeL n g nt w t n).take 12) ∧ ∀ j, (j < t * 12 ∨ t * 12 + 12 ≤ j) → f j = li.2.2.2.2.1 j := by
  obtain ⟨f, h1, h2, h3⟩ := rk_loop hd hn ds ho hg ht
  refine ⟨f, ?_, h2, h3⟩
  unfold fX2_rank
  rw [h1, Option.bind_some, gd_t (inB_nI (by omega) (by decide)), gd_t (inB_nI (by omega) (by decide)), cl_nI (by omega)]
  rfl
/-- what is learnt -/
def lrn (n g : Nat) (nt : Nat → Int32) (w : Nat → Nat) (x : Int32) (li : Tli) : Prop := li.2.2.2.2.2.2.2.2 = x ∧ li.2.2.2.2.2.2.2.1 = nI n ∧ dsP n nt (wo x w) n 0 li ∧ ∀ t, t < n → rowL li.2.2.2.2.1 t ((likeL n g nt (wo x w) t n).take 12) ∧ li.2.2.2.2.2.1 t = nI (min 12 (likeL n g nt (wo x w) t n).length) ∧ li.2.2.2.2.2.2.1 t = nI (likeL n g nt (wo x w) t n).length
def LI (n g : Nat) (nt : Nat → Int32) (w : Nat → Nat) (li : Tli) : Prop := li.2.2.2.2.2.2.2.2 = -2 ∨ lrn n g nt w li.2.2.2.2.2.2.2.2 li
theorem lrn.LI {n g : Nat} {nt : Nat → Int32} {w : Nat → Nat} {x : Int32} {li : Tli} (h : lrn n g nt w x li) : LI n g nt w li := Or.inr (by rw [h.1]; exact h)
theorem le_ok {n g f : Nat} {nt : Nat → Int32} {w : Nat → Nat} {bk : Tbk} {li : Tli} (h : clB n nt w g f bk) (ho : okB n nt w) (hg : g ≤ 9) (hl : LI n g nt w li) {x : Int32} (hx : x ≠ -2) : ∃ l', fX2_learn bk li x = some l' ∧ lrn n g nt w x l' := by
  have hn := h.1
  unfold fX2_learn
  by_cases c : li.2.2.2.2.2.2.2.2 = x
  · rw [if_neg (fun z => z c)]
    refine ⟨li, rfl, ?_⟩
    rcases hl with hl | hl
    · exact absurd (c.symm.trans hl) hx
    · rw [c] at hl; exact hl
  · rw [if_pos c]
    unfold fX0_days
    rw [Option.bind_some, h.2.1, if_neg (show ¬ (50 : Int32) < nI n from nI_nlt (a := 50) hn (by decide))]
    obtain ⟨l1, a1, a2, a3⟩ := tk_ok h (l := (li.1, li.2.1, li.2.2.1, li.2.2.2.1, li.2.2.2.2.1, li.2.2.2.2.2.1, li.2.2.2.2.2.2.1, nI n, x)) rfl
    rw [a1, Option.bind_some]
    obtain ⟨l2, b1, b2, b3, b4, b5⟩ := wl_ok h x l1
    rw [b1, Option.bind_some]
    have hv : liV n nt (wo x w) l2 := by
      refine ⟨hn, ?_, ?_, b5⟩
      · rw [b4, a2]
      · intro k hk
        rw [b2, b3]
        exact a3 k hk
    have how := ho.wo x
    obtain ⟨l3, c1, c2, c3, c4⟩ := dl_ok (bk := bk) hv how
    rw [c1, Option.bind_some]
    have hx3 : l3.2.2.2.2.2.2.2.2 = x := by rw [c3, b4, a2]
    have key := lp_cnt (B := bX2_learn_144 bk) (fun (i : Nat) (z : Int32 × Tli) => z.1 = nI i ∧ z.2.2.2.2.2.2.2.2.2 = x ∧ z.2.2.2.2.2.2.2.2.1 = nI n ∧ dsP n nt (wo x w) n 0 z.2 ∧ ∀ t, t < i → rowL z.2.2.2.2.2.1 t ((likeL n g nt (wo x w) t n).take 12) ∧ z.2.2.2.2.2.2.1 t = nI (min 12 (likeL n g nt (wo x w) t n).length) ∧ z.2.2.2.2.2.2.2.1 t = nI (likeL n g nt (wo x w) t n).length) (fun (e : Tli) => lrn n g nt w x e) n (by omega) ?_ ?_ ((0 : Int32), l3) ⟨rfl, hx3, c2.2.1, c4, fun t ht => absurd ht (Nat.not_lt_zero t)⟩
    · obtain ⟨e, k1, k2⟩ := key
      exact ⟨e, by rw [k1]; rfl, k2⟩
    · rintro i ⟨zi, zl⟩ hi ⟨h1, h2, h3, h4, h5⟩
      have h1 : zi = nI i := h1
      subst h1
      have h3 : zl.2.2.2.2.2.2.2.1 = nI n := h3
      obtain ⟨f', p1, p2, p3⟩ := rk_ok (nt := nt) (w := wo x w) h3 hn h4 how hg hi
      refine ⟨(nI (i + 1), (zl.1, zl.2.1, zl.2.2.1, zl.2.2.2.1, f', upd zl.2.2.2.2.2.1 i (nI (min 12 (likeL n g nt (wo x w) i n).length)), upd zl.2.2.2.2.2.2.1 i (nI (likeL n g nt (wo x w) i n).length), zl.2.2.2.2.2.2.2)), ?_, rfl, h2, h3, h4, ?_⟩
      · unfold bX2_learn_144 fX0_gap
        dsimp only
        rw [if_neg (show ¬ zl.2.2.2.2.2.2.2.1 ≤ nI i by rw [h3]; exact nI_ge hi (by omega)), Option.bind_some, h.2.2.2.2.1, p1, Option.bind_some, nI_1]
      · intro t ht
        by_cases ct : t = i
        · subst ct
          refine ⟨p2, ?_, ?_⟩
          · exact if_pos rfl
          · exact if_pos rfl
        · obtain ⟨q1, q2, q3⟩ := h5 t (by omega)
          have hlt : ∀ k, k < ((likeL n g nt (wo x w) t n).take 12).length → k < 12 := by
            intro k hk
            rw [List.length_take] at hk
            omega
          refine ⟨repL_ext q1 (fun k hk => p3 _ (by have := hlt k hk; omega)), ?_, ?_⟩
          · exact (if_neg ct).trans q2
          · exact (if_neg ct).trans q3
    · rintro ⟨zi, zl⟩ ⟨h1, h2, h3, h4, h5⟩
      have h1 : zi = nI n := h1
      subst h1
      have h3 : zl.2.2.2.2.2.2.2.1 = nI n := h3
      refine ⟨zl, ?_, h2, h3, h4, h5⟩
      unfold bX2_learn_144
      dsimp only
      rw [if_pos (show zl.2.2.2.2.2.2.2.1 ≤ nI n by rw [h3]; exact nI_le (Nat.le_refl n) (by omega))]
