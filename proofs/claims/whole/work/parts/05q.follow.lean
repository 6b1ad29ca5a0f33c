/-! ===== followers on both sides ===== -/
def folL (nt : Nat → Int32) (m : Nat) (l : List (Nat × UInt32)) : List (Int32 × UInt32) := l.filterMap (fun p => if nt ((p.1 + 1) * 4 + m) = MI then none else some (nt ((p.1 + 1) * 4 + m), p.2))
def srtV (L : List (Int32 × UInt32)) : List Int32 := L.foldl (fun s p => insK Int32.toInt p.1 s) []
theorem srtV_snoc (L : List (Int32 × UInt32)) (p : Int32 × UInt32) : srtV (L ++ [p]) = insK Int32.toInt p.1 (srtV L) := by
  unfold srtV
  rw [List.foldl_append]
  rfl
theorem foldl_ins_len (L : List (Int32 × UInt32)) : ∀ s : List Int32, (L.foldl (fun s p => insK Int32.toInt p.1 s) s).length = s.length + L.length := by
  induction L with
  | nil => intro s; rfl
  | cons a r ih =>
    intro s
    rw [List.foldl_cons, ih, insK_len, List.length_cons]
    omega
theorem srtV_len (L : List (Int32 × UInt32)) : (srtV L).length = L.length := by
  unfold srtV
  rw [foldl_ins_len, List.length_nil, Nat.zero_add]
theorem foldl_ins_srt (L : List (Int32 × UInt32)) : ∀ s : List Int32, srtK Int32.toInt s → srtK Int32.toInt (L.foldl (fun s p => insK Int32.toInt p.1 s) s) := by
  induction L with
  | nil => intro s h; exact h
  | cons a r ih =>
    intro s h
    rw [List.foldl_cons]
    exact ih _ (insK_srt h)
theorem srtV_srt (L : List (Int32 × UInt32)) : srtK Int32.toInt (srtV L) := foldl_ins_srt L [] (srtK_nil _)
theorem repL_snoc {α β : Type} {f f' : Nat → β} {m : α → β} {l : List α} (x : α) (h : repL f m l) (hf : ∀ i, i < l.length → f' i = f i) (hx : f' l.length = m x) : repL f' m (l ++ [x]) := by
  intro i a ha
  by_cases c : i < l.length
  · rw [List.getElem?_append_left c] at ha
    rw [hf i c]
    exact h i a ha
  · rw [List.getElem?_append_right (by omega)] at ha
    by_cases c2 : i = l.length
    · subst c2
      rw [Nat.sub_self] at ha
      cases ha
      exact hx
    · rw [List.getElem?_eq_none (by simp; omega)] at ha
      cases ha
theorem folL_take {nt : Nat → Int32} {m : Nat} {l : List (Nat × UInt32)} {k : Nat} {a : Nat × UInt32} (h : l[k]? = some a) : folL nt m (l.take (k + 1)) = if nt ((a.1 + 1) * 4 + m) = MI then folL nt m (l.take k) else folL nt m (l.take k) ++ [(nt ((a.1 + 1) * 4 + m), a.2)] := by
  unfold folL
  rw [List.take_add_one, h, List.filterMap_append]
  by_cases c : nt ((a.1 + 1) * 4 + m) = MI
  · rw [if_pos c]
    simp [c]
  · rw [if_neg c]
    simp [c]
theorem folL_len {nt : Nat → Int32} {m : Nat} {l : List (Nat × UInt32)} : (folL nt m l).length ≤ l.length := List.length_filterMap_le _ _
theorem folL_ok {n g f : Nat} {nt : Nat → Int32} {w : Nat → Nat} (ho : okB n nt w) {t m : Nat} (ht : t < n) (hm : m < 4) : ∀ p ∈ folL nt m (nearL n g f nt w t), p.1.toInt.natAbs ≤ 999 ∧ G32 61 176 p.2 ∧ FP.Core.sgn (FP.Core.val32 p.2) = false := by
  intro p hp
  unfold folL at hp
  obtain ⟨a, ha, hb⟩ := List.mem_filterMap.mp hp
  obtain ⟨m1, m2, m3⟩ := nearL_mem ha
  by_cases c : nt ((a.1 + 1) * 4 + m) = MI
  · rw [if_pos c] at hb; cases hb
  · rw [if_neg c] at hb
    cases hb
    refine ⟨?_, dist_n ho ht (by omega) m3⟩
    rcases ho.1 ((a.1 + 1) * 4 + m) (by omega) with z | z
    · exact absurd z c
    · exact z
/-- the class's followers, and the reference's -/
def foP (L : List (Int32 × UInt32)) (fo : Tfo) : Prop := fo.2.2.2 = nI L.length ∧ repL fo.1 (fun p => p.1) L ∧ repL fo.2.1 (fun p => p.2) L ∧ repL fo.2.2.1 id (srtV L)
def flP (L : List (Int32 × UInt32)) (fl : Tfl) : Prop := fl.1 = nI L.length ∧ repL fl.2.1 (fun p => p.1) L ∧ repL fl.2.2.1 (fun p => p.2) L ∧ repL fl.2.2.2 id (srtV L)
theorem ia_loop {fo : Tfo} {S : List Int32} {v : Int32} (hs : srtK Int32.toInt S) (hL : S.length < 12) (hr : repL fo.2.2.1 id S) :
    ∃ p, p ≤ S.length ∧ insK Int32.toInt v S = S.take p ++ v :: S.drop p ∧ lpF (bX1_add_34 v) FU (nI S.length, fo) = some (nI p, (fo.1, fo.2.1, shf p S.length fo.2.2.1, fo.2.2.2)) := by
  have key := lp_brk (B := bX1_add_34 v) (fun (j : Nat) (z : Int32 × Tfo) => z = (nI (S.length - j), (fo.1, fo.2.1, shf (S.length - j) S.length fo.2.2.1, fo.2.2.2)) ∧ ∀ (i : Nat) (a : Int32), S.length - j ≤ i → S[i]? = some a → v.toInt < a.toInt)
    (fun (e : Int32 × Tfo) => ∃ p, p ≤ S.length ∧ (∀ (i : Nat) (a : Int32), i < p → S[i]? = some a → a.toInt ≤ v.toInt) ∧ (∀ (i : Nat) (a : Int32), p ≤ i → S[i]? = some a → v.toInt < a.toInt) ∧ e = (nI p, (fo.1, fo.2.1, shf p S.length fo.2.2.1, fo.2.2.2))) S.length (by omega) ?_ ?_ (nI S.length, fo) ⟨by rw [Nat.sub_zero, shf_self], fun i a hi ha => by have := (List.getElem?_eq_some_iff.mp ha).1; omega⟩
  · obtain ⟨e, h1, p, h2, h3, h4, h5⟩ := key
    exact ⟨p, h2, insK_at Int32.toInt v S p h2 h3 h4, by rw [h1, h5]⟩
  · rintro j z hj ⟨hz, hi⟩
    subst hz
    have hp : 0 < S.length - j := by omega
    obtain ⟨a, ha⟩ : ∃ a, S[S.length - j - 1]? = some a := ⟨_, List.getElem?_eq_getElem (by omega)⟩
    have hv : shf (S.length - j) S.length fo.2.2.1 (S.length - j - 1) = a := by
      rw [shf_lt (by omega)]
      exact hr _ a ha
    unfold bX1_add_34
    dsimp only
    rw [if_neg (nI_nle hp (by omega)), sub1 hp, gd_t (inB_nI (by omega) (by decide)), cl_nI (by omega)]
    by_cases c : a ≤ v
    · refine Or.inr ⟨_, if_pos (by rw [hv]; exact c), S.length - j, by omega, fun i b hib hb => ?_, hi, rfl⟩
      have h1 := hs i (S.length - j - 1) b a (by omega) hb ha
      have h2 := Int32.le_iff_toInt_le.mp c
      omega
    · refine Or.inl ⟨(nI (S.length - (j + 1)), (fo.1, fo.2.1, shf (S.length - (j + 1)) S.length fo.2.2.1, fo.2.2.2)), ?_, rfl, fun i b hib hb => ?_⟩
      · rw [if_neg (fun z => c (by rw [hv] at z; exact z)), gd_t (inB_nI (by omega) (by decide)), gd_t (inB_nI (by omega) (by decide)), add_m1 hp, cl_nI (by omega), upd_shf hp (by omega), show S.length - (j + 1) = S.length - j - 1 by omega]
      · by_cases c2 : i = S.length - j - 1
        · subst c2
          rw [ha] at hb
          cases hb
          have h2 : ¬ a.toInt ≤ v.toInt := fun z => c (Int32.le_iff_toInt_le.mpr z)
          omega
        · exact hi i b (by omega) hb
  · rintro z ⟨hz, hi⟩
    subst hz
    rw [Nat.sub_self]
    refine ⟨_, ?_, 0, by omega, fun i a h => absurd h (by omega), fun i a _ ha => hi i a (by omega) ha, rfl⟩
    unfold bX1_add_34
    dsimp only
    rw [if_pos (by decide)]
theorem add_ok {L : List (Int32 × UInt32)} {fo : Tfo} (h : foP L fo) (hL : L.length < 12) (v : Int32) (d : UInt32) : ∃ fo', fX1_add fo v d = some fo' ∧ foP (L ++ [(v, d)]) fo' := by
  obtain ⟨h1, h2, h3, h4⟩ := h
  have hlen := srtV_len L
  obtain ⟨p, p1, p2, p3⟩ := ia_loop (fo := (upd fo.1 L.length v, vf_upd fo.2.1 L.length d, fo.2.2.1, nI L.length)) (v := v) (srtV_srt L) (by omega) h4
  rw [hlen] at p3 p1
  refine ⟨(upd fo.1 L.length v, vf_upd fo.2.1 L.length d, upd (shf p L.length fo.2.2.1) p v, nI (L.length + 1)), ?_, ?_, ?_, ?_, ?_⟩
  · unfold fX1_add
    rw [h1, if_neg (show ¬ (12 : Int32) ≤ nI L.length from nI_ge (b := 12) hL (by decide)), gd_t (inB_nI hL (by decide)), gd_t (inB_nI hL (by decide)), cl_nI (by omega)]
    rw [p3, Option.bind_some]
    dsimp only
    rw [gd_t (inB_nI (by omega) (by decide)), cl_nI (by omega), nI_1]
    rfl
  · show nI (L.length + 1) = nI (L ++ [(v, d)]).length
    rw [List.length_append]; rfl
  · exact repL_snoc (v, d) h2 (fun i hi => if_neg (by omega)) (if_pos rfl)
  · exact repL_snoc (v, d) h3 (fun i hi => if_neg (by omega)) (if_pos rfl)
  · rw [srtV_snoc, p2]
    exact repL_ins v h4 (by omega) (fun i hi => by rw [hlen]; rfl)
theorem ga_ok {n g f : Nat} {nt : Nat → Int32} {w w0 : Nat → Nat} {bk : Tbk} {f0 : Nat} {li : Tli} (hb : clB n nt w0 g f0 bk) (hl : lrW n g nt w li) (hf : f ≤ 12) {t m : Nat} (ht : t < n) (hm : m < 4) (fo : Tfo) : ∃ fo', fX1_gather bk li fo (nI t) (nI m) (nI f) = some fo' ∧ foP (folL nt m (nearL n g f nt w t)) fo' := by
  have hn := hb.1
  have hlen : (nearL n g f nt w t).length ≤ 12 := by rw [nearL_len]; omega
  have key := lp_cnt (B := bX1_gather_8 bk li (nI t) (nI m) (nI f)) (fun (k : Nat) (z : Int32 × Tfo) => z.1 = nI k ∧ foP (folL nt m ((nearL n g f nt w t).take k)) z.2) (fun (e : Tfo) => foP (folL nt m (nearL n g f nt w t)) e) (nearL n g f nt w t).length (by omega) ?_ ?_ ((0 : Int32), (fo.1, fo.2.1, fo.2.2.1, (0 : Int32))) ⟨rfl, rfl, (fun i a ha => by cases ha), (fun i a ha => by cases ha), (fun i a ha => by cases ha)⟩
  · obtain ⟨e, h1, h2⟩ := key
    refine ⟨e, ?_, h2⟩
    unfold fX1_gather
    rw [h1]; rfl
  · rintro k ⟨z1, z2⟩ hk ⟨e1, e2⟩
    have e1 : z1 = nI k := e1
    subst e1
    have e2 : foP (folL nt m ((nearL n g f nt w t).take k)) z2 := e2
    obtain ⟨a, ha⟩ : ∃ a, (nearL n g f nt w t)[k]? = some a := ⟨_, List.getElem?_eq_getElem hk⟩
    obtain ⟨m1, m2, m3⟩ := nearL_mem (List.mem_of_getElem? ha)
    unfold bX1_gather_8
    dsimp only
    rw [no_ok hl hn hf ht, Option.bind_some, if_neg (nI_ge hk (by omega)), ne_ok hl hn hf ht ha, Option.bind_some, nI_1, member_ok hb m1 hm, Option.bind_some]
    by_cases c : nt ((a.1 + 1) * 4 + m) = MI
    · refine ⟨(nI (k + 1), z2), ?_, rfl, ?_⟩
      · rw [if_pos c]
        unfold jX1_gather_8_62
        rw [nI_1]
      · rw [folL_take ha, if_pos c]
        exact e2
    · have hlk : (folL nt m ((nearL n g f nt w t).take k)).length < 12 := by
        have h1 := folL_len (nt := nt) (m := m) (l := (nearL n g f nt w t).take k)
        rw [List.length_take] at h1
        omega
      obtain ⟨fo', q1, q2⟩ := add_ok e2 hlk (nt ((a.1 + 1) * 4 + m)) a.2
      refine ⟨(nI (k + 1), fo'), ?_, rfl, ?_⟩
      · rw [if_neg c, bt2_ok hl hn ht (show a.1 < n by omega) (Ne.symm m2), Option.bind_some, m3]
        show (fX1_add z2 _ a.2).bind _ = _
        rw [q1, Option.bind_some]
        unfold jX1_gather_8_62
        rw [nI_1]
      · rw [folL_take ha, if_neg c]
        exact q2
  · rintro ⟨z1, z2⟩ ⟨e1, e2⟩
    have e1 : z1 = nI (nearL n g f nt w t).length := e1
    subst e1
    refine ⟨z2, ?_, ?_⟩
    · unfold bX1_gather_8
      dsimp only
      rw [no_ok hl hn hf ht, Option.bind_some, if_pos (nI_le (Nat.le_refl _) (by omega))]
    · rw [List.take_length] at e2
      exact e2
theorem im_loop {co : Tco} {cp : Int32} {lk : Tlk} {fl : Tfl} {S : List Int32} {v : Int32} (hs : srtK Int32.toInt S) (hL : S.length < 50) (hr : repL fl.2.2.2 id S) (hv : fl.2.1 S.length = v) :
    ∃ p, p ≤ S.length ∧ insK Int32.toInt v S = S.take p ++ v :: S.drop p ∧ lpF (bX6_setFollowers_102 co cp lk (nI S.length)) FU (nI S.length, fl) = some (nI p, (fl.1, fl.2.1, fl.2.2.1, shf p S.length fl.2.2.2)) := by
  have key := lp_brk (B := bX6_setFollowers_102 co cp lk (nI S.length)) (fun (j : Nat) (z : Int32 × Tfl) => z = (nI (S.length - j), (fl.1, fl.2.1, fl.2.2.1, shf (S.length - j) S.length fl.2.2.2)) ∧ ∀ (i : Nat) (a : Int32), S.length - j ≤ i → S[i]? = some a → v.toInt < a.toInt)
    (fun (e : Int32 × Tfl) => ∃ p, p ≤ S.length ∧ (∀ (i : Nat) (a : Int32), i < p → S[i]? = some a → a.toInt ≤ v.toInt) ∧ (∀ (i : Nat) (a : Int32), p ≤ i → S[i]? = some a → v.toInt < a.toInt) ∧ e = (nI p, (fl.1, fl.2.1, fl.2.2.1, shf p S.length fl.2.2.2))) S.length (by omega) ?_ ?_ (nI S.length, fl) ⟨by rw [Nat.sub_zero, shf_self], fun i a hi ha => by have := (List.getElem?_eq_some_iff.mp ha).1; omega⟩
  · obtain ⟨e, h1, p, h2, h3, h4, h5⟩ := key
    exact ⟨p, h2, insK_at Int32.toInt v S p h2 h3 h4, by rw [h1, h5]⟩
  · rintro j z hj ⟨hz, hi⟩
    subst hz
    have hp : 0 < S.length - j := by omega
    obtain ⟨a, ha⟩ : ∃ a, S[S.length - j - 1]? = some a := ⟨_, List.getElem?_eq_getElem (by omega)⟩
    have hv2 : shf (S.length - j) S.length fl.2.2.2 (S.length - j - 1) = a := by
      rw [shf_lt (by omega)]
      exact hr _ a ha
    unfold bX6_setFollowers_102
    dsimp only
    rw [if_neg (nI_nle hp (by omega)), sub1 hp, gd_t (inB_nI (by omega) (by decide)), gd_t (inB_nI (by omega) (by decide)), cl_nI (by omega), cl_nI (by omega), hv]
    by_cases c : a ≤ v
    · refine Or.inr ⟨_, if_pos (by rw [hv2]; exact c), S.length - j, by omega, fun i b hib hb => ?_, hi, rfl⟩
      have h1 := hs i (S.length - j - 1) b a (by omega) hb ha
      have h2 := Int32.le_iff_toInt_le.mp c
      omega
    · refine Or.inl ⟨(nI (S.length - (j + 1)), (fl.1, fl.2.1, fl.2.2.1, shf (S.length - (j + 1)) S.length fl.2.2.2)), ?_, rfl, fun i b hib hb => ?_⟩
      · rw [if_neg (fun z => c (by rw [hv2] at z; exact z)), gd_t (inB_nI (by omega) (by decide)), gd_t (inB_nI (by omega) (by decide)), add_m1 hp, cl_nI (by omega), upd_shf hp (by omega), show S.length - (j + 1) = S.length - j - 1 by omega]
      · by_cases c2 : i = S.length - j - 1
        · subst c2
          rw [ha] at hb
          cases hb
          have h2 : ¬ a.toInt ≤ v.toInt := fun z => c (Int32.le_iff_toInt_le.mpr z)
          omega
        · exact hi i b (by omega) hb
  · rintro z ⟨hz, hi⟩
    subst hz
    rw [Nat.sub_self]
    refine ⟨_, ?_, 0, by omega, fun i a h => absurd h (by omega), fun i a _ ha => hi i a (by omega) ha, rfl⟩
    unfold bX6_setFollowers_102
    dsimp only
    rw [if_pos (by decide)]
theorem sf1_ok {n g f : Nat} {nt : Nat → Int32} {w : Nat → Nat} {co : Tco} (h : moA n nt w g f co) (hf : f ≤ 12) {t m : Nat} (hm : m < 4) {cp : Int32} {lk : Tlk} (hk : lkP (nearL n g f nt w t) lk) (fl : Tfl) :
    ∃ fl', lpF (bX6_setFollowers_12 co cp lk (nI m)) FU ((0 : Int32), ((0 : Int32), fl.2.1, fl.2.2.1, fl.2.2.2)) = some fl' ∧ fl'.1 = nI (folL nt m (nearL n g f nt w t)).length ∧ repL fl'.2.1 (fun p => p.1) (folL nt m (nearL n g f nt w t)) ∧ repL fl'.2.2.1 (fun p => p.2) (folL nt m (nearL n g f nt w t)) := by
  have hn := h.1.1
  have hlen : (nearL n g f nt w t).length ≤ 12 := by rw [nearL_len]; omega
  obtain ⟨s2, s3, s4⟩ := hk
  have key := lp_cnt (B := bX6_setFollowers_12 co cp lk (nI m)) (fun (k : Nat) (z : Int32 × Tfl) => z.1 = nI k ∧ z.2.1 = nI (folL nt m ((nearL n g f nt w t).take k)).length ∧ repL z.2.2.1 (fun p => p.1) (folL nt m ((nearL n g f nt w t).take k)) ∧ repL z.2.2.2.1 (fun p => p.2) (folL nt m ((nearL n g f nt w t).take k))) (fun (e : Tfl) => e.1 = nI (folL nt m (nearL n g f nt w t)).length ∧ repL e.2.1 (fun p => p.1) (folL nt m (nearL n g f nt w t)) ∧ repL e.2.2.1 (fun p => p.2) (folL nt m (nearL n g f nt w t))) (nearL n g f nt w t).length (by omega) ?_ ?_ ((0 : Int32), ((0 : Int32), fl.2.1, fl.2.2.1, fl.2.2.2)) ⟨rfl, rfl, (fun i a ha => by cases ha), (fun i a ha => by cases ha)⟩
  · exact key
  · rintro k ⟨z1, z2⟩ hk ⟨e1, e2, e3, e4⟩
    have e1 : z1 = nI k := e1
    subst e1
    have e2 : z2.1 = nI (folL nt m ((nearL n g f nt w t).take k)).length := e2
    obtain ⟨a, ha⟩ : ∃ a, (nearL n g f nt w t)[k]? = some a := ⟨_, List.getElem?_eq_getElem hk⟩
    obtain ⟨m1, m2, m3⟩ := nearL_mem (List.mem_of_getElem? ha)
    have ei : (4 : Int32) * (nI a.1 + (1 : Int32)) + nI m = nI ((a.1 + 1) * 4 + m) := by
      rw [nI_1, show (4 : Int32) = nI 4 from rfl, pk_mul, nI_add, Nat.mul_comm]
    have s3' : lk.2.1 k = nI a.1 := s3 k a ha
    have s4' : lk.2.2 k = a.2 := s4 k a ha
    have hlk : (folL nt m ((nearL n g f nt w t).take k)).length < 12 := by
      have h1 := folL_len (nt := nt) (m := m) (l := (nearL n g f nt w t).take k)
      rw [List.length_take] at h1
      omega
    unfold bX6_setFollowers_12
    dsimp only
    rw [s2, if_neg (nI_ge hk (by omega)), gd_t (inB_nI (by omega) (by decide)), cl_nI (by omega), s3', ei, gd_t (inB_nI (by omega) (by decide)), cl_nI (by omega), h.1.2.2.1 _ (by omega), noted_ok, Option.bind_some]
    by_cases c : nt ((a.1 + 1) * 4 + m) = MI
    · refine ⟨(nI (k + 1), z2), ?_, rfl, ?_⟩
      · rw [if_pos (by rw [if_pos c])]
        unfold jX6_setFollowers_12_83
        rw [nI_1]
      · rw [folL_take ha, if_pos c]
        exact ⟨e2, e3, e4⟩
    · refine ⟨(nI (k + 1), (nI ((folL nt m ((nearL n g f nt w t).take k)).length + 1), upd z2.2.1 (folL nt m ((nearL n g f nt w t).take k)).length (nt ((a.1 + 1) * 4 + m)), vf_upd z2.2.2.1 (folL nt m ((nearL n g f nt w t).take k)).length a.2, z2.2.2.2)), ?_, rfl, ?_⟩
      · rw [if_neg (by rw [if_neg c]; decide), e2, gd_t (inB_nI (by omega) (by decide)), gd_t (inB_nI (by omega) (by decide)), gd_t (inB_nI (by omega) (by decide)), cl_nI (by omega), s4']
        unfold jX6_setFollowers_12_83
        rw [nI_1, nI_1]
      · rw [folL_take ha, if_neg c]
        refine ⟨?_, ?_, ?_⟩
        · show nI _ = nI _
          rw [List.length_append]; rfl
        · exact repL_snoc _ e3 (fun i hi => if_neg (by omega)) (if_pos rfl)
        · exact repL_snoc _ e4 (fun i hi => if_neg (by omega)) (if_pos rfl)
  · rintro ⟨z1, z2⟩ ⟨e1, e2⟩
    have e1 : z1 = nI (nearL n g f nt w t).length := e1
    subst e1
    refine ⟨z2, ?_, ?_⟩
    · unfold bX6_setFollowers_12
      dsimp only
      rw [s2, if_pos (nI_le (Nat.le_refl _) (by omega))]
    · rw [List.take_length] at e2
      exact e2
theorem sf2_ok {co : Tco} {cp : Int32} {lk : Tlk} {L : List (Int32 × UInt32)} (hL : L.length ≤ 12) {fl : Tfl} (h1 : fl.1 = nI L.length) (h2 : repL fl.2.1 (fun p => p.1) L) (h3 : repL fl.2.2.1 (fun p => p.2) L) : ∃ fl', lpF (bX6_setFollowers_91 co cp lk) FU ((0 : Int32), fl) = some fl' ∧ flP L fl' := by
  have key := lp_cnt (B := bX6_setFollowers_91 co cp lk) (fun (k : Nat) (z : Int32 × Tfl) => z.1 = nI k ∧ z.2.1 = fl.1 ∧ z.2.2.1 = fl.2.1 ∧ z.2.2.2.1 = fl.2.2.1 ∧ repL z.2.2.2.2 id (srtV (L.take k))) (fun (e : Tfl) => flP L e) L.length (by omega) ?_ ?_ ((0 : Int32), fl) ⟨rfl, rfl, rfl, rfl, (fun i a ha => by cases ha)⟩
  · exact key
  · rintro k ⟨z1, z2⟩ hk ⟨e1, e2, e3, e4, e5⟩
    have e1 : z1 = nI k := e1
    subst e1
    have e2 : z2.1 = fl.1 := e2
    have e3 : z2.2.1 = fl.2.1 := e3
    have e4 : z2.2.2.1 = fl.2.2.1 := e4
    have e5 : repL z2.2.2.2 id (srtV (L.take k)) := e5
    obtain ⟨a, ha⟩ : ∃ a, L[k]? = some a := ⟨_, List.getElem?_eq_getElem hk⟩
    have hlen : (srtV (L.take k)).length = k := by rw [srtV_len, List.length_take]; omega
    have ht : L.take (k + 1) = L.take k ++ [a] := by rw [List.take_add_one, ha]; rfl
    have hv : z2.2.1 k = a.1 := by rw [e3]; exact h2 k a ha
    obtain ⟨p, p1, p2, p3⟩ := im_loop (co := co) (cp := cp) (lk := lk) (fl := z2) (v := a.1) (srtV_srt (L.take k)) (by omega) e5 (by rw [hlen]; exact hv)
    rw [hlen] at p1 p3
    refine ⟨(nI (k + 1), (z2.1, z2.2.1, z2.2.2.1, upd (shf p k z2.2.2.2) p a.1)), ?_, rfl, e2, e3, e4, ?_⟩
    · unfold bX6_setFollowers_91
      dsimp only
      rw [e2, h1, if_neg (nI_ge hk (by omega)), p3, Option.bind_some, gd_t (inB_nI (by omega) (by decide)), gd_t (inB_nI (by omega) (by decide)), cl_nI (by omega), cl_nI (by omega), hv, nI_1]
      dsimp only
      rw [e2, h1]
    · rw [ht, srtV_snoc, p2]
      exact repL_ins a.1 e5 (by omega) (fun i hi => by rw [hlen]; rfl)
  · rintro ⟨z1, z2⟩ ⟨e1, e2, e3, e4, e5⟩
    have e1 : z1 = nI L.length := e1
    subst e1
    have e2 : z2.1 = fl.1 := e2
    have e3 : z2.2.1 = fl.2.1 := e3
    have e4 : z2.2.2.1 = fl.2.2.1 := e4
    rw [List.take_length] at e5
    refine ⟨z2, ?_, by rw [e2, h1], by rw [e3]; exact h2, by rw [e4]; exact h3, e5⟩
    unfold bX6_setFollowers_91
    dsimp only
    rw [e2, h1, if_pos (nI_le (Nat.le_refl _) (by omega))]
theorem sf_ok {n g f : Nat} {nt : Nat → Int32} {w : Nat → Nat} {co : Tco} (h : moA n nt w g f co) (ho : okB n nt w) (hg : g ≤ 9) (hf : f ≤ 12) {t m : Nat} (ht : t < n) (hm : m < 4) (cp : Int32) (lk : Tlk) (fl : Tfl) : ∃ cp' lk' fl', fX6_setFollowers co cp lk fl (nI t) (nI m) = some (cp', lk', fl') ∧ flP (folL nt m (nearL n g f nt w t)) fl' := by
  obtain ⟨c1, k1, s1, s2⟩ := sn_ok h ho hg hf ht cp lk
  obtain ⟨f1, a1, a2, a3, a4⟩ := sf1_ok (cp := c1) h hf hm s2 fl
  have hlen : (folL nt m (nearL n g f nt w t)).length ≤ 12 := by
    have h1 := folL_len (nt := nt) (m := m) (l := nearL n g f nt w t)
    rw [nearL_len] at h1
    omega
  obtain ⟨f2, b1, b2⟩ := sf2_ok (co := co) (cp := c1) (lk := k1) hlen a2 a3 a4
  refine ⟨c1, k1, f2, ?_, b2⟩
  unfold fX6_setFollowers
  rw [s1, Option.bind_some, a1, Option.bind_some, b1, Option.bind_some]
