/-! ===== digest: the sums ===== -/
/-- 31 h + v, along a row of values -/
def dgF (v : Nat → Int32) (h : Int64) : Nat → Int64
  | 0 => h
  | k + 1 => (31 : Int64) * dgF v h k + (v k).toInt64
theorem dg6_c {a : TA} {S : List TA} {cn : Tcn} {bk : Tbk} {st : Tst} {li : Tli} {fo : Tfo} {l : Nat} {tx : Ttx} (h1 : clT a bk) (h2 : st.2 = nI S.length) (h3 : tx.2.2.1 = nI l) : lpF (bX5_digest_6 bk st li fo tx) FU ((2161 : Int64), (0 : Int32), cn) = some (dgF (tdV a S l cn) 2161 8, cn) := by
  have key := lp_cnt (B := bX5_digest_6 bk st li fo tx) (fun (k : Nat) (z : Int64 × Int32 × Tcn) => z = (dgF (tdV a S l cn) 2161 k, nI k, cn)) (fun (e : Int64 × Tcn) => e = (dgF (tdV a S l cn) 2161 8, cn)) 8 (by decide) ?_ ?_ ((2161 : Int64), (0 : Int32), cn) rfl
  · obtain ⟨e, k1, k2⟩ := key
    rw [k1, k2]
  · rintro k z hk hz
    subst hz
    refine ⟨_, ?_, rfl⟩
    unfold bX5_digest_6
    dsimp only
    rw [if_neg (show ¬ (8 : Int32) ≤ nI k from nI_ge (b := 8) hk (by decide)), td_c h1 h2 h3 k (by omega), Option.bind_some, nI_1]
    rfl
  · rintro z hz
    subst hz
    refine ⟨_, ?_, rfl⟩
    unfold bX5_digest_6
    dsimp only
    rw [if_pos (by decide)]
theorem dg6_m {a : TA} {S : List TA} {cn : Tcn} {co : Tco} {ke : Tke} {rf : Nat → Int32} {cp : Int32} {lk : Tlk} {fl : Tfl} {em : Int32} {l : Nat} {tm : Ttm} (h1 : moT a co) (h2 : ke.1 = nI S.length) (h3 : tm.2 = nI l) (hc : ctP cn rf) : lpF (bX6_digest_6 co ke rf cp lk fl em tm) FU ((2161 : Int64), (0 : Int32)) = some (dgF (tdV a S l cn) 2161 8) := by
  have key := lp_cnt (B := bX6_digest_6 co ke rf cp lk fl em tm) (fun (k : Nat) (z : Int64 × Int32) => z = (dgF (tdV a S l cn) 2161 k, nI k)) (fun (e : Int64) => e = dgF (tdV a S l cn) 2161 8) 8 (by decide) ?_ ?_ ((2161 : Int64), (0 : Int32)) rfl
  · obtain ⟨e, k1, k2⟩ := key
    rw [k1, k2]
  · rintro k z hk hz
    subst hz
    refine ⟨_, ?_, rfl⟩
    unfold bX6_digest_6
    dsimp only
    rw [if_neg (show ¬ (8 : Int32) ≤ nI k from nI_ge (b := 8) hk (by decide)), td_m h1 h2 h3 hc k (by omega), Option.bind_some, nI_1]
    rfl
  · rintro z hz
    subst hz
    refine ⟨_, ?_, rfl⟩
    unfold bX6_digest_6
    dsimp only
    rw [if_pos (by decide)]
theorem dg33_c {a : TA} {cn : Tcn} {bk : Tbk} {st : Tst} {li : Tli} {fo : Tfo} {tx : Ttx} (h1 : clT a bk) (h : Int64) : lpF (bX5_digest_33 cn bk st li fo tx) FU (h, (0 : Int32)) = some (dgF (fun m => nI (a.2.2.1 m)) h 4) := by
  have key := lp_cnt (B := bX5_digest_33 cn bk st li fo tx) (fun (k : Nat) (z : Int64 × Int32) => z = (dgF (fun m => nI (a.2.2.1 m)) h k, nI k)) (fun (e : Int64) => e = dgF (fun m => nI (a.2.2.1 m)) h 4) 4 (by decide) ?_ ?_ (h, (0 : Int32)) rfl
  · obtain ⟨e, k1, k2⟩ := key
    rw [k1, k2]
  · rintro k z hk hz
    subst hz
    refine ⟨_, ?_, rfl⟩
    unfold bX5_digest_33
    dsimp only
    rw [if_neg (show ¬ (4 : Int32) ≤ nI k from nI_ge (b := 4) hk (by decide)), rule_ok h1 hk, Option.bind_some, nI_1]
    rfl
  · rintro z hz
    subst hz
    refine ⟨_, ?_, rfl⟩
    unfold bX5_digest_33
    dsimp only
    rw [if_pos (by decide)]
theorem dg33_m {a : TA} {co : Tco} {ke : Tke} {rf : Nat → Int32} {cp : Int32} {lk : Tlk} {fl : Tfl} {em : Int32} {tm : Ttm} (h1 : moT a co) (h : Int64) : lpF (bX6_digest_33 co ke rf cp lk fl em tm) FU (h, (0 : Int32)) = some (dgF (fun m => nI (a.2.2.1 m)) h 4) := by
  have key := lp_cnt (B := bX6_digest_33 co ke rf cp lk fl em tm) (fun (k : Nat) (z : Int64 × Int32) => z = (dgF (fun m => nI (a.2.2.1 m)) h k, nI k)) (fun (e : Int64) => e = dgF (fun m => nI (a.2.2.1 m)) h 4) 4 (by decide) ?_ ?_ (h, (0 : Int32)) rfl
  · obtain ⟨e, k1, k2⟩ := key
    rw [k1, k2]
  · rintro k z hk hz
    subst hz
    refine ⟨_, ?_, rfl⟩
    unfold bX6_digest_33
    dsimp only
    rw [if_neg (show ¬ (4 : Int32) ≤ nI k from nI_ge (b := 4) hk (by decide)), gd_t (inB_nI (by omega) (by decide)), cl_nI (by omega), h1.1.2.2.2 k hk, nI_1]
    rfl
  · rintro z hz
    subst hz
    refine ⟨_, ?_, rfl⟩
    unfold bX6_digest_33
    dsimp only
    rw [if_pos (by decide)]
theorem dg60_m {a : TA} {co : Tco} {ke : Tke} {rf : Nat → Int32} {cp : Int32} {lk : Tlk} {fl : Tfl} {em : Int32} {tm : Ttm} (h1 : moT a co) (h : Int64) : lpF (bX6_digest_60 co ke rf cp lk fl em tm) FU (h, (0 : Int32)) = some (dgF a.2.1 h (a.1 * 4)) := by
  have hn := h1.1.1
  have key := lp_cnt (B := bX6_digest_60 co ke rf cp lk fl em tm) (fun (k : Nat) (z : Int64 × Int32) => z = (dgF a.2.1 h k, nI k)) (fun (e : Int64) => e = dgF a.2.1 h (a.1 * 4)) (a.1 * 4) (by omega) ?_ ?_ (h, (0 : Int32)) rfl
  · obtain ⟨e, k1, k2⟩ := key
    rw [k1, k2]
  · rintro k z hk hz
    subst hz
    refine ⟨_, ?_, rfl⟩
    unfold bX6_digest_60
    dsimp only
    rw [h1.1.2.1, show (4 : Int32) * nI a.1 = nI (a.1 * 4) by rw [show (4 : Int32) = nI 4 from rfl, pk_mul, Nat.mul_comm], if_neg (nI_ge hk (by omega)), gd_t (inB_nI (by omega) (by decide)), cl_nI (by omega), h1.1.2.2.1 k hk, nI_1]
    rfl
  · rintro z hz
    subst hz
    refine ⟨_, ?_, rfl⟩
    unfold bX6_digest_60
    dsimp only
    rw [h1.1.2.1, show (4 : Int32) * nI a.1 = nI (a.1 * 4) by rw [show (4 : Int32) = nI 4 from rfl, pk_mul, Nat.mul_comm], if_pos (nI_le (Nat.le_refl _) (by omega))]
theorem dg76_c {a : TA} {cn : Tcn} {bk : Tbk} {st : Tst} {li : Tli} {fo : Tfo} {tx : Ttx} (h1 : clT a bk) {t : Nat} (ht : t < a.1) (h : Int64) : lpF (bX5_digest_76 cn bk st li fo tx (nI t)) FU (dgF a.2.1 h (t * 4), (0 : Int32)) = some (dgF a.2.1 h (t * 4 + 4)) := by
  have key := lp_cnt (B := bX5_digest_76 cn bk st li fo tx (nI t)) (fun (k : Nat) (z : Int64 × Int32) => z = (dgF a.2.1 h (t * 4 + k), nI k)) (fun (e : Int64) => e = dgF a.2.1 h (t * 4 + 4)) 4 (by decide) ?_ ?_ (dgF a.2.1 h (t * 4), (0 : Int32)) rfl
  · obtain ⟨e, k1, k2⟩ := key
    rw [k1, k2]
  · rintro k z hk hz
    subst hz
    refine ⟨_, ?_, rfl⟩
    unfold bX5_digest_76
    dsimp only
    rw [if_neg (show ¬ (4 : Int32) ≤ nI k from nI_ge (b := 4) hk (by decide)), member_ok h1 ht hk, Option.bind_some, nI_1]
    rfl
  · rintro z hz
    subst hz
    refine ⟨_, ?_, rfl⟩
    unfold bX5_digest_76
    dsimp only
    rw [if_pos (by decide)]
theorem dg62_c {a : TA} {cn : Tcn} {bk : Tbk} {st : Tst} {li : Tli} {fo : Tfo} {tx : Ttx} (h1 : clT a bk) (h : Int64) : lpF (bX5_digest_62 cn bk st li fo tx) FU (h, (0 : Int32)) = some (dgF a.2.1 h (a.1 * 4)) := by
  have hn := h1.1
  have key := lp_cnt (B := bX5_digest_62 cn bk st li fo tx) (fun (t : Nat) (z : Int64 × Int32) => z = (dgF a.2.1 h (t * 4), nI t)) (fun (e : Int64) => e = dgF a.2.1 h (a.1 * 4)) a.1 (by omega) ?_ ?_ (h, (0 : Int32)) rfl
  · obtain ⟨e, k1, k2⟩ := key
    rw [k1, k2]
  · rintro t z ht hz
    subst hz
    refine ⟨_, ?_, rfl⟩
    unfold bX5_digest_62 fX0_days
    dsimp only
    rw [Option.bind_some, h1.2.1, if_neg (nI_ge ht (by omega)), dg76_c h1 ht, Option.bind_some, nI_1, show t * 4 + 4 = (t + 1) * 4 by omega]
  · rintro z hz
    subst hz
    refine ⟨_, ?_, rfl⟩
    unfold bX5_digest_62 fX0_days
    dsimp only
    rw [Option.bind_some, h1.2.1, if_pos (nI_le (Nat.le_refl _) (by omega))]
