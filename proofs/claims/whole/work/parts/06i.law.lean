/-! ===== the law: its script, its cases, its loop ===== -/
def SX (X : CX) (L : Nat) (xs : Nat → Int32) : Prop :=
  match X with
  | (_, _, _, _, s, _, _, _, _, _, _, _, ad, A, _, _, _, _) => va_X (ad 48) L xs s s.heap ∧ ad 48 < s.heap.size ∧ ¬ A (ad 48)
def EX (X : CX) : Prop :=
  match X with
  | (_, _, _, _, s, _, args, below, meth, _, _, _, _, A, cells, slots, _, QM) => meth.sig.returnType = ret ∧ cells ≤ 600000 ∧ slots ≤ 7302250 ∧ (∃ b, args = #[Value.ref b] ∧ QM = lw_Z below #[Value.ref b] s) ∧ ∀ q, A q → s.heap.size ≤ q
abbrev lvL (k : Nat) : List (Option Value) := [some (.ref 48), some (.ref 0), some (.ref 36), some (.int (nI k))]
section Law
variable {X : CX} {pc : Nat} {lv : List (Option Value)} {st : List Value} {hp : aH} {L : Nat} {xs : Nat → Int32}
theorem wg_sld (C : Ok X RL cL_law wsL_law room_1) (S : SX X L xs) {i : Int32} (hi : vp_in i L) (d : decode cL_law pc = .ok (.iaload, 1)) (k : Wg X (pc + 1) lv (.int (xs i.toNatClampNeg) :: st) hp) : Wg X pc lv (.int i :: .ref 48 :: st) hp := by
  obtain ⟨p, l, e, R, s, m, args, below, meth, c, D, ca, ad, A, cells, slots, nL, QM⟩ := X
  obtain ⟨hx, hb, hml, hown, hts, hK, hN, hlk, hA, hR, hc, hs⟩ := C
  obtain ⟨s1, s2, s3⟩ := S
  intro H locs ls hl hP hD hS
  exact va_sld hx hb s1 s2 s3 hS hi d (k H locs ls hl hP hD hS)
theorem wg_slen (C : Ok X RL cL_law wsL_law room_1) (S : SX X L xs) (d : decode cL_law pc = .ok (.arraylength, 1)) (k : Wg X (pc + 1) lv (.int (nI L) :: st) hp) : Wg X pc lv (.ref 48 :: st) hp := by
  obtain ⟨p, l, e, R, s, m, args, below, meth, c, D, ca, ad, A, cells, slots, nL, QM⟩ := X
  obtain ⟨hx, hb, hml, hown, hts, hK, hN, hlk, hA, hR, hc, hs⟩ := C
  obtain ⟨s1, s2, s3⟩ := S
  intro H locs ls hl hP hD hS
  exact va_slen hx hb s1 s2 s3 hS d (k H locs ls hl hP hD hS)
theorem wg_lawret (C : Ok X RL cL_law wsL_law room_1) (E : EX X) (d : decode cL_law pc = .ok (.ireturn, 1)) : Wg X pc lv [.int 1] hp := by
  obtain ⟨p, l, e, R, s, m, args, below, meth, c, D, ca, ad, A, cells, slots, nL, QM⟩ := X
  obtain ⟨hx, hb, hml, hown, hts, hK, hN, hlk, hA, hR, hc, hs⟩ := C
  obtain ⟨hr, h1, h2, ⟨b, h3, h4⟩, h5⟩ := E
  subst hR; subst h3; subst h4
  intro H locs ls hl hP hD hS
  refine va_forget (fun q hq => h5 _ (hS.2.2 q hq)) ?_
  refine W.widen (k := 600000) (n := 7302250) h1 h2 ?_
  refine W.base ?_
  exact lw_ret (s := s) (d0 := s.drawn) (Drawn.sameBut.refl s.drawn lw_cs) hx hb hr hlk d
/-- one of the script's ints on the stack -/
theorem wg_arg (C : Ok X RL cL_law wsL_law room_1) (S : SX X L xs) (hL : L ≤ 2560) {k : Nat} (hk : k + 5 ≤ L) (j : Nat) (hj : j < 5) (hv : Int32.ofInt (j : Int) = nI j) (d0 : decode cL_law pc = .ok (.aload_n 0, 1)) (d1 : decode cL_law (pc + 1) = .ok (.iload_n 3, 1)) (d2 : decode cL_law (pc + 2) = .ok (.iconst (j : Int), 1)) (d3 : decode cL_law (pc + 3) = .ok (.iadd, 1)) (d4 : decode cL_law (pc + 4) = .ok (.iaload, 1)) (z : Wg X (pc + 5) (lvL k) (.int (xs (k + j)) :: st) hp) : Wg X pc (lvL k) st hp := by
  refine wg_aload_n C d0 rfl ?_
  refine wg_iload_n C d1 rfl ?_
  refine wg_iconst (v := nI j) C d2 hv ?_
  refine wg_iadd C d3 ?_
  rw [nI_add]
  refine wg_sld C S (vp_in_nI (by omega) (by omega)) d4 ?_
  rw [nI_clamp (by omega)]
  exact z
theorem lg_self (r : Int64) : lg_cmp r r = 0 := by
  exact (lg_cmp_eq r r).mpr rfl
theorem law_day (C : Ok X RL cL_law wsL_law room_1) (S : SX X L xs) (hL : L ≤ 2560) {k : Nat} (hk : k + 5 ≤ L) (h : GI hp) (go : ∀ hp', GI hp' → Wg X 865 (lvL k) [] hp') : Wg X 148 (lvL k) [] hp := by
  obtain ⟨r, hp1, hp2, s1, s2, ⟨-, fs6, g6⟩, hI⟩ := t_day h (xs (k + 1)) (xs (k + 2)) (xs (k + 3)) (xs (k + 4))
  obtain ⟨⟨fs5, g5⟩, -⟩ := h.s
  refine wg_aload_n C dL_law_148 rfl ?_
  refine wg_arg C S hL hk 1 (by decide) (by decide) dL_law_149 dL_law_150 dL_law_151 dL_law_152 dL_law_153 ?_
  refine wg_arg C S hL hk 2 (by decide) (by decide) dL_law_154 dL_law_155 dL_law_156 dL_law_157 dL_law_158 ?_
  refine wg_arg C S hL hk 3 (by decide) (by decide) dL_law_159 dL_law_160 dL_law_161 dL_law_162 dL_law_163 ?_
  refine wg_arg C S hL hk 4 (by decide) (by decide) dL_law_164 dL_law_165 dL_law_166 dL_law_167 dL_law_168 ?_
  refine wg_callV (n := 4) (As := [.int (xs (k + 1)), .int (xs (k + 2)), .int (xs (k + 3)), .int (xs (k + 4))]) (st := []) (st' := [.int r]) C s1 gL_law_X5_day rfl (by decide +kernel) ⟨⟨rfl, rfl⟩, Nat.le_of_ble_eq_true rfl, Nat.le_of_ble_eq_true rfl⟩ g5 rfl rfl rfl (Nat.le_of_ble_eq_true rfl) dL_law_169 rfl ?_
  refine wg_aload_n C dL_law_172 rfl ?_
  refine wg_arg C S hL hk 1 (by decide) (by decide) dL_law_173 dL_law_174 dL_law_175 dL_law_176 dL_law_177 ?_
  refine wg_arg C S hL hk 2 (by decide) (by decide) dL_law_178 dL_law_179 dL_law_180 dL_law_181 dL_law_182 ?_
  refine wg_arg C S hL hk 3 (by decide) (by decide) dL_law_183 dL_law_184 dL_law_185 dL_law_186 dL_law_187 ?_
  refine wg_arg C S hL hk 4 (by decide) (by decide) dL_law_188 dL_law_189 dL_law_190 dL_law_191 dL_law_192 ?_
  refine wg_callV (n := 4) (As := [.int (xs (k + 1)), .int (xs (k + 2)), .int (xs (k + 3)), .int (xs (k + 4))]) (st := [.int r]) (st' := [.int r, .int r]) C s2 gL_law_X6_day rfl (by decide +kernel) ⟨⟨rfl, rfl⟩, Nat.le_of_ble_eq_true rfl, Nat.le_of_ble_eq_true rfl⟩ g6 rfl rfl rfl (Nat.le_of_ble_eq_true rfl) dL_law_193 rfl ?_
  exact wg_icmp_eq (tgt := 865) C dL_law_196 (by decide) (fun _ => go hp2 hI) (fun z => absurd rfl z)
theorem law_sets (C : Ok X RL cL_law wsL_law room_1) (S : SX X L xs) (hL : L ≤ 2560) {k : Nat} (hk : k + 5 ≤ L) (h : GI hp) (go : ∀ hp', GI hp' → Wg X 865 (lvL k) [] hp') : Wg X 201 (lvL k) [] hp := by
  obtain ⟨r, hp1, hp2, s1, s2, ⟨-, fs6, g6⟩, hI⟩ := t_sets h (xs (k + 1)) (xs (k + 2)) (xs (k + 3))
  obtain ⟨⟨fs5, g5⟩, -⟩ := h.s
  refine wg_aload_n C dL_law_201 rfl ?_
  refine wg_arg C S hL hk 1 (by decide) (by decide) dL_law_202 dL_law_203 dL_law_204 dL_law_205 dL_law_206 ?_
  refine wg_arg C S hL hk 2 (by decide) (by decide) dL_law_207 dL_law_208 dL_law_209 dL_law_210 dL_law_211 ?_
  refine wg_arg C S hL hk 3 (by decide) (by decide) dL_law_212 dL_law_213 dL_law_214 dL_law_215 dL_law_216 ?_
  refine wg_callV (n := 3) (As := [.int (xs (k + 1)), .int (xs (k + 2)), .int (xs (k + 3))]) (st := []) (st' := [.int r]) C s1 gL_law_X5_sets rfl (by decide +kernel) ⟨⟨rfl, rfl⟩, Nat.le_of_ble_eq_true rfl, Nat.le_of_ble_eq_true rfl⟩ g5 rfl rfl rfl (Nat.le_of_ble_eq_true rfl) dL_law_217 rfl ?_
  refine wg_aload_n C dL_law_220 rfl ?_
  refine wg_arg C S hL hk 1 (by decide) (by decide) dL_law_221 dL_law_222 dL_law_223 dL_law_224 dL_law_225 ?_
  refine wg_arg C S hL hk 2 (by decide) (by decide) dL_law_226 dL_law_227 dL_law_228 dL_law_229 dL_law_230 ?_
  refine wg_arg C S hL hk 3 (by decide) (by decide) dL_law_231 dL_law_232 dL_law_233 dL_law_234 dL_law_235 ?_
  refine wg_callV (n := 3) (As := [.int (xs (k + 1)), .int (xs (k + 2)), .int (xs (k + 3))]) (st := [.int r]) (st' := [.int r, .int r]) C s2 gL_law_X6_sets rfl (by decide +kernel) ⟨⟨rfl, rfl⟩, Nat.le_of_ble_eq_true rfl, Nat.le_of_ble_eq_true rfl⟩ g6 rfl rfl rfl (Nat.le_of_ble_eq_true rfl) dL_law_236 rfl ?_
  exact wg_icmp_eq (tgt := 865) C dL_law_239 (by decide) (fun _ => go hp2 hI) (fun z => absurd rfl z)
theorem law_draw (C : Ok X RL cL_law wsL_law room_1) (S : SX X L xs) (hL : L ≤ 2560) {k : Nat} (hk : k + 5 ≤ L) (h : GI hp) (go : ∀ hp', GI hp' → Wg X 865 (lvL k) [] hp') : Wg X 244 (lvL k) [] hp := by
  obtain ⟨r, hp1, hp2, s1, s2, ⟨-, fs6, g6⟩, hI⟩ := t_draw h (xs (k + 1)) (xs (k + 2))
  obtain ⟨⟨fs5, g5⟩, -⟩ := h.s
  refine wg_aload_n C dL_law_244 rfl ?_
  refine wg_arg C S hL hk 1 (by decide) (by decide) dL_law_245 dL_law_246 dL_law_247 dL_law_248 dL_law_249 ?_
  refine wg_arg C S hL hk 2 (by decide) (by decide) dL_law_250 dL_law_251 dL_law_252 dL_law_253 dL_law_254 ?_
  refine wg_callV (n := 2) (As := [.int (xs (k + 1)), .int (xs (k + 2))]) (st := []) (st' := [.int r]) C s1 gL_law_X5_draw rfl (by decide +kernel) ⟨⟨rfl, rfl⟩, Nat.le_of_ble_eq_true rfl, Nat.le_of_ble_eq_true rfl⟩ g5 rfl rfl rfl (Nat.le_of_ble_eq_true rfl) dL_law_255 rfl ?_
  refine wg_aload_n C dL_law_258 rfl ?_
  refine wg_arg C S hL hk 1 (by decide) (by decide) dL_law_259 dL_law_260 dL_law_261 dL_law_262 dL_law_263 ?_
  refine wg_arg C S hL hk 2 (by decide) (by decide) dL_law_264 dL_law_265 dL_law_266 dL_law_267 dL_law_268 ?_
  refine wg_callV (n := 2) (As := [.int (xs (k + 1)), .int (xs (k + 2))]) (st := [.int r]) (st' := [.int r, .int r]) C s2 gL_law_X6_draw rfl (by decide +kernel) ⟨⟨rfl, rfl⟩, Nat.le_of_ble_eq_true rfl, Nat.le_of_ble_eq_true rfl⟩ g6 rfl rfl rfl (Nat.le_of_ble_eq_true rfl) dL_law_269 rfl ?_
  exact wg_icmp_eq (tgt := 865) C dL_law_272 (by decide) (fun _ => go hp2 hI) (fun z => absurd rfl z)
theorem law_empties (C : Ok X RL cL_law wsL_law room_1) (S : SX X L xs) (hL : L ≤ 2560) {k : Nat} (hk : k + 5 ≤ L) (h : GI hp) (go : ∀ hp', GI hp' → Wg X 865 (lvL k) [] hp') : Wg X 277 (lvL k) [] hp := by
  obtain ⟨r, hp1, hp2, s1, s2, ⟨-, fs6, g6⟩, hI⟩ := t_empties h
  obtain ⟨⟨fs5, g5⟩, -⟩ := h.s
  refine wg_aload_n C dL_law_277 rfl ?_
  refine wg_callV (n := 0) (As := []) (st := []) (st' := [.int r]) C s1 gL_law_X5_empties rfl (by decide +kernel) ⟨⟨rfl, rfl⟩, Nat.le_of_ble_eq_true rfl, Nat.le_of_ble_eq_true rfl⟩ g5 rfl rfl rfl (Nat.le_of_ble_eq_true rfl) dL_law_278 rfl ?_
  refine wg_aload_n C dL_law_281 rfl ?_
  refine wg_callV (n := 0) (As := []) (st := [.int r]) (st' := [.int r, .int r]) C s2 gL_law_X6_empties rfl (by decide +kernel) ⟨⟨rfl, rfl⟩, Nat.le_of_ble_eq_true rfl, Nat.le_of_ble_eq_true rfl⟩ g6 rfl rfl rfl (Nat.le_of_ble_eq_true rfl) dL_law_282 rfl ?_
  exact wg_icmp_eq (tgt := 865) C dL_law_285 (by decide) (fun _ => go hp2 hI) (fun z => absurd rfl z)
theorem law_rules (C : Ok X RL cL_law wsL_law room_1) (S : SX X L xs) (hL : L ≤ 2560) {k : Nat} (hk : k + 5 ≤ L) (h : GI hp) (go : ∀ hp', GI hp' → Wg X 865 (lvL k) [] hp') : Wg X 290 (lvL k) [] hp := by
  obtain ⟨r, hp1, hp2, s1, s2, ⟨-, fs6, g6⟩, hI⟩ := t_rules h (xs (k + 1)) (xs (k + 2))
  obtain ⟨⟨fs5, g5⟩, -⟩ := h.s
  refine wg_aload_n C dL_law_290 rfl ?_
  refine wg_arg C S hL hk 1 (by decide) (by decide) dL_law_291 dL_law_292 dL_law_293 dL_law_294 dL_law_295 ?_
  refine wg_arg C S hL hk 2 (by decide) (by decide) dL_law_296 dL_law_297 dL_law_298 dL_law_299 dL_law_300 ?_
  refine wg_callV (n := 2) (As := [.int (xs (k + 1)), .int (xs (k + 2))]) (st := []) (st' := [.int r]) C s1 gL_law_X5_rules rfl (by decide +kernel) ⟨⟨rfl, rfl⟩, Nat.le_of_ble_eq_true rfl, Nat.le_of_ble_eq_true rfl⟩ g5 rfl rfl rfl (Nat.le_of_ble_eq_true rfl) dL_law_301 rfl ?_
  refine wg_aload_n C dL_law_304 rfl ?_
  refine wg_arg C S hL hk 1 (by decide) (by decide) dL_law_305 dL_law_306 dL_law_307 dL_law_308 dL_law_309 ?_
  refine wg_arg C S hL hk 2 (by decide) (by decide) dL_law_310 dL_law_311 dL_law_312 dL_law_313 dL_law_314 ?_
  refine wg_callV (n := 2) (As := [.int (xs (k + 1)), .int (xs (k + 2))]) (st := [.int r]) (st' := [.int r, .int r]) C s2 gL_law_X6_rules rfl (by decide +kernel) ⟨⟨rfl, rfl⟩, Nat.le_of_ble_eq_true rfl, Nat.le_of_ble_eq_true rfl⟩ g6 rfl rfl rfl (Nat.le_of_ble_eq_true rfl) dL_law_315 rfl ?_
  exact wg_icmp_eq (tgt := 865) C dL_law_318 (by decide) (fun _ => go hp2 hI) (fun z => absurd rfl z)
theorem law_at (C : Ok X RL cL_law wsL_law room_1) (S : SX X L xs) (hL : L ≤ 2560) {k : Nat} (hk : k + 5 ≤ L) (h : GI hp) (go : ∀ hp', GI hp' → Wg X 865 (lvL k) [] hp') : Wg X 323 (lvL k) [] hp := by
  obtain ⟨r, hp1, hp2, s1, s2, ⟨-, fs6, g6⟩, hI⟩ := t_at h (xs (k + 1)) (xs (k + 2))
  obtain ⟨⟨fs5, g5⟩, -⟩ := h.s
  refine wg_aload_n C dL_law_323 rfl ?_
  refine wg_arg C S hL hk 1 (by decide) (by decide) dL_law_324 dL_law_325 dL_law_326 dL_law_327 dL_law_328 ?_
  refine wg_arg C S hL hk 2 (by decide) (by decide) dL_law_329 dL_law_330 dL_law_331 dL_law_332 dL_law_333 ?_
  refine wg_callV (n := 2) (As := [.int (xs (k + 1)), .int (xs (k + 2))]) (st := []) (st' := [.int r]) C s1 gL_law_X5_at rfl (by decide +kernel) ⟨⟨rfl, rfl⟩, Nat.le_of_ble_eq_true rfl, Nat.le_of_ble_eq_true rfl⟩ g5 rfl rfl rfl (Nat.le_of_ble_eq_true rfl) dL_law_334 rfl ?_
  refine wg_aload_n C dL_law_337 rfl ?_
  refine wg_arg C S hL hk 1 (by decide) (by decide) dL_law_338 dL_law_339 dL_law_340 dL_law_341 dL_law_342 ?_
  refine wg_arg C S hL hk 2 (by decide) (by decide) dL_law_343 dL_law_344 dL_law_345 dL_law_346 dL_law_347 ?_
  refine wg_callV (n := 2) (As := [.int (xs (k + 1)), .int (xs (k + 2))]) (st := [.int r]) (st' := [.int r, .int r]) C s2 gL_law_X6_at rfl (by decide +kernel) ⟨⟨rfl, rfl⟩, Nat.le_of_ble_eq_true rfl, Nat.le_of_ble_eq_true rfl⟩ g6 rfl rfl rfl (Nat.le_of_ble_eq_true rfl) dL_law_348 rfl ?_
  exact wg_icmp_eq (tgt := 865) C dL_law_351 (by decide) (fun _ => go hp2 hI) (fun z => absurd rfl z)
theorem law_distance (C : Ok X RL cL_law wsL_law room_1) (S : SX X L xs) (hL : L ≤ 2560) {k : Nat} (hk : k + 5 ≤ L) (h : GI hp) (go : ∀ hp', GI hp' → Wg X 865 (lvL k) [] hp') : Wg X 356 (lvL k) [] hp := by
  obtain ⟨r, hp1, hp2, s1, s2, ⟨-, fs6, g6⟩, hI⟩ := t_distance h (xs (k + 1)) (xs (k + 2))
  obtain ⟨⟨fs5, g5⟩, -⟩ := h.s
  refine wg_aload_n C dL_law_356 rfl ?_
  refine wg_arg C S hL hk 1 (by decide) (by decide) dL_law_357 dL_law_358 dL_law_359 dL_law_360 dL_law_361 ?_
  refine wg_arg C S hL hk 2 (by decide) (by decide) dL_law_362 dL_law_363 dL_law_364 dL_law_365 dL_law_366 ?_
  refine wg_callV (n := 2) (As := [.int (xs (k + 1)), .int (xs (k + 2))]) (st := []) (st' := [.int r]) C s1 gL_law_X5_distance rfl (by decide +kernel) ⟨⟨rfl, rfl⟩, Nat.le_of_ble_eq_true rfl, Nat.le_of_ble_eq_true rfl⟩ g5 rfl rfl rfl (Nat.le_of_ble_eq_true rfl) dL_law_367 rfl ?_
  refine wg_aload_n C dL_law_370 rfl ?_
  refine wg_arg C S hL hk 1 (by decide) (by decide) dL_law_371 dL_law_372 dL_law_373 dL_law_374 dL_law_375 ?_
  refine wg_arg C S hL hk 2 (by decide) (by decide) dL_law_376 dL_law_377 dL_law_378 dL_law_379 dL_law_380 ?_
  refine wg_callV (n := 2) (As := [.int (xs (k + 1)), .int (xs (k + 2))]) (st := [.int r]) (st' := [.int r, .int r]) C s2 gL_law_X6_distance rfl (by decide +kernel) ⟨⟨rfl, rfl⟩, Nat.le_of_ble_eq_true rfl, Nat.le_of_ble_eq_true rfl⟩ g6 rfl rfl rfl (Nat.le_of_ble_eq_true rfl) dL_law_381 rfl ?_
  exact wg_icmp_eq (tgt := 865) C dL_law_384 (by decide) (fun _ => go hp2 hI) (fun z => absurd rfl z)
theorem law_nearest (C : Ok X RL cL_law wsL_law room_1) (S : SX X L xs) (hL : L ≤ 2560) {k : Nat} (hk : k + 5 ≤ L) (h : GI hp) (go : ∀ hp', GI hp' → Wg X 865 (lvL k) [] hp') : Wg X 389 (lvL k) [] hp := by
  obtain ⟨r, hp1, hp2, s1, s2, ⟨-, fs6, g6⟩, hI⟩ := t_nearest h (xs (k + 1)) (xs (k + 2)) (xs (k + 3))
  obtain ⟨⟨fs5, g5⟩, -⟩ := h.s
  refine wg_aload_n C dL_law_389 rfl ?_
  refine wg_arg C S hL hk 1 (by decide) (by decide) dL_law_390 dL_law_391 dL_law_392 dL_law_393 dL_law_394 ?_
  refine wg_arg C S hL hk 2 (by decide) (by decide) dL_law_395 dL_law_396 dL_law_397 dL_law_398 dL_law_399 ?_
  refine wg_arg C S hL hk 3 (by decide) (by decide) dL_law_400 dL_law_401 dL_law_402 dL_law_403 dL_law_404 ?_
  refine wg_callV (n := 3) (As := [.int (xs (k + 1)), .int (xs (k + 2)), .int (xs (k + 3))]) (st := []) (st' := [.int r]) C s1 gL_law_X5_nearest rfl (by decide +kernel) ⟨⟨rfl, rfl⟩, Nat.le_of_ble_eq_true rfl, Nat.le_of_ble_eq_true rfl⟩ g5 rfl rfl rfl (Nat.le_of_ble_eq_true rfl) dL_law_405 rfl ?_
  refine wg_aload_n C dL_law_408 rfl ?_
  refine wg_arg C S hL hk 1 (by decide) (by decide) dL_law_409 dL_law_410 dL_law_411 dL_law_412 dL_law_413 ?_
  refine wg_arg C S hL hk 2 (by decide) (by decide) dL_law_414 dL_law_415 dL_law_416 dL_law_417 dL_law_418 ?_
  refine wg_arg C S hL hk 3 (by decide) (by decide) dL_law_419 dL_law_420 dL_law_421 dL_law_422 dL_law_423 ?_
  refine wg_callV (n := 3) (As := [.int (xs (k + 1)), .int (xs (k + 2)), .int (xs (k + 3))]) (st := [.int r]) (st' := [.int r, .int r]) C s2 gL_law_X6_nearest rfl (by decide +kernel) ⟨⟨rfl, rfl⟩, Nat.le_of_ble_eq_true rfl, Nat.le_of_ble_eq_true rfl⟩ g6 rfl rfl rfl (Nat.le_of_ble_eq_true rfl) dL_law_424 rfl ?_
  exact wg_icmp_eq (tgt := 865) C dL_law_427 (by decide) (fun _ => go hp2 hI) (fun z => absurd rfl z)
theorem law_likes (C : Ok X RL cL_law wsL_law room_1) (S : SX X L xs) (hL : L ≤ 2560) {k : Nat} (hk : k + 5 ≤ L) (h : GI hp) (go : ∀ hp', GI hp' → Wg X 865 (lvL k) [] hp') : Wg X 432 (lvL k) [] hp := by
  obtain ⟨r, hp1, hp2, s1, s2, ⟨-, fs6, g6⟩, hI⟩ := t_likes h (xs (k + 1))
  obtain ⟨⟨fs5, g5⟩, -⟩ := h.s
  refine wg_aload_n C dL_law_432 rfl ?_
  refine wg_arg C S hL hk 1 (by decide) (by decide) dL_law_433 dL_law_434 dL_law_435 dL_law_436 dL_law_437 ?_
  refine wg_callV (n := 1) (As := [.int (xs (k + 1))]) (st := []) (st' := [.int r]) C s1 gL_law_X5_likes rfl (by decide +kernel) ⟨⟨rfl, rfl⟩, Nat.le_of_ble_eq_true rfl, Nat.le_of_ble_eq_true rfl⟩ g5 rfl rfl rfl (Nat.le_of_ble_eq_true rfl) dL_law_438 rfl ?_
  refine wg_aload_n C dL_law_441 rfl ?_
  refine wg_arg C S hL hk 1 (by decide) (by decide) dL_law_442 dL_law_443 dL_law_444 dL_law_445 dL_law_446 ?_
  refine wg_callV (n := 1) (As := [.int (xs (k + 1))]) (st := [.int r]) (st' := [.int r, .int r]) C s2 gL_law_X6_likes rfl (by decide +kernel) ⟨⟨rfl, rfl⟩, Nat.le_of_ble_eq_true rfl, Nat.le_of_ble_eq_true rfl⟩ g6 rfl rfl rfl (Nat.le_of_ble_eq_true rfl) dL_law_447 rfl ?_
  exact wg_icmp_eq (tgt := 865) C dL_law_450 (by decide) (fun _ => go hp2 hI) (fun z => absurd rfl z)
theorem law_serves (C : Ok X RL cL_law wsL_law room_1) (S : SX X L xs) (hL : L ≤ 2560) {k : Nat} (hk : k + 5 ≤ L) (h : GI hp) (go : ∀ hp', GI hp' → Wg X 865 (lvL k) [] hp') : Wg X 455 (lvL k) [] hp := by
  obtain ⟨r, hp1, hp2, s1, s2, ⟨-, fs6, g6⟩, hI⟩ := t_serves h (xs (k + 1))
  obtain ⟨⟨fs5, g5⟩, -⟩ := h.s
  refine wg_aload_n C dL_law_455 rfl ?_
  refine wg_arg C S hL hk 1 (by decide) (by decide) dL_law_456 dL_law_457 dL_law_458 dL_law_459 dL_law_460 ?_
  refine wg_callV (n := 1) (As := [.int (xs (k + 1))]) (st := []) (st' := [.int r]) C s1 gL_law_X5_serves rfl (by decide +kernel) ⟨⟨rfl, rfl⟩, Nat.le_of_ble_eq_true rfl, Nat.le_of_ble_eq_true rfl⟩ g5 rfl rfl rfl (Nat.le_of_ble_eq_true rfl) dL_law_461 rfl ?_
  refine wg_aload_n C dL_law_464 rfl ?_
  refine wg_arg C S hL hk 1 (by decide) (by decide) dL_law_465 dL_law_466 dL_law_467 dL_law_468 dL_law_469 ?_
  refine wg_callV (n := 1) (As := [.int (xs (k + 1))]) (st := [.int r]) (st' := [.int r, .int r]) C s2 gL_law_X6_serves rfl (by decide +kernel) ⟨⟨rfl, rfl⟩, Nat.le_of_ble_eq_true rfl, Nat.le_of_ble_eq_true rfl⟩ g6 rfl rfl rfl (Nat.le_of_ble_eq_true rfl) dL_law_470 rfl ?_
  exact wg_icmp_eq (tgt := 865) C dL_law_473 (by decide) (fun _ => go hp2 hI) (fun z => absurd rfl z)
theorem law_twins (C : Ok X RL cL_law wsL_law room_1) (S : SX X L xs) (hL : L ≤ 2560) {k : Nat} (hk : k + 5 ≤ L) (h : GI hp) (go : ∀ hp', GI hp' → Wg X 865 (lvL k) [] hp') : Wg X 478 (lvL k) [] hp := by
  obtain ⟨r, hp1, hp2, s1, s2, ⟨-, fs6, g6⟩, hI⟩ := t_twins h (xs (k + 1))
  obtain ⟨⟨fs5, g5⟩, -⟩ := h.s
  refine wg_aload_n C dL_law_478 rfl ?_
  refine wg_arg C S hL hk 1 (by decide) (by decide) dL_law_479 dL_law_480 dL_law_481 dL_law_482 dL_law_483 ?_
  refine wg_callV (n := 1) (As := [.int (xs (k + 1))]) (st := []) (st' := [.int r]) C s1 gL_law_X5_twins rfl (by decide +kernel) ⟨⟨rfl, rfl⟩, Nat.le_of_ble_eq_true rfl, Nat.le_of_ble_eq_true rfl⟩ g5 rfl rfl rfl (Nat.le_of_ble_eq_true rfl) dL_law_484 rfl ?_
  refine wg_aload_n C dL_law_487 rfl ?_
  refine wg_arg C S hL hk 1 (by decide) (by decide) dL_law_488 dL_law_489 dL_law_490 dL_law_491 dL_law_492 ?_
  refine wg_callV (n := 1) (As := [.int (xs (k + 1))]) (st := [.int r]) (st' := [.int r, .int r]) C s2 gL_law_X6_twins rfl (by decide +kernel) ⟨⟨rfl, rfl⟩, Nat.le_of_ble_eq_true rfl, Nat.le_of_ble_eq_true rfl⟩ g6 rfl rfl rfl (Nat.le_of_ble_eq_true rfl) dL_law_493 rfl ?_
  exact wg_icmp_eq (tgt := 865) C dL_law_496 (by decide) (fun _ => go hp2 hI) (fun z => absurd rfl z)
theorem law_strangers (C : Ok X RL cL_law wsL_law room_1) (S : SX X L xs) (hL : L ≤ 2560) {k : Nat} (hk : k + 5 ≤ L) (h : GI hp) (go : ∀ hp', GI hp' → Wg X 865 (lvL k) [] hp') : Wg X 501 (lvL k) [] hp := by
  obtain ⟨r, hp1, hp2, s1, s2, ⟨-, fs6, g6⟩, hI⟩ := t_strangers h (xs (k + 1))
  obtain ⟨⟨fs5, g5⟩, -⟩ := h.s
  refine wg_aload_n C dL_law_501 rfl ?_
  refine wg_arg C S hL hk 1 (by decide) (by decide) dL_law_502 dL_law_503 dL_law_504 dL_law_505 dL_law_506 ?_
  refine wg_callV (n := 1) (As := [.int (xs (k + 1))]) (st := []) (st' := [.int r]) C s1 gL_law_X5_strangers rfl (by decide +kernel) ⟨⟨rfl, rfl⟩, Nat.le_of_ble_eq_true rfl, Nat.le_of_ble_eq_true rfl⟩ g5 rfl rfl rfl (Nat.le_of_ble_eq_true rfl) dL_law_507 rfl ?_
  refine wg_aload_n C dL_law_510 rfl ?_
  refine wg_arg C S hL hk 1 (by decide) (by decide) dL_law_511 dL_law_512 dL_law_513 dL_law_514 dL_law_515 ?_
  refine wg_callV (n := 1) (As := [.int (xs (k + 1))]) (st := [.int r]) (st' := [.int r, .int r]) C s2 gL_law_X6_strangers rfl (by decide +kernel) ⟨⟨rfl, rfl⟩, Nat.le_of_ble_eq_true rfl, Nat.le_of_ble_eq_true rfl⟩ g6 rfl rfl rfl (Nat.le_of_ble_eq_true rfl) dL_law_516 rfl ?_
  exact wg_icmp_eq (tgt := 865) C dL_law_519 (by decide) (fun _ => go hp2 hI) (fun z => absurd rfl z)
theorem law_follows (C : Ok X RL cL_law wsL_law room_1) (S : SX X L xs) (hL : L ≤ 2560) {k : Nat} (hk : k + 5 ≤ L) (h : GI hp) (go : ∀ hp', GI hp' → Wg X 865 (lvL k) [] hp') : Wg X 524 (lvL k) [] hp := by
  obtain ⟨r, hp1, hp2, s1, s2, ⟨-, fs6, g6⟩, hI⟩ := t_follows h (xs (k + 1)) (xs (k + 2)) (xs (k + 3)) (xs (k + 4))
  obtain ⟨⟨fs5, g5⟩, -⟩ := h.s
  refine wg_aload_n C dL_law_524 rfl ?_
  refine wg_arg C S hL hk 1 (by decide) (by decide) dL_law_525 dL_law_526 dL_law_527 dL_law_528 dL_law_529 ?_
  refine wg_arg C S hL hk 2 (by decide) (by decide) dL_law_530 dL_law_531 dL_law_532 dL_law_533 dL_law_534 ?_
  refine wg_arg C S hL hk 3 (by decide) (by decide) dL_law_535 dL_law_536 dL_law_537 dL_law_538 dL_law_539 ?_
  refine wg_arg C S hL hk 4 (by decide) (by decide) dL_law_540 dL_law_541 dL_law_542 dL_law_543 dL_law_544 ?_
  refine wg_callV (n := 4) (As := [.int (xs (k + 1)), .int (xs (k + 2)), .int (xs (k + 3)), .int (xs (k + 4))]) (st := []) (st' := [.int r]) C s1 gL_law_X5_follows rfl (by decide +kernel) ⟨⟨rfl, rfl⟩, Nat.le_of_ble_eq_true rfl, Nat.le_of_ble_eq_true rfl⟩ g5 rfl rfl rfl (Nat.le_of_ble_eq_true rfl) dL_law_545 rfl ?_
  refine wg_aload_n C dL_law_548 rfl ?_
  refine wg_arg C S hL hk 1 (by decide) (by decide) dL_law_549 dL_law_550 dL_law_551 dL_law_552 dL_law_553 ?_
  refine wg_arg C S hL hk 2 (by decide) (by decide) dL_law_554 dL_law_555 dL_law_556 dL_law_557 dL_law_558 ?_
  refine wg_arg C S hL hk 3 (by decide) (by decide) dL_law_559 dL_law_560 dL_law_561 dL_law_562 dL_law_563 ?_
  refine wg_arg C S hL hk 4 (by decide) (by decide) dL_law_564 dL_law_565 dL_law_566 dL_law_567 dL_law_568 ?_
  refine wg_callV (n := 4) (As := [.int (xs (k + 1)), .int (xs (k + 2)), .int (xs (k + 3)), .int (xs (k + 4))]) (st := [.int r]) (st' := [.int r, .int r]) C s2 gL_law_X6_follows rfl (by decide +kernel) ⟨⟨rfl, rfl⟩, Nat.le_of_ble_eq_true rfl, Nat.le_of_ble_eq_true rfl⟩ g6 rfl rfl rfl (Nat.le_of_ble_eq_true rfl) dL_law_569 rfl ?_
  exact wg_icmp_eq (tgt := 865) C dL_law_572 (by decide) (fun _ => go hp2 hI) (fun z => absurd rfl z)
theorem law_mean (C : Ok X RL cL_law wsL_law room_1) (S : SX X L xs) (hL : L ≤ 2560) {k : Nat} (hk : k + 5 ≤ L) (h : GI hp) (go : ∀ hp', GI hp' → Wg X 865 (lvL k) [] hp') : Wg X 577 (lvL k) [] hp := by
  obtain ⟨r, hp1, hp2, s1, s2, ⟨-, fs6, g6⟩, hI⟩ := t_mean h (xs (k + 1)) (xs (k + 2))
  obtain ⟨⟨fs5, g5⟩, -⟩ := h.s
  refine wg_aload_n C dL_law_577 rfl ?_
  refine wg_arg C S hL hk 1 (by decide) (by decide) dL_law_578 dL_law_579 dL_law_580 dL_law_581 dL_law_582 ?_
  refine wg_arg C S hL hk 2 (by decide) (by decide) dL_law_583 dL_law_584 dL_law_585 dL_law_586 dL_law_587 ?_
  refine wg_callV (n := 2) (As := [.int (xs (k + 1)), .int (xs (k + 2))]) (st := []) (st' := [.int r]) C s1 gL_law_X5_mean rfl (by decide +kernel) ⟨⟨rfl, rfl⟩, Nat.le_of_ble_eq_true rfl, Nat.le_of_ble_eq_true rfl⟩ g5 rfl rfl rfl (Nat.le_of_ble_eq_true rfl) dL_law_588 rfl ?_
  refine wg_aload_n C dL_law_591 rfl ?_
  refine wg_arg C S hL hk 1 (by decide) (by decide) dL_law_592 dL_law_593 dL_law_594 dL_law_595 dL_law_596 ?_
  refine wg_arg C S hL hk 2 (by decide) (by decide) dL_law_597 dL_law_598 dL_law_599 dL_law_600 dL_law_601 ?_
  refine wg_callV (n := 2) (As := [.int (xs (k + 1)), .int (xs (k + 2))]) (st := [.int r]) (st' := [.int r, .int r]) C s2 gL_law_X6_mean rfl (by decide +kernel) ⟨⟨rfl, rfl⟩, Nat.le_of_ble_eq_true rfl, Nat.le_of_ble_eq_true rfl⟩ g6 rfl rfl rfl (Nat.le_of_ble_eq_true rfl) dL_law_602 rfl ?_
  exact wg_icmp_eq (tgt := 865) C dL_law_605 (by decide) (fun _ => go hp2 hI) (fun z => absurd rfl z)
theorem law_spread (C : Ok X RL cL_law wsL_law room_1) (S : SX X L xs) (hL : L ≤ 2560) {k : Nat} (hk : k + 5 ≤ L) (h : GI hp) (go : ∀ hp', GI hp' → Wg X 865 (lvL k) [] hp') : Wg X 610 (lvL k) [] hp := by
  obtain ⟨r, hp1, hp2, s1, s2, ⟨-, fs6, g6⟩, hI⟩ := t_spread h (xs (k + 1)) (xs (k + 2))
  obtain ⟨⟨fs5, g5⟩, -⟩ := h.s
  refine wg_aload_n C dL_law_610 rfl ?_
  refine wg_arg C S hL hk 1 (by decide) (by decide) dL_law_611 dL_law_612 dL_law_613 dL_law_614 dL_law_615 ?_
  refine wg_arg C S hL hk 2 (by decide) (by decide) dL_law_616 dL_law_617 dL_law_618 dL_law_619 dL_law_620 ?_
  refine wg_callV (n := 2) (As := [.int (xs (k + 1)), .int (xs (k + 2))]) (st := []) (st' := [.long r]) C s1 gL_law_X5_spread rfl (by decide +kernel) ⟨⟨rfl, rfl⟩, Nat.le_of_ble_eq_true rfl, Nat.le_of_ble_eq_true rfl⟩ g5 rfl rfl rfl (Nat.le_of_ble_eq_true rfl) dL_law_621 rfl ?_
  refine wg_aload_n C dL_law_624 rfl ?_
  refine wg_arg C S hL hk 1 (by decide) (by decide) dL_law_625 dL_law_626 dL_law_627 dL_law_628 dL_law_629 ?_
  refine wg_arg C S hL hk 2 (by decide) (by decide) dL_law_630 dL_law_631 dL_law_632 dL_law_633 dL_law_634 ?_
  refine wg_callV (n := 2) (As := [.int (xs (k + 1)), .int (xs (k + 2))]) (st := [.long r]) (st' := [.long r, .long r]) C s2 gL_law_X6_spread rfl (by decide +kernel) ⟨⟨rfl, rfl⟩, Nat.le_of_ble_eq_true rfl, Nat.le_of_ble_eq_true rfl⟩ g6 rfl rfl rfl (Nat.le_of_ble_eq_true rfl) dL_law_635 rfl ?_
  refine wg_lcmp C dL_law_638 ?_
  exact wg_if_eq (tgt := 865) C dL_law_639 (by decide) (fun _ => go hp2 hI) (fun z => absurd (lg_self r) z)
theorem law_holds (C : Ok X RL cL_law wsL_law room_1) (S : SX X L xs) (hL : L ≤ 2560) {k : Nat} (hk : k + 5 ≤ L) (h : GI hp) (go : ∀ hp', GI hp' → Wg X 865 (lvL k) [] hp') : Wg X 644 (lvL k) [] hp := by
  obtain ⟨r, hp1, hp2, s1, s2, ⟨-, fs6, g6⟩, hI⟩ := t_holds h (xs (k + 1)) (xs (k + 2)) (xs (k + 3))
  obtain ⟨⟨fs5, g5⟩, -⟩ := h.s
  refine wg_aload_n C dL_law_644 rfl ?_
  refine wg_arg C S hL hk 1 (by decide) (by decide) dL_law_645 dL_law_646 dL_law_647 dL_law_648 dL_law_649 ?_
  refine wg_arg C S hL hk 2 (by decide) (by decide) dL_law_650 dL_law_651 dL_law_652 dL_law_653 dL_law_654 ?_
  refine wg_arg C S hL hk 3 (by decide) (by decide) dL_law_655 dL_law_656 dL_law_657 dL_law_658 dL_law_659 ?_
  refine wg_callV (n := 3) (As := [.int (xs (k + 1)), .int (xs (k + 2)), .int (xs (k + 3))]) (st := []) (st' := [.int r]) C s1 gL_law_X5_holds rfl (by decide +kernel) ⟨⟨rfl, rfl⟩, Nat.le_of_ble_eq_true rfl, Nat.le_of_ble_eq_true rfl⟩ g5 rfl rfl rfl (Nat.le_of_ble_eq_true rfl) dL_law_660 rfl ?_
  refine wg_aload_n C dL_law_663 rfl ?_
  refine wg_arg C S hL hk 1 (by decide) (by decide) dL_law_664 dL_law_665 dL_law_666 dL_law_667 dL_law_668 ?_
  refine wg_arg C S hL hk 2 (by decide) (by decide) dL_law_669 dL_law_670 dL_law_671 dL_law_672 dL_law_673 ?_
  refine wg_arg C S hL hk 3 (by decide) (by decide) dL_law_674 dL_law_675 dL_law_676 dL_law_677 dL_law_678 ?_
  refine wg_callV (n := 3) (As := [.int (xs (k + 1)), .int (xs (k + 2)), .int (xs (k + 3))]) (st := [.int r]) (st' := [.int r, .int r]) C s2 gL_law_X6_holds rfl (by decide +kernel) ⟨⟨rfl, rfl⟩, Nat.le_of_ble_eq_true rfl, Nat.le_of_ble_eq_true rfl⟩ g6 rfl rfl rfl (Nat.le_of_ble_eq_true rfl) dL_law_679 rfl ?_
  exact wg_icmp_eq (tgt := 865) C dL_law_682 (by decide) (fun _ => go hp2 hI) (fun z => absurd rfl z)
theorem law_errs (C : Ok X RL cL_law wsL_law room_1) (S : SX X L xs) (hL : L ≤ 2560) {k : Nat} (hk : k + 5 ≤ L) (h : GI hp) (go : ∀ hp', GI hp' → Wg X 865 (lvL k) [] hp') : Wg X 687 (lvL k) [] hp := by
  obtain ⟨r, hp1, hp2, s1, s2, ⟨-, fs6, g6⟩, hI⟩ := t_errs h (xs (k + 1))
  obtain ⟨⟨fs5, g5⟩, -⟩ := h.s
  refine wg_aload_n C dL_law_687 rfl ?_
  refine wg_arg C S hL hk 1 (by decide) (by decide) dL_law_688 dL_law_689 dL_law_690 dL_law_691 dL_law_692 ?_
  refine wg_callV (n := 1) (As := [.int (xs (k + 1))]) (st := []) (st' := [.int r]) C s1 gL_law_X5_errs rfl (by decide +kernel) ⟨⟨rfl, rfl⟩, Nat.le_of_ble_eq_true rfl, Nat.le_of_ble_eq_true rfl⟩ g5 rfl rfl rfl (Nat.le_of_ble_eq_true rfl) dL_law_693 rfl ?_
  refine wg_aload_n C dL_law_696 rfl ?_
  refine wg_arg C S hL hk 1 (by decide) (by decide) dL_law_697 dL_law_698 dL_law_699 dL_law_700 dL_law_701 ?_
  refine wg_callV (n := 1) (As := [.int (xs (k + 1))]) (st := [.int r]) (st' := [.int r, .int r]) C s2 gL_law_X6_errs rfl (by decide +kernel) ⟨⟨rfl, rfl⟩, Nat.le_of_ble_eq_true rfl, Nat.le_of_ble_eq_true rfl⟩ g6 rfl rfl rfl (Nat.le_of_ble_eq_true rfl) dL_law_702 rfl ?_
  exact wg_icmp_eq (tgt := 865) C dL_law_705 (by decide) (fun _ => go hp2 hI) (fun z => absurd rfl z)
theorem law_best (C : Ok X RL cL_law wsL_law room_1) (S : SX X L xs) (hL : L ≤ 2560) {k : Nat} (hk : k + 5 ≤ L) (h : GI hp) (go : ∀ hp', GI hp' → Wg X 865 (lvL k) [] hp') : Wg X 710 (lvL k) [] hp := by
  obtain ⟨r, hp1, hp2, s1, s2, ⟨-, fs6, g6⟩, hI⟩ := t_best h (xs (k + 1)) (xs (k + 2))
  obtain ⟨⟨fs5, g5⟩, -⟩ := h.s
  refine wg_aload_n C dL_law_710 rfl ?_
  refine wg_arg C S hL hk 1 (by decide) (by decide) dL_law_711 dL_law_712 dL_law_713 dL_law_714 dL_law_715 ?_
  refine wg_arg C S hL hk 2 (by decide) (by decide) dL_law_716 dL_law_717 dL_law_718 dL_law_719 dL_law_720 ?_
  refine wg_callV (n := 2) (As := [.int (xs (k + 1)), .int (xs (k + 2))]) (st := []) (st' := [.int r]) C s1 gL_law_X5_best rfl (by decide +kernel) ⟨⟨rfl, rfl⟩, Nat.le_of_ble_eq_true rfl, Nat.le_of_ble_eq_true rfl⟩ g5 rfl rfl rfl (Nat.le_of_ble_eq_true rfl) dL_law_721 rfl ?_
  refine wg_aload_n C dL_law_724 rfl ?_
  refine wg_arg C S hL hk 1 (by decide) (by decide) dL_law_725 dL_law_726 dL_law_727 dL_law_728 dL_law_729 ?_
  refine wg_arg C S hL hk 2 (by decide) (by decide) dL_law_730 dL_law_731 dL_law_732 dL_law_733 dL_law_734 ?_
  refine wg_callV (n := 2) (As := [.int (xs (k + 1)), .int (xs (k + 2))]) (st := [.int r]) (st' := [.int r, .int r]) C s2 gL_law_X6_best rfl (by decide +kernel) ⟨⟨rfl, rfl⟩, Nat.le_of_ble_eq_true rfl, Nat.le_of_ble_eq_true rfl⟩ g6 rfl rfl rfl (Nat.le_of_ble_eq_true rfl) dL_law_735 rfl ?_
  exact wg_icmp_eq (tgt := 865) C dL_law_738 (by decide) (fun _ => go hp2 hI) (fun z => absurd rfl z)
theorem law_spare (C : Ok X RL cL_law wsL_law room_1) (S : SX X L xs) (hL : L ≤ 2560) {k : Nat} (hk : k + 5 ≤ L) (h : GI hp) (go : ∀ hp', GI hp' → Wg X 865 (lvL k) [] hp') : Wg X 743 (lvL k) [] hp := by
  obtain ⟨r, hp1, hp2, s1, s2, ⟨-, fs6, g6⟩, hI⟩ := t_spare h (xs (k + 1))
  obtain ⟨⟨fs5, g5⟩, -⟩ := h.s
  refine wg_aload_n C dL_law_743 rfl ?_
  refine wg_arg C S hL hk 1 (by decide) (by decide) dL_law_744 dL_law_745 dL_law_746 dL_law_747 dL_law_748 ?_
  refine wg_callV (n := 1) (As := [.int (xs (k + 1))]) (st := []) (st' := [.int r]) C s1 gL_law_X5_spare rfl (by decide +kernel) ⟨⟨rfl, rfl⟩, Nat.le_of_ble_eq_true rfl, Nat.le_of_ble_eq_true rfl⟩ g5 rfl rfl rfl (Nat.le_of_ble_eq_true rfl) dL_law_749 rfl ?_
  refine wg_aload_n C dL_law_752 rfl ?_
  refine wg_arg C S hL hk 1 (by decide) (by decide) dL_law_753 dL_law_754 dL_law_755 dL_law_756 dL_law_757 ?_
  refine wg_callV (n := 1) (As := [.int (xs (k + 1))]) (st := [.int r]) (st' := [.int r, .int r]) C s2 gL_law_X6_spare rfl (by decide +kernel) ⟨⟨rfl, rfl⟩, Nat.le_of_ble_eq_true rfl, Nat.le_of_ble_eq_true rfl⟩ g6 rfl rfl rfl (Nat.le_of_ble_eq_true rfl) dL_law_758 rfl ?_
  exact wg_icmp_eq (tgt := 865) C dL_law_761 (by decide) (fun _ => go hp2 hI) (fun z => absurd rfl z)
theorem law_type (C : Ok X RL cL_law wsL_law room_1) (S : SX X L xs) (hL : L ≤ 2560) {k : Nat} (hk : k + 5 ≤ L) (h : GI hp) (go : ∀ hp', GI hp' → Wg X 865 (lvL k) [] hp') : Wg X 766 (lvL k) [] hp := by
  obtain ⟨r, hp1, hp2, s1, s2, ⟨-, fs6, g6⟩, hI⟩ := t_type h (xs (k + 1))
  obtain ⟨⟨fs5, g5⟩, -⟩ := h.s
  refine wg_aload_n C dL_law_766 rfl ?_
  refine wg_arg C S hL hk 1 (by decide) (by decide) dL_law_767 dL_law_768 dL_law_769 dL_law_770 dL_law_771 ?_
  refine wg_callV (n := 1) (As := [.int (xs (k + 1))]) (st := []) (st' := [.int r]) C s1 gL_law_X5_type rfl (by decide +kernel) ⟨⟨rfl, rfl⟩, Nat.le_of_ble_eq_true rfl, Nat.le_of_ble_eq_true rfl⟩ g5 rfl rfl rfl (Nat.le_of_ble_eq_true rfl) dL_law_772 rfl ?_
  refine wg_aload_n C dL_law_775 rfl ?_
  refine wg_arg C S hL hk 1 (by decide) (by decide) dL_law_776 dL_law_777 dL_law_778 dL_law_779 dL_law_780 ?_
  refine wg_callV (n := 1) (As := [.int (xs (k + 1))]) (st := [.int r]) (st' := [.int r, .int r]) C s2 gL_law_X6_type rfl (by decide +kernel) ⟨⟨rfl, rfl⟩, Nat.le_of_ble_eq_true rfl, Nat.le_of_ble_eq_true rfl⟩ g6 rfl rfl rfl (Nat.le_of_ble_eq_true rfl) dL_law_781 rfl ?_
  exact wg_icmp_eq (tgt := 865) C dL_law_784 (by decide) (fun _ => go hp2 hI) (fun z => absurd rfl z)
theorem law_clear (C : Ok X RL cL_law wsL_law room_1) (S : SX X L xs) (hL : L ≤ 2560) {k : Nat} (hk : k + 5 ≤ L) (h : GI hp) (go : ∀ hp', GI hp' → Wg X 865 (lvL k) [] hp') : Wg X 789 (lvL k) [] hp := by
  obtain ⟨r, hp1, hp2, s1, s2, ⟨-, fs6, g6⟩, hI⟩ := t_clear h
  obtain ⟨⟨fs5, g5⟩, -⟩ := h.s
  refine wg_aload_n C dL_law_789 rfl ?_
  refine wg_callV (n := 0) (As := []) (st := []) (st' := [.int r]) C s1 gL_law_X5_clear rfl (by decide +kernel) ⟨⟨rfl, rfl⟩, Nat.le_of_ble_eq_true rfl, Nat.le_of_ble_eq_true rfl⟩ g5 rfl rfl rfl (Nat.le_of_ble_eq_true rfl) dL_law_790 rfl ?_
  refine wg_aload_n C dL_law_793 rfl ?_
  refine wg_callV (n := 0) (As := []) (st := [.int r]) (st' := [.int r, .int r]) C s2 gL_law_X6_clear rfl (by decide +kernel) ⟨⟨rfl, rfl⟩, Nat.le_of_ble_eq_true rfl, Nat.le_of_ble_eq_true rfl⟩ g6 rfl rfl rfl (Nat.le_of_ble_eq_true rfl) dL_law_794 rfl ?_
  exact wg_icmp_eq (tgt := 865) C dL_law_797 (by decide) (fun _ => go hp2 hI) (fun z => absurd rfl z)
theorem law_reads (C : Ok X RL cL_law wsL_law room_1) (S : SX X L xs) (hL : L ≤ 2560) {k : Nat} (hk : k + 5 ≤ L) (h : GI hp) (go : ∀ hp', GI hp' → Wg X 865 (lvL k) [] hp') : Wg X 802 (lvL k) [] hp := by
  obtain ⟨r, hp1, hp2, s1, s2, ⟨-, fs6, g6⟩, hI⟩ := t_reads h
  obtain ⟨⟨fs5, g5⟩, -⟩ := h.s
  refine wg_aload_n C dL_law_802 rfl ?_
  refine wg_callV (n := 0) (As := []) (st := []) (st' := [.int r]) C s1 gL_law_X5_reads rfl (by decide +kernel) ⟨⟨rfl, rfl⟩, Nat.le_of_ble_eq_true rfl, Nat.le_of_ble_eq_true rfl⟩ g5 rfl rfl rfl (Nat.le_of_ble_eq_true rfl) dL_law_803 rfl ?_
  refine wg_aload_n C dL_law_806 rfl ?_
  refine wg_callV (n := 0) (As := []) (st := [.int r]) (st' := [.int r, .int r]) C s2 gL_law_X6_reads rfl (by decide +kernel) ⟨⟨rfl, rfl⟩, Nat.le_of_ble_eq_true rfl, Nat.le_of_ble_eq_true rfl⟩ g6 rfl rfl rfl (Nat.le_of_ble_eq_true rfl) dL_law_807 rfl ?_
  exact wg_icmp_eq (tgt := 865) C dL_law_810 (by decide) (fun _ => go hp2 hI) (fun z => absurd rfl z)
theorem law_back (C : Ok X RL cL_law wsL_law room_1) (S : SX X L xs) (hL : L ≤ 2560) {k : Nat} (hk : k + 5 ≤ L) (h : GI hp) (go : ∀ hp', GI hp' → Wg X 865 (lvL k) [] hp') : Wg X 815 (lvL k) [] hp := by
  obtain ⟨r, hp1, hp2, s1, s2, ⟨-, fs6, g6⟩, hI⟩ := t_back h
  obtain ⟨⟨fs5, g5⟩, -⟩ := h.s
  refine wg_aload_n C dL_law_815 rfl ?_
  refine wg_callV (n := 0) (As := []) (st := []) (st' := [.int r]) C s1 gL_law_X5_back rfl (by decide +kernel) ⟨⟨rfl, rfl⟩, Nat.le_of_ble_eq_true rfl, Nat.le_of_ble_eq_true rfl⟩ g5 rfl rfl rfl (Nat.le_of_ble_eq_true rfl) dL_law_816 rfl ?_
  refine wg_aload_n C dL_law_819 rfl ?_
  refine wg_callV (n := 0) (As := []) (st := [.int r]) (st' := [.int r, .int r]) C s2 gL_law_X6_back rfl (by decide +kernel) ⟨⟨rfl, rfl⟩, Nat.le_of_ble_eq_true rfl, Nat.le_of_ble_eq_true rfl⟩ g6 rfl rfl rfl (Nat.le_of_ble_eq_true rfl) dL_law_820 rfl ?_
  exact wg_icmp_eq (tgt := 865) C dL_law_823 (by decide) (fun _ => go hp2 hI) (fun z => absurd rfl z)
theorem law_told (C : Ok X RL cL_law wsL_law room_1) (S : SX X L xs) (hL : L ≤ 2560) {k : Nat} (hk : k + 5 ≤ L) (h : GI hp) (go : ∀ hp', GI hp' → Wg X 865 (lvL k) [] hp') : Wg X 828 (lvL k) [] hp := by
  obtain ⟨r, hp1, hp2, s1, s2, ⟨-, fs6, g6⟩, hI⟩ := t_told h (xs (k + 1))
  obtain ⟨⟨fs5, g5⟩, -⟩ := h.s
  refine wg_aload_n C dL_law_828 rfl ?_
  refine wg_arg C S hL hk 1 (by decide) (by decide) dL_law_829 dL_law_830 dL_law_831 dL_law_832 dL_law_833 ?_
  refine wg_callV (n := 1) (As := [.int (xs (k + 1))]) (st := []) (st' := [.int r]) C s1 gL_law_X5_told rfl (by decide +kernel) ⟨⟨rfl, rfl⟩, Nat.le_of_ble_eq_true rfl, Nat.le_of_ble_eq_true rfl⟩ g5 rfl rfl rfl (Nat.le_of_ble_eq_true rfl) dL_law_834 rfl ?_
  refine wg_aload_n C dL_law_837 rfl ?_
  refine wg_arg C S hL hk 1 (by decide) (by decide) dL_law_838 dL_law_839 dL_law_840 dL_law_841 dL_law_842 ?_
  refine wg_callV (n := 1) (As := [.int (xs (k + 1))]) (st := [.int r]) (st' := [.int r, .int r]) C s2 gL_law_X6_told rfl (by decide +kernel) ⟨⟨rfl, rfl⟩, Nat.le_of_ble_eq_true rfl, Nat.le_of_ble_eq_true rfl⟩ g6 rfl rfl rfl (Nat.le_of_ble_eq_true rfl) dL_law_843 rfl ?_
  exact wg_icmp_eq (tgt := 865) C dL_law_846 (by decide) (fun _ => go hp2 hI) (fun z => absurd rfl z)
theorem law_digest (C : Ok X RL cL_law wsL_law room_1) (S : SX X L xs) (hL : L ≤ 2560) {k : Nat} (hk : k + 5 ≤ L) (h : GI hp) (go : ∀ hp', GI hp' → Wg X 865 (lvL k) [] hp') : Wg X 851 (lvL k) [] hp := by
  obtain ⟨r, hp1, hp2, s1, s2, ⟨-, fs6, g6⟩, hI⟩ := t_digest h
  obtain ⟨⟨fs5, g5⟩, -⟩ := h.s
  refine wg_aload_n C dL_law_851 rfl ?_
  refine wg_callV (n := 0) (As := []) (st := []) (st' := [.long r]) C s1 gL_law_X5_digest rfl (by decide +kernel) ⟨⟨rfl, rfl⟩, Nat.le_of_ble_eq_true rfl, Nat.le_of_ble_eq_true rfl⟩ g5 rfl rfl rfl (Nat.le_of_ble_eq_true rfl) dL_law_852 rfl ?_
  refine wg_aload_n C dL_law_855 rfl ?_
  refine wg_callV (n := 0) (As := []) (st := [.long r]) (st' := [.long r, .long r]) C s2 gL_law_X6_digest rfl (by decide +kernel) ⟨⟨rfl, rfl⟩, Nat.le_of_ble_eq_true rfl, Nat.le_of_ble_eq_true rfl⟩ g6 rfl rfl rfl (Nat.le_of_ble_eq_true rfl) dL_law_856 rfl ?_
  refine wg_lcmp C dL_law_859 ?_
  exact wg_if_eq (tgt := 865) C dL_law_860 (by decide) (fun _ => go hp2 hI) (fun z => absurd (lg_self r) z)
set_option maxHeartbeats 4000000 in
theorem law_loop (C : Ok X RL cL_law wsL_law room_1) (E : EX X) (S : SX X L xs) (hL : L ≤ 2560) : ∀ (n k : Nat), L < k + n → k ≤ L → ∀ hp, GI hp → Wg X 18 (lvL k) [] hp := by
  intro n
  induction n with
  | zero => intro k h1 h2; omega
  | succ n ih =>
    intro k h1 h2 hp h
    refine wg_iload_n C dL_law_18 rfl ?_
    refine wg_aload_n C dL_law_19 rfl ?_
    refine wg_slen C S dL_law_20 ?_
    refine wg_iconst (v := 5) C dL_law_21 (by decide) ?_
    refine wg_isub C dL_law_22 ?_
    refine wg_icmp_gt (tgt := 871) C dL_law_23 (by decide) (fun c0 => ?_) (fun c0 => ?_)
    · exact wg_iconst (v := 1) C dL_law_871 (by decide) (wg_lawret C E dL_law_872)
    · have hk : k + 5 ≤ L := by
        rcases Nat.lt_or_ge L (k + 5) with q | q
        · refine absurd ?_ c0
          rw [fa_lt, nI_toInt (by omega), show nI L - (5 : Int32) = nI L - nI 5 from rfl, pk_sub_toInt (by omega) (by decide)]
          omega
        · exact q
      have go : ∀ hp', GI hp' → Wg X 865 (lvL k) [] hp' := fun hp' h' => by
        refine wg_iinc (v := nI (k + 5)) (lv' := lvL (k + 5)) C dL_law_865 rfl (nI_add k 5) rfl ?_
        refine wg_goto (tgt := 18) C dL_law_868 (by decide) ?_
        exact ih (k + 5) (by omega) (by omega) hp' h'
      refine wg_aload_n C dL_law_26 rfl ?_
      refine wg_iload_n C dL_law_27 rfl ?_
      refine wg_sld C S (vp_in_nI (by omega) (by omega)) dL_law_28 ?_
      refine wg_bipush (v := 31) C dL_law_29 (by decide) ?_
      refine wg_iand C dL_law_31 ?_
      obtain ⟨j, hj, ej⟩ := pk_andE (xs (nI k).toNatClampNeg) (m := 31) 5 (by decide)
      rw [ej]
      match j, hj with
      | 0, _ => exact wg_tin (off := 116) (tgt := 148) C dL_law_32 (by decide) (by decide) rfl (by decide) (law_day C S hL hk h go)
      | 1, _ => exact wg_tin (off := 169) (tgt := 201) C dL_law_32 (by decide) (by decide) rfl (by decide) (law_sets C S hL hk h go)
      | 2, _ => exact wg_tin (off := 212) (tgt := 244) C dL_law_32 (by decide) (by decide) rfl (by decide) (law_draw C S hL hk h go)
      | 3, _ => exact wg_tin (off := 245) (tgt := 277) C dL_law_32 (by decide) (by decide) rfl (by decide) (law_empties C S hL hk h go)
      | 4, _ => exact wg_tin (off := 258) (tgt := 290) C dL_law_32 (by decide) (by decide) rfl (by decide) (law_rules C S hL hk h go)
      | 5, _ => exact wg_tin (off := 291) (tgt := 323) C dL_law_32 (by decide) (by decide) rfl (by decide) (law_at C S hL hk h go)
      | 6, _ => exact wg_tin (off := 324) (tgt := 356) C dL_law_32 (by decide) (by decide) rfl (by decide) (law_distance C S hL hk h go)
      | 7, _ => exact wg_tin (off := 357) (tgt := 389) C dL_law_32 (by decide) (by decide) rfl (by decide) (law_nearest C S hL hk h go)
      | 8, _ => exact wg_tin (off := 400) (tgt := 432) C dL_law_32 (by decide) (by decide) rfl (by decide) (law_likes C S hL hk h go)
      | 9, _ => exact wg_tin (off := 423) (tgt := 455) C dL_law_32 (by decide) (by decide) rfl (by decide) (law_serves C S hL hk h go)
      | 10, _ => exact wg_tin (off := 446) (tgt := 478) C dL_law_32 (by decide) (by decide) rfl (by decide) (law_twins C S hL hk h go)
      | 11, _ => exact wg_tin (off := 469) (tgt := 501) C dL_law_32 (by decide) (by decide) rfl (by decide) (law_strangers C S hL hk h go)
      | 12, _ => exact wg_tin (off := 492) (tgt := 524) C dL_law_32 (by decide) (by decide) rfl (by decide) (law_follows C S hL hk h go)
      | 13, _ => exact wg_tin (off := 545) (tgt := 577) C dL_law_32 (by decide) (by decide) rfl (by decide) (law_mean C S hL hk h go)
      | 14, _ => exact wg_tin (off := 578) (tgt := 610) C dL_law_32 (by decide) (by decide) rfl (by decide) (law_spread C S hL hk h go)
      | 15, _ => exact wg_tin (off := 612) (tgt := 644) C dL_law_32 (by decide) (by decide) rfl (by decide) (law_holds C S hL hk h go)
      | 16, _ => exact wg_tin (off := 655) (tgt := 687) C dL_law_32 (by decide) (by decide) rfl (by decide) (law_errs C S hL hk h go)
      | 17, _ => exact wg_tin (off := 678) (tgt := 710) C dL_law_32 (by decide) (by decide) rfl (by decide) (law_best C S hL hk h go)
      | 18, _ => exact wg_tin (off := 711) (tgt := 743) C dL_law_32 (by decide) (by decide) rfl (by decide) (law_spare C S hL hk h go)
      | 19, _ => exact wg_tin (off := 734) (tgt := 766) C dL_law_32 (by decide) (by decide) rfl (by decide) (law_type C S hL hk h go)
      | 20, _ => exact wg_tin (off := 757) (tgt := 789) C dL_law_32 (by decide) (by decide) rfl (by decide) (law_clear C S hL hk h go)
      | 21, _ => exact wg_tin (off := 770) (tgt := 802) C dL_law_32 (by decide) (by decide) rfl (by decide) (law_reads C S hL hk h go)
      | 22, _ => exact wg_tin (off := 783) (tgt := 815) C dL_law_32 (by decide) (by decide) rfl (by decide) (law_back C S hL hk h go)
      | 23, _ => exact wg_tin (off := 796) (tgt := 828) C dL_law_32 (by decide) (by decide) rfl (by decide) (law_told C S hL hk h go)
      | 24, _ => exact wg_tin (off := 819) (tgt := 851) C dL_law_32 (by decide) (by decide) rfl (by decide) (law_digest C S hL hk h go)
      | j + 25, hj => exact wg_tout (tgt := 865) C dL_law_32 (Or.inr (by rw [nI_toInt (by omega)]; omega)) (by decide) (go hp h)
end Law
