/-! the law: its cases, its loop -/
def LQ : am_O → am_S → am_I → Prop := fun o _ _ => o = .inl (some (.int 1))
def K49 (E : am_E) (r i : Nat) : Prop := ∀ (nf' : Nat) (S' : am_S) (iv2 : am_I) (b5 b6 : Value), IV S' iv2 nf' → am_R E 902 mL_law (12 * r) (6200 * r + 4 * (32768 - nf')) 1249 [.null, .ref 0, .ref 54, .ref 88, .int (nI i), b5, b6] [] S' iv2 LQ
theorem law_pay {S : am_S} {iv : am_I} {nf MM : Nat} (h : IV S iv nf) (hM : MM = 0 ∨ ∃ b, b ≤ 15 ∧ MM = 2 ^ b) : sct nf MM + 4 * (32768 - mx nf MM) ≤ 4 * (32768 - nf) := by
  obtain ⟨w, v, fd, sn, ns, pp, np, c, ρ, hS, -⟩ := h
  have hp : pw2 nf := hS.2.2.2.2.2.2.2.2.2.2.2.2
  rcases hM with h0 | ⟨b, hb, h1⟩
  · subst h0
    have e1 : sct nf 0 = 0 := by unfold sct; rw [if_neg (by omega)]
    have e2 := mx0 nf
    omega
  · exact sct_pay hp h1 hb
theorem law_in {i j L : Nat} (h : i + 6 ≤ L) (hj : j < 6) (hL : L ≤ 3072) : vp_in (nI i + nI j) L := by
  rw [nI_add]
  exact am_vin (by omega) (by omega)
theorem law_31 (x : Int32) : ∃ n, n < 32 ∧ x &&& 31 = nI n := by
  refine ⟨x.toBitVec.toNat % 32, Nat.mod_lt _ (by decide), ?_⟩
  apply Int32.toBitVec_inj.mp
  apply BitVec.eq_of_toNat_eq
  show (x.toBitVec &&& 31#32).toNat = (BitVec.ofNat 32 (x.toBitVec.toNat % 32)).toNat
  rw [BitVec.toNat_and, BitVec.toNat_ofNat, BitVec.toNat_ofNat, show (31 : Nat) % 2 ^ 32 = 2 ^ 5 - 1 from rfl, Nat.and_two_pow_sub_one_eq_mod, show (2 : Nat) ^ 5 = 32 from rfl]
  rw [Nat.mod_eq_of_lt (Nat.lt_trans (Nat.mod_lt _ (by decide)) (by decide))]
section B98
variable {E : am_E} {S : am_S} {iv : am_I} {nf i r : Nat} {a5 a6 : Value}

theorem LC_feed (hi : i + 6 ≤ am_L E) (hL : am_L E ≤ 3072) (h : IV S iv nf) (K : K49 E r i) : am_R E 902 mL_law (12 * (r + 1)) (6200 * (r + 1) + 4 * (32768 - nf)) 148 [.null, .ref 0, .ref 54, .ref 88, .int (nI i), a5, a6] [] S iv LQ := by
  have hi1 : vp_in (nI i + 1) (am_L E) := law_in (j := 1) hi (by decide) hL
  have hi2 : vp_in (nI i + 2) (am_L E) := law_in (j := 2) hi (by decide) hL
  have hi3 : vp_in (nI i + 3) (am_L E) := law_in (j := 3) hi (by decide) hL
  have hi4 : vp_in (nI i + 4) (am_L E) := law_in (j := 4) hi (by decide) hL
  have hi5 : vp_in (nI i + 5) (am_L E) := law_in (j := 5) hi (by decide) hL
  have h00 : S.1 0 = some (.inl 9) := h.lay.1 _ _ rfl
  obtain ⟨MM, nf', k', n', c1, c2, c3, c4, hM⟩ := CC_feed (E := E) (d := 1) h (am_xs E (nI i + 1).toNatClampNeg) (am_xs E (nI i + 2).toNatClampNeg) (am_xs E (nI i + 3).toNatClampNeg) (am_xs E (nI i + 4).toNatClampNeg) (am_xs E (nI i + 5).toNatClampNeg)
  have pay := law_pay h c1
  rw [← c2] at pay
  refine am_R.less (k := k' + 12 * r) (n := n' + (6200 * r + 4 * (32768 - nf'))) ?_ (by omega) (by omega)
  refine (sL_law_148 rfl (sL_law_149 rfl (sL_law_150 (sL_law_152 (sL_law_153 (sL_law_154 (by assumption) (sL_law_155 rfl (sL_law_156 (sL_law_158 (sL_law_159 (sL_law_160 (by assumption) (sL_law_161 rfl (sL_law_162 (sL_law_164 (sL_law_165 (sL_law_166 (by assumption) (sL_law_167 rfl (sL_law_168 (sL_law_170 (sL_law_171 (sL_law_172 (by assumption) (sL_law_173 rfl (sL_law_174 (sL_law_176 (sL_law_177 (sL_law_178 (by assumption) (sL_law_179_k (k' := k') (k := 12 * r) (n' := n') (n := 6200 * r + 4 * (32768 - nf')) h00 (Nat.le_of_ble_eq_true rfl) (hM _ (fun o' S' iv' hP => ?_)))))))))))))))))))))))))))))
  obtain ⟨r', iv2, rfl, e2, hI⟩ := hP
  have h54 : S'.1 54 = some (.inl 10) := hI.lay.1 _ _ rfl
  refine (sL_law_182 rfl (sL_law_183 rfl (sL_law_184 (sL_law_186 (sL_law_187 (sL_law_188 (by assumption) (sL_law_189 rfl (sL_law_190 (sL_law_192 (sL_law_193 (sL_law_194 (by assumption) (sL_law_195 rfl (sL_law_196 (sL_law_198 (sL_law_199 (sL_law_200 (by assumption) (sL_law_201 rfl (sL_law_202 (sL_law_204 (sL_law_205 (sL_law_206 (by assumption) (sL_law_207 rfl (sL_law_208 (sL_law_210 (sL_law_211 (sL_law_212 (by assumption) (sL_law_213 h54 (Nat.le_of_ble_eq_true rfl) (R_X10_feed hI.lay e2 ?_ (by omega)))))))))))))))))))))))))))))
  exact sL_law_216 (fun _ => K nf' S' iv2 _ _ hI) (fun q => absurd rfl q)
theorem LC_city (hi : i + 6 ≤ am_L E) (hL : am_L E ≤ 3072) (h : IV S iv nf) (K : K49 E r i) : am_R E 902 mL_law (12 * (r + 1)) (6200 * (r + 1) + 4 * (32768 - nf)) 221 [.null, .ref 0, .ref 54, .ref 88, .int (nI i), a5, a6] [] S iv LQ := by
  have hi1 : vp_in (nI i + 1) (am_L E) := law_in (j := 1) hi (by decide) hL
  have hi2 : vp_in (nI i + 2) (am_L E) := law_in (j := 2) hi (by decide) hL
  have hi3 : vp_in (nI i + 3) (am_L E) := law_in (j := 3) hi (by decide) hL
  have hi4 : vp_in (nI i + 4) (am_L E) := law_in (j := 4) hi (by decide) hL
  have hi5 : vp_in (nI i + 5) (am_L E) := law_in (j := 5) hi (by decide) hL
  have h00 : S.1 0 = some (.inl 9) := h.lay.1 _ _ rfl
  obtain ⟨MM, nf', k', n', c1, c2, c3, c4, hM⟩ := CW_city (E := E) (d := 0) h (am_xs E (nI i + 1).toNatClampNeg)
  have pay := law_pay h c1
  rw [← c2] at pay
  refine am_R.less (k := k' + 12 * r) (n := n' + (6200 * r + 4 * (32768 - nf'))) ?_ (by omega) (by omega)
  refine (sL_law_221 rfl (sL_law_222 rfl (sL_law_223 (sL_law_225 (sL_law_226 (sL_law_227 (by assumption) (sL_law_228 rfl (sL_law_229_k (k' := k') (k := 12 * r) (n' := n') (n := 6200 * r + 4 * (32768 - nf')) (Nat.le_of_ble_eq_true rfl) (hM _ (fun o' S' iv' hP => ?_))))))))))
  have FIN : ∀ (kk y' : Int32) (iv2 : am_I), F_X10_city (am_xs E (nI i + 1).toNatClampNeg) iv' = some (y', iv2) → iv2 54 3 = kk → IV S' iv2 nf' → am_R E 902 mL_law (12 * r) (6200 * r + 4 * (32768 - nf')) 257 [.null, .ref 0, .ref 54, .ref 88, .int (nI i), .int kk, .int y'] [] S' iv2 LQ → am_R E 902 mL_law (12 * r) (6200 * r + 4 * (32768 - nf')) 232 [.null, .ref 0, .ref 54, .ref 88, .int (nI i), a5, a6] [.int kk] S' iv' LQ := by
    intro kk y' iv2 e2 e3 hI hgo
    have h54 : S'.1 54 = some (.inl 10) := hI.lay.1 _ _ rfl
    refine (sL_law_232 (sL_law_234 rfl (sL_law_235 rfl (sL_law_236 (sL_law_238 (sL_law_239 (sL_law_240 (by assumption) (sL_law_241 h54 (Nat.le_of_ble_eq_true rfl) (R_X10_city hI.lay e2 ?_ (by omega))))))))))
    refine (sL_law_244 (sL_law_246 rfl (sL_law_247 h54 (Nat.le_of_ble_eq_true rfl) (R_X10_thrown hI.lay rfl ?_ (by omega)))))
    exact (sL_law_250 (sL_law_252 (fun _ => hgo) (fun q => absurd e3 q)))
  rcases hP with ⟨rfl, y', iv2, e2, e3, hI⟩ | ⟨r', iv2, rfl, e8, e2, e3, hI⟩
  · refine FIN 1 y' iv2 e2 e3 hI ?_
    exact (sL_law_257 (sL_law_259 (fun _ => sL_law_274 (K nf' S' iv2 _ _ hI)) (fun q => absurd q (by decide))))
  · refine FIN 0 r' iv2 e2 e3 hI ?_
    have h88 : S'.1 88 = some (.inr (.long, 1)) := hI.lay.1 _ _ rfl
    refine (sL_law_257 (sL_law_259 (fun q => absurd rfl q) (fun _ => ?_)))
    exact (sL_law_262 rfl (sL_law_263 (sL_law_264 h88 (vp_lit (by decide)) (sL_law_265 (sL_law_267 (sL_law_268 (sL_law_269 (fun _ => sL_law_274 (K nf' S' iv2 _ _ hI)) (fun z => absurd ((lg_cmp_eq _ _).mpr e8) z))))))))
theorem LC_fault (hi : i + 6 ≤ am_L E) (hL : am_L E ≤ 3072) (h : IV S iv nf) (K : K49 E r i) : am_R E 902 mL_law (12 * (r + 1)) (6200 * (r + 1) + 4 * (32768 - nf)) 277 [.null, .ref 0, .ref 54, .ref 88, .int (nI i), a5, a6] [] S iv LQ := by
  have hi1 : vp_in (nI i + 1) (am_L E) := law_in (j := 1) hi (by decide) hL
  have hi2 : vp_in (nI i + 2) (am_L E) := law_in (j := 2) hi (by decide) hL
  have hi3 : vp_in (nI i + 3) (am_L E) := law_in (j := 3) hi (by decide) hL
  have hi4 : vp_in (nI i + 4) (am_L E) := law_in (j := 4) hi (by decide) hL
  have hi5 : vp_in (nI i + 5) (am_L E) := law_in (j := 5) hi (by decide) hL
  have h00 : S.1 0 = some (.inl 9) := h.lay.1 _ _ rfl
  obtain ⟨MM, nf', k', n', c1, c2, c3, c4, hM⟩ := CC_fault (E := E) (d := 1) h 
  have pay := law_pay h c1
  rw [← c2] at pay
  refine am_R.less (k := k' + 12 * r) (n := n' + (6200 * r + 4 * (32768 - nf'))) ?_ (by omega) (by omega)
  refine (sL_law_277 rfl (sL_law_278_k (k' := k') (k := 12 * r) (n' := n') (n := 6200 * r + 4 * (32768 - nf')) h00 (Nat.le_of_ble_eq_true rfl) (hM _ (fun o' S' iv' hP => ?_))))
  obtain ⟨r', iv2, rfl, e2, hI⟩ := hP
  have h54 : S'.1 54 = some (.inl 10) := hI.lay.1 _ _ rfl
  refine (sL_law_281 rfl (sL_law_282 h54 (Nat.le_of_ble_eq_true rfl) (R_X10_fault hI.lay e2 ?_ (by omega))))
  exact sL_law_285 (fun _ => K nf' S' iv2 _ _ hI) (fun q => absurd rfl q)
theorem LC_count (hi : i + 6 ≤ am_L E) (hL : am_L E ≤ 3072) (h : IV S iv nf) (K : K49 E r i) : am_R E 902 mL_law (12 * (r + 1)) (6200 * (r + 1) + 4 * (32768 - nf)) 290 [.null, .ref 0, .ref 54, .ref 88, .int (nI i), a5, a6] [] S iv LQ := by
  have hi1 : vp_in (nI i + 1) (am_L E) := law_in (j := 1) hi (by decide) hL
  have hi2 : vp_in (nI i + 2) (am_L E) := law_in (j := 2) hi (by decide) hL
  have hi3 : vp_in (nI i + 3) (am_L E) := law_in (j := 3) hi (by decide) hL
  have hi4 : vp_in (nI i + 4) (am_L E) := law_in (j := 4) hi (by decide) hL
  have hi5 : vp_in (nI i + 5) (am_L E) := law_in (j := 5) hi (by decide) hL
  have h00 : S.1 0 = some (.inl 9) := h.lay.1 _ _ rfl
  obtain ⟨MM, nf', k', n', c1, c2, c3, c4, hM⟩ := CW_count (E := E) (d := 0) h (am_xs E (nI i + 1).toNatClampNeg)
  have pay := law_pay h c1
  rw [← c2] at pay
  refine am_R.less (k := k' + 12 * r) (n := n' + (6200 * r + 4 * (32768 - nf'))) ?_ (by omega) (by omega)
  refine (sL_law_290 rfl (sL_law_291 rfl (sL_law_292 (sL_law_294 (sL_law_295 (sL_law_296 (by assumption) (sL_law_297 rfl (sL_law_298_k (k' := k') (k := 12 * r) (n' := n') (n := 6200 * r + 4 * (32768 - nf')) (Nat.le_of_ble_eq_true rfl) (hM _ (fun o' S' iv' hP => ?_))))))))))
  have FIN : ∀ (kk y' : Int32) (iv2 : am_I), F_X10_count (am_xs E (nI i + 1).toNatClampNeg) iv' = some (y', iv2) → iv2 54 3 = kk → IV S' iv2 nf' → am_R E 902 mL_law (12 * r) (6200 * r + 4 * (32768 - nf')) 326 [.null, .ref 0, .ref 54, .ref 88, .int (nI i), .int kk, .int y'] [] S' iv2 LQ → am_R E 902 mL_law (12 * r) (6200 * r + 4 * (32768 - nf')) 301 [.null, .ref 0, .ref 54, .ref 88, .int (nI i), a5, a6] [.int kk] S' iv' LQ := by
    intro kk y' iv2 e2 e3 hI hgo
    have h54 : S'.1 54 = some (.inl 10) := hI.lay.1 _ _ rfl
    refine (sL_law_301 (sL_law_303 rfl (sL_law_304 rfl (sL_law_305 (sL_law_307 (sL_law_308 (sL_law_309 (by assumption) (sL_law_310 h54 (Nat.le_of_ble_eq_true rfl) (R_X10_count hI.lay e2 ?_ (by omega))))))))))
    refine (sL_law_313 (sL_law_315 rfl (sL_law_316 h54 (Nat.le_of_ble_eq_true rfl) (R_X10_thrown hI.lay rfl ?_ (by omega)))))
    exact (sL_law_319 (sL_law_321 (fun _ => hgo) (fun q => absurd e3 q)))
  rcases hP with ⟨rfl, y', iv2, e2, e3, hI⟩ | ⟨r', iv2, rfl, e8, e2, e3, hI⟩
  · refine FIN 1 y' iv2 e2 e3 hI ?_
    exact (sL_law_326 (sL_law_328 (fun _ => sL_law_343 (K nf' S' iv2 _ _ hI)) (fun q => absurd q (by decide))))
  · refine FIN 0 r' iv2 e2 e3 hI ?_
    have h88 : S'.1 88 = some (.inr (.long, 1)) := hI.lay.1 _ _ rfl
    refine (sL_law_326 (sL_law_328 (fun q => absurd rfl q) (fun _ => ?_)))
    exact (sL_law_331 rfl (sL_law_332 (sL_law_333 h88 (vp_lit (by decide)) (sL_law_334 (sL_law_336 (sL_law_337 (sL_law_338 (fun _ => sL_law_343 (K nf' S' iv2 _ _ hI)) (fun z => absurd ((lg_cmp_eq _ _).mpr e8) z))))))))
theorem LC_drawer (hi : i + 6 ≤ am_L E) (hL : am_L E ≤ 3072) (h : IV S iv nf) (K : K49 E r i) : am_R E 902 mL_law (12 * (r + 1)) (6200 * (r + 1) + 4 * (32768 - nf)) 346 [.null, .ref 0, .ref 54, .ref 88, .int (nI i), a5, a6] [] S iv LQ := by
  have hi1 : vp_in (nI i + 1) (am_L E) := law_in (j := 1) hi (by decide) hL
  have hi2 : vp_in (nI i + 2) (am_L E) := law_in (j := 2) hi (by decide) hL
  have hi3 : vp_in (nI i + 3) (am_L E) := law_in (j := 3) hi (by decide) hL
  have hi4 : vp_in (nI i + 4) (am_L E) := law_in (j := 4) hi (by decide) hL
  have hi5 : vp_in (nI i + 5) (am_L E) := law_in (j := 5) hi (by decide) hL
  have h00 : S.1 0 = some (.inl 9) := h.lay.1 _ _ rfl
  obtain ⟨MM, nf', k', n', c1, c2, c3, c4, hM⟩ := CW_drawer (E := E) (d := 0) h (am_xs E (nI i + 1).toNatClampNeg) (am_xs E (nI i + 2).toNatClampNeg)
  have pay := law_pay h c1
  rw [← c2] at pay
  refine am_R.less (k := k' + 12 * r) (n := n' + (6200 * r + 4 * (32768 - nf'))) ?_ (by omega) (by omega)
  refine (sL_law_346 rfl (sL_law_347 rfl (sL_law_348 (sL_law_350 (sL_law_351 (sL_law_352 (by assumption) (sL_law_353 rfl (sL_law_354 (sL_law_356 (sL_law_357 (sL_law_358 (by assumption) (sL_law_359 rfl (sL_law_360_k (k' := k') (k := 12 * r) (n' := n') (n := 6200 * r + 4 * (32768 - nf')) (Nat.le_of_ble_eq_true rfl) (hM _ (fun o' S' iv' hP => ?_)))))))))))))))
  have FIN : ∀ (kk y' : Int32) (iv2 : am_I), F_X10_drawer (am_xs E (nI i + 1).toNatClampNeg) (am_xs E (nI i + 2).toNatClampNeg) iv' = some (y', iv2) → iv2 54 3 = kk → IV S' iv2 nf' → am_R E 902 mL_law (12 * r) (6200 * r + 4 * (32768 - nf')) 394 [.null, .ref 0, .ref 54, .ref 88, .int (nI i), .int kk, .int y'] [] S' iv2 LQ → am_R E 902 mL_law (12 * r) (6200 * r + 4 * (32768 - nf')) 363 [.null, .ref 0, .ref 54, .ref 88, .int (nI i), a5, a6] [.int kk] S' iv' LQ := by
    intro kk y' iv2 e2 e3 hI hgo
    have h54 : S'.1 54 = some (.inl 10) := hI.lay.1 _ _ rfl
    refine (sL_law_363 (sL_law_365 rfl (sL_law_366 rfl (sL_law_367 (sL_law_369 (sL_law_370 (sL_law_371 (by assumption) (sL_law_372 rfl (sL_law_373 (sL_law_375 (sL_law_376 (sL_law_377 (by assumption) (sL_law_378 h54 (Nat.le_of_ble_eq_true rfl) (R_X10_drawer hI.lay e2 ?_ (by omega)))))))))))))))
    refine (sL_law_381 (sL_law_383 rfl (sL_law_384 h54 (Nat.le_of_ble_eq_true rfl) (R_X10_thrown hI.lay rfl ?_ (by omega)))))
    exact (sL_law_387 (sL_law_389 (fun _ => hgo) (fun q => absurd e3 q)))
  rcases hP with ⟨rfl, y', iv2, e2, e3, hI⟩ | ⟨r', iv2, rfl, e8, e2, e3, hI⟩
  · refine FIN 1 y' iv2 e2 e3 hI ?_
    exact (sL_law_394 (sL_law_396 (fun _ => sL_law_411 (K nf' S' iv2 _ _ hI)) (fun q => absurd q (by decide))))
  · refine FIN 0 r' iv2 e2 e3 hI ?_
    have h88 : S'.1 88 = some (.inr (.long, 1)) := hI.lay.1 _ _ rfl
    refine (sL_law_394 (sL_law_396 (fun q => absurd rfl q) (fun _ => ?_)))
    exact (sL_law_399 rfl (sL_law_400 (sL_law_401 h88 (vp_lit (by decide)) (sL_law_402 (sL_law_404 (sL_law_405 (sL_law_406 (fun _ => sL_law_411 (K nf' S' iv2 _ _ hI)) (fun z => absurd ((lg_cmp_eq _ _).mpr e8) z))))))))
theorem LC_person (hi : i + 6 ≤ am_L E) (hL : am_L E ≤ 3072) (h : IV S iv nf) (K : K49 E r i) : am_R E 902 mL_law (12 * (r + 1)) (6200 * (r + 1) + 4 * (32768 - nf)) 414 [.null, .ref 0, .ref 54, .ref 88, .int (nI i), a5, a6] [] S iv LQ := by
  have hi1 : vp_in (nI i + 1) (am_L E) := law_in (j := 1) hi (by decide) hL
  have hi2 : vp_in (nI i + 2) (am_L E) := law_in (j := 2) hi (by decide) hL
  have hi3 : vp_in (nI i + 3) (am_L E) := law_in (j := 3) hi (by decide) hL
  have hi4 : vp_in (nI i + 4) (am_L E) := law_in (j := 4) hi (by decide) hL
  have hi5 : vp_in (nI i + 5) (am_L E) := law_in (j := 5) hi (by decide) hL
  have h00 : S.1 0 = some (.inl 9) := h.lay.1 _ _ rfl
  obtain ⟨MM, nf', k', n', c1, c2, c3, c4, hM⟩ := CW_person (E := E) (d := 0) h (am_xs E (nI i + 1).toNatClampNeg) (am_xs E (nI i + 2).toNatClampNeg)
  have pay := law_pay h c1
  rw [← c2] at pay
  refine am_R.less (k := k' + 12 * r) (n := n' + (6200 * r + 4 * (32768 - nf'))) ?_ (by omega) (by omega)
  refine (sL_law_414 rfl (sL_law_415 rfl (sL_law_416 (sL_law_418 (sL_law_419 (sL_law_420 (by assumption) (sL_law_421 rfl (sL_law_422 (sL_law_424 (sL_law_425 (sL_law_426 (by assumption) (sL_law_427 rfl (sL_law_428_k (k' := k') (k := 12 * r) (n' := n') (n := 6200 * r + 4 * (32768 - nf')) (Nat.le_of_ble_eq_true rfl) (hM _ (fun o' S' iv' hP => ?_)))))))))))))))
  have FIN : ∀ (kk y' : Int32) (iv2 : am_I), F_X10_person (am_xs E (nI i + 1).toNatClampNeg) (am_xs E (nI i + 2).toNatClampNeg) iv' = some (y', iv2) → iv2 54 3 = kk → IV S' iv2 nf' → am_R E 902 mL_law (12 * r) (6200 * r + 4 * (32768 - nf')) 462 [.null, .ref 0, .ref 54, .ref 88, .int (nI i), .int kk, .int y'] [] S' iv2 LQ → am_R E 902 mL_law (12 * r) (6200 * r + 4 * (32768 - nf')) 431 [.null, .ref 0, .ref 54, .ref 88, .int (nI i), a5, a6] [.int kk] S' iv' LQ := by
    intro kk y' iv2 e2 e3 hI hgo
    have h54 : S'.1 54 = some (.inl 10) := hI.lay.1 _ _ rfl
    refine (sL_law_431 (sL_law_433 rfl (sL_law_434 rfl (sL_law_435 (sL_law_437 (sL_law_438 (sL_law_439 (by assumption) (sL_law_440 rfl (sL_law_441 (sL_law_443 (sL_law_444 (sL_law_445 (by assumption) (sL_law_446 h54 (Nat.le_of_ble_eq_true rfl) (R_X10_person hI.lay e2 ?_ (by omega)))))))))))))))
    refine (sL_law_449 (sL_law_451 rfl (sL_law_452 h54 (Nat.le_of_ble_eq_true rfl) (R_X10_thrown hI.lay rfl ?_ (by omega)))))
    exact (sL_law_455 (sL_law_457 (fun _ => hgo) (fun q => absurd e3 q)))
  rcases hP with ⟨rfl, y', iv2, e2, e3, hI⟩ | ⟨r', iv2, rfl, e8, e2, e3, hI⟩
  · refine FIN 1 y' iv2 e2 e3 hI ?_
    exact (sL_law_462 (sL_law_464 (fun _ => sL_law_479 (K nf' S' iv2 _ _ hI)) (fun q => absurd q (by decide))))
  · refine FIN 0 r' iv2 e2 e3 hI ?_
    have h88 : S'.1 88 = some (.inr (.long, 1)) := hI.lay.1 _ _ rfl
    refine (sL_law_462 (sL_law_464 (fun q => absurd rfl q) (fun _ => ?_)))
    exact (sL_law_467 rfl (sL_law_468 (sL_law_469 h88 (vp_lit (by decide)) (sL_law_470 (sL_law_472 (sL_law_473 (sL_law_474 (fun _ => sL_law_479 (K nf' S' iv2 _ _ hI)) (fun z => absurd ((lg_cmp_eq _ _).mpr e8) z))))))))
theorem LC_may (hi : i + 6 ≤ am_L E) (hL : am_L E ≤ 3072) (h : IV S iv nf) (K : K49 E r i) : am_R E 902 mL_law (12 * (r + 1)) (6200 * (r + 1) + 4 * (32768 - nf)) 482 [.null, .ref 0, .ref 54, .ref 88, .int (nI i), a5, a6] [] S iv LQ := by
  have hi1 : vp_in (nI i + 1) (am_L E) := law_in (j := 1) hi (by decide) hL
  have hi2 : vp_in (nI i + 2) (am_L E) := law_in (j := 2) hi (by decide) hL
  have hi3 : vp_in (nI i + 3) (am_L E) := law_in (j := 3) hi (by decide) hL
  have hi4 : vp_in (nI i + 4) (am_L E) := law_in (j := 4) hi (by decide) hL
  have hi5 : vp_in (nI i + 5) (am_L E) := law_in (j := 5) hi (by decide) hL
  have h00 : S.1 0 = some (.inl 9) := h.lay.1 _ _ rfl
  obtain ⟨MM, nf', k', n', c1, c2, c3, c4, hM⟩ := CW_may (E := E) (d := 0) h (am_xs E (nI i + 1).toNatClampNeg)
  have pay := law_pay h c1
  rw [← c2] at pay
  refine am_R.less (k := k' + 12 * r) (n := n' + (6200 * r + 4 * (32768 - nf'))) ?_ (by omega) (by omega)
  refine (sL_law_482 rfl (sL_law_483 rfl (sL_law_484 (sL_law_486 (sL_law_487 (sL_law_488 (by assumption) (sL_law_489 rfl (sL_law_490_k (k' := k') (k := 12 * r) (n' := n') (n := 6200 * r + 4 * (32768 - nf')) (Nat.le_of_ble_eq_true rfl) (hM _ (fun o' S' iv' hP => ?_))))))))))
  have FIN : ∀ (kk y' : Int32) (iv2 : am_I), F_X10_may (am_xs E (nI i + 1).toNatClampNeg) iv' = some (y', iv2) → iv2 54 3 = kk → IV S' iv2 nf' → am_R E 902 mL_law (12 * r) (6200 * r + 4 * (32768 - nf')) 518 [.null, .ref 0, .ref 54, .ref 88, .int (nI i), .int kk, .int y'] [] S' iv2 LQ → am_R E 902 mL_law (12 * r) (6200 * r + 4 * (32768 - nf')) 493 [.null, .ref 0, .ref 54, .ref 88, .int (nI i), a5, a6] [.int kk] S' iv' LQ := by
    intro kk y' iv2 e2 e3 hI hgo
    have h54 : S'.1 54 = some (.inl 10) := hI.lay.1 _ _ rfl
    refine (sL_law_493 (sL_law_495 rfl (sL_law_496 rfl (sL_law_497 (sL_law_499 (sL_law_500 (sL_law_501 (by assumption) (sL_law_502 h54 (Nat.le_of_ble_eq_true rfl) (R_X10_may hI.lay e2 ?_ (by omega))))))))))
    refine (sL_law_505 (sL_law_507 rfl (sL_law_508 h54 (Nat.le_of_ble_eq_true rfl) (R_X10_thrown hI.lay rfl ?_ (by omega)))))
    exact (sL_law_511 (sL_law_513 (fun _ => hgo) (fun q => absurd e3 q)))
  rcases hP with ⟨rfl, y', iv2, e2, e3, hI⟩ | ⟨r', iv2, rfl, e8, e2, e3, hI⟩
  · refine FIN 1 y' iv2 e2 e3 hI ?_
    exact (sL_law_518 (sL_law_520 (fun _ => sL_law_542 (K nf' S' iv2 _ _ hI)) (fun q => absurd q (by decide))))
  · refine FIN 0 r' iv2 e2 e3 hI ?_
    have h88 : S'.1 88 = some (.inr (.long, 1)) := hI.lay.1 _ _ rfl
    refine (sL_law_518 (sL_law_520 (fun q => absurd rfl q) (fun _ => ?_)))
    have e9 : S'.2.2.1 88 0 = if r' = 0 then (0 : Int64) else 1 := e8
    refine (sL_law_523 rfl (sL_law_524 (sL_law_525 h88 (vp_lit (by decide)) (sL_law_526 (sL_law_528 (fun q => ?_) (fun q => ?_))))))
    · rw [if_pos q] at e9
      exact sL_law_535 (sL_law_536 (sL_law_537 (fun _ => sL_law_542 (K nf' S' iv2 _ _ hI)) (fun z => absurd ((lg_cmp_eq _ _).mpr e9) z)))
    · rw [if_neg q] at e9
      exact sL_law_531 (sL_law_532 (sL_law_536 (sL_law_537 (fun _ => sL_law_542 (K nf' S' iv2 _ _ hI)) (fun z => absurd ((lg_cmp_eq _ _).mpr e9) z))))
theorem LC_broken (hi : i + 6 ≤ am_L E) (hL : am_L E ≤ 3072) (h : IV S iv nf) (K : K49 E r i) : am_R E 902 mL_law (12 * (r + 1)) (6200 * (r + 1) + 4 * (32768 - nf)) 545 [.null, .ref 0, .ref 54, .ref 88, .int (nI i), a5, a6] [] S iv LQ := by
  have hi1 : vp_in (nI i + 1) (am_L E) := law_in (j := 1) hi (by decide) hL
  have hi2 : vp_in (nI i + 2) (am_L E) := law_in (j := 2) hi (by decide) hL
  have hi3 : vp_in (nI i + 3) (am_L E) := law_in (j := 3) hi (by decide) hL
  have hi4 : vp_in (nI i + 4) (am_L E) := law_in (j := 4) hi (by decide) hL
  have hi5 : vp_in (nI i + 5) (am_L E) := law_in (j := 5) hi (by decide) hL
  have h00 : S.1 0 = some (.inl 9) := h.lay.1 _ _ rfl
  obtain ⟨MM, nf', k', n', c1, c2, c3, c4, hM⟩ := CW_broken (E := E) (d := 0) h (am_xs E (nI i + 1).toNatClampNeg)
  have pay := law_pay h c1
  rw [← c2] at pay
  refine am_R.less (k := k' + 12 * r) (n := n' + (6200 * r + 4 * (32768 - nf'))) ?_ (by omega) (by omega)
  refine (sL_law_545 rfl (sL_law_546 rfl (sL_law_547 (sL_law_549 (sL_law_550 (sL_law_551 (by assumption) (sL_law_552 rfl (sL_law_553_k (k' := k') (k := 12 * r) (n' := n') (n := 6200 * r + 4 * (32768 - nf')) (Nat.le_of_ble_eq_true rfl) (hM _ (fun o' S' iv' hP => ?_))))))))))
  have FIN : ∀ (kk y' : Int32) (iv2 : am_I), F_X10_broken (am_xs E (nI i + 1).toNatClampNeg) iv' = some (y', iv2) → iv2 54 3 = kk → IV S' iv2 nf' → am_R E 902 mL_law (12 * r) (6200 * r + 4 * (32768 - nf')) 581 [.null, .ref 0, .ref 54, .ref 88, .int (nI i), .int kk, .int y'] [] S' iv2 LQ → am_R E 902 mL_law (12 * r) (6200 * r + 4 * (32768 - nf')) 556 [.null, .ref 0, .ref 54, .ref 88, .int (nI i), a5, a6] [.int kk] S' iv' LQ := by
    intro kk y' iv2 e2 e3 hI hgo
    have h54 : S'.1 54 = some (.inl 10) := hI.lay.1 _ _ rfl
    refine (sL_law_556 (sL_law_558 rfl (sL_law_559 rfl (sL_law_560 (sL_law_562 (sL_law_563 (sL_law_564 (by assumption) (sL_law_565 h54 (Nat.le_of_ble_eq_true rfl) (R_X10_broken hI.lay e2 ?_ (by omega))))))))))
    refine (sL_law_568 (sL_law_570 rfl (sL_law_571 h54 (Nat.le_of_ble_eq_true rfl) (R_X10_thrown hI.lay rfl ?_ (by omega)))))
    exact (sL_law_574 (sL_law_576 (fun _ => hgo) (fun q => absurd e3 q)))
  rcases hP with ⟨rfl, y', iv2, e2, e3, hI⟩ | ⟨r', iv2, rfl, e8, e2, e3, hI⟩
  · refine FIN 1 y' iv2 e2 e3 hI ?_
    exact (sL_law_581 (sL_law_583 (fun _ => sL_law_598 (K nf' S' iv2 _ _ hI)) (fun q => absurd q (by decide))))
  · refine FIN 0 r' iv2 e2 e3 hI ?_
    have h88 : S'.1 88 = some (.inr (.long, 1)) := hI.lay.1 _ _ rfl
    refine (sL_law_581 (sL_law_583 (fun q => absurd rfl q) (fun _ => ?_)))
    exact (sL_law_586 rfl (sL_law_587 (sL_law_588 h88 (vp_lit (by decide)) (sL_law_589 (sL_law_591 (sL_law_592 (sL_law_593 (fun _ => sL_law_598 (K nf' S' iv2 _ _ hI)) (fun z => absurd ((lg_cmp_eq _ _).mpr e8) z))))))))
theorem LC_move (hi : i + 6 ≤ am_L E) (hL : am_L E ≤ 3072) (h : IV S iv nf) (K : K49 E r i) : am_R E 902 mL_law (12 * (r + 1)) (6200 * (r + 1) + 4 * (32768 - nf)) 601 [.null, .ref 0, .ref 54, .ref 88, .int (nI i), a5, a6] [] S iv LQ := by
  have hi1 : vp_in (nI i + 1) (am_L E) := law_in (j := 1) hi (by decide) hL
  have hi2 : vp_in (nI i + 2) (am_L E) := law_in (j := 2) hi (by decide) hL
  have hi3 : vp_in (nI i + 3) (am_L E) := law_in (j := 3) hi (by decide) hL
  have hi4 : vp_in (nI i + 4) (am_L E) := law_in (j := 4) hi (by decide) hL
  have hi5 : vp_in (nI i + 5) (am_L E) := law_in (j := 5) hi (by decide) hL
  have h00 : S.1 0 = some (.inl 9) := h.lay.1 _ _ rfl
  obtain ⟨MM, nf', k', n', c1, c2, c3, c4, hM⟩ := CC_move (E := E) (d := 1) h (am_xs E (nI i + 1).toNatClampNeg)
  have pay := law_pay h c1
  rw [← c2] at pay
  refine am_R.less (k := k' + 12 * r) (n := n' + (6200 * r + 4 * (32768 - nf'))) ?_ (by omega) (by omega)
  refine (sL_law_601 rfl (sL_law_602 rfl (sL_law_603 (sL_law_605 (sL_law_606 (sL_law_607 (by assumption) (sL_law_608_k (k' := k') (k := 12 * r) (n' := n') (n := 6200 * r + 4 * (32768 - nf')) h00 (Nat.le_of_ble_eq_true rfl) (hM _ (fun o' S' iv' hP => ?_)))))))))
  obtain ⟨r', iv2, rfl, e2, hI⟩ := hP
  have h54 : S'.1 54 = some (.inl 10) := hI.lay.1 _ _ rfl
  refine (sL_law_611 rfl (sL_law_612 rfl (sL_law_613 (sL_law_615 (sL_law_616 (sL_law_617 (by assumption) (sL_law_618 h54 (Nat.le_of_ble_eq_true rfl) (R_X10_move hI.lay e2 ?_ (by omega)))))))))
  exact sL_law_621 (fun _ => K nf' S' iv2 _ _ hI) (fun q => absurd rfl q)
theorem LC_undo (hi : i + 6 ≤ am_L E) (hL : am_L E ≤ 3072) (h : IV S iv nf) (K : K49 E r i) : am_R E 902 mL_law (12 * (r + 1)) (6200 * (r + 1) + 4 * (32768 - nf)) 626 [.null, .ref 0, .ref 54, .ref 88, .int (nI i), a5, a6] [] S iv LQ := by
  have hi1 : vp_in (nI i + 1) (am_L E) := law_in (j := 1) hi (by decide) hL
  have hi2 : vp_in (nI i + 2) (am_L E) := law_in (j := 2) hi (by decide) hL
  have hi3 : vp_in (nI i + 3) (am_L E) := law_in (j := 3) hi (by decide) hL
  have hi4 : vp_in (nI i + 4) (am_L E) := law_in (j := 4) hi (by decide) hL
  have hi5 : vp_in (nI i + 5) (am_L E) := law_in (j := 5) hi (by decide) hL
  have h00 : S.1 0 = some (.inl 9) := h.lay.1 _ _ rfl
  obtain ⟨MM, nf', k', n', c1, c2, c3, c4, hM⟩ := CC_undo (E := E) (d := 1) h 
  have pay := law_pay h c1
  rw [← c2] at pay
  refine am_R.less (k := k' + 12 * r) (n := n' + (6200 * r + 4 * (32768 - nf'))) ?_ (by omega) (by omega)
  refine (sL_law_626 rfl (sL_law_627_k (k' := k') (k := 12 * r) (n' := n') (n := 6200 * r + 4 * (32768 - nf')) h00 (Nat.le_of_ble_eq_true rfl) (hM _ (fun o' S' iv' hP => ?_))))
  obtain ⟨r', iv2, rfl, e2, hI⟩ := hP
  have h54 : S'.1 54 = some (.inl 10) := hI.lay.1 _ _ rfl
  refine (sL_law_630 rfl (sL_law_631 h54 (Nat.le_of_ble_eq_true rfl) (R_X10_undo hI.lay e2 ?_ (by omega))))
  exact sL_law_634 (fun _ => K nf' S' iv2 _ _ hI) (fun q => absurd rfl q)
theorem LC_sleeps (hi : i + 6 ≤ am_L E) (hL : am_L E ≤ 3072) (h : IV S iv nf) (K : K49 E r i) : am_R E 902 mL_law (12 * (r + 1)) (6200 * (r + 1) + 4 * (32768 - nf)) 639 [.null, .ref 0, .ref 54, .ref 88, .int (nI i), a5, a6] [] S iv LQ := by
  have hi1 : vp_in (nI i + 1) (am_L E) := law_in (j := 1) hi (by decide) hL
  have hi2 : vp_in (nI i + 2) (am_L E) := law_in (j := 2) hi (by decide) hL
  have hi3 : vp_in (nI i + 3) (am_L E) := law_in (j := 3) hi (by decide) hL
  have hi4 : vp_in (nI i + 4) (am_L E) := law_in (j := 4) hi (by decide) hL
  have hi5 : vp_in (nI i + 5) (am_L E) := law_in (j := 5) hi (by decide) hL
  have h00 : S.1 0 = some (.inl 9) := h.lay.1 _ _ rfl
  generalize hv : (am_xs E (nI i + 2).toNatClampNeg) = v2
  have G : ∀ b : Int32, (v2 = 0 ∧ b = 0 ∨ ¬ v2 = 0 ∧ b = 1) → am_R E 902 mL_law (12 * (r + 1)) (6200 * (r + 1) + 4 * (32768 - nf)) 660 [.null, .ref 0, .ref 54, .ref 88, .int (nI i), a5, a6] [.int b, .int (am_xs E (nI i + 1).toNatClampNeg), .ref 0] S iv LQ := by
    intro b hb
    obtain ⟨MM, nf', k', n', c1, c2, c3, c4, hM⟩ := CW_sleeps (E := E) (d := 0) h (am_xs E (nI i + 1).toNatClampNeg) b
    have pay := law_pay h c1
    rw [← c2] at pay
    refine am_R.less (k := k' + 12 * r) (n := n' + (6200 * r + 4 * (32768 - nf'))) ?_ (by omega) (by omega)
    refine sL_law_660_k (k' := k') (k := 12 * r) (n' := n') (n := 6200 * r + 4 * (32768 - nf')) (Nat.le_of_ble_eq_true rfl) (hM _ (fun o' S' iv' hP => ?_))
    have FIN : ∀ (kk : Int32) (y' : Int32) (iv2 : am_I), (F_X10_sleeps (am_xs E (nI i + 1).toNatClampNeg) b iv').map (fun z => ((0 : Int32), z)) = some (y', iv2) → iv2 54 3 = kk → IV S' iv2 nf' → am_R E 902 mL_law (12 * r) (6200 * r + 4 * (32768 - nf')) 663 [.null, .ref 0, .ref 54, .ref 88, .int (nI i), a5, a6] [.int kk] S' iv' LQ := by
      intro kk y' iv2 e2 e3 hI
      have h54 : S'.1 54 = some (.inl 10) := hI.lay.1 _ _ rfl
      have e4 : F_X10_sleeps (am_xs E (nI i + 1).toNatClampNeg) b iv' = some iv2 := by
        cases e5 : F_X10_sleeps (am_xs E (nI i + 1).toNatClampNeg) b iv' with
        | none => rw [e5] at e2; cases e2
        | some z => rw [e5] at e2; cases e2; rfl
      have G2 : am_R E 902 mL_law (12 * r) (6200 * r + 4 * (32768 - nf')) 686 [.null, .ref 0, .ref 54, .ref 88, .int (nI i), .int kk, a6] [.int b, .int (am_xs E (nI i + 1).toNatClampNeg), .ref 54] S' iv' LQ := by
        refine sL_law_686 h54 (Nat.le_of_ble_eq_true rfl) (R_X10_sleeps hI.lay e4 ?_ (by omega))
        refine sL_law_689 rfl (sL_law_690 h54 (Nat.le_of_ble_eq_true rfl) (R_X10_thrown hI.lay rfl ?_ (by omega)))
        exact sL_law_693 (sL_law_695 (fun _ => sL_law_700 (K nf' S' iv2 _ _ hI)) (fun q => absurd e3 q))

      refine (sL_law_663 (sL_law_665 rfl (sL_law_666 rfl (sL_law_667 (sL_law_669 (sL_law_670 (sL_law_671 (by assumption) (sL_law_672 rfl (sL_law_673 (sL_law_675 (sL_law_676 (sL_law_677 (by assumption) ?_))))))))))))
      rw [hv]
      rcases hb with ⟨z1, z2⟩ | ⟨z1, z2⟩
      · subst z2
        exact sL_law_678 (fun _ => sL_law_685 G2) (fun q => absurd z1 q)
      · subst z2
        exact sL_law_678 (fun q => absurd q z1) (fun _ => sL_law_681 (sL_law_682 G2))
    rcases hP with ⟨rfl, y', iv2, e2, e3, hI⟩ | ⟨r', iv2, rfl, e2, e3, hI⟩
    · exact FIN 1 y' iv2 e2 e3 hI
    · exact FIN 0 r' iv2 e2 e3 hI
  refine (sL_law_639 rfl (sL_law_640 rfl (sL_law_641 (sL_law_643 (sL_law_644 (sL_law_645 (by assumption) (sL_law_646 rfl (sL_law_647 (sL_law_649 (sL_law_650 (sL_law_651 (by assumption) ?_)))))))))))
  rw [hv]
  refine sL_law_652 (fun q => sL_law_659 (G 0 (Or.inl ⟨q, rfl⟩))) (fun q => sL_law_655 (sL_law_656 (G 1 (Or.inr ⟨q, rfl⟩))))
theorem LC_opens (hi : i + 6 ≤ am_L E) (hL : am_L E ≤ 3072) (h : IV S iv nf) (K : K49 E r i) : am_R E 902 mL_law (12 * (r + 1)) (6200 * (r + 1) + 4 * (32768 - nf)) 703 [.null, .ref 0, .ref 54, .ref 88, .int (nI i), a5, a6] [] S iv LQ := by
  have hi1 : vp_in (nI i + 1) (am_L E) := law_in (j := 1) hi (by decide) hL
  have hi2 : vp_in (nI i + 2) (am_L E) := law_in (j := 2) hi (by decide) hL
  have hi3 : vp_in (nI i + 3) (am_L E) := law_in (j := 3) hi (by decide) hL
  have hi4 : vp_in (nI i + 4) (am_L E) := law_in (j := 4) hi (by decide) hL
  have hi5 : vp_in (nI i + 5) (am_L E) := law_in (j := 5) hi (by decide) hL
  have h00 : S.1 0 = some (.inl 9) := h.lay.1 _ _ rfl
  obtain ⟨MM, nf', k', n', c1, c2, c3, c4, hM⟩ := CW_opens (E := E) (d := 0) h (am_xs E (nI i + 1).toNatClampNeg)
  have pay := law_pay h c1
  rw [← c2] at pay
  refine am_R.less (k := k' + 12 * r) (n := n' + (6200 * r + 4 * (32768 - nf'))) ?_ (by omega) (by omega)
  refine (sL_law_703 rfl (sL_law_704 rfl (sL_law_705 (sL_law_707 (sL_law_708 (sL_law_709 (by assumption) (sL_law_710 rfl (sL_law_711_k (k' := k') (k := 12 * r) (n' := n') (n := 6200 * r + 4 * (32768 - nf')) (Nat.le_of_ble_eq_true rfl) (hM _ (fun o' S' iv' hP => ?_))))))))))
  have FIN : ∀ (kk y' : Int32) (iv2 : am_I), F_X10_opens (am_xs E (nI i + 1).toNatClampNeg) iv' = some (y', iv2) → iv2 54 3 = kk → IV S' iv2 nf' → am_R E 902 mL_law (12 * r) (6200 * r + 4 * (32768 - nf')) 739 [.null, .ref 0, .ref 54, .ref 88, .int (nI i), .int kk, .int y'] [] S' iv2 LQ → am_R E 902 mL_law (12 * r) (6200 * r + 4 * (32768 - nf')) 714 [.null, .ref 0, .ref 54, .ref 88, .int (nI i), a5, a6] [.int kk] S' iv' LQ := by
    intro kk y' iv2 e2 e3 hI hgo
    have h54 : S'.1 54 = some (.inl 10) := hI.lay.1 _ _ rfl
    refine (sL_law_714 (sL_law_716 rfl (sL_law_717 rfl (sL_law_718 (sL_law_720 (sL_law_721 (sL_law_722 (by assumption) (sL_law_723 h54 (Nat.le_of_ble_eq_true rfl) (R_X10_opens hI.lay e2 ?_ (by omega))))))))))
    refine (sL_law_726 (sL_law_728 rfl (sL_law_729 h54 (Nat.le_of_ble_eq_true rfl) (R_X10_thrown hI.lay rfl ?_ (by omega)))))
    exact (sL_law_732 (sL_law_734 (fun _ => hgo) (fun q => absurd e3 q)))
  rcases hP with ⟨rfl, y', iv2, e2, e3, hI⟩ | ⟨r', iv2, rfl, e8, e2, e3, hI⟩
  · refine FIN 1 y' iv2 e2 e3 hI ?_
    exact (sL_law_739 (sL_law_741 (fun _ => sL_law_756 (K nf' S' iv2 _ _ hI)) (fun q => absurd q (by decide))))
  · refine FIN 0 r' iv2 e2 e3 hI ?_
    have h88 : S'.1 88 = some (.inr (.long, 1)) := hI.lay.1 _ _ rfl
    refine (sL_law_739 (sL_law_741 (fun q => absurd rfl q) (fun _ => ?_)))
    exact (sL_law_744 rfl (sL_law_745 (sL_law_746 h88 (vp_lit (by decide)) (sL_law_747 (sL_law_749 (sL_law_750 (sL_law_751 (fun _ => sL_law_756 (K nf' S' iv2 _ _ hI)) (fun z => absurd ((lg_cmp_eq _ _).mpr e8) z))))))))
theorem LC_shuts (hi : i + 6 ≤ am_L E) (hL : am_L E ≤ 3072) (h : IV S iv nf) (K : K49 E r i) : am_R E 902 mL_law (12 * (r + 1)) (6200 * (r + 1) + 4 * (32768 - nf)) 759 [.null, .ref 0, .ref 54, .ref 88, .int (nI i), a5, a6] [] S iv LQ := by
  have hi1 : vp_in (nI i + 1) (am_L E) := law_in (j := 1) hi (by decide) hL
  have hi2 : vp_in (nI i + 2) (am_L E) := law_in (j := 2) hi (by decide) hL
  have hi3 : vp_in (nI i + 3) (am_L E) := law_in (j := 3) hi (by decide) hL
  have hi4 : vp_in (nI i + 4) (am_L E) := law_in (j := 4) hi (by decide) hL
  have hi5 : vp_in (nI i + 5) (am_L E) := law_in (j := 5) hi (by decide) hL
  have h00 : S.1 0 = some (.inl 9) := h.lay.1 _ _ rfl
  obtain ⟨MM, nf', k', n', c1, c2, c3, c4, hM⟩ := CW_shuts (E := E) (d := 0) h (am_xs E (nI i + 1).toNatClampNeg)
  have pay := law_pay h c1
  rw [← c2] at pay
  refine am_R.less (k := k' + 12 * r) (n := n' + (6200 * r + 4 * (32768 - nf'))) ?_ (by omega) (by omega)
  refine (sL_law_759 rfl (sL_law_760 rfl (sL_law_761 (sL_law_763 (sL_law_764 (sL_law_765 (by assumption) (sL_law_766 rfl (sL_law_767_k (k' := k') (k := 12 * r) (n' := n') (n := 6200 * r + 4 * (32768 - nf')) (Nat.le_of_ble_eq_true rfl) (hM _ (fun o' S' iv' hP => ?_))))))))))
  have FIN : ∀ (kk y' : Int32) (iv2 : am_I), F_X10_shuts (am_xs E (nI i + 1).toNatClampNeg) iv' = some (y', iv2) → iv2 54 3 = kk → IV S' iv2 nf' → am_R E 902 mL_law (12 * r) (6200 * r + 4 * (32768 - nf')) 795 [.null, .ref 0, .ref 54, .ref 88, .int (nI i), .int kk, .int y'] [] S' iv2 LQ → am_R E 902 mL_law (12 * r) (6200 * r + 4 * (32768 - nf')) 770 [.null, .ref 0, .ref 54, .ref 88, .int (nI i), a5, a6] [.int kk] S' iv' LQ := by
    intro kk y' iv2 e2 e3 hI hgo
    have h54 : S'.1 54 = some (.inl 10) := hI.lay.1 _ _ rfl
    refine (sL_law_770 (sL_law_772 rfl (sL_law_773 rfl (sL_law_774 (sL_law_776 (sL_law_777 (sL_law_778 (by assumption) (sL_law_779 h54 (Nat.le_of_ble_eq_true rfl) (R_X10_shuts hI.lay e2 ?_ (by omega))))))))))
    refine (sL_law_782 (sL_law_784 rfl (sL_law_785 h54 (Nat.le_of_ble_eq_true rfl) (R_X10_thrown hI.lay rfl ?_ (by omega)))))
    exact (sL_law_788 (sL_law_790 (fun _ => hgo) (fun q => absurd e3 q)))
  rcases hP with ⟨rfl, y', iv2, e2, e3, hI⟩ | ⟨r', iv2, rfl, e8, e2, e3, hI⟩
  · refine FIN 1 y' iv2 e2 e3 hI ?_
    exact (sL_law_795 (sL_law_797 (fun _ => sL_law_812 (K nf' S' iv2 _ _ hI)) (fun q => absurd q (by decide))))
  · refine FIN 0 r' iv2 e2 e3 hI ?_
    have h88 : S'.1 88 = some (.inr (.long, 1)) := hI.lay.1 _ _ rfl
    refine (sL_law_795 (sL_law_797 (fun q => absurd rfl q) (fun _ => ?_)))
    exact (sL_law_800 rfl (sL_law_801 (sL_law_802 h88 (vp_lit (by decide)) (sL_law_803 (sL_law_805 (sL_law_806 (sL_law_807 (fun _ => sL_law_812 (K nf' S' iv2 _ _ hI)) (fun z => absurd ((lg_cmp_eq _ _).mpr e8) z))))))))
theorem LC_bread (hi : i + 6 ≤ am_L E) (hL : am_L E ≤ 3072) (h : IV S iv nf) (K : K49 E r i) : am_R E 902 mL_law (12 * (r + 1)) (6200 * (r + 1) + 4 * (32768 - nf)) 815 [.null, .ref 0, .ref 54, .ref 88, .int (nI i), a5, a6] [] S iv LQ := by
  have hi1 : vp_in (nI i + 1) (am_L E) := law_in (j := 1) hi (by decide) hL
  have hi2 : vp_in (nI i + 2) (am_L E) := law_in (j := 2) hi (by decide) hL
  have hi3 : vp_in (nI i + 3) (am_L E) := law_in (j := 3) hi (by decide) hL
  have hi4 : vp_in (nI i + 4) (am_L E) := law_in (j := 4) hi (by decide) hL
  have hi5 : vp_in (nI i + 5) (am_L E) := law_in (j := 5) hi (by decide) hL
  have h00 : S.1 0 = some (.inl 9) := h.lay.1 _ _ rfl
  obtain ⟨MM, nf', k', n', c1, c2, c3, c4, hM⟩ := CC_bread (E := E) (d := 1) h 
  have pay := law_pay h c1
  rw [← c2] at pay
  refine am_R.less (k := k' + 12 * r) (n := n' + (6200 * r + 4 * (32768 - nf'))) ?_ (by omega) (by omega)
  refine (sL_law_815 rfl (sL_law_816_k (k' := k') (k := 12 * r) (n' := n') (n := 6200 * r + 4 * (32768 - nf')) h00 (Nat.le_of_ble_eq_true rfl) (hM _ (fun o' S' iv' hP => ?_))))
  obtain ⟨r', iv2, rfl, e2, hI⟩ := hP
  have h54 : S'.1 54 = some (.inl 10) := hI.lay.1 _ _ rfl
  refine (sL_law_819 rfl (sL_law_820 h54 (Nat.le_of_ble_eq_true rfl) (R_X10_bread hI.lay e2 ?_ (by omega))))
  exact sL_law_823 (fun _ => K nf' S' iv2 _ _ hI) (fun q => absurd rfl q)
theorem LC_row (hi : i + 6 ≤ am_L E) (hL : am_L E ≤ 3072) (h : IV S iv nf) (K : K49 E r i) : am_R E 902 mL_law (12 * (r + 1)) (6200 * (r + 1) + 4 * (32768 - nf)) 828 [.null, .ref 0, .ref 54, .ref 88, .int (nI i), a5, a6] [] S iv LQ := by
  have hi1 : vp_in (nI i + 1) (am_L E) := law_in (j := 1) hi (by decide) hL
  have hi2 : vp_in (nI i + 2) (am_L E) := law_in (j := 2) hi (by decide) hL
  have hi3 : vp_in (nI i + 3) (am_L E) := law_in (j := 3) hi (by decide) hL
  have hi4 : vp_in (nI i + 4) (am_L E) := law_in (j := 4) hi (by decide) hL
  have hi5 : vp_in (nI i + 5) (am_L E) := law_in (j := 5) hi (by decide) hL
  have h00 : S.1 0 = some (.inl 9) := h.lay.1 _ _ rfl
  obtain ⟨MM, nf', k', n', c1, c2, c3, c4, hM⟩ := CW_row (E := E) (d := 0) h (am_xs E (nI i + 1).toNatClampNeg)
  have pay := law_pay h c1
  rw [← c2] at pay
  refine am_R.less (k := k' + 12 * r) (n := n' + (6200 * r + 4 * (32768 - nf'))) ?_ (by omega) (by omega)
  refine (sL_law_828 rfl (sL_law_829 rfl (sL_law_830 (sL_law_832 (sL_law_833 (sL_law_834 (by assumption) (sL_law_835 rfl (sL_law_836_k (k' := k') (k := 12 * r) (n' := n') (n := 6200 * r + 4 * (32768 - nf')) (Nat.le_of_ble_eq_true rfl) (hM _ (fun o' S' iv' hP => ?_))))))))))
  have FIN : ∀ (kk y' : Int32) (iv2 : am_I), F_X10_row (am_xs E (nI i + 1).toNatClampNeg) iv' = some (y', iv2) → iv2 54 3 = kk → IV S' iv2 nf' → am_R E 902 mL_law (12 * r) (6200 * r + 4 * (32768 - nf')) 864 [.null, .ref 0, .ref 54, .ref 88, .int (nI i), .int kk, .int y'] [] S' iv2 LQ → am_R E 902 mL_law (12 * r) (6200 * r + 4 * (32768 - nf')) 839 [.null, .ref 0, .ref 54, .ref 88, .int (nI i), a5, a6] [.int kk] S' iv' LQ := by
    intro kk y' iv2 e2 e3 hI hgo
    have h54 : S'.1 54 = some (.inl 10) := hI.lay.1 _ _ rfl
    refine (sL_law_839 (sL_law_841 rfl (sL_law_842 rfl (sL_law_843 (sL_law_845 (sL_law_846 (sL_law_847 (by assumption) (sL_law_848 h54 (Nat.le_of_ble_eq_true rfl) (R_X10_row hI.lay e2 ?_ (by omega))))))))))
    refine (sL_law_851 (sL_law_853 rfl (sL_law_854 h54 (Nat.le_of_ble_eq_true rfl) (R_X10_thrown hI.lay rfl ?_ (by omega)))))
    exact (sL_law_857 (sL_law_859 (fun _ => hgo) (fun q => absurd e3 q)))
  rcases hP with ⟨rfl, y', iv2, e2, e3, hI⟩ | ⟨r', iv2, rfl, e8, e2, e3, hI⟩
  · refine FIN 1 y' iv2 e2 e3 hI ?_
    exact (sL_law_864 (sL_law_866 (fun _ => sL_law_881 (K nf' S' iv2 _ _ hI)) (fun q => absurd q (by decide))))
  · refine FIN 0 r' iv2 e2 e3 hI ?_
    have h88 : S'.1 88 = some (.inr (.long, 1)) := hI.lay.1 _ _ rfl
    refine (sL_law_864 (sL_law_866 (fun q => absurd rfl q) (fun _ => ?_)))
    exact (sL_law_869 rfl (sL_law_870 (sL_law_871 h88 (vp_lit (by decide)) (sL_law_872 (sL_law_874 (sL_law_875 (sL_law_876 (fun _ => sL_law_881 (K nf' S' iv2 _ _ hI)) (fun z => absurd ((lg_cmp_eq _ _).mpr e8) z))))))))
theorem LC_harm (hi : i + 6 ≤ am_L E) (hL : am_L E ≤ 3072) (h : IV S iv nf) (K : K49 E r i) : am_R E 902 mL_law (12 * (r + 1)) (6200 * (r + 1) + 4 * (32768 - nf)) 884 [.null, .ref 0, .ref 54, .ref 88, .int (nI i), a5, a6] [] S iv LQ := by
  have hi1 : vp_in (nI i + 1) (am_L E) := law_in (j := 1) hi (by decide) hL
  have hi2 : vp_in (nI i + 2) (am_L E) := law_in (j := 2) hi (by decide) hL
  have hi3 : vp_in (nI i + 3) (am_L E) := law_in (j := 3) hi (by decide) hL
  have hi4 : vp_in (nI i + 4) (am_L E) := law_in (j := 4) hi (by decide) hL
  have hi5 : vp_in (nI i + 5) (am_L E) := law_in (j := 5) hi (by decide) hL
  have h00 : S.1 0 = some (.inl 9) := h.lay.1 _ _ rfl
  obtain ⟨MM, nf', k', n', c1, c2, c3, c4, hM⟩ := CW_harm (E := E) (d := 0) h (am_xs E (nI i + 1).toNatClampNeg)
  have pay := law_pay h c1
  rw [← c2] at pay
  refine am_R.less (k := k' + 12 * r) (n := n' + (6200 * r + 4 * (32768 - nf'))) ?_ (by omega) (by omega)
  refine (sL_law_884 rfl (sL_law_885 rfl (sL_law_886 (sL_law_888 (sL_law_889 (sL_law_890 (by assumption) (sL_law_891 rfl (sL_law_892_k (k' := k') (k := 12 * r) (n' := n') (n := 6200 * r + 4 * (32768 - nf')) (Nat.le_of_ble_eq_true rfl) (hM _ (fun o' S' iv' hP => ?_))))))))))
  have FIN : ∀ (kk y' : Int32) (iv2 : am_I), F_X10_harm (am_xs E (nI i + 1).toNatClampNeg) iv' = some (y', iv2) → iv2 54 3 = kk → IV S' iv2 nf' → am_R E 902 mL_law (12 * r) (6200 * r + 4 * (32768 - nf')) 920 [.null, .ref 0, .ref 54, .ref 88, .int (nI i), .int kk, .int y'] [] S' iv2 LQ → am_R E 902 mL_law (12 * r) (6200 * r + 4 * (32768 - nf')) 895 [.null, .ref 0, .ref 54, .ref 88, .int (nI i), a5, a6] [.int kk] S' iv' LQ := by
    intro kk y' iv2 e2 e3 hI hgo
    have h54 : S'.1 54 = some (.inl 10) := hI.lay.1 _ _ rfl
    refine (sL_law_895 (sL_law_897 rfl (sL_law_898 rfl (sL_law_899 (sL_law_901 (sL_law_902 (sL_law_903 (by assumption) (sL_law_904 h54 (Nat.le_of_ble_eq_true rfl) (R_X10_harm hI.lay e2 ?_ (by omega))))))))))
    refine (sL_law_907 (sL_law_909 rfl (sL_law_910 h54 (Nat.le_of_ble_eq_true rfl) (R_X10_thrown hI.lay rfl ?_ (by omega)))))
    exact (sL_law_913 (sL_law_915 (fun _ => hgo) (fun q => absurd e3 q)))
  rcases hP with ⟨rfl, y', iv2, e2, e3, hI⟩ | ⟨r', iv2, rfl, e8, e2, e3, hI⟩
  · refine FIN 1 y' iv2 e2 e3 hI ?_
    exact (sL_law_920 (sL_law_922 (fun _ => sL_law_937 (K nf' S' iv2 _ _ hI)) (fun q => absurd q (by decide))))
  · refine FIN 0 r' iv2 e2 e3 hI ?_
    have h88 : S'.1 88 = some (.inr (.long, 1)) := hI.lay.1 _ _ rfl
    refine (sL_law_920 (sL_law_922 (fun q => absurd rfl q) (fun _ => ?_)))
    exact (sL_law_925 rfl (sL_law_926 (sL_law_927 h88 (vp_lit (by decide)) (sL_law_928 (sL_law_930 (sL_law_931 (sL_law_932 (fun _ => sL_law_937 (K nf' S' iv2 _ _ hI)) (fun z => absurd ((lg_cmp_eq _ _).mpr e8) z))))))))
theorem LC_married (hi : i + 6 ≤ am_L E) (hL : am_L E ≤ 3072) (h : IV S iv nf) (K : K49 E r i) : am_R E 902 mL_law (12 * (r + 1)) (6200 * (r + 1) + 4 * (32768 - nf)) 940 [.null, .ref 0, .ref 54, .ref 88, .int (nI i), a5, a6] [] S iv LQ := by
  have hi1 : vp_in (nI i + 1) (am_L E) := law_in (j := 1) hi (by decide) hL
  have hi2 : vp_in (nI i + 2) (am_L E) := law_in (j := 2) hi (by decide) hL
  have hi3 : vp_in (nI i + 3) (am_L E) := law_in (j := 3) hi (by decide) hL
  have hi4 : vp_in (nI i + 4) (am_L E) := law_in (j := 4) hi (by decide) hL
  have hi5 : vp_in (nI i + 5) (am_L E) := law_in (j := 5) hi (by decide) hL
  have h00 : S.1 0 = some (.inl 9) := h.lay.1 _ _ rfl
  obtain ⟨MM, nf', k', n', c1, c2, c3, c4, hM⟩ := CW_married (E := E) (d := 0) h (am_xs E (nI i + 1).toNatClampNeg) (am_xs E (nI i + 2).toNatClampNeg)
  have pay := law_pay h c1
  rw [← c2] at pay
  refine am_R.less (k := k' + 12 * r) (n := n' + (6200 * r + 4 * (32768 - nf'))) ?_ (by omega) (by omega)
  refine (sL_law_940 rfl (sL_law_941 rfl (sL_law_942 (sL_law_944 (sL_law_945 (sL_law_946 (by assumption) (sL_law_947 rfl (sL_law_948 (sL_law_950 (sL_law_951 (sL_law_952 (by assumption) (sL_law_953 rfl (sL_law_954_k (k' := k') (k := 12 * r) (n' := n') (n := 6200 * r + 4 * (32768 - nf')) (Nat.le_of_ble_eq_true rfl) (hM _ (fun o' S' iv' hP => ?_)))))))))))))))
  have FIN : ∀ (kk y' : Int32) (iv2 : am_I), F_X10_married (am_xs E (nI i + 1).toNatClampNeg) (am_xs E (nI i + 2).toNatClampNeg) iv' = some (y', iv2) → iv2 54 3 = kk → IV S' iv2 nf' → am_R E 902 mL_law (12 * r) (6200 * r + 4 * (32768 - nf')) 988 [.null, .ref 0, .ref 54, .ref 88, .int (nI i), .int kk, .int y'] [] S' iv2 LQ → am_R E 902 mL_law (12 * r) (6200 * r + 4 * (32768 - nf')) 957 [.null, .ref 0, .ref 54, .ref 88, .int (nI i), a5, a6] [.int kk] S' iv' LQ := by
    intro kk y' iv2 e2 e3 hI hgo
    have h54 : S'.1 54 = some (.inl 10) := hI.lay.1 _ _ rfl
    refine (sL_law_957 (sL_law_959 rfl (sL_law_960 rfl (sL_law_961 (sL_law_963 (sL_law_964 (sL_law_965 (by assumption) (sL_law_966 rfl (sL_law_967 (sL_law_969 (sL_law_970 (sL_law_971 (by assumption) (sL_law_972 h54 (Nat.le_of_ble_eq_true rfl) (R_X10_married hI.lay e2 ?_ (by omega)))))))))))))))
    refine (sL_law_975 (sL_law_977 rfl (sL_law_978 h54 (Nat.le_of_ble_eq_true rfl) (R_X10_thrown hI.lay rfl ?_ (by omega)))))
    exact (sL_law_981 (sL_law_983 (fun _ => hgo) (fun q => absurd e3 q)))
  rcases hP with ⟨rfl, y', iv2, e2, e3, hI⟩ | ⟨r', iv2, rfl, e8, e2, e3, hI⟩
  · refine FIN 1 y' iv2 e2 e3 hI ?_
    exact (sL_law_988 (sL_law_990 (fun _ => sL_law_1005 (K nf' S' iv2 _ _ hI)) (fun q => absurd q (by decide))))
  · refine FIN 0 r' iv2 e2 e3 hI ?_
    have h88 : S'.1 88 = some (.inr (.long, 1)) := hI.lay.1 _ _ rfl
    refine (sL_law_988 (sL_law_990 (fun q => absurd rfl q) (fun _ => ?_)))
    exact (sL_law_993 rfl (sL_law_994 (sL_law_995 h88 (vp_lit (by decide)) (sL_law_996 (sL_law_998 (sL_law_999 (sL_law_1000 (fun _ => sL_law_1005 (K nf' S' iv2 _ _ hI)) (fun z => absurd ((lg_cmp_eq _ _).mpr e8) z))))))))
theorem LC_rent (hi : i + 6 ≤ am_L E) (hL : am_L E ≤ 3072) (h : IV S iv nf) (K : K49 E r i) : am_R E 902 mL_law (12 * (r + 1)) (6200 * (r + 1) + 4 * (32768 - nf)) 1008 [.null, .ref 0, .ref 54, .ref 88, .int (nI i), a5, a6] [] S iv LQ := by
  have hi1 : vp_in (nI i + 1) (am_L E) := law_in (j := 1) hi (by decide) hL
  have hi2 : vp_in (nI i + 2) (am_L E) := law_in (j := 2) hi (by decide) hL
  have hi3 : vp_in (nI i + 3) (am_L E) := law_in (j := 3) hi (by decide) hL
  have hi4 : vp_in (nI i + 4) (am_L E) := law_in (j := 4) hi (by decide) hL
  have hi5 : vp_in (nI i + 5) (am_L E) := law_in (j := 5) hi (by decide) hL
  have h00 : S.1 0 = some (.inl 9) := h.lay.1 _ _ rfl
  obtain ⟨MM, nf', k', n', c1, c2, c3, c4, hM⟩ := CC_rent (E := E) (d := 1) h 
  have pay := law_pay h c1
  rw [← c2] at pay
  refine am_R.less (k := k' + 12 * r) (n := n' + (6200 * r + 4 * (32768 - nf'))) ?_ (by omega) (by omega)
  refine (sL_law_1008 rfl (sL_law_1009_k (k' := k') (k := 12 * r) (n' := n') (n := 6200 * r + 4 * (32768 - nf')) h00 (Nat.le_of_ble_eq_true rfl) (hM _ (fun o' S' iv' hP => ?_))))
  obtain ⟨r', iv2, rfl, e2, hI⟩ := hP
  have h54 : S'.1 54 = some (.inl 10) := hI.lay.1 _ _ rfl
  refine (sL_law_1012 rfl (sL_law_1013 h54 (Nat.le_of_ble_eq_true rfl) (R_X10_rent hI.lay e2 ?_ (by omega))))
  exact sL_law_1016 (fun _ => K nf' S' iv2 _ _ hI) (fun q => absurd rfl q)
theorem LC_wind (hi : i + 6 ≤ am_L E) (hL : am_L E ≤ 3072) (h : IV S iv nf) (K : K49 E r i) : am_R E 902 mL_law (12 * (r + 1)) (6200 * (r + 1) + 4 * (32768 - nf)) 1021 [.null, .ref 0, .ref 54, .ref 88, .int (nI i), a5, a6] [] S iv LQ := by
  have hi1 : vp_in (nI i + 1) (am_L E) := law_in (j := 1) hi (by decide) hL
  have hi2 : vp_in (nI i + 2) (am_L E) := law_in (j := 2) hi (by decide) hL
  have hi3 : vp_in (nI i + 3) (am_L E) := law_in (j := 3) hi (by decide) hL
  have hi4 : vp_in (nI i + 4) (am_L E) := law_in (j := 4) hi (by decide) hL
  have hi5 : vp_in (nI i + 5) (am_L E) := law_in (j := 5) hi (by decide) hL
  have h00 : S.1 0 = some (.inl 9) := h.lay.1 _ _ rfl
  obtain ⟨MM, nf', k', n', c1, c2, c3, c4, hM⟩ := CW_wind (E := E) (d := 0) h (am_xs E (nI i + 1).toNatClampNeg) (am_xs E (nI i + 2).toNatClampNeg)
  have pay := law_pay h c1
  rw [← c2] at pay
  refine am_R.less (k := k' + 12 * r) (n := n' + (6200 * r + 4 * (32768 - nf'))) ?_ (by omega) (by omega)
  refine (sL_law_1021 rfl (sL_law_1022 rfl (sL_law_1023 (sL_law_1025 (sL_law_1026 (sL_law_1027 (by assumption) (sL_law_1028 rfl (sL_law_1029 (sL_law_1031 (sL_law_1032 (sL_law_1033 (by assumption) (sL_law_1034 rfl (sL_law_1035_k (k' := k') (k := 12 * r) (n' := n') (n := 6200 * r + 4 * (32768 - nf')) (Nat.le_of_ble_eq_true rfl) (hM _ (fun o' S' iv' hP => ?_)))))))))))))))
  have FIN : ∀ (kk y' : Int32) (iv2 : am_I), F_X10_wind (am_xs E (nI i + 1).toNatClampNeg) (am_xs E (nI i + 2).toNatClampNeg) iv' = some (y', iv2) → iv2 54 3 = kk → IV S' iv2 nf' → am_R E 902 mL_law (12 * r) (6200 * r + 4 * (32768 - nf')) 1069 [.null, .ref 0, .ref 54, .ref 88, .int (nI i), .int kk, .int y'] [] S' iv2 LQ → am_R E 902 mL_law (12 * r) (6200 * r + 4 * (32768 - nf')) 1038 [.null, .ref 0, .ref 54, .ref 88, .int (nI i), a5, a6] [.int kk] S' iv' LQ := by
    intro kk y' iv2 e2 e3 hI hgo
    have h54 : S'.1 54 = some (.inl 10) := hI.lay.1 _ _ rfl
    refine (sL_law_1038 (sL_law_1040 rfl (sL_law_1041 rfl (sL_law_1042 (sL_law_1044 (sL_law_1045 (sL_law_1046 (by assumption) (sL_law_1047 rfl (sL_law_1048 (sL_law_1050 (sL_law_1051 (sL_law_1052 (by assumption) (sL_law_1053 h54 (Nat.le_of_ble_eq_true rfl) (R_X10_wind hI.lay e2 ?_ (by omega)))))))))))))))
    refine (sL_law_1056 (sL_law_1058 rfl (sL_law_1059 h54 (Nat.le_of_ble_eq_true rfl) (R_X10_thrown hI.lay rfl ?_ (by omega)))))
    exact (sL_law_1062 (sL_law_1064 (fun _ => hgo) (fun q => absurd e3 q)))
  rcases hP with ⟨rfl, y', iv2, e2, e3, hI⟩ | ⟨r', iv2, rfl, e8, e2, e3, hI⟩
  · refine FIN 1 y' iv2 e2 e3 hI ?_
    exact (sL_law_1069 (sL_law_1071 (fun _ => sL_law_1086 (K nf' S' iv2 _ _ hI)) (fun q => absurd q (by decide))))
  · refine FIN 0 r' iv2 e2 e3 hI ?_
    have h88 : S'.1 88 = some (.inr (.long, 1)) := hI.lay.1 _ _ rfl
    refine (sL_law_1069 (sL_law_1071 (fun q => absurd rfl q) (fun _ => ?_)))
    exact (sL_law_1074 rfl (sL_law_1075 (sL_law_1076 h88 (vp_lit (by decide)) (sL_law_1077 (sL_law_1079 (sL_law_1080 (sL_law_1081 (fun _ => sL_law_1086 (K nf' S' iv2 _ _ hI)) (fun z => absurd ((lg_cmp_eq _ _).mpr e8) z))))))))
theorem LC_who (hi : i + 6 ≤ am_L E) (hL : am_L E ≤ 3072) (h : IV S iv nf) (K : K49 E r i) : am_R E 902 mL_law (12 * (r + 1)) (6200 * (r + 1) + 4 * (32768 - nf)) 1089 [.null, .ref 0, .ref 54, .ref 88, .int (nI i), a5, a6] [] S iv LQ := by
  have hi1 : vp_in (nI i + 1) (am_L E) := law_in (j := 1) hi (by decide) hL
  have hi2 : vp_in (nI i + 2) (am_L E) := law_in (j := 2) hi (by decide) hL
  have hi3 : vp_in (nI i + 3) (am_L E) := law_in (j := 3) hi (by decide) hL
  have hi4 : vp_in (nI i + 4) (am_L E) := law_in (j := 4) hi (by decide) hL
  have hi5 : vp_in (nI i + 5) (am_L E) := law_in (j := 5) hi (by decide) hL
  have h00 : S.1 0 = some (.inl 9) := h.lay.1 _ _ rfl
  obtain ⟨MM, nf', k', n', c1, c2, c3, c4, hM⟩ := CW_who (E := E) (d := 0) h (am_xs E (nI i + 1).toNatClampNeg)
  have pay := law_pay h c1
  rw [← c2] at pay
  refine am_R.less (k := k' + 12 * r) (n := n' + (6200 * r + 4 * (32768 - nf'))) ?_ (by omega) (by omega)
  refine (sL_law_1089 rfl (sL_law_1090 rfl (sL_law_1091 (sL_law_1093 (sL_law_1094 (sL_law_1095 (by assumption) (sL_law_1096 rfl (sL_law_1097_k (k' := k') (k := 12 * r) (n' := n') (n := 6200 * r + 4 * (32768 - nf')) (Nat.le_of_ble_eq_true rfl) (hM _ (fun o' S' iv' hP => ?_))))))))))
  have FIN : ∀ (kk y' : Int32) (iv2 : am_I), F_X10_who (am_xs E (nI i + 1).toNatClampNeg) iv' = some (y', iv2) → iv2 54 3 = kk → IV S' iv2 nf' → am_R E 902 mL_law (12 * r) (6200 * r + 4 * (32768 - nf')) 1125 [.null, .ref 0, .ref 54, .ref 88, .int (nI i), .int kk, .int y'] [] S' iv2 LQ → am_R E 902 mL_law (12 * r) (6200 * r + 4 * (32768 - nf')) 1100 [.null, .ref 0, .ref 54, .ref 88, .int (nI i), a5, a6] [.int kk] S' iv' LQ := by
    intro kk y' iv2 e2 e3 hI hgo
    have h54 : S'.1 54 = some (.inl 10) := hI.lay.1 _ _ rfl
    refine (sL_law_1100 (sL_law_1102 rfl (sL_law_1103 rfl (sL_law_1104 (sL_law_1106 (sL_law_1107 (sL_law_1108 (by assumption) (sL_law_1109 h54 (Nat.le_of_ble_eq_true rfl) (R_X10_who hI.lay e2 ?_ (by omega))))))))))
    refine (sL_law_1112 (sL_law_1114 rfl (sL_law_1115 h54 (Nat.le_of_ble_eq_true rfl) (R_X10_thrown hI.lay rfl ?_ (by omega)))))
    exact (sL_law_1118 (sL_law_1120 (fun _ => hgo) (fun q => absurd e3 q)))
  rcases hP with ⟨rfl, y', iv2, e2, e3, hI⟩ | ⟨r', iv2, rfl, e8, e2, e3, hI⟩
  · refine FIN 1 y' iv2 e2 e3 hI ?_
    exact (sL_law_1125 (sL_law_1127 (fun _ => sL_law_1142 (K nf' S' iv2 _ _ hI)) (fun q => absurd q (by decide))))
  · refine FIN 0 r' iv2 e2 e3 hI ?_
    have h88 : S'.1 88 = some (.inr (.long, 1)) := hI.lay.1 _ _ rfl
    refine (sL_law_1125 (sL_law_1127 (fun q => absurd rfl q) (fun _ => ?_)))
    exact (sL_law_1130 rfl (sL_law_1131 (sL_law_1132 h88 (vp_lit (by decide)) (sL_law_1133 (sL_law_1135 (sL_law_1136 (sL_law_1137 (fun _ => sL_law_1142 (K nf' S' iv2 _ _ hI)) (fun z => absurd ((lg_cmp_eq _ _).mpr e8) z))))))))
theorem LC_odds (hi : i + 6 ≤ am_L E) (hL : am_L E ≤ 3072) (h : IV S iv nf) (K : K49 E r i) : am_R E 902 mL_law (12 * (r + 1)) (6200 * (r + 1) + 4 * (32768 - nf)) 1145 [.null, .ref 0, .ref 54, .ref 88, .int (nI i), a5, a6] [] S iv LQ := by
  have hi1 : vp_in (nI i + 1) (am_L E) := law_in (j := 1) hi (by decide) hL
  have hi2 : vp_in (nI i + 2) (am_L E) := law_in (j := 2) hi (by decide) hL
  have hi3 : vp_in (nI i + 3) (am_L E) := law_in (j := 3) hi (by decide) hL
  have hi4 : vp_in (nI i + 4) (am_L E) := law_in (j := 4) hi (by decide) hL
  have hi5 : vp_in (nI i + 5) (am_L E) := law_in (j := 5) hi (by decide) hL
  have h00 : S.1 0 = some (.inl 9) := h.lay.1 _ _ rfl
  obtain ⟨MM, nf', k', n', c1, c2, c3, c4, hM⟩ := CW_odds (E := E) (d := 0) h (am_xs E (nI i + 1).toNatClampNeg) (am_xs E (nI i + 2).toNatClampNeg) (am_xs E (nI i + 3).toNatClampNeg)
  have pay := law_pay h c1
  rw [← c2] at pay
  refine am_R.less (k := k' + 12 * r) (n := n' + (6200 * r + 4 * (32768 - nf'))) ?_ (by omega) (by omega)
  refine (sL_law_1145 rfl (sL_law_1146 rfl (sL_law_1147 (sL_law_1149 (sL_law_1150 (sL_law_1151 (by assumption) (sL_law_1152 rfl (sL_law_1153 (sL_law_1155 (sL_law_1156 (sL_law_1157 (by assumption) (sL_law_1158 rfl (sL_law_1159 (sL_law_1161 (sL_law_1162 (sL_law_1163 (by assumption) (sL_law_1164 rfl (sL_law_1165_k (k' := k') (k := 12 * r) (n' := n') (n := 6200 * r + 4 * (32768 - nf')) (Nat.le_of_ble_eq_true rfl) (hM _ (fun o' S' iv' hP => ?_))))))))))))))))))))
  have FIN : ∀ (kk y' : Int32) (iv2 : am_I), F_X10_odds (am_xs E (nI i + 1).toNatClampNeg) (am_xs E (nI i + 2).toNatClampNeg) (am_xs E (nI i + 3).toNatClampNeg) iv' = some (y', iv2) → iv2 54 3 = kk → IV S' iv2 nf' → am_R E 902 mL_law (12 * r) (6200 * r + 4 * (32768 - nf')) 1205 [.null, .ref 0, .ref 54, .ref 88, .int (nI i), .int kk, .int y'] [] S' iv2 LQ → am_R E 902 mL_law (12 * r) (6200 * r + 4 * (32768 - nf')) 1168 [.null, .ref 0, .ref 54, .ref 88, .int (nI i), a5, a6] [.int kk] S' iv' LQ := by
    intro kk y' iv2 e2 e3 hI hgo
    have h54 : S'.1 54 = some (.inl 10) := hI.lay.1 _ _ rfl
    refine (sL_law_1168 (sL_law_1170 rfl (sL_law_1171 rfl (sL_law_1172 (sL_law_1174 (sL_law_1175 (sL_law_1176 (by assumption) (sL_law_1177 rfl (sL_law_1178 (sL_law_1180 (sL_law_1181 (sL_law_1182 (by assumption) (sL_law_1183 rfl (sL_law_1184 (sL_law_1186 (sL_law_1187 (sL_law_1188 (by assumption) (sL_law_1189 h54 (Nat.le_of_ble_eq_true rfl) (R_X10_odds hI.lay e2 ?_ (by omega))))))))))))))))))))
    refine (sL_law_1192 (sL_law_1194 rfl (sL_law_1195 h54 (Nat.le_of_ble_eq_true rfl) (R_X10_thrown hI.lay rfl ?_ (by omega)))))
    exact (sL_law_1198 (sL_law_1200 (fun _ => hgo) (fun q => absurd e3 q)))
  rcases hP with ⟨rfl, y', iv2, e2, e3, hI⟩ | ⟨r', iv2, rfl, e8, e2, e3, hI⟩
  · refine FIN 1 y' iv2 e2 e3 hI ?_
    exact (sL_law_1205 (sL_law_1207 (fun _ => sL_law_1222 (K nf' S' iv2 _ _ hI)) (fun q => absurd q (by decide))))
  · refine FIN 0 r' iv2 e2 e3 hI ?_
    have h88 : S'.1 88 = some (.inr (.long, 1)) := hI.lay.1 _ _ rfl
    refine (sL_law_1205 (sL_law_1207 (fun q => absurd rfl q) (fun _ => ?_)))
    exact (sL_law_1210 rfl (sL_law_1211 (sL_law_1212 h88 (vp_lit (by decide)) (sL_law_1213 (sL_law_1215 (sL_law_1216 (sL_law_1217 (fun _ => sL_law_1222 (K nf' S' iv2 _ _ hI)) (fun z => absurd ((lg_cmp_eq _ _).mpr e8) z))))))))
theorem LC_image (hi : i + 6 ≤ am_L E) (hL : am_L E ≤ 3072) (h : IV S iv nf) (K : K49 E r i) : am_R E 902 mL_law (12 * (r + 1)) (6200 * (r + 1) + 4 * (32768 - nf)) 1225 [.null, .ref 0, .ref 54, .ref 88, .int (nI i), a5, a6] [] S iv LQ := by
  have hi1 : vp_in (nI i + 1) (am_L E) := law_in (j := 1) hi (by decide) hL
  have hi2 : vp_in (nI i + 2) (am_L E) := law_in (j := 2) hi (by decide) hL
  have hi3 : vp_in (nI i + 3) (am_L E) := law_in (j := 3) hi (by decide) hL
  have hi4 : vp_in (nI i + 4) (am_L E) := law_in (j := 4) hi (by decide) hL
  have hi5 : vp_in (nI i + 5) (am_L E) := law_in (j := 5) hi (by decide) hL
  have h00 : S.1 0 = some (.inl 9) := h.lay.1 _ _ rfl
  obtain ⟨MM, nf', k', n', c1, c2, c3, c4, hM⟩ := CC_image (E := E) (d := 1) h 
  have pay := law_pay h c1
  rw [← c2] at pay
  refine am_R.less (k := k' + 12 * r) (n := n' + (6200 * r + 4 * (32768 - nf'))) ?_ (by omega) (by omega)
  refine (sL_law_1225 rfl (sL_law_1226_k (k' := k') (k := 12 * r) (n' := n') (n := 6200 * r + 4 * (32768 - nf')) h00 (Nat.le_of_ble_eq_true rfl) (hM _ (fun o' S' iv' hP => ?_))))
  obtain ⟨r', iv2, rfl, e2, hI⟩ := hP
  have h54 : S'.1 54 = some (.inl 10) := hI.lay.1 _ _ rfl
  have e4 : F_X10_image iv' = some iv2 := by
    replace e2 : (F_X10_image iv').map (fun z => ((0 : Int32), z)) = some (r', iv2) := e2
    cases e5 : F_X10_image iv' with
    | none => rw [e5] at e2; cases e2
    | some z => rw [e5] at e2; cases e2; rfl
  refine (sL_law_1229 rfl (sL_law_1230 h54 (Nat.le_of_ble_eq_true rfl) (R_X10_image hI.lay e4 ?_ (by omega))))
  exact sL_law_1233 (K nf' S' iv2 _ _ hI)
theorem LC_restore (hi : i + 6 ≤ am_L E) (hL : am_L E ≤ 3072) (h : IV S iv nf) (K : K49 E r i) : am_R E 902 mL_law (12 * (r + 1)) (6200 * (r + 1) + 4 * (32768 - nf)) 1236 [.null, .ref 0, .ref 54, .ref 88, .int (nI i), a5, a6] [] S iv LQ := by
  have hi1 : vp_in (nI i + 1) (am_L E) := law_in (j := 1) hi (by decide) hL
  have hi2 : vp_in (nI i + 2) (am_L E) := law_in (j := 2) hi (by decide) hL
  have hi3 : vp_in (nI i + 3) (am_L E) := law_in (j := 3) hi (by decide) hL
  have hi4 : vp_in (nI i + 4) (am_L E) := law_in (j := 4) hi (by decide) hL
  have hi5 : vp_in (nI i + 5) (am_L E) := law_in (j := 5) hi (by decide) hL
  have h00 : S.1 0 = some (.inl 9) := h.lay.1 _ _ rfl
  obtain ⟨MM, nf', k', n', c1, c2, c3, c4, hM⟩ := CC_restore (E := E) (d := 1) h 
  have pay := law_pay h c1
  rw [← c2] at pay
  refine am_R.less (k := k' + 12 * r) (n := n' + (6200 * r + 4 * (32768 - nf'))) ?_ (by omega) (by omega)
  refine (sL_law_1236 rfl (sL_law_1237_k (k' := k') (k := 12 * r) (n' := n') (n := 6200 * r + 4 * (32768 - nf')) h00 (Nat.le_of_ble_eq_true rfl) (hM _ (fun o' S' iv' hP => ?_))))
  obtain ⟨r', iv2, rfl, e2, hI⟩ := hP
  have h54 : S'.1 54 = some (.inl 10) := hI.lay.1 _ _ rfl
  refine (sL_law_1240 rfl (sL_law_1241 h54 (Nat.le_of_ble_eq_true rfl) (R_X10_restore hI.lay e2 ?_ (by omega))))
  exact sL_law_1244 (fun _ => K nf' S' iv2 _ _ hI) (fun q => absurd rfl q)
end B98
