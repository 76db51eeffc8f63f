/-! ===== the law ===== -/
def KL (L : Nat) (xs : Nat → Int32) : CxT := fun _ _ ad _ A _ _ _ R s _ args below meth _ cells slots Q => R = room_1 ∧ A = (fun q : Nat => s.heap.size ≤ q) ∧ cells ≤ 600000 ∧ slots ≤ 7302250 ∧ va_X (ad 100) L xs s s.heap ∧ ad 100 < s.heap.size ∧ args = #[Value.ref (ad 100)] ∧ Q = lw_Z below #[Value.ref (ad 100)] s ∧ meth.sig.returnType = ret ∧ meth.locks = false
section XL
variable {L : Nat} {xs : Nat → Int32} {own : String} {cc : ByteArray} {nL d : Nat} {h : Hp} {pc : Nat} {lv : List (Nat × Value)} {st : List Value}
theorem x_ret1 (hd : decode code pc = .ok (.ireturn, 1)) : X (KL L xs) own code nL d h pc lv [.int 1] := by
  intro dC dI ad cA A p l e R s m args below meth c cells slots Q hK hB H locs ls hW hl
  obtain ⟨rfl, rfl, hc, hs, hX, hbl, rfl, rfl, hr, hlk⟩ := hK
  refine va_forget (fun q hq => hW.2.2.2 q hq) ?_
  refine W.widen (k := 600000) (n := 7302250) hc hs ?_
  exact lw_ret hB.1 hB.2.1 hr hlk hd
theorem x_sld {i : Int32} (hin : inI i L) (hd : decode cc pc = .ok (.iaload, 1)) (k : X (KL L xs) own cc nL d h (pc + 1) lv (.int (xs i.toNatClampNeg) :: st)) : X (KL L xs) own cc nL d h pc lv (.int i :: .ref 100 :: st) := by
  intro dC dI ad cA A p l e R s m args below meth c cells slots Q hK hB H locs ls hW hl
  have hK' := hK
  obtain ⟨hR, rfl, hc, hs, hX, hbl, hrest⟩ := hK
  exact va_sld hB.1 hB.2.1 hX hbl (Nat.not_le.mpr hbl) hW.2 (in_vp hin) hd (k dC dI ad cA _ p l e R s m args below meth c cells slots Q hK' hB H locs ls hW hl)
theorem x_slen (hd : decode cc pc = .ok (.arraylength, 1)) (k : X (KL L xs) own cc nL d h (pc + 1) lv (.int (nI L) :: st)) : X (KL L xs) own cc nL d h pc lv (.ref 100 :: st) := by
  intro dC dI ad cA A p l e R s m args below meth c cells slots Q hK hB H locs ls hW hl
  have hK' := hK
  obtain ⟨hR, rfl, hc, hs, hX, hbl, hrest⟩ := hK
  exact va_slen hB.1 hB.2.1 hX hbl (Nat.not_le.mpr hbl) hW.2 hd (k dC dI ad cA _ p l e R s m args below meth c cells slots Q hK' hB H locs ls hW hl)
theorem x_arg {i k : Nat} (d0 : decode cc pc = .ok (.aload_n 0, 1)) (d1 : decode cc (pc + 1) = .ok (.iload_n 3, 1)) {z : Int} (d2 : decode cc (pc + 2) = .ok (.iconst z, 1)) (hz : Int32.ofInt z = nI k) (d3 : decode cc (pc + 3) = .ok (.iadd, 1)) (d4 : decode cc (pc + 4) = .ok (.iaload, 1)) (hL : L ≤ 3072) (hi : i + k < L) (kk : X (KL L xs) own cc nL d h (pc + 5) [(3, .int (nI i)), (2, .ref 32), (1, .ref 0), (0, .ref 100)] (.int (xs (i + k)) :: st)) : X (KL L xs) own cc nL d h pc [(3, .int (nI i)), (2, .ref 32), (1, .ref 0), (0, .ref 100)] st := by
  refine x_aload_n d0 rfl 3 rfl ?_
  refine x_iload_n d1 rfl 0 rfl ?_
  refine x_iconst (v := nI k) d2 hz ?_
  refine x_iadd d3 ?_
  rw [nI_add]
  refine x_sld (inI_n hi (by omega)) d4 ?_
  rw [nI_clamp (by omega)]
  exact kk
end XL
theorem lcmp_self (r : Int64) : lcmp r r = 0 := by
  unfold lcmp lg_cmp
  have h : ¬ r > r := fun q => by have := Int64.lt_iff_toInt_lt.mp q; omega
  rw [if_neg h, if_pos rfl]
set_option maxRecDepth 20000 in
theorem lc_0 {L i d n a : Nat} {xs : Nat → Int32} {h : Hp} {g : Nat → Nat → Bool} {fd : Int32} {sh : Sh} (hL : L ≤ 3072) (hi : i + 6 ≤ L) (G : Gd n g a sh) (hC : CX h n g a fd sh) (hM : MX h n g a fd sh) (kk : ∀ (h' : Hp) (n' : Nat) (g' : Nat → Nat → Bool) (a' : Nat) (fd' : Int32) (sh' : Sh), Gd n' g' a' sh' → CX h' n' g' a' fd' sh' → MX h' n' g' a' fd' sh' → X (KL L xs) RL code 4 (d + 21) h' 1192 [(3, .int (nI i)), (2, .ref 32), (1, .ref 0), (0, .ref 100)] []) : X (KL L xs) RL code 4 (d + 21) h 192 [(3, .int (nI i)), (2, .ref 32), (1, .ref 0), (0, .ref 100)] [] := by
  refine x_aload_n dL_law_192 rfl 2 rfl ?_
  refine x_arg (k := 1) dL_law_193 dL_law_194 dL_law_195 (by decide) dL_law_196 dL_law_197 hL (by omega) ?_
  obtain ⟨r, n', g', a', fd', sh', G', C, M⟩ := op_lines (fd := fd) G (xs (i + 1))
  refine x_vI vl_L_13 dL_law_198 (As := [.int (xs (i + 1))]) rfl rfl (Nat.le_of_ble_eq_true rfl) (C d h _ hC (fun h1 hC1 hF1 => ?_))
  refine x_aload_n dL_law_201 rfl 1 rfl ?_
  refine x_arg (k := 1) dL_law_202 dL_law_203 dL_law_204 (by decide) dL_law_205 dL_law_206 hL (by omega) ?_
  refine x_vI vl_L_17 dL_law_207 (As := [.int (xs (i + 1))]) rfl rfl (Nat.le_of_ble_eq_true rfl) (M d h1 _ (hM.keep hF1) (fun h2 hM2 hF2 => ?_))
  exact x_icmp_eq (tgt := 1192) dL_law_210 (by decide) (fun _ => kk h2 _ _ _ _ _ G' (hC1.keep hF2) hM2) (fun q => absurd rfl q)
set_option maxRecDepth 20000 in
theorem lc_1 {L i d n a : Nat} {xs : Nat → Int32} {h : Hp} {g : Nat → Nat → Bool} {fd : Int32} {sh : Sh} (hL : L ≤ 3072) (hi : i + 6 ≤ L) (G : Gd n g a sh) (hC : CX h n g a fd sh) (hM : MX h n g a fd sh) (kk : ∀ (h' : Hp) (n' : Nat) (g' : Nat → Nat → Bool) (a' : Nat) (fd' : Int32) (sh' : Sh), Gd n' g' a' sh' → CX h' n' g' a' fd' sh' → MX h' n' g' a' fd' sh' → X (KL L xs) RL code 4 (d + 21) h' 1192 [(3, .int (nI i)), (2, .ref 32), (1, .ref 0), (0, .ref 100)] []) : X (KL L xs) RL code 4 (d + 21) h 215 [(3, .int (nI i)), (2, .ref 32), (1, .ref 0), (0, .ref 100)] [] := by
  refine x_aload_n dL_law_215 rfl 2 rfl ?_
  refine x_arg (k := 1) dL_law_216 dL_law_217 dL_law_218 (by decide) dL_law_219 dL_law_220 hL (by omega) ?_
  refine x_arg (k := 2) dL_law_221 dL_law_222 dL_law_223 (by decide) dL_law_224 dL_law_225 hL (by omega) ?_
  refine x_arg (k := 3) dL_law_226 dL_law_227 dL_law_228 (by decide) dL_law_229 dL_law_230 hL (by omega) ?_
  obtain ⟨r, n', g', a', fd', sh', G', C, M⟩ := op_sign (fd := fd) G (xs (i + 1)) (xs (i + 2)) (xs (i + 3))
  refine x_vI vl_L_18 dL_law_231 (As := [.int (xs (i + 1)), .int (xs (i + 2)), .int (xs (i + 3))]) rfl rfl (Nat.le_of_ble_eq_true rfl) (C d h _ hC (fun h1 hC1 hF1 => ?_))
  refine x_aload_n dL_law_234 rfl 1 rfl ?_
  refine x_arg (k := 1) dL_law_235 dL_law_236 dL_law_237 (by decide) dL_law_238 dL_law_239 hL (by omega) ?_
  refine x_arg (k := 2) dL_law_240 dL_law_241 dL_law_242 (by decide) dL_law_243 dL_law_244 hL (by omega) ?_
  refine x_arg (k := 3) dL_law_245 dL_law_246 dL_law_247 (by decide) dL_law_248 dL_law_249 hL (by omega) ?_
  refine x_vI vl_L_22 dL_law_250 (As := [.int (xs (i + 1)), .int (xs (i + 2)), .int (xs (i + 3))]) rfl rfl (Nat.le_of_ble_eq_true rfl) (M d h1 _ (hM.keep hF1) (fun h2 hM2 hF2 => ?_))
  exact x_icmp_eq (tgt := 1192) dL_law_253 (by decide) (fun _ => kk h2 _ _ _ _ _ G' (hC1.keep hF2) hM2) (fun q => absurd rfl q)
set_option maxRecDepth 20000 in
theorem lc_2 {L i d n a : Nat} {xs : Nat → Int32} {h : Hp} {g : Nat → Nat → Bool} {fd : Int32} {sh : Sh} (hL : L ≤ 3072) (hi : i + 6 ≤ L) (G : Gd n g a sh) (hC : CX h n g a fd sh) (hM : MX h n g a fd sh) (kk : ∀ (h' : Hp) (n' : Nat) (g' : Nat → Nat → Bool) (a' : Nat) (fd' : Int32) (sh' : Sh), Gd n' g' a' sh' → CX h' n' g' a' fd' sh' → MX h' n' g' a' fd' sh' → X (KL L xs) RL code 4 (d + 21) h' 1192 [(3, .int (nI i)), (2, .ref 32), (1, .ref 0), (0, .ref 100)] []) : X (KL L xs) RL code 4 (d + 21) h 258 [(3, .int (nI i)), (2, .ref 32), (1, .ref 0), (0, .ref 100)] [] := by
  refine x_aload_n dL_law_258 rfl 2 rfl ?_
  refine x_arg (k := 1) dL_law_259 dL_law_260 dL_law_261 (by decide) dL_law_262 dL_law_263 hL (by omega) ?_
  refine x_arg (k := 2) dL_law_264 dL_law_265 dL_law_266 (by decide) dL_law_267 dL_law_268 hL (by omega) ?_
  obtain ⟨r, n', g', a', fd', sh', G', C, M⟩ := op_at (fd := fd) G (xs (i + 1)) (xs (i + 2))
  refine x_vI vl_L_23 dL_law_269 (As := [.int (xs (i + 1)), .int (xs (i + 2))]) rfl rfl (Nat.le_of_ble_eq_true rfl) (C d h _ hC (fun h1 hC1 hF1 => ?_))
  refine x_aload_n dL_law_272 rfl 1 rfl ?_
  refine x_arg (k := 1) dL_law_273 dL_law_274 dL_law_275 (by decide) dL_law_276 dL_law_277 hL (by omega) ?_
  refine x_arg (k := 2) dL_law_278 dL_law_279 dL_law_280 (by decide) dL_law_281 dL_law_282 hL (by omega) ?_
  refine x_vI vl_L_27 dL_law_283 (As := [.int (xs (i + 1)), .int (xs (i + 2))]) rfl rfl (Nat.le_of_ble_eq_true rfl) (M d h1 _ (hM.keep hF1) (fun h2 hM2 hF2 => ?_))
  exact x_icmp_eq (tgt := 1192) dL_law_286 (by decide) (fun _ => kk h2 _ _ _ _ _ G' (hC1.keep hF2) hM2) (fun q => absurd rfl q)
set_option maxRecDepth 20000 in
theorem lc_3 {L i d n a : Nat} {xs : Nat → Int32} {h : Hp} {g : Nat → Nat → Bool} {fd : Int32} {sh : Sh} (hL : L ≤ 3072) (hi : i + 6 ≤ L) (G : Gd n g a sh) (hC : CX h n g a fd sh) (hM : MX h n g a fd sh) (kk : ∀ (h' : Hp) (n' : Nat) (g' : Nat → Nat → Bool) (a' : Nat) (fd' : Int32) (sh' : Sh), Gd n' g' a' sh' → CX h' n' g' a' fd' sh' → MX h' n' g' a' fd' sh' → X (KL L xs) RL code 4 (d + 21) h' 1192 [(3, .int (nI i)), (2, .ref 32), (1, .ref 0), (0, .ref 100)] []) : X (KL L xs) RL code 4 (d + 21) h 291 [(3, .int (nI i)), (2, .ref 32), (1, .ref 0), (0, .ref 100)] [] := by
  refine x_aload_n dL_law_291 rfl 2 rfl ?_
  refine x_arg (k := 1) dL_law_292 dL_law_293 dL_law_294 (by decide) dL_law_295 dL_law_296 hL (by omega) ?_
  obtain ⟨r, n', g', a', fd', sh', G', C, M⟩ := op_turn (fd := fd) G (xs (i + 1))
  refine x_vI vl_L_28 dL_law_297 (As := [.int (xs (i + 1))]) rfl rfl (Nat.le_of_ble_eq_true rfl) (C d h _ hC (fun h1 hC1 hF1 => ?_))
  refine x_aload_n dL_law_300 rfl 1 rfl ?_
  refine x_arg (k := 1) dL_law_301 dL_law_302 dL_law_303 (by decide) dL_law_304 dL_law_305 hL (by omega) ?_
  refine x_vI vl_L_31 dL_law_306 (As := [.int (xs (i + 1))]) rfl rfl (Nat.le_of_ble_eq_true rfl) (M d h1 _ (hM.keep hF1) (fun h2 hM2 hF2 => ?_))
  exact x_icmp_eq (tgt := 1192) dL_law_309 (by decide) (fun _ => kk h2 _ _ _ _ _ G' (hC1.keep hF2) hM2) (fun q => absurd rfl q)
set_option maxRecDepth 20000 in
theorem lc_4 {L i d n a : Nat} {xs : Nat → Int32} {h : Hp} {g : Nat → Nat → Bool} {fd : Int32} {sh : Sh} (hL : L ≤ 3072) (hi : i + 6 ≤ L) (G : Gd n g a sh) (hC : CX h n g a fd sh) (hM : MX h n g a fd sh) (kk : ∀ (h' : Hp) (n' : Nat) (g' : Nat → Nat → Bool) (a' : Nat) (fd' : Int32) (sh' : Sh), Gd n' g' a' sh' → CX h' n' g' a' fd' sh' → MX h' n' g' a' fd' sh' → X (KL L xs) RL code 4 (d + 21) h' 1192 [(3, .int (nI i)), (2, .ref 32), (1, .ref 0), (0, .ref 100)] []) : X (KL L xs) RL code 4 (d + 21) h 314 [(3, .int (nI i)), (2, .ref 32), (1, .ref 0), (0, .ref 100)] [] := by
  refine x_aload_n dL_law_314 rfl 2 rfl ?_
  refine x_arg (k := 1) dL_law_315 dL_law_316 dL_law_317 (by decide) dL_law_318 dL_law_319 hL (by omega) ?_
  refine x_arg (k := 2) dL_law_320 dL_law_321 dL_law_322 (by decide) dL_law_323 dL_law_324 hL (by omega) ?_
  obtain ⟨r, n', g', a', fd', sh', G', C, M⟩ := op_change (fd := fd) G (xs (i + 1)) (xs (i + 2))
  refine x_vI vl_L_32 dL_law_325 (As := [.int (xs (i + 1)), .int (xs (i + 2))]) rfl rfl (Nat.le_of_ble_eq_true rfl) (C d h _ hC (fun h1 hC1 hF1 => ?_))
  refine x_aload_n dL_law_328 rfl 1 rfl ?_
  refine x_arg (k := 1) dL_law_329 dL_law_330 dL_law_331 (by decide) dL_law_332 dL_law_333 hL (by omega) ?_
  refine x_arg (k := 2) dL_law_334 dL_law_335 dL_law_336 (by decide) dL_law_337 dL_law_338 hL (by omega) ?_
  refine x_vI vl_L_35 dL_law_339 (As := [.int (xs (i + 1)), .int (xs (i + 2))]) rfl rfl (Nat.le_of_ble_eq_true rfl) (M d h1 _ (hM.keep hF1) (fun h2 hM2 hF2 => ?_))
  exact x_icmp_eq (tgt := 1192) dL_law_342 (by decide) (fun _ => kk h2 _ _ _ _ _ G' (hC1.keep hF2) hM2) (fun q => absurd rfl q)
set_option maxRecDepth 20000 in
theorem lc_5 {L i d n a : Nat} {xs : Nat → Int32} {h : Hp} {g : Nat → Nat → Bool} {fd : Int32} {sh : Sh} (hL : L ≤ 3072) (hi : i + 6 ≤ L) (G : Gd n g a sh) (hC : CX h n g a fd sh) (hM : MX h n g a fd sh) (kk : ∀ (h' : Hp) (n' : Nat) (g' : Nat → Nat → Bool) (a' : Nat) (fd' : Int32) (sh' : Sh), Gd n' g' a' sh' → CX h' n' g' a' fd' sh' → MX h' n' g' a' fd' sh' → X (KL L xs) RL code 4 (d + 21) h' 1192 [(3, .int (nI i)), (2, .ref 32), (1, .ref 0), (0, .ref 100)] []) : X (KL L xs) RL code 4 (d + 21) h 347 [(3, .int (nI i)), (2, .ref 32), (1, .ref 0), (0, .ref 100)] [] := by
  refine x_aload_n dL_law_347 rfl 2 rfl ?_
  obtain ⟨r, n', g', a', fd', sh', G', C, M⟩ := op_odd (fd := fd) G
  refine x_vI vl_L_36 dL_law_348 (As := []) rfl rfl (Nat.le_of_ble_eq_true rfl) (C d h _ hC (fun h1 hC1 hF1 => ?_))
  refine x_aload_n dL_law_351 rfl 1 rfl ?_
  refine x_vI vl_L_40 dL_law_352 (As := []) rfl rfl (Nat.le_of_ble_eq_true rfl) (M d h1 _ (hM.keep hF1) (fun h2 hM2 hF2 => ?_))
  exact x_icmp_eq (tgt := 1192) dL_law_355 (by decide) (fun _ => kk h2 _ _ _ _ _ G' (hC1.keep hF2) hM2) (fun q => absurd rfl q)
set_option maxRecDepth 20000 in
theorem lc_6 {L i d n a : Nat} {xs : Nat → Int32} {h : Hp} {g : Nat → Nat → Bool} {fd : Int32} {sh : Sh} (hL : L ≤ 3072) (hi : i + 6 ≤ L) (G : Gd n g a sh) (hC : CX h n g a fd sh) (hM : MX h n g a fd sh) (kk : ∀ (h' : Hp) (n' : Nat) (g' : Nat → Nat → Bool) (a' : Nat) (fd' : Int32) (sh' : Sh), Gd n' g' a' sh' → CX h' n' g' a' fd' sh' → MX h' n' g' a' fd' sh' → X (KL L xs) RL code 4 (d + 21) h' 1192 [(3, .int (nI i)), (2, .ref 32), (1, .ref 0), (0, .ref 100)] []) : X (KL L xs) RL code 4 (d + 21) h 360 [(3, .int (nI i)), (2, .ref 32), (1, .ref 0), (0, .ref 100)] [] := by
  refine x_aload_n dL_law_360 rfl 2 rfl ?_
  refine x_arg (k := 1) dL_law_361 dL_law_362 dL_law_363 (by decide) dL_law_364 dL_law_365 hL (by omega) ?_
  refine x_arg (k := 2) dL_law_366 dL_law_367 dL_law_368 (by decide) dL_law_369 dL_law_370 hL (by omega) ?_
  obtain ⟨r, n', g', a', fd', sh', G', C, M⟩ := op_together (fd := fd) G (xs (i + 1)) (xs (i + 2))
  refine x_vI vl_L_41 dL_law_371 (As := [.int (xs (i + 1)), .int (xs (i + 2))]) rfl rfl (Nat.le_of_ble_eq_true rfl) (C d h _ hC (fun h1 hC1 hF1 => ?_))
  refine x_aload_n dL_law_374 rfl 1 rfl ?_
  refine x_arg (k := 1) dL_law_375 dL_law_376 dL_law_377 (by decide) dL_law_378 dL_law_379 hL (by omega) ?_
  refine x_arg (k := 2) dL_law_380 dL_law_381 dL_law_382 (by decide) dL_law_383 dL_law_384 hL (by omega) ?_
  refine x_vI vl_L_44 dL_law_385 (As := [.int (xs (i + 1)), .int (xs (i + 2))]) rfl rfl (Nat.le_of_ble_eq_true rfl) (M d h1 _ (hM.keep hF1) (fun h2 hM2 hF2 => ?_))
  exact x_icmp_eq (tgt := 1192) dL_law_388 (by decide) (fun _ => kk h2 _ _ _ _ _ G' (hC1.keep hF2) hM2) (fun q => absurd rfl q)
set_option maxRecDepth 20000 in
theorem lc_7 {L i d n a : Nat} {xs : Nat → Int32} {h : Hp} {g : Nat → Nat → Bool} {fd : Int32} {sh : Sh} (hL : L ≤ 3072) (hi : i + 6 ≤ L) (G : Gd n g a sh) (hC : CX h n g a fd sh) (hM : MX h n g a fd sh) (kk : ∀ (h' : Hp) (n' : Nat) (g' : Nat → Nat → Bool) (a' : Nat) (fd' : Int32) (sh' : Sh), Gd n' g' a' sh' → CX h' n' g' a' fd' sh' → MX h' n' g' a' fd' sh' → X (KL L xs) RL code 4 (d + 21) h' 1192 [(3, .int (nI i)), (2, .ref 32), (1, .ref 0), (0, .ref 100)] []) : X (KL L xs) RL code 4 (d + 21) h 393 [(3, .int (nI i)), (2, .ref 32), (1, .ref 0), (0, .ref 100)] [] := by
  refine x_aload_n dL_law_393 rfl 2 rfl ?_
  obtain ⟨r, n', g', a', fd', sh', G', C, M⟩ := op_regular (fd := fd) G
  refine x_vI vl_L_45 dL_law_394 (As := []) rfl rfl (Nat.le_of_ble_eq_true rfl) (C d h _ hC (fun h1 hC1 hF1 => ?_))
  refine x_aload_n dL_law_397 rfl 1 rfl ?_
  refine x_vI vl_L_48 dL_law_398 (As := []) rfl rfl (Nat.le_of_ble_eq_true rfl) (M d h1 _ (hM.keep hF1) (fun h2 hM2 hF2 => ?_))
  exact x_icmp_eq (tgt := 1192) dL_law_401 (by decide) (fun _ => kk h2 _ _ _ _ _ G' (hC1.keep hF2) hM2) (fun q => absurd rfl q)
set_option maxRecDepth 20000 in
theorem lc_8 {L i d n a : Nat} {xs : Nat → Int32} {h : Hp} {g : Nat → Nat → Bool} {fd : Int32} {sh : Sh} (hL : L ≤ 3072) (hi : i + 6 ≤ L) (G : Gd n g a sh) (hC : CX h n g a fd sh) (hM : MX h n g a fd sh) (kk : ∀ (h' : Hp) (n' : Nat) (g' : Nat → Nat → Bool) (a' : Nat) (fd' : Int32) (sh' : Sh), Gd n' g' a' sh' → CX h' n' g' a' fd' sh' → MX h' n' g' a' fd' sh' → X (KL L xs) RL code 4 (d + 21) h' 1192 [(3, .int (nI i)), (2, .ref 32), (1, .ref 0), (0, .ref 100)] []) : X (KL L xs) RL code 4 (d + 21) h 406 [(3, .int (nI i)), (2, .ref 32), (1, .ref 0), (0, .ref 100)] [] := by
  refine x_aload_n dL_law_406 rfl 2 rfl ?_
  refine x_arg (k := 1) dL_law_407 dL_law_408 dL_law_409 (by decide) dL_law_410 dL_law_411 hL (by omega) ?_
  obtain ⟨r, n', g', a', fd', sh', G', C, M⟩ := op_angle (fd := fd) G (xs (i + 1))
  refine x_vI vl_L_49 dL_law_412 (As := [.int (xs (i + 1))]) rfl rfl (Nat.le_of_ble_eq_true rfl) (C d h _ hC (fun h1 hC1 hF1 => ?_))
  refine x_aload_n dL_law_415 rfl 1 rfl ?_
  refine x_arg (k := 1) dL_law_416 dL_law_417 dL_law_418 (by decide) dL_law_419 dL_law_420 hL (by omega) ?_
  refine x_vI vl_L_52 dL_law_421 (As := [.int (xs (i + 1))]) rfl rfl (Nat.le_of_ble_eq_true rfl) (M d h1 _ (hM.keep hF1) (fun h2 hM2 hF2 => ?_))
  exact x_icmp_eq (tgt := 1192) dL_law_424 (by decide) (fun _ => kk h2 _ _ _ _ _ G' (hC1.keep hF2) hM2) (fun q => absurd rfl q)
set_option maxRecDepth 20000 in
theorem lc_9 {L i d n a : Nat} {xs : Nat → Int32} {h : Hp} {g : Nat → Nat → Bool} {fd : Int32} {sh : Sh} (hL : L ≤ 3072) (hi : i + 6 ≤ L) (G : Gd n g a sh) (hC : CX h n g a fd sh) (hM : MX h n g a fd sh) (kk : ∀ (h' : Hp) (n' : Nat) (g' : Nat → Nat → Bool) (a' : Nat) (fd' : Int32) (sh' : Sh), Gd n' g' a' sh' → CX h' n' g' a' fd' sh' → MX h' n' g' a' fd' sh' → X (KL L xs) RL code 4 (d + 21) h' 1192 [(3, .int (nI i)), (2, .ref 32), (1, .ref 0), (0, .ref 100)] []) : X (KL L xs) RL code 4 (d + 21) h 429 [(3, .int (nI i)), (2, .ref 32), (1, .ref 0), (0, .ref 100)] [] := by
  refine x_aload_n dL_law_429 rfl 2 rfl ?_
  refine x_arg (k := 1) dL_law_430 dL_law_431 dL_law_432 (by decide) dL_law_433 dL_law_434 hL (by omega) ?_
  refine x_arg (k := 2) dL_law_435 dL_law_436 dL_law_437 (by decide) dL_law_438 dL_law_439 hL (by omega) ?_
  obtain ⟨r, n', g', a', fd', sh', G', C, M⟩ := op_sums (fd := fd) G (xs (i + 1)) (xs (i + 2))
  refine x_vJ vl_L_53 dL_law_440 (As := [.int (xs (i + 1)), .int (xs (i + 2))]) rfl rfl (Nat.le_of_ble_eq_true rfl) (C d h _ hC (fun h1 hC1 hF1 => ?_))
  refine x_aload_n dL_law_443 rfl 1 rfl ?_
  refine x_arg (k := 1) dL_law_444 dL_law_445 dL_law_446 (by decide) dL_law_447 dL_law_448 hL (by omega) ?_
  refine x_arg (k := 2) dL_law_449 dL_law_450 dL_law_451 (by decide) dL_law_452 dL_law_453 hL (by omega) ?_
  refine x_vJ vl_L_57 dL_law_454 (As := [.int (xs (i + 1)), .int (xs (i + 2))]) rfl rfl (Nat.le_of_ble_eq_true rfl) (M d h1 _ (hM.keep hF1) (fun h2 hM2 hF2 => ?_))
  refine x_lcmp dL_law_457 ?_
  exact x_if_eq (tgt := 1192) dL_law_458 (by decide) (fun _ => kk h2 _ _ _ _ _ G' (hC1.keep hF2) hM2) (fun q => absurd (lcmp_self r) q)
set_option maxRecDepth 20000 in
theorem lc_10 {L i d n a : Nat} {xs : Nat → Int32} {h : Hp} {g : Nat → Nat → Bool} {fd : Int32} {sh : Sh} (hL : L ≤ 3072) (hi : i + 6 ≤ L) (G : Gd n g a sh) (hC : CX h n g a fd sh) (hM : MX h n g a fd sh) (kk : ∀ (h' : Hp) (n' : Nat) (g' : Nat → Nat → Bool) (a' : Nat) (fd' : Int32) (sh' : Sh), Gd n' g' a' sh' → CX h' n' g' a' fd' sh' → MX h' n' g' a' fd' sh' → X (KL L xs) RL code 4 (d + 21) h' 1192 [(3, .int (nI i)), (2, .ref 32), (1, .ref 0), (0, .ref 100)] []) : X (KL L xs) RL code 4 (d + 21) h 463 [(3, .int (nI i)), (2, .ref 32), (1, .ref 0), (0, .ref 100)] [] := by
  refine x_aload_n dL_law_463 rfl 2 rfl ?_
  refine x_arg (k := 1) dL_law_464 dL_law_465 dL_law_466 (by decide) dL_law_467 dL_law_468 hL (by omega) ?_
  obtain ⟨r, n', g', a', fd', sh', G', C, M⟩ := op_own (fd := fd) G (xs (i + 1))
  refine x_vI vl_L_58 dL_law_469 (As := [.int (xs (i + 1))]) rfl rfl (Nat.le_of_ble_eq_true rfl) (C d h _ hC (fun h1 hC1 hF1 => ?_))
  refine x_aload_n dL_law_472 rfl 1 rfl ?_
  refine x_arg (k := 1) dL_law_473 dL_law_474 dL_law_475 (by decide) dL_law_476 dL_law_477 hL (by omega) ?_
  refine x_vI vl_L_61 dL_law_478 (As := [.int (xs (i + 1))]) rfl rfl (Nat.le_of_ble_eq_true rfl) (M d h1 _ (hM.keep hF1) (fun h2 hM2 hF2 => ?_))
  exact x_icmp_eq (tgt := 1192) dL_law_481 (by decide) (fun _ => kk h2 _ _ _ _ _ G' (hC1.keep hF2) hM2) (fun q => absurd rfl q)
set_option maxRecDepth 20000 in
theorem lc_11 {L i d n a : Nat} {xs : Nat → Int32} {h : Hp} {g : Nat → Nat → Bool} {fd : Int32} {sh : Sh} (hL : L ≤ 3072) (hi : i + 6 ≤ L) (G : Gd n g a sh) (hC : CX h n g a fd sh) (hM : MX h n g a fd sh) (kk : ∀ (h' : Hp) (n' : Nat) (g' : Nat → Nat → Bool) (a' : Nat) (fd' : Int32) (sh' : Sh), Gd n' g' a' sh' → CX h' n' g' a' fd' sh' → MX h' n' g' a' fd' sh' → X (KL L xs) RL code 4 (d + 21) h' 1192 [(3, .int (nI i)), (2, .ref 32), (1, .ref 0), (0, .ref 100)] []) : X (KL L xs) RL code 4 (d + 21) h 486 [(3, .int (nI i)), (2, .ref 32), (1, .ref 0), (0, .ref 100)] [] := by
  refine x_aload_n dL_law_486 rfl 2 rfl ?_
  obtain ⟨r, n', g', a', fd', sh', G', C, M⟩ := op_lies (fd := fd) G
  refine x_vI vl_L_62 dL_law_487 (As := []) rfl rfl (Nat.le_of_ble_eq_true rfl) (C d h _ hC (fun h1 hC1 hF1 => ?_))
  refine x_aload_n dL_law_490 rfl 1 rfl ?_
  refine x_vI vl_L_65 dL_law_491 (As := []) rfl rfl (Nat.le_of_ble_eq_true rfl) (M d h1 _ (hM.keep hF1) (fun h2 hM2 hF2 => ?_))
  exact x_icmp_eq (tgt := 1192) dL_law_494 (by decide) (fun _ => kk h2 _ _ _ _ _ G' (hC1.keep hF2) hM2) (fun q => absurd rfl q)
set_option maxRecDepth 20000 in
theorem lc_12 {L i d n a : Nat} {xs : Nat → Int32} {h : Hp} {g : Nat → Nat → Bool} {fd : Int32} {sh : Sh} (hL : L ≤ 3072) (hi : i + 6 ≤ L) (G : Gd n g a sh) (hC : CX h n g a fd sh) (hM : MX h n g a fd sh) (kk : ∀ (h' : Hp) (n' : Nat) (g' : Nat → Nat → Bool) (a' : Nat) (fd' : Int32) (sh' : Sh), Gd n' g' a' sh' → CX h' n' g' a' fd' sh' → MX h' n' g' a' fd' sh' → X (KL L xs) RL code 4 (d + 21) h' 1192 [(3, .int (nI i)), (2, .ref 32), (1, .ref 0), (0, .ref 100)] []) : X (KL L xs) RL code 4 (d + 21) h 499 [(3, .int (nI i)), (2, .ref 32), (1, .ref 0), (0, .ref 100)] [] := by
  refine x_aload_n dL_law_499 rfl 2 rfl ?_
  obtain ⟨r, n', g', a', fd', sh', G', C, M⟩ := op_rank (fd := fd) G
  refine x_vI vl_L_66 dL_law_500 (As := []) rfl rfl (Nat.le_of_ble_eq_true rfl) (C d h _ hC (fun h1 hC1 hF1 => ?_))
  refine x_aload_n dL_law_503 rfl 1 rfl ?_
  refine x_vI vl_L_69 dL_law_504 (As := []) rfl rfl (Nat.le_of_ble_eq_true rfl) (M d h1 _ (hM.keep hF1) (fun h2 hM2 hF2 => ?_))
  exact x_icmp_eq (tgt := 1192) dL_law_507 (by decide) (fun _ => kk h2 _ _ _ _ _ G' (hC1.keep hF2) hM2) (fun q => absurd rfl q)
set_option maxRecDepth 20000 in
theorem lc_13 {L i d n a : Nat} {xs : Nat → Int32} {h : Hp} {g : Nat → Nat → Bool} {fd : Int32} {sh : Sh} (hL : L ≤ 3072) (hi : i + 6 ≤ L) (G : Gd n g a sh) (hC : CX h n g a fd sh) (hM : MX h n g a fd sh) (kk : ∀ (h' : Hp) (n' : Nat) (g' : Nat → Nat → Bool) (a' : Nat) (fd' : Int32) (sh' : Sh), Gd n' g' a' sh' → CX h' n' g' a' fd' sh' → MX h' n' g' a' fd' sh' → X (KL L xs) RL code 4 (d + 21) h' 1192 [(3, .int (nI i)), (2, .ref 32), (1, .ref 0), (0, .ref 100)] []) : X (KL L xs) RL code 4 (d + 21) h 512 [(3, .int (nI i)), (2, .ref 32), (1, .ref 0), (0, .ref 100)] [] := by
  refine x_aload_n dL_law_512 rfl 2 rfl ?_
  refine x_arg (k := 1) dL_law_513 dL_law_514 dL_law_515 (by decide) dL_law_516 dL_law_517 hL (by omega) ?_
  obtain ⟨r, n', g', a', fd', sh', G', C, M⟩ := op_bound (fd := fd) G (xs (i + 1))
  refine x_vI vl_L_70 dL_law_518 (As := [.int (xs (i + 1))]) rfl rfl (Nat.le_of_ble_eq_true rfl) (C d h _ hC (fun h1 hC1 hF1 => ?_))
  refine x_aload_n dL_law_521 rfl 1 rfl ?_
  refine x_arg (k := 1) dL_law_522 dL_law_523 dL_law_524 (by decide) dL_law_525 dL_law_526 hL (by omega) ?_
  refine x_vI vl_L_73 dL_law_527 (As := [.int (xs (i + 1))]) rfl rfl (Nat.le_of_ble_eq_true rfl) (M d h1 _ (hM.keep hF1) (fun h2 hM2 hF2 => ?_))
  exact x_icmp_eq (tgt := 1192) dL_law_530 (by decide) (fun _ => kk h2 _ _ _ _ _ G' (hC1.keep hF2) hM2) (fun q => absurd rfl q)
set_option maxRecDepth 20000 in
theorem lc_14 {L i d n a : Nat} {xs : Nat → Int32} {h : Hp} {g : Nat → Nat → Bool} {fd : Int32} {sh : Sh} (hL : L ≤ 3072) (hi : i + 6 ≤ L) (G : Gd n g a sh) (hC : CX h n g a fd sh) (hM : MX h n g a fd sh) (kk : ∀ (h' : Hp) (n' : Nat) (g' : Nat → Nat → Bool) (a' : Nat) (fd' : Int32) (sh' : Sh), Gd n' g' a' sh' → CX h' n' g' a' fd' sh' → MX h' n' g' a' fd' sh' → X (KL L xs) RL code 4 (d + 21) h' 1192 [(3, .int (nI i)), (2, .ref 32), (1, .ref 0), (0, .ref 100)] []) : X (KL L xs) RL code 4 (d + 21) h 535 [(3, .int (nI i)), (2, .ref 32), (1, .ref 0), (0, .ref 100)] [] := by
  refine x_aload_n dL_law_535 rfl 2 rfl ?_
  refine x_arg (k := 1) dL_law_536 dL_law_537 dL_law_538 (by decide) dL_law_539 dL_law_540 hL (by omega) ?_
  refine x_arg (k := 2) dL_law_541 dL_law_542 dL_law_543 (by decide) dL_law_544 dL_law_545 hL (by omega) ?_
  obtain ⟨r, n', g', a', fd', sh', G', C, M⟩ := op_goes (fd := fd) G (xs (i + 1)) (xs (i + 2))
  refine x_vI vl_L_74 dL_law_546 (As := [.int (xs (i + 1)), .int (xs (i + 2))]) rfl rfl (Nat.le_of_ble_eq_true rfl) (C d h _ hC (fun h1 hC1 hF1 => ?_))
  refine x_aload_n dL_law_549 rfl 1 rfl ?_
  refine x_arg (k := 1) dL_law_550 dL_law_551 dL_law_552 (by decide) dL_law_553 dL_law_554 hL (by omega) ?_
  refine x_arg (k := 2) dL_law_555 dL_law_556 dL_law_557 (by decide) dL_law_558 dL_law_559 hL (by omega) ?_
  refine x_vI vl_L_77 dL_law_560 (As := [.int (xs (i + 1)), .int (xs (i + 2))]) rfl rfl (Nat.le_of_ble_eq_true rfl) (M d h1 _ (hM.keep hF1) (fun h2 hM2 hF2 => ?_))
  exact x_icmp_eq (tgt := 1192) dL_law_563 (by decide) (fun _ => kk h2 _ _ _ _ _ G' (hC1.keep hF2) hM2) (fun q => absurd rfl q)
set_option maxRecDepth 20000 in
theorem lc_15 {L i d n a : Nat} {xs : Nat → Int32} {h : Hp} {g : Nat → Nat → Bool} {fd : Int32} {sh : Sh} (hL : L ≤ 3072) (hi : i + 6 ≤ L) (G : Gd n g a sh) (hC : CX h n g a fd sh) (hM : MX h n g a fd sh) (kk : ∀ (h' : Hp) (n' : Nat) (g' : Nat → Nat → Bool) (a' : Nat) (fd' : Int32) (sh' : Sh), Gd n' g' a' sh' → CX h' n' g' a' fd' sh' → MX h' n' g' a' fd' sh' → X (KL L xs) RL code 4 (d + 21) h' 1192 [(3, .int (nI i)), (2, .ref 32), (1, .ref 0), (0, .ref 100)] []) : X (KL L xs) RL code 4 (d + 21) h 568 [(3, .int (nI i)), (2, .ref 32), (1, .ref 0), (0, .ref 100)] [] := by
  refine x_aload_n dL_law_568 rfl 2 rfl ?_
  refine x_arg (k := 1) dL_law_569 dL_law_570 dL_law_571 (by decide) dL_law_572 dL_law_573 hL (by omega) ?_
  obtain ⟨r, n', g', a', fd', sh', G', C, M⟩ := op_ways (fd := fd) G (xs (i + 1))
  refine x_vI vl_L_78 dL_law_574 (As := [.int (xs (i + 1))]) rfl rfl (Nat.le_of_ble_eq_true rfl) (C d h _ hC (fun h1 hC1 hF1 => ?_))
  refine x_aload_n dL_law_577 rfl 1 rfl ?_
  refine x_arg (k := 1) dL_law_578 dL_law_579 dL_law_580 (by decide) dL_law_581 dL_law_582 hL (by omega) ?_
  refine x_vI vl_L_81 dL_law_583 (As := [.int (xs (i + 1))]) rfl rfl (Nat.le_of_ble_eq_true rfl) (M d h1 _ (hM.keep hF1) (fun h2 hM2 hF2 => ?_))
  exact x_icmp_eq (tgt := 1192) dL_law_586 (by decide) (fun _ => kk h2 _ _ _ _ _ G' (hC1.keep hF2) hM2) (fun q => absurd rfl q)
set_option maxRecDepth 20000 in
theorem lc_16 {L i d n a : Nat} {xs : Nat → Int32} {h : Hp} {g : Nat → Nat → Bool} {fd : Int32} {sh : Sh} (hL : L ≤ 3072) (hi : i + 6 ≤ L) (G : Gd n g a sh) (hC : CX h n g a fd sh) (hM : MX h n g a fd sh) (kk : ∀ (h' : Hp) (n' : Nat) (g' : Nat → Nat → Bool) (a' : Nat) (fd' : Int32) (sh' : Sh), Gd n' g' a' sh' → CX h' n' g' a' fd' sh' → MX h' n' g' a' fd' sh' → X (KL L xs) RL code 4 (d + 21) h' 1192 [(3, .int (nI i)), (2, .ref 32), (1, .ref 0), (0, .ref 100)] []) : X (KL L xs) RL code 4 (d + 21) h 591 [(3, .int (nI i)), (2, .ref 32), (1, .ref 0), (0, .ref 100)] [] := by
  refine x_aload_n dL_law_591 rfl 2 rfl ?_
  refine x_arg (k := 1) dL_law_592 dL_law_593 dL_law_594 (by decide) dL_law_595 dL_law_596 hL (by omega) ?_
  obtain ⟨r, n', g', a', fd', sh', G', C, M⟩ := op_put (fd := fd) G (xs (i + 1))
  refine x_vI vl_L_82 dL_law_597 (As := [.int (xs (i + 1))]) rfl rfl (Nat.le_of_ble_eq_true rfl) (C d h _ hC (fun h1 hC1 hF1 => ?_))
  refine x_aload_n dL_law_600 rfl 1 rfl ?_
  refine x_arg (k := 1) dL_law_601 dL_law_602 dL_law_603 (by decide) dL_law_604 dL_law_605 hL (by omega) ?_
  refine x_vI vl_L_85 dL_law_606 (As := [.int (xs (i + 1))]) rfl rfl (Nat.le_of_ble_eq_true rfl) (M d h1 _ (hM.keep hF1) (fun h2 hM2 hF2 => ?_))
  exact x_icmp_eq (tgt := 1192) dL_law_609 (by decide) (fun _ => kk h2 _ _ _ _ _ G' (hC1.keep hF2) hM2) (fun q => absurd rfl q)
set_option maxRecDepth 20000 in
theorem lc_17 {L i d n a : Nat} {xs : Nat → Int32} {h : Hp} {g : Nat → Nat → Bool} {fd : Int32} {sh : Sh} (hL : L ≤ 3072) (hi : i + 6 ≤ L) (G : Gd n g a sh) (hC : CX h n g a fd sh) (hM : MX h n g a fd sh) (kk : ∀ (h' : Hp) (n' : Nat) (g' : Nat → Nat → Bool) (a' : Nat) (fd' : Int32) (sh' : Sh), Gd n' g' a' sh' → CX h' n' g' a' fd' sh' → MX h' n' g' a' fd' sh' → X (KL L xs) RL code 4 (d + 21) h' 1192 [(3, .int (nI i)), (2, .ref 32), (1, .ref 0), (0, .ref 100)] []) : X (KL L xs) RL code 4 (d + 21) h 614 [(3, .int (nI i)), (2, .ref 32), (1, .ref 0), (0, .ref 100)] [] := by
  refine x_aload_n dL_law_614 rfl 2 rfl ?_
  refine x_arg (k := 1) dL_law_615 dL_law_616 dL_law_617 (by decide) dL_law_618 dL_law_619 hL (by omega) ?_
  obtain ⟨r, n', g', a', fd', sh', G', C, M⟩ := op_grow (fd := fd) G (xs (i + 1))
  refine x_vI vl_L_86 dL_law_620 (As := [.int (xs (i + 1))]) rfl rfl (Nat.le_of_ble_eq_true rfl) (C d h _ hC (fun h1 hC1 hF1 => ?_))
  refine x_aload_n dL_law_623 rfl 1 rfl ?_
  refine x_arg (k := 1) dL_law_624 dL_law_625 dL_law_626 (by decide) dL_law_627 dL_law_628 hL (by omega) ?_
  refine x_vI vl_L_89 dL_law_629 (As := [.int (xs (i + 1))]) rfl rfl (Nat.le_of_ble_eq_true rfl) (M d h1 _ (hM.keep hF1) (fun h2 hM2 hF2 => ?_))
  exact x_icmp_eq (tgt := 1192) dL_law_632 (by decide) (fun _ => kk h2 _ _ _ _ _ G' (hC1.keep hF2) hM2) (fun q => absurd rfl q)
set_option maxRecDepth 20000 in
theorem lc_18 {L i d n a : Nat} {xs : Nat → Int32} {h : Hp} {g : Nat → Nat → Bool} {fd : Int32} {sh : Sh} (hL : L ≤ 3072) (hi : i + 6 ≤ L) (G : Gd n g a sh) (hC : CX h n g a fd sh) (hM : MX h n g a fd sh) (kk : ∀ (h' : Hp) (n' : Nat) (g' : Nat → Nat → Bool) (a' : Nat) (fd' : Int32) (sh' : Sh), Gd n' g' a' sh' → CX h' n' g' a' fd' sh' → MX h' n' g' a' fd' sh' → X (KL L xs) RL code 4 (d + 21) h' 1192 [(3, .int (nI i)), (2, .ref 32), (1, .ref 0), (0, .ref 100)] []) : X (KL L xs) RL code 4 (d + 21) h 637 [(3, .int (nI i)), (2, .ref 32), (1, .ref 0), (0, .ref 100)] [] := by
  refine x_aload_n dL_law_637 rfl 2 rfl ?_
  obtain ⟨r, n', g', a', fd', sh', G', C, M⟩ := op_name (fd := fd) G
  refine x_vI vl_L_90 dL_law_638 (As := []) rfl rfl (Nat.le_of_ble_eq_true rfl) (C d h _ hC (fun h1 hC1 hF1 => ?_))
  refine x_aload_n dL_law_641 rfl 1 rfl ?_
  refine x_vI vl_L_93 dL_law_642 (As := []) rfl rfl (Nat.le_of_ble_eq_true rfl) (M d h1 _ (hM.keep hF1) (fun h2 hM2 hF2 => ?_))
  exact x_icmp_eq (tgt := 1192) dL_law_645 (by decide) (fun _ => kk h2 _ _ _ _ _ G' (hC1.keep hF2) hM2) (fun q => absurd rfl q)
set_option maxRecDepth 20000 in
theorem lc_19 {L i d n a : Nat} {xs : Nat → Int32} {h : Hp} {g : Nat → Nat → Bool} {fd : Int32} {sh : Sh} (hL : L ≤ 3072) (hi : i + 6 ≤ L) (G : Gd n g a sh) (hC : CX h n g a fd sh) (hM : MX h n g a fd sh) (kk : ∀ (h' : Hp) (n' : Nat) (g' : Nat → Nat → Bool) (a' : Nat) (fd' : Int32) (sh' : Sh), Gd n' g' a' sh' → CX h' n' g' a' fd' sh' → MX h' n' g' a' fd' sh' → X (KL L xs) RL code 4 (d + 21) h' 1192 [(3, .int (nI i)), (2, .ref 32), (1, .ref 0), (0, .ref 100)] []) : X (KL L xs) RL code 4 (d + 21) h 650 [(3, .int (nI i)), (2, .ref 32), (1, .ref 0), (0, .ref 100)] [] := by
  refine x_aload_n dL_law_650 rfl 2 rfl ?_
  obtain ⟨r, n', g', a', fd', sh', G', C, M⟩ := op_plain (fd := fd) G
  refine x_vI vl_L_94 dL_law_651 (As := []) rfl rfl (Nat.le_of_ble_eq_true rfl) (C d h _ hC (fun h1 hC1 hF1 => ?_))
  refine x_aload_n dL_law_654 rfl 1 rfl ?_
  refine x_vI vl_L_97 dL_law_655 (As := []) rfl rfl (Nat.le_of_ble_eq_true rfl) (M d h1 _ (hM.keep hF1) (fun h2 hM2 hF2 => ?_))
  exact x_icmp_eq (tgt := 1192) dL_law_658 (by decide) (fun _ => kk h2 _ _ _ _ _ G' (hC1.keep hF2) hM2) (fun q => absurd rfl q)
set_option maxRecDepth 20000 in
theorem lc_20 {L i d n a : Nat} {xs : Nat → Int32} {h : Hp} {g : Nat → Nat → Bool} {fd : Int32} {sh : Sh} (hL : L ≤ 3072) (hi : i + 6 ≤ L) (G : Gd n g a sh) (hC : CX h n g a fd sh) (hM : MX h n g a fd sh) (kk : ∀ (h' : Hp) (n' : Nat) (g' : Nat → Nat → Bool) (a' : Nat) (fd' : Int32) (sh' : Sh), Gd n' g' a' sh' → CX h' n' g' a' fd' sh' → MX h' n' g' a' fd' sh' → X (KL L xs) RL code 4 (d + 21) h' 1192 [(3, .int (nI i)), (2, .ref 32), (1, .ref 0), (0, .ref 100)] []) : X (KL L xs) RL code 4 (d + 21) h 663 [(3, .int (nI i)), (2, .ref 32), (1, .ref 0), (0, .ref 100)] [] := by
  refine x_aload_n dL_law_663 rfl 2 rfl ?_
  obtain ⟨r, n', g', a', fd', sh', G', C, M⟩ := op_group (fd := fd) G
  refine x_vI vl_L_98 dL_law_664 (As := []) rfl rfl (Nat.le_of_ble_eq_true rfl) (C d h _ hC (fun h1 hC1 hF1 => ?_))
  refine x_aload_n dL_law_667 rfl 1 rfl ?_
  refine x_vI vl_L_101 dL_law_668 (As := []) rfl rfl (Nat.le_of_ble_eq_true rfl) (M d h1 _ (hM.keep hF1) (fun h2 hM2 hF2 => ?_))
  exact x_icmp_eq (tgt := 1192) dL_law_671 (by decide) (fun _ => kk h2 _ _ _ _ _ G' (hC1.keep hF2) hM2) (fun q => absurd rfl q)
set_option maxRecDepth 20000 in
theorem lc_21 {L i d n a : Nat} {xs : Nat → Int32} {h : Hp} {g : Nat → Nat → Bool} {fd : Int32} {sh : Sh} (hL : L ≤ 3072) (hi : i + 6 ≤ L) (G : Gd n g a sh) (hC : CX h n g a fd sh) (hM : MX h n g a fd sh) (kk : ∀ (h' : Hp) (n' : Nat) (g' : Nat → Nat → Bool) (a' : Nat) (fd' : Int32) (sh' : Sh), Gd n' g' a' sh' → CX h' n' g' a' fd' sh' → MX h' n' g' a' fd' sh' → X (KL L xs) RL code 4 (d + 21) h' 1192 [(3, .int (nI i)), (2, .ref 32), (1, .ref 0), (0, .ref 100)] []) : X (KL L xs) RL code 4 (d + 21) h 676 [(3, .int (nI i)), (2, .ref 32), (1, .ref 0), (0, .ref 100)] [] := by
  refine x_aload_n dL_law_676 rfl 2 rfl ?_
  refine x_arg (k := 1) dL_law_677 dL_law_678 dL_law_679 (by decide) dL_law_680 dL_law_681 hL (by omega) ?_
  obtain ⟨r, n', g', a', fd', sh', G', C, M⟩ := op_kinds (fd := fd) G (xs (i + 1))
  refine x_vI vl_L_102 dL_law_682 (As := [.int (xs (i + 1))]) rfl rfl (Nat.le_of_ble_eq_true rfl) (C d h _ hC (fun h1 hC1 hF1 => ?_))
  refine x_aload_n dL_law_685 rfl 1 rfl ?_
  refine x_arg (k := 1) dL_law_686 dL_law_687 dL_law_688 (by decide) dL_law_689 dL_law_690 hL (by omega) ?_
  refine x_vI vl_L_105 dL_law_691 (As := [.int (xs (i + 1))]) rfl rfl (Nat.le_of_ble_eq_true rfl) (M d h1 _ (hM.keep hF1) (fun h2 hM2 hF2 => ?_))
  exact x_icmp_eq (tgt := 1192) dL_law_694 (by decide) (fun _ => kk h2 _ _ _ _ _ G' (hC1.keep hF2) hM2) (fun q => absurd rfl q)
set_option maxRecDepth 20000 in
theorem lc_22 {L i d n a : Nat} {xs : Nat → Int32} {h : Hp} {g : Nat → Nat → Bool} {fd : Int32} {sh : Sh} (hL : L ≤ 3072) (hi : i + 6 ≤ L) (G : Gd n g a sh) (hC : CX h n g a fd sh) (hM : MX h n g a fd sh) (kk : ∀ (h' : Hp) (n' : Nat) (g' : Nat → Nat → Bool) (a' : Nat) (fd' : Int32) (sh' : Sh), Gd n' g' a' sh' → CX h' n' g' a' fd' sh' → MX h' n' g' a' fd' sh' → X (KL L xs) RL code 4 (d + 21) h' 1192 [(3, .int (nI i)), (2, .ref 32), (1, .ref 0), (0, .ref 100)] []) : X (KL L xs) RL code 4 (d + 21) h 699 [(3, .int (nI i)), (2, .ref 32), (1, .ref 0), (0, .ref 100)] [] := by
  refine x_aload_n dL_law_699 rfl 2 rfl ?_
  refine x_arg (k := 1) dL_law_700 dL_law_701 dL_law_702 (by decide) dL_law_703 dL_law_704 hL (by omega) ?_
  refine x_arg (k := 2) dL_law_705 dL_law_706 dL_law_707 (by decide) dL_law_708 dL_law_709 hL (by omega) ?_
  refine x_arg (k := 3) dL_law_710 dL_law_711 dL_law_712 (by decide) dL_law_713 dL_law_714 hL (by omega) ?_
  obtain ⟨r, n', g', a', fd', sh', G', C, M⟩ := op_hits (fd := fd) G (xs (i + 1)) (xs (i + 2)) (xs (i + 3))
  refine x_vI vl_L_106 dL_law_715 (As := [.int (xs (i + 1)), .int (xs (i + 2)), .int (xs (i + 3))]) rfl rfl (Nat.le_of_ble_eq_true rfl) (C d h _ hC (fun h1 hC1 hF1 => ?_))
  refine x_aload_n dL_law_718 rfl 1 rfl ?_
  refine x_arg (k := 1) dL_law_719 dL_law_720 dL_law_721 (by decide) dL_law_722 dL_law_723 hL (by omega) ?_
  refine x_arg (k := 2) dL_law_724 dL_law_725 dL_law_726 (by decide) dL_law_727 dL_law_728 hL (by omega) ?_
  refine x_arg (k := 3) dL_law_729 dL_law_730 dL_law_731 (by decide) dL_law_732 dL_law_733 hL (by omega) ?_
  refine x_vI vl_L_109 dL_law_734 (As := [.int (xs (i + 1)), .int (xs (i + 2)), .int (xs (i + 3))]) rfl rfl (Nat.le_of_ble_eq_true rfl) (M d h1 _ (hM.keep hF1) (fun h2 hM2 hF2 => ?_))
  exact x_icmp_eq (tgt := 1192) dL_law_737 (by decide) (fun _ => kk h2 _ _ _ _ _ G' (hC1.keep hF2) hM2) (fun q => absurd rfl q)
set_option maxRecDepth 20000 in
theorem lc_23 {L i d n a : Nat} {xs : Nat → Int32} {h : Hp} {g : Nat → Nat → Bool} {fd : Int32} {sh : Sh} (hL : L ≤ 3072) (hi : i + 6 ≤ L) (G : Gd n g a sh) (hC : CX h n g a fd sh) (hM : MX h n g a fd sh) (kk : ∀ (h' : Hp) (n' : Nat) (g' : Nat → Nat → Bool) (a' : Nat) (fd' : Int32) (sh' : Sh), Gd n' g' a' sh' → CX h' n' g' a' fd' sh' → MX h' n' g' a' fd' sh' → X (KL L xs) RL code 4 (d + 21) h' 1192 [(3, .int (nI i)), (2, .ref 32), (1, .ref 0), (0, .ref 100)] []) : X (KL L xs) RL code 4 (d + 21) h 742 [(3, .int (nI i)), (2, .ref 32), (1, .ref 0), (0, .ref 100)] [] := by
  refine x_aload_n dL_law_742 rfl 2 rfl ?_
  refine x_arg (k := 1) dL_law_743 dL_law_744 dL_law_745 (by decide) dL_law_746 dL_law_747 hL (by omega) ?_
  refine x_arg (k := 2) dL_law_748 dL_law_749 dL_law_750 (by decide) dL_law_751 dL_law_752 hL (by omega) ?_
  obtain ⟨r, n', g', a', fd', sh', G', C, M⟩ := op_even (fd := fd) G (xs (i + 1)) (xs (i + 2))
  refine x_vI vl_L_110 dL_law_753 (As := [.int (xs (i + 1)), .int (xs (i + 2))]) rfl rfl (Nat.le_of_ble_eq_true rfl) (C d h _ hC (fun h1 hC1 hF1 => ?_))
  refine x_aload_n dL_law_756 rfl 1 rfl ?_
  refine x_arg (k := 1) dL_law_757 dL_law_758 dL_law_759 (by decide) dL_law_760 dL_law_761 hL (by omega) ?_
  refine x_arg (k := 2) dL_law_762 dL_law_763 dL_law_764 (by decide) dL_law_765 dL_law_766 hL (by omega) ?_
  refine x_vI vl_L_113 dL_law_767 (As := [.int (xs (i + 1)), .int (xs (i + 2))]) rfl rfl (Nat.le_of_ble_eq_true rfl) (M d h1 _ (hM.keep hF1) (fun h2 hM2 hF2 => ?_))
  exact x_icmp_eq (tgt := 1192) dL_law_770 (by decide) (fun _ => kk h2 _ _ _ _ _ G' (hC1.keep hF2) hM2) (fun q => absurd rfl q)
set_option maxRecDepth 20000 in
theorem lc_24 {L i d n a : Nat} {xs : Nat → Int32} {h : Hp} {g : Nat → Nat → Bool} {fd : Int32} {sh : Sh} (hL : L ≤ 3072) (hi : i + 6 ≤ L) (G : Gd n g a sh) (hC : CX h n g a fd sh) (hM : MX h n g a fd sh) (kk : ∀ (h' : Hp) (n' : Nat) (g' : Nat → Nat → Bool) (a' : Nat) (fd' : Int32) (sh' : Sh), Gd n' g' a' sh' → CX h' n' g' a' fd' sh' → MX h' n' g' a' fd' sh' → X (KL L xs) RL code 4 (d + 21) h' 1192 [(3, .int (nI i)), (2, .ref 32), (1, .ref 0), (0, .ref 100)] []) : X (KL L xs) RL code 4 (d + 21) h 775 [(3, .int (nI i)), (2, .ref 32), (1, .ref 0), (0, .ref 100)] [] := by
  refine x_aload_n dL_law_775 rfl 2 rfl ?_
  refine x_arg (k := 1) dL_law_776 dL_law_777 dL_law_778 (by decide) dL_law_779 dL_law_780 hL (by omega) ?_
  refine x_arg (k := 2) dL_law_781 dL_law_782 dL_law_783 (by decide) dL_law_784 dL_law_785 hL (by omega) ?_
  obtain ⟨r, n', g', a', fd', sh', G', C, M⟩ := op_welch (fd := fd) G (xs (i + 1)) (xs (i + 2))
  refine x_vI vl_L_114 dL_law_786 (As := [.int (xs (i + 1)), .int (xs (i + 2))]) rfl rfl (Nat.le_of_ble_eq_true rfl) (C d h _ hC (fun h1 hC1 hF1 => ?_))
  refine x_aload_n dL_law_789 rfl 1 rfl ?_
  refine x_arg (k := 1) dL_law_790 dL_law_791 dL_law_792 (by decide) dL_law_793 dL_law_794 hL (by omega) ?_
  refine x_arg (k := 2) dL_law_795 dL_law_796 dL_law_797 (by decide) dL_law_798 dL_law_799 hL (by omega) ?_
  refine x_vI vl_L_117 dL_law_800 (As := [.int (xs (i + 1)), .int (xs (i + 2))]) rfl rfl (Nat.le_of_ble_eq_true rfl) (M d h1 _ (hM.keep hF1) (fun h2 hM2 hF2 => ?_))
  exact x_icmp_eq (tgt := 1192) dL_law_803 (by decide) (fun _ => kk h2 _ _ _ _ _ G' (hC1.keep hF2) hM2) (fun q => absurd rfl q)
set_option maxRecDepth 20000 in
theorem lc_25 {L i d n a : Nat} {xs : Nat → Int32} {h : Hp} {g : Nat → Nat → Bool} {fd : Int32} {sh : Sh} (hL : L ≤ 3072) (hi : i + 6 ≤ L) (G : Gd n g a sh) (hC : CX h n g a fd sh) (hM : MX h n g a fd sh) (kk : ∀ (h' : Hp) (n' : Nat) (g' : Nat → Nat → Bool) (a' : Nat) (fd' : Int32) (sh' : Sh), Gd n' g' a' sh' → CX h' n' g' a' fd' sh' → MX h' n' g' a' fd' sh' → X (KL L xs) RL code 4 (d + 21) h' 1192 [(3, .int (nI i)), (2, .ref 32), (1, .ref 0), (0, .ref 100)] []) : X (KL L xs) RL code 4 (d + 21) h 808 [(3, .int (nI i)), (2, .ref 32), (1, .ref 0), (0, .ref 100)] [] := by
  refine x_aload_n dL_law_808 rfl 2 rfl ?_
  refine x_arg (k := 1) dL_law_809 dL_law_810 dL_law_811 (by decide) dL_law_812 dL_law_813 hL (by omega) ?_
  refine x_arg (k := 2) dL_law_814 dL_law_815 dL_law_816 (by decide) dL_law_817 dL_law_818 hL (by omega) ?_
  obtain ⟨r, n', g', a', fd', sh', G', C, M⟩ := op_multipliers (fd := fd) G (xs (i + 1)) (xs (i + 2))
  refine x_vI vl_L_118 dL_law_819 (As := [.int (xs (i + 1)), .int (xs (i + 2))]) rfl rfl (Nat.le_of_ble_eq_true rfl) (C d h _ hC (fun h1 hC1 hF1 => ?_))
  refine x_aload_n dL_law_822 rfl 1 rfl ?_
  refine x_arg (k := 1) dL_law_823 dL_law_824 dL_law_825 (by decide) dL_law_826 dL_law_827 hL (by omega) ?_
  refine x_arg (k := 2) dL_law_828 dL_law_829 dL_law_830 (by decide) dL_law_831 dL_law_832 hL (by omega) ?_
  refine x_vI vl_L_121 dL_law_833 (As := [.int (xs (i + 1)), .int (xs (i + 2))]) rfl rfl (Nat.le_of_ble_eq_true rfl) (M d h1 _ (hM.keep hF1) (fun h2 hM2 hF2 => ?_))
  exact x_icmp_eq (tgt := 1192) dL_law_836 (by decide) (fun _ => kk h2 _ _ _ _ _ G' (hC1.keep hF2) hM2) (fun q => absurd rfl q)
set_option maxRecDepth 20000 in
theorem lc_26 {L i d n a : Nat} {xs : Nat → Int32} {h : Hp} {g : Nat → Nat → Bool} {fd : Int32} {sh : Sh} (hL : L ≤ 3072) (hi : i + 6 ≤ L) (G : Gd n g a sh) (hC : CX h n g a fd sh) (hM : MX h n g a fd sh) (kk : ∀ (h' : Hp) (n' : Nat) (g' : Nat → Nat → Bool) (a' : Nat) (fd' : Int32) (sh' : Sh), Gd n' g' a' sh' → CX h' n' g' a' fd' sh' → MX h' n' g' a' fd' sh' → X (KL L xs) RL code 4 (d + 21) h' 1192 [(3, .int (nI i)), (2, .ref 32), (1, .ref 0), (0, .ref 100)] []) : X (KL L xs) RL code 4 (d + 21) h 841 [(3, .int (nI i)), (2, .ref 32), (1, .ref 0), (0, .ref 100)] [] := by
  refine x_aload_n dL_law_841 rfl 2 rfl ?_
  refine x_arg (k := 1) dL_law_842 dL_law_843 dL_law_844 (by decide) dL_law_845 dL_law_846 hL (by omega) ?_
  refine x_arg (k := 2) dL_law_847 dL_law_848 dL_law_849 (by decide) dL_law_850 dL_law_851 hL (by omega) ?_
  obtain ⟨r, n', g', a', fd', sh', G', C, M⟩ := op_find (fd := fd) G (xs (i + 1)) (xs (i + 2))
  refine x_vI vl_L_122 dL_law_852 (As := [.int (xs (i + 1)), .int (xs (i + 2))]) rfl rfl (Nat.le_of_ble_eq_true rfl) (C d h _ hC (fun h1 hC1 hF1 => ?_))
  refine x_aload_n dL_law_855 rfl 1 rfl ?_
  refine x_arg (k := 1) dL_law_856 dL_law_857 dL_law_858 (by decide) dL_law_859 dL_law_860 hL (by omega) ?_
  refine x_arg (k := 2) dL_law_861 dL_law_862 dL_law_863 (by decide) dL_law_864 dL_law_865 hL (by omega) ?_
  refine x_vI vl_L_125 dL_law_866 (As := [.int (xs (i + 1)), .int (xs (i + 2))]) rfl rfl (Nat.le_of_ble_eq_true rfl) (M d h1 _ (hM.keep hF1) (fun h2 hM2 hF2 => ?_))
  exact x_icmp_eq (tgt := 1192) dL_law_869 (by decide) (fun _ => kk h2 _ _ _ _ _ G' (hC1.keep hF2) hM2) (fun q => absurd rfl q)
set_option maxRecDepth 20000 in
theorem lc_27 {L i d n a : Nat} {xs : Nat → Int32} {h : Hp} {g : Nat → Nat → Bool} {fd : Int32} {sh : Sh} (hL : L ≤ 3072) (hi : i + 6 ≤ L) (G : Gd n g a sh) (hC : CX h n g a fd sh) (hM : MX h n g a fd sh) (kk : ∀ (h' : Hp) (n' : Nat) (g' : Nat → Nat → Bool) (a' : Nat) (fd' : Int32) (sh' : Sh), Gd n' g' a' sh' → CX h' n' g' a' fd' sh' → MX h' n' g' a' fd' sh' → X (KL L xs) RL code 4 (d + 21) h' 1192 [(3, .int (nI i)), (2, .ref 32), (1, .ref 0), (0, .ref 100)] []) : X (KL L xs) RL code 4 (d + 21) h 874 [(3, .int (nI i)), (2, .ref 32), (1, .ref 0), (0, .ref 100)] [] := by
  refine x_aload_n dL_law_874 rfl 2 rfl ?_
  refine x_arg (k := 1) dL_law_875 dL_law_876 dL_law_877 (by decide) dL_law_878 dL_law_879 hL (by omega) ?_
  refine x_arg (k := 2) dL_law_880 dL_law_881 dL_law_882 (by decide) dL_law_883 dL_law_884 hL (by omega) ?_
  refine x_arg (k := 3) dL_law_885 dL_law_886 dL_law_887 (by decide) dL_law_888 dL_law_889 hL (by omega) ?_
  obtain ⟨r, n', g', a', fd', sh', G', C, M⟩ := op_sheet (fd := fd) G (xs (i + 1)) (xs (i + 2)) (xs (i + 3))
  refine x_vI vl_L_126 dL_law_890 (As := [.int (xs (i + 1)), .int (xs (i + 2)), .int (xs (i + 3))]) rfl rfl (Nat.le_of_ble_eq_true rfl) (C d h _ hC (fun h1 hC1 hF1 => ?_))
  refine x_aload_n dL_law_893 rfl 1 rfl ?_
  refine x_arg (k := 1) dL_law_894 dL_law_895 dL_law_896 (by decide) dL_law_897 dL_law_898 hL (by omega) ?_
  refine x_arg (k := 2) dL_law_899 dL_law_900 dL_law_901 (by decide) dL_law_902 dL_law_903 hL (by omega) ?_
  refine x_arg (k := 3) dL_law_904 dL_law_905 dL_law_906 (by decide) dL_law_907 dL_law_908 hL (by omega) ?_
  refine x_vI vl_L_129 dL_law_909 (As := [.int (xs (i + 1)), .int (xs (i + 2)), .int (xs (i + 3))]) rfl rfl (Nat.le_of_ble_eq_true rfl) (M d h1 _ (hM.keep hF1) (fun h2 hM2 hF2 => ?_))
  exact x_icmp_eq (tgt := 1192) dL_law_912 (by decide) (fun _ => kk h2 _ _ _ _ _ G' (hC1.keep hF2) hM2) (fun q => absurd rfl q)
set_option maxRecDepth 20000 in
theorem lc_28 {L i d n a : Nat} {xs : Nat → Int32} {h : Hp} {g : Nat → Nat → Bool} {fd : Int32} {sh : Sh} (hL : L ≤ 3072) (hi : i + 6 ≤ L) (G : Gd n g a sh) (hC : CX h n g a fd sh) (hM : MX h n g a fd sh) (kk : ∀ (h' : Hp) (n' : Nat) (g' : Nat → Nat → Bool) (a' : Nat) (fd' : Int32) (sh' : Sh), Gd n' g' a' sh' → CX h' n' g' a' fd' sh' → MX h' n' g' a' fd' sh' → X (KL L xs) RL code 4 (d + 21) h' 1192 [(3, .int (nI i)), (2, .ref 32), (1, .ref 0), (0, .ref 100)] []) : X (KL L xs) RL code 4 (d + 21) h 917 [(3, .int (nI i)), (2, .ref 32), (1, .ref 0), (0, .ref 100)] [] := by
  refine x_aload_n dL_law_917 rfl 2 rfl ?_
  refine x_arg (k := 1) dL_law_918 dL_law_919 dL_law_920 (by decide) dL_law_921 dL_law_922 hL (by omega) ?_
  obtain ⟨r, n', g', a', fd', sh', G', C, M⟩ := op_lose (fd := fd) G (xs (i + 1))
  refine x_vI vl_L_130 dL_law_923 (As := [.int (xs (i + 1))]) rfl rfl (Nat.le_of_ble_eq_true rfl) (C d h _ hC (fun h1 hC1 hF1 => ?_))
  refine x_aload_n dL_law_926 rfl 1 rfl ?_
  refine x_arg (k := 1) dL_law_927 dL_law_928 dL_law_929 (by decide) dL_law_930 dL_law_931 hL (by omega) ?_
  refine x_vI vl_L_133 dL_law_932 (As := [.int (xs (i + 1))]) rfl rfl (Nat.le_of_ble_eq_true rfl) (M d h1 _ (hM.keep hF1) (fun h2 hM2 hF2 => ?_))
  exact x_icmp_eq (tgt := 1192) dL_law_935 (by decide) (fun _ => kk h2 _ _ _ _ _ G' (hC1.keep hF2) hM2) (fun q => absurd rfl q)
set_option maxRecDepth 20000 in
theorem lc_29 {L i d n a : Nat} {xs : Nat → Int32} {h : Hp} {g : Nat → Nat → Bool} {fd : Int32} {sh : Sh} (hL : L ≤ 3072) (hi : i + 6 ≤ L) (G : Gd n g a sh) (hC : CX h n g a fd sh) (hM : MX h n g a fd sh) (kk : ∀ (h' : Hp) (n' : Nat) (g' : Nat → Nat → Bool) (a' : Nat) (fd' : Int32) (sh' : Sh), Gd n' g' a' sh' → CX h' n' g' a' fd' sh' → MX h' n' g' a' fd' sh' → X (KL L xs) RL code 4 (d + 21) h' 1192 [(3, .int (nI i)), (2, .ref 32), (1, .ref 0), (0, .ref 100)] []) : X (KL L xs) RL code 4 (d + 21) h 940 [(3, .int (nI i)), (2, .ref 32), (1, .ref 0), (0, .ref 100)] [] := by
  refine x_aload_n dL_law_940 rfl 2 rfl ?_
  refine x_arg (k := 1) dL_law_941 dL_law_942 dL_law_943 (by decide) dL_law_944 dL_law_945 hL (by omega) ?_
  refine x_arg (k := 2) dL_law_946 dL_law_947 dL_law_948 (by decide) dL_law_949 dL_law_950 hL (by omega) ?_
  refine x_arg (k := 3) dL_law_951 dL_law_952 dL_law_953 (by decide) dL_law_954 dL_law_955 hL (by omega) ?_
  refine x_arg (k := 4) dL_law_956 dL_law_957 dL_law_958 (by decide) dL_law_959 dL_law_960 hL (by omega) ?_
  obtain ⟨r, n', g', a', fd', sh', G', C, M⟩ := op_lay (fd := fd) G (xs (i + 1)) (xs (i + 2)) (xs (i + 3)) (xs (i + 4))
  refine x_vI vl_L_134 dL_law_961 (As := [.int (xs (i + 1)), .int (xs (i + 2)), .int (xs (i + 3)), .int (xs (i + 4))]) rfl rfl (Nat.le_of_ble_eq_true rfl) (C d h _ hC (fun h1 hC1 hF1 => ?_))
  refine x_aload_n dL_law_964 rfl 1 rfl ?_
  refine x_arg (k := 1) dL_law_965 dL_law_966 dL_law_967 (by decide) dL_law_968 dL_law_969 hL (by omega) ?_
  refine x_arg (k := 2) dL_law_970 dL_law_971 dL_law_972 (by decide) dL_law_973 dL_law_974 hL (by omega) ?_
  refine x_arg (k := 3) dL_law_975 dL_law_976 dL_law_977 (by decide) dL_law_978 dL_law_979 hL (by omega) ?_
  refine x_arg (k := 4) dL_law_980 dL_law_981 dL_law_982 (by decide) dL_law_983 dL_law_984 hL (by omega) ?_
  refine x_vI vl_L_138 dL_law_985 (As := [.int (xs (i + 1)), .int (xs (i + 2)), .int (xs (i + 3)), .int (xs (i + 4))]) rfl rfl (Nat.le_of_ble_eq_true rfl) (M d h1 _ (hM.keep hF1) (fun h2 hM2 hF2 => ?_))
  exact x_icmp_eq (tgt := 1192) dL_law_988 (by decide) (fun _ => kk h2 _ _ _ _ _ G' (hC1.keep hF2) hM2) (fun q => absurd rfl q)
set_option maxRecDepth 20000 in
theorem lc_30 {L i d n a : Nat} {xs : Nat → Int32} {h : Hp} {g : Nat → Nat → Bool} {fd : Int32} {sh : Sh} (hL : L ≤ 3072) (hi : i + 6 ≤ L) (G : Gd n g a sh) (hC : CX h n g a fd sh) (hM : MX h n g a fd sh) (kk : ∀ (h' : Hp) (n' : Nat) (g' : Nat → Nat → Bool) (a' : Nat) (fd' : Int32) (sh' : Sh), Gd n' g' a' sh' → CX h' n' g' a' fd' sh' → MX h' n' g' a' fd' sh' → X (KL L xs) RL code 4 (d + 21) h' 1192 [(3, .int (nI i)), (2, .ref 32), (1, .ref 0), (0, .ref 100)] []) : X (KL L xs) RL code 4 (d + 21) h 993 [(3, .int (nI i)), (2, .ref 32), (1, .ref 0), (0, .ref 100)] [] := by
  refine x_aload_n dL_law_993 rfl 2 rfl ?_
  refine x_arg (k := 1) dL_law_994 dL_law_995 dL_law_996 (by decide) dL_law_997 dL_law_998 hL (by omega) ?_
  refine x_arg (k := 2) dL_law_999 dL_law_1000 dL_law_1001 (by decide) dL_law_1002 dL_law_1003 hL (by omega) ?_
  refine x_arg (k := 3) dL_law_1004 dL_law_1005 dL_law_1006 (by decide) dL_law_1007 dL_law_1008 hL (by omega) ?_
  obtain ⟨r, n', g', a', fd', sh', G', C, M⟩ := op_get (fd := fd) G (xs (i + 1)) (xs (i + 2)) (xs (i + 3))
  refine x_vI vl_L_139 dL_law_1009 (As := [.int (xs (i + 1)), .int (xs (i + 2)), .int (xs (i + 3))]) rfl rfl (Nat.le_of_ble_eq_true rfl) (C d h _ hC (fun h1 hC1 hF1 => ?_))
  refine x_aload_n dL_law_1012 rfl 1 rfl ?_
  refine x_arg (k := 1) dL_law_1013 dL_law_1014 dL_law_1015 (by decide) dL_law_1016 dL_law_1017 hL (by omega) ?_
  refine x_arg (k := 2) dL_law_1018 dL_law_1019 dL_law_1020 (by decide) dL_law_1021 dL_law_1022 hL (by omega) ?_
  refine x_arg (k := 3) dL_law_1023 dL_law_1024 dL_law_1025 (by decide) dL_law_1026 dL_law_1027 hL (by omega) ?_
  refine x_vI vl_L_142 dL_law_1028 (As := [.int (xs (i + 1)), .int (xs (i + 2)), .int (xs (i + 3))]) rfl rfl (Nat.le_of_ble_eq_true rfl) (M d h1 _ (hM.keep hF1) (fun h2 hM2 hF2 => ?_))
  exact x_icmp_eq (tgt := 1192) dL_law_1031 (by decide) (fun _ => kk h2 _ _ _ _ _ G' (hC1.keep hF2) hM2) (fun q => absurd rfl q)
set_option maxRecDepth 20000 in
theorem lc_31 {L i d n a : Nat} {xs : Nat → Int32} {h : Hp} {g : Nat → Nat → Bool} {fd : Int32} {sh : Sh} (hL : L ≤ 3072) (hi : i + 6 ≤ L) (G : Gd n g a sh) (hC : CX h n g a fd sh) (hM : MX h n g a fd sh) (kk : ∀ (h' : Hp) (n' : Nat) (g' : Nat → Nat → Bool) (a' : Nat) (fd' : Int32) (sh' : Sh), Gd n' g' a' sh' → CX h' n' g' a' fd' sh' → MX h' n' g' a' fd' sh' → X (KL L xs) RL code 4 (d + 21) h' 1192 [(3, .int (nI i)), (2, .ref 32), (1, .ref 0), (0, .ref 100)] []) : X (KL L xs) RL code 4 (d + 21) h 1036 [(3, .int (nI i)), (2, .ref 32), (1, .ref 0), (0, .ref 100)] [] := by
  refine x_aload_n dL_law_1036 rfl 2 rfl ?_
  refine x_arg (k := 1) dL_law_1037 dL_law_1038 dL_law_1039 (by decide) dL_law_1040 dL_law_1041 hL (by omega) ?_
  refine x_arg (k := 2) dL_law_1042 dL_law_1043 dL_law_1044 (by decide) dL_law_1045 dL_law_1046 hL (by omega) ?_
  refine x_arg (k := 3) dL_law_1047 dL_law_1048 dL_law_1049 (by decide) dL_law_1050 dL_law_1051 hL (by omega) ?_
  refine x_arg (k := 4) dL_law_1052 dL_law_1053 dL_law_1054 (by decide) dL_law_1055 dL_law_1056 hL (by omega) ?_
  refine x_arg (k := 5) dL_law_1057 dL_law_1058 dL_law_1059 (by decide) dL_law_1060 dL_law_1061 hL (by omega) ?_
  obtain ⟨r, n', g', a', fd', sh', G', C, M⟩ := op_copy (fd := fd) G (xs (i + 1)) (xs (i + 2)) (xs (i + 3)) (xs (i + 4)) (xs (i + 5))
  refine x_vI vl_L_143 dL_law_1062 (As := [.int (xs (i + 1)), .int (xs (i + 2)), .int (xs (i + 3)), .int (xs (i + 4)), .int (xs (i + 5))]) rfl rfl (Nat.le_of_ble_eq_true rfl) (C d h _ hC (fun h1 hC1 hF1 => ?_))
  refine x_aload_n dL_law_1065 rfl 1 rfl ?_
  refine x_arg (k := 1) dL_law_1066 dL_law_1067 dL_law_1068 (by decide) dL_law_1069 dL_law_1070 hL (by omega) ?_
  refine x_arg (k := 2) dL_law_1071 dL_law_1072 dL_law_1073 (by decide) dL_law_1074 dL_law_1075 hL (by omega) ?_
  refine x_arg (k := 3) dL_law_1076 dL_law_1077 dL_law_1078 (by decide) dL_law_1079 dL_law_1080 hL (by omega) ?_
  refine x_arg (k := 4) dL_law_1081 dL_law_1082 dL_law_1083 (by decide) dL_law_1084 dL_law_1085 hL (by omega) ?_
  refine x_arg (k := 5) dL_law_1086 dL_law_1087 dL_law_1088 (by decide) dL_law_1089 dL_law_1090 hL (by omega) ?_
  refine x_vI vl_L_147 dL_law_1091 (As := [.int (xs (i + 1)), .int (xs (i + 2)), .int (xs (i + 3)), .int (xs (i + 4)), .int (xs (i + 5))]) rfl rfl (Nat.le_of_ble_eq_true rfl) (M d h1 _ (hM.keep hF1) (fun h2 hM2 hF2 => ?_))
  exact x_icmp_eq (tgt := 1192) dL_law_1094 (by decide) (fun _ => kk h2 _ _ _ _ _ G' (hC1.keep hF2) hM2) (fun q => absurd rfl q)
set_option maxRecDepth 20000 in
theorem lc_32 {L i d n a : Nat} {xs : Nat → Int32} {h : Hp} {g : Nat → Nat → Bool} {fd : Int32} {sh : Sh} (hL : L ≤ 3072) (hi : i + 6 ≤ L) (G : Gd n g a sh) (hC : CX h n g a fd sh) (hM : MX h n g a fd sh) (kk : ∀ (h' : Hp) (n' : Nat) (g' : Nat → Nat → Bool) (a' : Nat) (fd' : Int32) (sh' : Sh), Gd n' g' a' sh' → CX h' n' g' a' fd' sh' → MX h' n' g' a' fd' sh' → X (KL L xs) RL code 4 (d + 21) h' 1192 [(3, .int (nI i)), (2, .ref 32), (1, .ref 0), (0, .ref 100)] []) : X (KL L xs) RL code 4 (d + 21) h 1099 [(3, .int (nI i)), (2, .ref 32), (1, .ref 0), (0, .ref 100)] [] := by
  refine x_aload_n dL_law_1099 rfl 2 rfl ?_
  refine x_arg (k := 1) dL_law_1100 dL_law_1101 dL_law_1102 (by decide) dL_law_1103 dL_law_1104 hL (by omega) ?_
  refine x_arg (k := 2) dL_law_1105 dL_law_1106 dL_law_1107 (by decide) dL_law_1108 dL_law_1109 hL (by omega) ?_
  obtain ⟨r, n', g', a', fd', sh', G', C, M⟩ := op_load (fd := fd) G (xs (i + 1)) (xs (i + 2))
  refine x_vI vl_L_148 dL_law_1110 (As := [.int (xs (i + 1)), .int (xs (i + 2))]) rfl rfl (Nat.le_of_ble_eq_true rfl) (C d h _ hC (fun h1 hC1 hF1 => ?_))
  refine x_aload_n dL_law_1113 rfl 1 rfl ?_
  refine x_arg (k := 1) dL_law_1114 dL_law_1115 dL_law_1116 (by decide) dL_law_1117 dL_law_1118 hL (by omega) ?_
  refine x_arg (k := 2) dL_law_1119 dL_law_1120 dL_law_1121 (by decide) dL_law_1122 dL_law_1123 hL (by omega) ?_
  refine x_vI vl_L_151 dL_law_1124 (As := [.int (xs (i + 1)), .int (xs (i + 2))]) rfl rfl (Nat.le_of_ble_eq_true rfl) (M d h1 _ (hM.keep hF1) (fun h2 hM2 hF2 => ?_))
  exact x_icmp_eq (tgt := 1192) dL_law_1127 (by decide) (fun _ => kk h2 _ _ _ _ _ G' (hC1.keep hF2) hM2) (fun q => absurd rfl q)
set_option maxRecDepth 20000 in
theorem lc_33 {L i d n a : Nat} {xs : Nat → Int32} {h : Hp} {g : Nat → Nat → Bool} {fd : Int32} {sh : Sh} (hL : L ≤ 3072) (hi : i + 6 ≤ L) (G : Gd n g a sh) (hC : CX h n g a fd sh) (hM : MX h n g a fd sh) (kk : ∀ (h' : Hp) (n' : Nat) (g' : Nat → Nat → Bool) (a' : Nat) (fd' : Int32) (sh' : Sh), Gd n' g' a' sh' → CX h' n' g' a' fd' sh' → MX h' n' g' a' fd' sh' → X (KL L xs) RL code 4 (d + 21) h' 1192 [(3, .int (nI i)), (2, .ref 32), (1, .ref 0), (0, .ref 100)] []) : X (KL L xs) RL code 4 (d + 21) h 1132 [(3, .int (nI i)), (2, .ref 32), (1, .ref 0), (0, .ref 100)] [] := by
  refine x_aload_n dL_law_1132 rfl 2 rfl ?_
  refine x_arg (k := 1) dL_law_1133 dL_law_1134 dL_law_1135 (by decide) dL_law_1136 dL_law_1137 hL (by omega) ?_
  obtain ⟨r, n', g', a', fd', sh', G', C, M⟩ := op_write (fd := fd) G (xs (i + 1))
  refine x_vI vl_L_152 dL_law_1138 (As := [.int (xs (i + 1))]) rfl rfl (Nat.le_of_ble_eq_true rfl) (C d h _ hC (fun h1 hC1 hF1 => ?_))
  refine x_aload_n dL_law_1141 rfl 1 rfl ?_
  refine x_arg (k := 1) dL_law_1142 dL_law_1143 dL_law_1144 (by decide) dL_law_1145 dL_law_1146 hL (by omega) ?_
  refine x_vI vl_L_155 dL_law_1147 (As := [.int (xs (i + 1))]) rfl rfl (Nat.le_of_ble_eq_true rfl) (M d h1 _ (hM.keep hF1) (fun h2 hM2 hF2 => ?_))
  exact x_icmp_eq (tgt := 1192) dL_law_1150 (by decide) (fun _ => kk h2 _ _ _ _ _ G' (hC1.keep hF2) hM2) (fun q => absurd rfl q)
set_option maxRecDepth 20000 in
theorem lc_34 {L i d n a : Nat} {xs : Nat → Int32} {h : Hp} {g : Nat → Nat → Bool} {fd : Int32} {sh : Sh} (hL : L ≤ 3072) (hi : i + 6 ≤ L) (G : Gd n g a sh) (hC : CX h n g a fd sh) (hM : MX h n g a fd sh) (kk : ∀ (h' : Hp) (n' : Nat) (g' : Nat → Nat → Bool) (a' : Nat) (fd' : Int32) (sh' : Sh), Gd n' g' a' sh' → CX h' n' g' a' fd' sh' → MX h' n' g' a' fd' sh' → X (KL L xs) RL code 4 (d + 21) h' 1192 [(3, .int (nI i)), (2, .ref 32), (1, .ref 0), (0, .ref 100)] []) : X (KL L xs) RL code 4 (d + 21) h 1155 [(3, .int (nI i)), (2, .ref 32), (1, .ref 0), (0, .ref 100)] [] := by
  refine x_aload_n dL_law_1155 rfl 2 rfl ?_
  refine x_arg (k := 1) dL_law_1156 dL_law_1157 dL_law_1158 (by decide) dL_law_1159 dL_law_1160 hL (by omega) ?_
  obtain ⟨r, n', g', a', fd', sh', G', C, M⟩ := op_count (fd := fd) G (xs (i + 1))
  refine x_vI vl_L_156 dL_law_1161 (As := [.int (xs (i + 1))]) rfl rfl (Nat.le_of_ble_eq_true rfl) (C d h _ hC (fun h1 hC1 hF1 => ?_))
  refine x_aload_n dL_law_1164 rfl 1 rfl ?_
  refine x_arg (k := 1) dL_law_1165 dL_law_1166 dL_law_1167 (by decide) dL_law_1168 dL_law_1169 hL (by omega) ?_
  refine x_vI vl_L_159 dL_law_1170 (As := [.int (xs (i + 1))]) rfl rfl (Nat.le_of_ble_eq_true rfl) (M d h1 _ (hM.keep hF1) (fun h2 hM2 hF2 => ?_))
  exact x_icmp_eq (tgt := 1192) dL_law_1173 (by decide) (fun _ => kk h2 _ _ _ _ _ G' (hC1.keep hF2) hM2) (fun q => absurd rfl q)
set_option maxRecDepth 20000 in
theorem lc_35 {L i d n a : Nat} {xs : Nat → Int32} {h : Hp} {g : Nat → Nat → Bool} {fd : Int32} {sh : Sh} (hL : L ≤ 3072) (hi : i + 6 ≤ L) (G : Gd n g a sh) (hC : CX h n g a fd sh) (hM : MX h n g a fd sh) (kk : ∀ (h' : Hp) (n' : Nat) (g' : Nat → Nat → Bool) (a' : Nat) (fd' : Int32) (sh' : Sh), Gd n' g' a' sh' → CX h' n' g' a' fd' sh' → MX h' n' g' a' fd' sh' → X (KL L xs) RL code 4 (d + 21) h' 1192 [(3, .int (nI i)), (2, .ref 32), (1, .ref 0), (0, .ref 100)] []) : X (KL L xs) RL code 4 (d + 21) h 1178 [(3, .int (nI i)), (2, .ref 32), (1, .ref 0), (0, .ref 100)] [] := by
  refine x_aload_n dL_law_1178 rfl 2 rfl ?_
  obtain ⟨r, n', g', a', fd', sh', G', C, M⟩ := op_digest (fd := fd) G
  refine x_vJ vl_L_160 dL_law_1179 (As := []) rfl rfl (Nat.le_of_ble_eq_true rfl) (C d h _ hC (fun h1 hC1 hF1 => ?_))
  refine x_aload_n dL_law_1182 rfl 1 rfl ?_
  refine x_vJ vl_L_164 dL_law_1183 (As := []) rfl rfl (Nat.le_of_ble_eq_true rfl) (M d h1 _ (hM.keep hF1) (fun h2 hM2 hF2 => ?_))
  refine x_lcmp dL_law_1186 ?_
  exact x_if_eq (tgt := 1192) dL_law_1187 (by decide) (fun _ => kk h2 _ _ _ _ _ G' (hC1.keep hF2) hM2) (fun q => absurd (lcmp_self r) q)
set_option maxRecDepth 20000 in
set_option maxHeartbeats 2000000 in
theorem law_loop {L d : Nat} {xs : Nat → Int32} (hL : L ≤ 3072) : ∀ (e i : Nat) (h : Hp) (n : Nat) (g : Nat → Nat → Bool) (a : Nat) (fd : Int32) (sh : Sh), L < i + 6 * e + 6 → i ≤ 4000 → Gd n g a sh → CX h n g a fd sh → MX h n g a fd sh → X (KL L xs) RL code 4 (d + 21) h 18 [(3, .int (nI i)), (2, .ref 32), (1, .ref 0), (0, .ref 100)] [] := by
  have fin : ∀ (i : Nat) (h : Hp), X (KL L xs) RL code 4 (d + 21) h 1198 [(3, .int (nI i)), (2, .ref 32), (1, .ref 0), (0, .ref 100)] [] := fun i h => x_iconst (v := 1) dL_law_1198 (by decide) (x_ret1 dL_law_1199)
  have cmp : ∀ i, i ≤ 4000 → ((nI L - 6 < nI i) ↔ L < i + 6) := fun i hi => by
    rw [Int32.lt_iff_toInt_lt, show (6 : Int32) = nI 6 from rfl, pk_sub_toInt (by omega) (by decide), nI_toInt (by omega)]
    omega
  intro e
  induction e with
  | zero =>
    intro i h n g a fd sh he hi4 G hC hM
    refine x_iload_n dL_law_18 rfl 0 rfl ?_
    refine x_aload_n dL_law_19 rfl 3 rfl ?_
    refine x_slen dL_law_20 ?_
    refine x_bipush (v := 6) dL_law_21 (by decide) ?_
    refine x_isub dL_law_23 ?_
    exact x_icmp_gt (tgt := 1198) dL_law_24 (by decide) (fun _ => fin i h) (fun c => absurd ((cmp i hi4).mpr (by omega)) c)
  | succ e ih =>
    intro i h n g a fd sh he hi4 G hC hM
    refine x_iload_n dL_law_18 rfl 0 rfl ?_
    refine x_aload_n dL_law_19 rfl 3 rfl ?_
    refine x_slen dL_law_20 ?_
    refine x_bipush (v := 6) dL_law_21 (by decide) ?_
    refine x_isub dL_law_23 ?_
    refine x_icmp_gt (tgt := 1198) dL_law_24 (by decide) (fun _ => fin i h) (fun c => ?_)
    have hi : i + 6 ≤ L := Nat.not_lt.mp (fun q => c ((cmp i hi4).mpr q))
    have nxt : ∀ (h' : Hp) (n' : Nat) (g' : Nat → Nat → Bool) (a' : Nat) (fd' : Int32) (sh' : Sh), Gd n' g' a' sh' → CX h' n' g' a' fd' sh' → MX h' n' g' a' fd' sh' → X (KL L xs) RL code 4 (d + 21) h' 1192 [(3, .int (nI i)), (2, .ref 32), (1, .ref 0), (0, .ref 100)] [] := fun h' n' g' a' fd' sh' G' C' M' => by
      refine x_iinc (q := 0) (v := nI (i + 6)) dL_law_1192 rfl (by show nI i + nI 6 = _; rw [nI_add]) (by decide) (lv' := [(3, .int (nI (i + 6))), (2, .ref 32), (1, .ref 0), (0, .ref 100)]) rfl ?_
      refine x_goto (tgt := 18) dL_law_1195 (by decide) ?_
      exact ih (i + 6) h' n' g' a' fd' sh' (by omega) (by omega) G' C' M'
    refine x_aload_n dL_law_27 rfl 3 rfl ?_
    refine x_iload_n dL_law_28 rfl 0 rfl ?_
    refine x_sld (inI_n (show i < L by omega) (by omega)) dL_law_29 ?_
    refine x_bipush (v := 63) dL_law_30 (by decide) ?_
    refine x_iand dL_law_32 ?_
    refine x_tsw (n := 36) (offs := #[159, 182, 225, 258, 281, 314, 327, 360, 373, 396, 430, 453, 466, 479, 502, 535, 558, 581, 604, 617, 630, 643, 666, 709, 742, 775, 808, 841, 884, 907, 960, 1003, 1066, 1099, 1122, 1145]) dL_law_33 rfl (by decide) (fun j hj c => ?_) (fun c => ⟨1192, by decide, nxt h n g a fd sh G hC hM⟩)
    match j, hj, c with
    | 0, _, c => exact ⟨159, 192, rfl, by decide, lc_0 hL hi G hC hM nxt⟩
    | 1, _, c => exact ⟨182, 215, rfl, by decide, lc_1 hL hi G hC hM nxt⟩
    | 2, _, c => exact ⟨225, 258, rfl, by decide, lc_2 hL hi G hC hM nxt⟩
    | 3, _, c => exact ⟨258, 291, rfl, by decide, lc_3 hL hi G hC hM nxt⟩
    | 4, _, c => exact ⟨281, 314, rfl, by decide, lc_4 hL hi G hC hM nxt⟩
    | 5, _, c => exact ⟨314, 347, rfl, by decide, lc_5 hL hi G hC hM nxt⟩
    | 6, _, c => exact ⟨327, 360, rfl, by decide, lc_6 hL hi G hC hM nxt⟩
    | 7, _, c => exact ⟨360, 393, rfl, by decide, lc_7 hL hi G hC hM nxt⟩
    | 8, _, c => exact ⟨373, 406, rfl, by decide, lc_8 hL hi G hC hM nxt⟩
    | 9, _, c => exact ⟨396, 429, rfl, by decide, lc_9 hL hi G hC hM nxt⟩
    | 10, _, c => exact ⟨430, 463, rfl, by decide, lc_10 hL hi G hC hM nxt⟩
    | 11, _, c => exact ⟨453, 486, rfl, by decide, lc_11 hL hi G hC hM nxt⟩
    | 12, _, c => exact ⟨466, 499, rfl, by decide, lc_12 hL hi G hC hM nxt⟩
    | 13, _, c => exact ⟨479, 512, rfl, by decide, lc_13 hL hi G hC hM nxt⟩
    | 14, _, c => exact ⟨502, 535, rfl, by decide, lc_14 hL hi G hC hM nxt⟩
    | 15, _, c => exact ⟨535, 568, rfl, by decide, lc_15 hL hi G hC hM nxt⟩
    | 16, _, c => exact ⟨558, 591, rfl, by decide, lc_16 hL hi G hC hM nxt⟩
    | 17, _, c => exact ⟨581, 614, rfl, by decide, lc_17 hL hi G hC hM nxt⟩
    | 18, _, c => exact ⟨604, 637, rfl, by decide, lc_18 hL hi G hC hM nxt⟩
    | 19, _, c => exact ⟨617, 650, rfl, by decide, lc_19 hL hi G hC hM nxt⟩
    | 20, _, c => exact ⟨630, 663, rfl, by decide, lc_20 hL hi G hC hM nxt⟩
    | 21, _, c => exact ⟨643, 676, rfl, by decide, lc_21 hL hi G hC hM nxt⟩
    | 22, _, c => exact ⟨666, 699, rfl, by decide, lc_22 hL hi G hC hM nxt⟩
    | 23, _, c => exact ⟨709, 742, rfl, by decide, lc_23 hL hi G hC hM nxt⟩
    | 24, _, c => exact ⟨742, 775, rfl, by decide, lc_24 hL hi G hC hM nxt⟩
    | 25, _, c => exact ⟨775, 808, rfl, by decide, lc_25 hL hi G hC hM nxt⟩
    | 26, _, c => exact ⟨808, 841, rfl, by decide, lc_26 hL hi G hC hM nxt⟩
    | 27, _, c => exact ⟨841, 874, rfl, by decide, lc_27 hL hi G hC hM nxt⟩
    | 28, _, c => exact ⟨884, 917, rfl, by decide, lc_28 hL hi G hC hM nxt⟩
    | 29, _, c => exact ⟨907, 940, rfl, by decide, lc_29 hL hi G hC hM nxt⟩
    | 30, _, c => exact ⟨960, 993, rfl, by decide, lc_30 hL hi G hC hM nxt⟩
    | 31, _, c => exact ⟨1003, 1036, rfl, by decide, lc_31 hL hi G hC hM nxt⟩
    | 32, _, c => exact ⟨1066, 1099, rfl, by decide, lc_32 hL hi G hC hM nxt⟩
    | 33, _, c => exact ⟨1099, 1132, rfl, by decide, lc_33 hL hi G hC hM nxt⟩
    | 34, _, c => exact ⟨1122, 1155, rfl, by decide, lc_34 hL hi G hC hM nxt⟩
    | 35, _, c => exact ⟨1145, 1178, rfl, by decide, lc_35 hL hi G hC hM nxt⟩
    | k + 36, hk, _ => exact absurd hk (by omega)
