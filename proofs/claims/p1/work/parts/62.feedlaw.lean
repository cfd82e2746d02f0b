/-! the law's case 0: feeding -/
section ZFL
theorem zu_196 : decode code 196 = .ok (.aload_n 1, 1) := by decide +kernel
theorem zu_197 : decode code 197 = .ok (.aload_n 0, 1) := by decide +kernel
theorem zu_198 : decode code 198 = .ok (.iload 4, 2) := by decide +kernel
theorem zu_200 : decode code 200 = .ok (.iconst 1, 1) := by decide +kernel
theorem zu_201 : decode code 201 = .ok (.iadd, 1) := by decide +kernel
theorem zu_202 : decode code 202 = .ok (.iaload, 1) := by decide +kernel
theorem zu_203 : decode code 203 = .ok (.i2l, 1) := by decide +kernel
theorem zu_204 : decode code 204 = .ok (.bipush 32, 2) := by decide +kernel
theorem zu_206 : decode code 206 = .ok (.lshl, 1) := by decide +kernel
theorem zu_207 : decode code 207 = .ok (.aload_n 0, 1) := by decide +kernel
theorem zu_208 : decode code 208 = .ok (.iload 4, 2) := by decide +kernel
theorem zu_210 : decode code 210 = .ok (.iconst 2, 1) := by decide +kernel
theorem zu_211 : decode code 211 = .ok (.iadd, 1) := by decide +kernel
theorem zu_212 : decode code 212 = .ok (.iaload, 1) := by decide +kernel
theorem zu_213 : decode code 213 = .ok (.i2l, 1) := by decide +kernel
theorem zu_214 : decode code 214 = .ok (.ldc2_w 19, 3) := by decide +kernel
theorem zu_217 : decode code 217 = .ok (.land, 1) := by decide +kernel
theorem zu_218 : decode code 218 = .ok (.lor, 1) := by decide +kernel
theorem zu_219 : decode code 219 = .ok (.aload_n 0, 1) := by decide +kernel
theorem zu_220 : decode code 220 = .ok (.iload 4, 2) := by decide +kernel
theorem zu_222 : decode code 222 = .ok (.iconst 3, 1) := by decide +kernel
theorem zu_223 : decode code 223 = .ok (.iadd, 1) := by decide +kernel
theorem zu_224 : decode code 224 = .ok (.iaload, 1) := by decide +kernel
theorem zu_225 : decode code 225 = .ok (.i2l, 1) := by decide +kernel
theorem zu_226 : decode code 226 = .ok (.bipush 32, 2) := by decide +kernel
theorem zu_228 : decode code 228 = .ok (.lshl, 1) := by decide +kernel
theorem zu_229 : decode code 229 = .ok (.aload_n 0, 1) := by decide +kernel
theorem zu_230 : decode code 230 = .ok (.iload 4, 2) := by decide +kernel
theorem zu_232 : decode code 232 = .ok (.iconst 4, 1) := by decide +kernel
theorem zu_233 : decode code 233 = .ok (.iadd, 1) := by decide +kernel
theorem zu_234 : decode code 234 = .ok (.iaload, 1) := by decide +kernel
theorem zu_235 : decode code 235 = .ok (.i2l, 1) := by decide +kernel
theorem zu_236 : decode code 236 = .ok (.ldc2_w 19, 3) := by decide +kernel
theorem zu_239 : decode code 239 = .ok (.land, 1) := by decide +kernel
theorem zu_240 : decode code 240 = .ok (.lor, 1) := by decide +kernel
theorem zu_241 : decode code 241 = .ok (.aload_n 0, 1) := by decide +kernel
theorem zu_242 : decode code 242 = .ok (.iload 4, 2) := by decide +kernel
theorem zu_244 : decode code 244 = .ok (.iconst 5, 1) := by decide +kernel
theorem zu_245 : decode code 245 = .ok (.iadd, 1) := by decide +kernel
theorem zu_246 : decode code 246 = .ok (.iaload, 1) := by decide +kernel
theorem zu_247 : decode code 247 = .ok (.i2l, 1) := by decide +kernel
theorem zu_248 : decode code 248 = .ok (.bipush 32, 2) := by decide +kernel
theorem zu_250 : decode code 250 = .ok (.lshl, 1) := by decide +kernel
theorem zu_251 : decode code 251 = .ok (.aload_n 0, 1) := by decide +kernel
theorem zu_252 : decode code 252 = .ok (.iload 4, 2) := by decide +kernel
theorem zu_254 : decode code 254 = .ok (.bipush 6, 2) := by decide +kernel
theorem zu_256 : decode code 256 = .ok (.iadd, 1) := by decide +kernel
theorem zu_257 : decode code 257 = .ok (.iaload, 1) := by decide +kernel
theorem zu_258 : decode code 258 = .ok (.i2l, 1) := by decide +kernel
theorem zu_259 : decode code 259 = .ok (.ldc2_w 19, 3) := by decide +kernel
theorem zu_262 : decode code 262 = .ok (.land, 1) := by decide +kernel
theorem zu_263 : decode code 263 = .ok (.lor, 1) := by decide +kernel
theorem zu_264 : decode code 264 = .ok (.invokevirtual 21, 3) := by decide +kernel
theorem zu_267 : decode code 267 = .ok (.aload_n 2, 1) := by decide +kernel
theorem zu_268 : decode code 268 = .ok (.aload_n 0, 1) := by decide +kernel
theorem zu_269 : decode code 269 = .ok (.iload 4, 2) := by decide +kernel
theorem zu_271 : decode code 271 = .ok (.iconst 1, 1) := by decide +kernel
theorem zu_272 : decode code 272 = .ok (.iadd, 1) := by decide +kernel
theorem zu_273 : decode code 273 = .ok (.iaload, 1) := by decide +kernel
theorem zu_274 : decode code 274 = .ok (.i2l, 1) := by decide +kernel
theorem zu_275 : decode code 275 = .ok (.bipush 32, 2) := by decide +kernel
theorem zu_277 : decode code 277 = .ok (.lshl, 1) := by decide +kernel
theorem zu_278 : decode code 278 = .ok (.aload_n 0, 1) := by decide +kernel
theorem zu_279 : decode code 279 = .ok (.iload 4, 2) := by decide +kernel
theorem zu_281 : decode code 281 = .ok (.iconst 2, 1) := by decide +kernel
theorem zu_282 : decode code 282 = .ok (.iadd, 1) := by decide +kernel
theorem zu_283 : decode code 283 = .ok (.iaload, 1) := by decide +kernel
theorem zu_284 : decode code 284 = .ok (.i2l, 1) := by decide +kernel
theorem zu_285 : decode code 285 = .ok (.ldc2_w 19, 3) := by decide +kernel
theorem zu_288 : decode code 288 = .ok (.land, 1) := by decide +kernel
theorem zu_289 : decode code 289 = .ok (.lor, 1) := by decide +kernel
theorem zu_290 : decode code 290 = .ok (.aload_n 0, 1) := by decide +kernel
theorem zu_291 : decode code 291 = .ok (.iload 4, 2) := by decide +kernel
theorem zu_293 : decode code 293 = .ok (.iconst 3, 1) := by decide +kernel
theorem zu_294 : decode code 294 = .ok (.iadd, 1) := by decide +kernel
theorem zu_295 : decode code 295 = .ok (.iaload, 1) := by decide +kernel
theorem zu_296 : decode code 296 = .ok (.i2l, 1) := by decide +kernel
theorem zu_297 : decode code 297 = .ok (.bipush 32, 2) := by decide +kernel
theorem zu_299 : decode code 299 = .ok (.lshl, 1) := by decide +kernel
theorem zu_300 : decode code 300 = .ok (.aload_n 0, 1) := by decide +kernel
theorem zu_301 : decode code 301 = .ok (.iload 4, 2) := by decide +kernel
theorem zu_303 : decode code 303 = .ok (.iconst 4, 1) := by decide +kernel
theorem zu_304 : decode code 304 = .ok (.iadd, 1) := by decide +kernel
theorem zu_305 : decode code 305 = .ok (.iaload, 1) := by decide +kernel
theorem zu_306 : decode code 306 = .ok (.i2l, 1) := by decide +kernel
theorem zu_307 : decode code 307 = .ok (.ldc2_w 19, 3) := by decide +kernel
theorem zu_310 : decode code 310 = .ok (.land, 1) := by decide +kernel
theorem zu_311 : decode code 311 = .ok (.lor, 1) := by decide +kernel
theorem zu_312 : decode code 312 = .ok (.aload_n 0, 1) := by decide +kernel
theorem zu_313 : decode code 313 = .ok (.iload 4, 2) := by decide +kernel
theorem zu_315 : decode code 315 = .ok (.iconst 5, 1) := by decide +kernel
theorem zu_316 : decode code 316 = .ok (.iadd, 1) := by decide +kernel
theorem zu_317 : decode code 317 = .ok (.iaload, 1) := by decide +kernel
theorem zu_318 : decode code 318 = .ok (.i2l, 1) := by decide +kernel
theorem zu_319 : decode code 319 = .ok (.bipush 32, 2) := by decide +kernel
theorem zu_321 : decode code 321 = .ok (.lshl, 1) := by decide +kernel
theorem zu_322 : decode code 322 = .ok (.aload_n 0, 1) := by decide +kernel
theorem zu_323 : decode code 323 = .ok (.iload 4, 2) := by decide +kernel
theorem zu_325 : decode code 325 = .ok (.bipush 6, 2) := by decide +kernel
theorem zu_327 : decode code 327 = .ok (.iadd, 1) := by decide +kernel
theorem zu_328 : decode code 328 = .ok (.iaload, 1) := by decide +kernel
theorem zu_329 : decode code 329 = .ok (.i2l, 1) := by decide +kernel
theorem zu_330 : decode code 330 = .ok (.ldc2_w 19, 3) := by decide +kernel
theorem zu_333 : decode code 333 = .ok (.land, 1) := by decide +kernel
theorem zu_334 : decode code 334 = .ok (.lor, 1) := by decide +kernel
theorem zu_335 : decode code 335 = .ok (.invokevirtual 25, 3) := by decide +kernel
theorem zu_338 : decode code 338 = .ok (.if_icmp .eq 986, 3) := by decide +kernel
theorem zu_1324 : decode code 1324 = .ok (.iinc 4 7, 3) := by decide +kernel
theorem zu_1327 : decode code 1327 = .ok (.goto (-1304), 3) := by decide +kernel
theorem zul : Cond.constantLong "BeggarHeapsLaw" 19 4294967295 ∈ zAl := zmem_of 2246 (by decide +kernel) rfl
noncomputable def zlg (x y : Int32) : Int64 := (x.toInt64 <<< ((32 : Int32).toInt64 &&& 63)) ||| (y.toInt64 &&& 4294967295)
theorem zph0b : (match zrun zmt (zbdC (0, 0) []) 100 20 164 true zsl 196 23 zsl [] zbase 1000 200000 with
  | some (none, cs) => zcsB cs zbase
  | _ => false) = true := by decide +kernel
theorem zph0 : zrun zmt (zbdC (0, 0) []) 100 20 164 true zsl 196 23 zsl [] zbase 1000 200000 = some (none, zbase) := by
  have h := zph0b
  split at h
  · rename_i cs hq
    rw [hq, of_decide_eq_true h]
  · cases h
noncomputable def zfv0 : List Value := [.ref 1, .ref 4, .ref 11, .ref 18, .ref 22, .ref 26, .ref 29, .ref 45, .int 0, .int 0, .ref 46, .ref 47, .ref 48, .ref 51, .ref 60, .ref 71, .ref 76, .ref 78, .int 0]
noncomputable def zfv1 : List Value := [.ref 2, .ref 3, .int 0, .int 0, .int 0, .int 0, .int 0, .int 0, .int 0, .long 0]
noncomputable def zfv79 : List Value := [.int 0, .ref 80, .int 0, .int 0, .ref 81, .ref 82, .ref 83, .int 0, .int 0, .ref 84, .ref 85, .ref 86, .ref 87, .int 0, .ref 88, .ref 89, .int 0, .ref 90, .ref 91, .ref 92, .ref 93, .ref 94, .ref 95, .int 0, .ref 96, .int (-1), .int 0, .ref 97, .ref 98, .ref 99, .ref 100, .ref 101, .ref 102, .ref 103, .ref 104, .int 0, .int 0, .int 0, .int 0, .int 0, .ref 105, .int 0, .ref 106, .ref 107, .int 0, .int 0, .ref 108, .ref 109, .int 0, .int 0, .int 0, .int 0, .ref 110, .ref 111, .int 0, .long 0]
theorem zf5_0 : zn zbase 0 = some (.inl (11, zfv0)) := rfl
theorem zf5_1 : zn zbase 1 = some (.inl (10, zfv1)) := rfl
theorem zf5_2 : zn zbase 2 = some (.inr (3, 1000, [])) := rfl
theorem zf5_79 : zn zbase 79 = some (.inl (12, zfv79)) := rfl
theorem zf5_80 : zn zbase 80 = some (.inr (0, 1000, [])) := rfl
theorem zfm {α β : Type} {is : List α} {f : α → Option β} {ws : List β} (h : is.map f = ws.map some) : is.filterMap f = ws := by
  have h1 : (is.map f).filterMap id = (ws.map some).filterMap id := by rw [h]
  simpa [List.filterMap_map] using h1
/-- the cells that feeding works on -/
noncomputable abbrev zW5 (cA : Nat → ClassId) (xs : Nat → Int32) (ad : Nat → Nat) : va_W := [(ad 0, .inr (11, zfv0.map (zc (zrh xs) ad))), (ad 1, .inr (10, zfv1.map (zc (zrh xs) ad))), (ad 2, .inl (cA 3, 1000, .inl (fun _ => 0))), (ad 79, .inr (12, zfv79.map (zc (zrh xs) ad))), (ad 80, .inl (cA 0, 1000, .inl (fun _ => 0)))]
theorem zf5 {cA : Nat → ClassId} {xs : Nat → Int32} {ad : Nat → Nat} : [0, 1, 2, 79, 80].map (fun i => (zW cA (zrh xs) ad zbase)[i]?) = (zW5 cA xs ad).map some := by
  show [(zW cA (zrh xs) ad zbase)[0]?, (zW cA (zrh xs) ad zbase)[1]?, (zW cA (zrh xs) ad zbase)[2]?, (zW cA (zrh xs) ad zbase)[79]?, (zW cA (zrh xs) ad zbase)[80]?] = _
  rw [zW_get zf5_0, zW_get zf5_1, zW_get zf5_2, zW_get zf5_79, zW_get zf5_80]
  rfl
variable {p : Program} {l : Launch} {e : Env} {s : State} {m : MethodId} {below : List Frame} {meth : Method} {c : Code} {b : Nat} {xs : Nat → Int32}
set_option maxHeartbeats 2000000 in
theorem zfL1 (C0 : lw_At p s m meth c b 7 xs) {ad : Nat → Nat} {H : Heap} {locs : List Loc} {mc ms : Nat} {ls : Array Slot} {Q : State → Prop} (hS : va_S (fun q => s.heap.size ≤ q) s.heap H locs) (hl : lv_has ls 7 [(4, .int 0), (3, .ref (ad 112)), (2, .ref (ad 79)), (1, .ref (ad 0)), (0, .ref b)]) (kk : W p l e room_1 s m #[Value.ref b] below meth c H locs mc ms Q (F0 m 264 ls [.long (zlg (xs 5) (xs 6)), .long (zlg (xs 3) (xs 4)), .long (zlg (xs 1) (xs 2)), .ref (ad 0)])) : W p l e room_1 s m #[Value.ref b] below meth c H locs mc ms Q (F0 m 196 ls []) := by
  obtain ⟨hx, hb, hr, hml, hown, hts, hX, hbl, hlocks, hgv, hname⟩ := C0
  have hAl : ∀ w ∈ zAl, w.before #[Value.ref b] s = true := fun w hw => hts w (List.mem_filter.mp hw).1
  have hbA : ¬ (fun q : Nat => s.heap.size ≤ q) b := Nat.not_le.mpr hbl
  refine lv_aload_n hx hb zu_196 rfl (lv_at hl 3 rfl) ?_
  refine lv_aload_n hx hb zu_197 rfl (lv_at hl 4 rfl) ?_
  refine lv_iload hx hb zu_198 (lv_at hl 0 rfl) ?_
  refine lv_iconst (v := 1) hx hb zu_200 (by decide) ?_
  refine lv_iadd hx hb zu_201 ?_
  refine va_sld hx hb hX hbl hbA hS (show ¬ (_ ∨ _) by decide) zu_202 ?_
  refine lv_i2l hx hb zu_203 rfl ?_
  refine lv_bipush (v := 32) hx hb zu_204 (by decide) ?_
  refine lv_lshl hx hb zu_206 rfl ?_
  refine lv_aload_n hx hb zu_207 rfl (lv_at hl 4 rfl) ?_
  refine lv_iload hx hb zu_208 (lv_at hl 0 rfl) ?_
  refine lv_iconst (v := 2) hx hb zu_210 (by decide) ?_
  refine lv_iadd hx hb zu_211 ?_
  refine va_sld hx hb hX hbl hbA hS (show ¬ (_ ∨ _) by decide) zu_212 ?_
  refine lv_i2l hx hb zu_213 rfl ?_
  refine lv_ldc2 hx hb hown (hAl _ zul) zu_214 ?_
  refine lv_land hx hb zu_217 ?_
  refine lv_lor hx hb zu_218 ?_
  refine lv_aload_n hx hb zu_219 rfl (lv_at hl 4 rfl) ?_
  refine lv_iload hx hb zu_220 (lv_at hl 0 rfl) ?_
  refine lv_iconst (v := 3) hx hb zu_222 (by decide) ?_
  refine lv_iadd hx hb zu_223 ?_
  refine va_sld hx hb hX hbl hbA hS (show ¬ (_ ∨ _) by decide) zu_224 ?_
  refine lv_i2l hx hb zu_225 rfl ?_
  refine lv_bipush (v := 32) hx hb zu_226 (by decide) ?_
  refine lv_lshl hx hb zu_228 rfl ?_
  refine lv_aload_n hx hb zu_229 rfl (lv_at hl 4 rfl) ?_
  refine lv_iload hx hb zu_230 (lv_at hl 0 rfl) ?_
  refine lv_iconst (v := 4) hx hb zu_232 (by decide) ?_
  refine lv_iadd hx hb zu_233 ?_
  refine va_sld hx hb hX hbl hbA hS (show ¬ (_ ∨ _) by decide) zu_234 ?_
  refine lv_i2l hx hb zu_235 rfl ?_
  refine lv_ldc2 hx hb hown (hAl _ zul) zu_236 ?_
  refine lv_land hx hb zu_239 ?_
  refine lv_lor hx hb zu_240 ?_
  refine lv_aload_n hx hb zu_241 rfl (lv_at hl 4 rfl) ?_
  refine lv_iload hx hb zu_242 (lv_at hl 0 rfl) ?_
  refine lv_iconst (v := 5) hx hb zu_244 (by decide) ?_
  refine lv_iadd hx hb zu_245 ?_
  refine va_sld hx hb hX hbl hbA hS (show ¬ (_ ∨ _) by decide) zu_246 ?_
  refine lv_i2l hx hb zu_247 rfl ?_
  refine lv_bipush (v := 32) hx hb zu_248 (by decide) ?_
  refine lv_lshl hx hb zu_250 rfl ?_
  refine lv_aload_n hx hb zu_251 rfl (lv_at hl 4 rfl) ?_
  refine lv_iload hx hb zu_252 (lv_at hl 0 rfl) ?_
  refine lv_bipush (v := 6) hx hb zu_254 (by decide) ?_
  refine lv_iadd hx hb zu_256 ?_
  refine va_sld hx hb hX hbl hbA hS (show ¬ (_ ∨ _) by decide) zu_257 ?_
  refine lv_i2l hx hb zu_258 rfl ?_
  refine lv_ldc2 hx hb hown (hAl _ zul) zu_259 ?_
  refine lv_land hx hb zu_262 ?_
  refine lv_lor hx hb zu_263 ?_
  exact kk
set_option maxHeartbeats 2000000 in
theorem zfL2 (C0 : lw_At p s m meth c b 7 xs) {ad : Nat → Nat} {H : Heap} {locs : List Loc} {mc ms : Nat} {ls : Array Slot} {Q : State → Prop} (hS : va_S (fun q => s.heap.size ≤ q) s.heap H locs) (hl : lv_has ls 7 [(4, .int 0), (3, .ref (ad 112)), (2, .ref (ad 79)), (1, .ref (ad 0)), (0, .ref b)]) {r1 : Int32} (kk : W p l e room_1 s m #[Value.ref b] below meth c H locs mc ms Q (F0 m 335 ls [.long (zlg (xs 5) (xs 6)), .long (zlg (xs 3) (xs 4)), .long (zlg (xs 1) (xs 2)), .ref (ad 79), .int r1])) : W p l e room_1 s m #[Value.ref b] below meth c H locs mc ms Q (F0 m 267 ls [.int r1]) := by
  obtain ⟨hx, hb, hr, hml, hown, hts, hX, hbl, hlocks, hgv, hname⟩ := C0
  have hAl : ∀ w ∈ zAl, w.before #[Value.ref b] s = true := fun w hw => hts w (List.mem_filter.mp hw).1
  have hbA : ¬ (fun q : Nat => s.heap.size ≤ q) b := Nat.not_le.mpr hbl
  refine lv_aload_n hx hb zu_267 rfl (lv_at hl 2 rfl) ?_
  refine lv_aload_n hx hb zu_268 rfl (lv_at hl 4 rfl) ?_
  refine lv_iload hx hb zu_269 (lv_at hl 0 rfl) ?_
  refine lv_iconst (v := 1) hx hb zu_271 (by decide) ?_
  refine lv_iadd hx hb zu_272 ?_
  refine va_sld hx hb hX hbl hbA hS (show ¬ (_ ∨ _) by decide) zu_273 ?_
  refine lv_i2l hx hb zu_274 rfl ?_
  refine lv_bipush (v := 32) hx hb zu_275 (by decide) ?_
  refine lv_lshl hx hb zu_277 rfl ?_
  refine lv_aload_n hx hb zu_278 rfl (lv_at hl 4 rfl) ?_
  refine lv_iload hx hb zu_279 (lv_at hl 0 rfl) ?_
  refine lv_iconst (v := 2) hx hb zu_281 (by decide) ?_
  refine lv_iadd hx hb zu_282 ?_
  refine va_sld hx hb hX hbl hbA hS (show ¬ (_ ∨ _) by decide) zu_283 ?_
  refine lv_i2l hx hb zu_284 rfl ?_
  refine lv_ldc2 hx hb hown (hAl _ zul) zu_285 ?_
  refine lv_land hx hb zu_288 ?_
  refine lv_lor hx hb zu_289 ?_
  refine lv_aload_n hx hb zu_290 rfl (lv_at hl 4 rfl) ?_
  refine lv_iload hx hb zu_291 (lv_at hl 0 rfl) ?_
  refine lv_iconst (v := 3) hx hb zu_293 (by decide) ?_
  refine lv_iadd hx hb zu_294 ?_
  refine va_sld hx hb hX hbl hbA hS (show ¬ (_ ∨ _) by decide) zu_295 ?_
  refine lv_i2l hx hb zu_296 rfl ?_
  refine lv_bipush (v := 32) hx hb zu_297 (by decide) ?_
  refine lv_lshl hx hb zu_299 rfl ?_
  refine lv_aload_n hx hb zu_300 rfl (lv_at hl 4 rfl) ?_
  refine lv_iload hx hb zu_301 (lv_at hl 0 rfl) ?_
  refine lv_iconst (v := 4) hx hb zu_303 (by decide) ?_
  refine lv_iadd hx hb zu_304 ?_
  refine va_sld hx hb hX hbl hbA hS (show ¬ (_ ∨ _) by decide) zu_305 ?_
  refine lv_i2l hx hb zu_306 rfl ?_
  refine lv_ldc2 hx hb hown (hAl _ zul) zu_307 ?_
  refine lv_land hx hb zu_310 ?_
  refine lv_lor hx hb zu_311 ?_
  refine lv_aload_n hx hb zu_312 rfl (lv_at hl 4 rfl) ?_
  refine lv_iload hx hb zu_313 (lv_at hl 0 rfl) ?_
  refine lv_iconst (v := 5) hx hb zu_315 (by decide) ?_
  refine lv_iadd hx hb zu_316 ?_
  refine va_sld hx hb hX hbl hbA hS (show ¬ (_ ∨ _) by decide) zu_317 ?_
  refine lv_i2l hx hb zu_318 rfl ?_
  refine lv_bipush (v := 32) hx hb zu_319 (by decide) ?_
  refine lv_lshl hx hb zu_321 rfl ?_
  refine lv_aload_n hx hb zu_322 rfl (lv_at hl 4 rfl) ?_
  refine lv_iload hx hb zu_323 (lv_at hl 0 rfl) ?_
  refine lv_bipush (v := 6) hx hb zu_325 (by decide) ?_
  refine lv_iadd hx hb zu_327 ?_
  refine va_sld hx hb hX hbl hbA hS (show ¬ (_ ∨ _) by decide) zu_328 ?_
  refine lv_i2l hx hb zu_329 rfl ?_
  refine lv_ldc2 hx hb hown (hAl _ zul) zu_330 ?_
  refine lv_land hx hb zu_333 ?_
  refine lv_lor hx hb zu_334 ?_
  exact kk
set_option maxHeartbeats 2000000 in
theorem zfL3 (C0 : lw_At p s m meth c b 7 xs) {ad : Nat → Nat} {H : Heap} {locs : List Loc} {mc ms : Nat} {ls : Array Slot} (hS : va_S (fun q => s.heap.size ≤ q) s.heap H locs) (hl : lv_has ls 7 [(4, .int 0), (3, .ref (ad 112)), (2, .ref (ad 79)), (1, .ref (ad 0)), (0, .ref b)]) {r : Int32} (hmc : mc ≤ 600002) (hms : ms ≤ 7302232) : W p l e room_1 s m #[Value.ref b] below meth c H locs mc ms (lw_Z below #[Value.ref b] s) (F0 m 338 ls [.int r, .int r]) := by
  obtain ⟨hx, hb, hr, hml, hown, hts, hX, hbl, hlocks, hgv, hname⟩ := C0
  have hAl : ∀ w ∈ zAl, w.before #[Value.ref b] s = true := fun w hw => hts w (List.mem_filter.mp hw).1
  have hbA : ¬ (fun q : Nat => s.heap.size ≤ q) b := Nat.not_le.mpr hbl
  refine lv_icmp_eq (tgt := 1324) hx hb zu_338 (by decide) (fun _ => ?_) (fun h => absurd rfl h)
  refine lv_iinc (v := 7) (lv' := [(4, .int 7), (3, .ref (ad 112)), (2, .ref (ad 79)), (1, .ref (ad 0)), (0, .ref b)]) hx hb zu_1324 hl (k := 0) rfl (by decide) (by decide) rfl (fun ls hl => ?_)
  refine lv_goto (tgt := 23) hx hb zu_1327 (by decide) ?_
  refine lv_iload hx hb zw_23 (lv_at hl 0 rfl) ?_
  refine lv_aload_n hx hb zw_25 rfl (lv_at hl 4 rfl) ?_
  refine va_slen hx hb hX hbl hbA hS zw_26 ?_
  refine lv_bipush (v := 7) hx hb zw_27 (by decide) ?_
  refine lv_isub hx hb zw_29 ?_
  refine lv_icmp_gt (tgt := 1330) hx hb zw_30 (by decide) (fun _ => ?_) (fun h => absurd (by decide) h)
  refine lv_iconst (v := 1) hx hb zw_1330 (by decide) ?_
  refine va_forget (fun z hz => hS.2.2 z hz) ?_
  refine W.widen (k := 600002) (n := 7302232) hmc hms ?_
  exact lw_ret hx hb hr hlocks zw_1331
set_option maxHeartbeats 2000000 in
theorem zfeed1 (l : Launch) (C0 : lw_At p s m meth c b 7 xs) {D : va_G} {cA : Nat → ClassId} (hZX : ZX D cA s) {ad : Nat → Nat} (hb1 : ad 1000001 = b) {H : Heap} {locs : List Loc} {mc ms : Nat} {ls : Array Slot} (hmc : mc ≤ 1000) (hms : ms ≤ 200000) (hP : va_P D zcl (zW cA (zrh xs) ad zbase) H) (hD : va_D (fun q => s.heap.size ≤ q) (zW cA (zrh xs) ad zbase)) (hS : va_S (fun q => s.heap.size ≤ q) s.heap H locs) (hl : lv_has ls 7 (zL (zrh xs) ad zsl)) :
    W p l e room_1 s m #[Value.ref b] below meth c H locs mc ms (lw_Z below #[Value.ref b] s) (F0 m 196 ls []) := by
  have C1 := C0
  obtain ⟨hx, hb, hr, hml, hown, hts, hX, hbl, hlocks, hgv, hname⟩ := C0
  have hAl : ∀ w ∈ zAl, w.before #[Value.ref b] s = true := fun w hw => hts w (List.mem_filter.mp hw).1
  have hK := hZX.1
  have hA : ∀ q : Nat, s.heap.size ≤ q → (fun q : Nat => s.heap.size ≤ q) q := fun _ h => h
  have hl : lv_has ls 7 [(4, .int 0), (3, .ref (ad 112)), (2, .ref (ad 79)), (1, .ref (ad 0)), (0, .ref (ad 1000001))] := hl
  rw [hb1] at hl
  have hmc' : mc + 0 ≤ room_1.cells := by show mc + 0 ≤ 600002; omega
  have hms' : ms + 0 ≤ room_1.slots := by show ms + 0 ≤ 7302232; omega
  have hP : va_P D zcl (zW5 cA xs ad) H := hP.sub [0, 1, 2, 79, 80] (zfm zf5)
  have hD : va_D (fun q : Nat => s.heap.size ≤ q) (zW5 cA xs ad) := hD.sub [0, 1, 2, 79, 80] (by decide) zf5
  refine zfL1 C1 hS hl ?_
  have hPc : va_P D zcl [(ad 0, .inr (11, zfv0.map (zc (zrh xs) ad))), (ad 1, .inr (10, zfv1.map (zc (zrh xs) ad))), (ad 2, .inl (cA 3, 1000, .inl (fun _ => 0)))] H := hP.sub [0, 1, 2] rfl
  have hDc : va_D _ [(ad 0, .inr (11, zfv0.map (zc (zrh xs) ad))), (ad 1, .inr (10, zfv1.map (zc (zrh xs) ad))), (ad 2, .inl (cA 3, 1000, .inl (fun _ => 0)))] := hD.sub [0, 1, 2] (by decide) rfl
  have hFc := va_free (wc := [(ad 0, .inr (11, zfv0.map (zc (zrh xs) ad))), (ad 1, .inr (10, zfv1.map (zc (zrh xs) ad))), (ad 2, .inl (cA 3, 1000, .inl (fun _ => 0)))]) hD hS hA [0, 1, 2] rfl
  refine va_calli (va_runV (As := [.long (zlg (xs 1) (xs 2)), .long (zlg (xs 3) (xs 4)), .long (zlg (xs 5) (xs 6))]) (rest := []) ⟨hx, hb, hml, hown, hAl⟩ (zc_feedC l D cA (ad 0) (ad 1) (ad 2) _ (zfv0.map (zc (zrh xs) ad)) (zfv1.map (zc (zrh xs) ad)) (fun _ => 0) _ _ _ rfl rfl rfl rfl rfl) ⟨callB_of 3 hAl (zgoodIn zAl_good zfc_f) rfl rfl rfl (hAl _ zfi_f) (hAl _ zfk_f) (by decide +kernel) ⟨Nat.le_of_ble_eq_true rfl, Nat.le_of_ble_eq_true rfl⟩, hAl _ zfn_f, hAl _ zfs_f⟩ ⟨fun a U g mk q => by obtain ⟨q0, q1, qP, qK, qD⟩ := q; exact ⟨q0, q1, qP, va_K.moved (u := U) (U := U.calling g mk a) (Vm.Alike.refl U.vm) qK, qD⟩, va_recv hK hPc (ci := 11) (q0 := 0) rfl rfl, fun U hU hW => ⟨rfl, by rw [hU], by rw [hU]; exact hPc, va_K.moved hW.alike hK, hDc.weaken (fun _ _ _ _ => trivial)⟩⟩ rfl rfl hl.1 rfl (lv_room (Nat.le_of_ble_eq_true rfl)) zu_264 ⟨hmc', hms'⟩) hS (fun q _ h => hFc q h) hFc (fun r1 u1 t1 H1 locs1 ht1 hvm1 hw1 hB1 hz1 hk1 hS => ?_)
  obtain ⟨hP, hD⟩ := va_join (wr := [(ad 79, .inr (12, zfv79.map (zc (zrh xs) ad))), (ad 80, .inl (cA 0, 1000, .inl (fun _ => 0)))]) (w1 := []) hP hD [0, 1, 2] [3, 4] rfl rfl (by decide) (by decide) hk1 hFc (fun k q h => by simp at h) ⟨fun i j p q h => by simp at h, fun k q h => by simp at h⟩
  have hP : va_P D zcl [(ad 79, .inr (12, zfv79.map (zc (zrh xs) ad))), (ad 80, .inl (cA 0, 1000, .inl (fun _ => 0)))] H1 := hP
  have hD : va_D (fun q : Nat => s.heap.size ≤ q) [(ad 79, .inr (12, zfv79.map (zc (zrh xs) ad))), (ad 80, .inl (cA 0, 1000, .inl (fun _ => 0)))] := hD
  refine zfL2 C1 hS hl ?_
  have hPc : va_P D zcl [(ad 79, .inr (12, zfv79.map (zc (zrh xs) ad))), (ad 80, .inl (cA 0, 1000, .inl (fun _ => 0)))] H1 := hP
  have hDc : va_D _ [(ad 79, .inr (12, zfv79.map (zc (zrh xs) ad))), (ad 80, .inl (cA 0, 1000, .inl (fun _ => 0)))] := hD
  have hFc := va_free (wc := [(ad 79, .inr (12, zfv79.map (zc (zrh xs) ad))), (ad 80, .inl (cA 0, 1000, .inl (fun _ => 0)))]) hD hS hA [0, 1] rfl
  refine va_calli (va_runV (As := [.long (zlg (xs 1) (xs 2)), .long (zlg (xs 3) (xs 4)), .long (zlg (xs 5) (xs 6))]) (rest := [.int r1]) ⟨hx, hb, hml, hown, hAl⟩ (zc_feedM l D cA (ad 79) (ad 80) _ (zfv79.map (zc (zrh xs) ad)) (fun _ => 0) _ _ _ rfl rfl rfl) ⟨callB_of 3 hAl (zgoodIn zAl_good zfc_m) rfl rfl rfl (hAl _ zfi_m) (hAl _ zfk_m) (by decide +kernel) ⟨Nat.le_of_ble_eq_true rfl, Nat.le_of_ble_eq_true rfl⟩, hAl _ zfn_m, hAl _ zfs_m⟩ ⟨fun a U g mk q => by obtain ⟨q0, q1, qP, qK, qD⟩ := q; exact ⟨q0, q1, qP, va_K.moved (u := U) (U := U.calling g mk a) (Vm.Alike.refl U.vm) qK, qD⟩, va_recv hK hPc (ci := 12) (q0 := 0) rfl rfl, fun U hU hW => ⟨rfl, by rw [hU], by rw [hU]; exact hPc, va_K.moved hW.alike hK, hDc.weaken (fun _ _ _ _ => trivial)⟩⟩ rfl rfl hl.1 rfl (lv_room (Nat.le_of_ble_eq_true rfl)) zu_335 ⟨hmc', hms'⟩) hS (fun q _ h => hFc q h) hFc (fun r2 u2 t2 H2 locs2 ht2 hvm2 hw2 hB2 hz2 hk2 hS => ?_)
  have er : r1 = r2 := by rw [hw1, hw2, zcnt_eq _ 8 (Nat.le_refl _), zcnt_eq _ 8 (Nat.le_refl _), zcnt_eq _ 8 (Nat.le_refl _)]
  subst er
  exact zfL3 C1 hS hl (by omega) (by omega)
set_option maxHeartbeats 2000000 in
theorem zfeed {ZS : (Nat → Prop) → State → Nat → Prop} (hZ : zZS ZS) (l : Launch) (hJ : zJ l zAl ZS) (C0 : lw_At p s m meth c b 7 xs) {D : va_G} {cA : Nat → ClassId} (hO : ∀ bd, zJO l zAl zmt bd (zrh xs) ZS D cA) (hZX : ZX D cA s) {ad : Nat → Nat} (hZS : ZS (fun q => s.heap.size ≤ q) s (ad 1000000)) (h0 : xs 0 &&& 63 = 0) (hb1 : ad 1000001 = b) {H : Heap} {locs : List Loc} {mc ms : Nat} {ls : Array Slot} (hmc : mc ≤ 1000) (hms : ms ≤ 200000) (hP : va_P D zcl (zW cA (zrh xs) ad zbase) H) (hD : va_D (fun q => s.heap.size ≤ q) (zW cA (zrh xs) ad zbase)) (hS : va_S (fun q => s.heap.size ≤ q) s.heap H locs) (hl : lv_has ls 7 (zL (zrh xs) ad zsl)) :
    W p l e room_1 s m #[Value.ref b] below meth c H locs mc ms (lw_Z below #[Value.ref b] s) (F0 m 23 ls []) := by
  have hfr := zFrL C0 hZX hZS hb1 (bd := zbdC (0, 0) []) (fun _ => rfl)
  have hE : zEnv (zbdC (0, 0) []) (zrh xs) := by
    intro k
    unfold zbdC
    cases h1 : Nat.beq k 7 with
    | true =>
      rw [cond_true, Nat.eq_of_beq_eq_true h1]
      show 0 ≤ (xs 0 &&& 63).toInt ∧ (xs 0 &&& 63).toInt ≤ 0
      rw [h0]
      exact ⟨Int.le_refl _, Int.le_refl _⟩
    | false =>
      rw [cond_false]
      cases h2 : Nat.beq k 20 with
      | true => rw [cond_true, Nat.eq_of_beq_eq_true h2]; exact ⟨Int.le_refl _, Int.le_refl _⟩
      | false => rw [cond_false]; exact z_rng _
  refine W.widen hmc hms ?_
  refine z_snd zAl_good zcw_ok zAl0_ok hZ hJ (hO _) (fun i => (zok i).2) (fun i => (zok i).1) hE (zrh_2 xs) 100 20 164 true zsl 196 23 zsl [] zbase 1000 200000 none zbase zph0 p e room_1 s m #[Value.ref b] below meth c H locs _ ad ls (fun q => s.heap.size ≤ q) hfr (by decide) (by decide) hP hD hS hl ?_
  intro ad' H' locs' ls' mc' ms' pc' loc' st' g1 g2 g3 g4 g5 g6
  rcases g6 with ⟨-, rfl, rfl, rfl, -, k1, k2⟩ | ⟨v, -, hv, -⟩ | ⟨-, -, -, -, -, z⟩
  · exact zfeed1 l C0 hZX ((g1 _ (Or.inr (by decide))).trans hb1) k1 k2 g2 g3 g4 g5
  · cases hv
  · rw [zmtL] at z
    cases z
end ZFL
