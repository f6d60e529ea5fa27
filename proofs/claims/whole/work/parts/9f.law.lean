/-! THE LAW: its functional text, its walk -/
abbrev LR : Type := {S : St // gC S ≤ 32768}
def fL_end (S : St) : Option LR := if h : gC S ≤ 32768 then some ⟨S, h⟩ else none
def XS (X : Ctx) (b L : Nat) (xs : Nat → Int32) : Prop := match X with
  | (_, _, _, s, _, _, _, _, _, _, _, _, A, _, _, _) => va_X b L xs s s.heap ∧ b < s.heap.size ∧ ¬ A b
section LROWS
variable {X : Ctx} {ad : Nat → Nat → Nat} {γ : Nat → Nat} {RQ : LR → Room × (State → Prop)} {fc : LR → Nat} {fr lo : Nat} {cc : ByteArray} {nL : Nat} {own : String} {Ts : List Cond} {ret : Option FieldType} {code : Option LR} {S : St} {lv : List (Nat × Value)} {st : List Value} {b L : Nat} {xs : Nat → Int32}
theorem j_sld (hXS : XS X b L xs) (pc : Nat) {i : Int32} (hin : vp_in i L) (d : decode cc pc = .ok (.iaload, 1)) (kk : JJ X ad γ RQ fc fr lo cc nL own Ts ret code S (pc + 1) lv (.int (xs i.toNatClampNeg) :: st)) : JJ X ad γ RQ fc fr lo cc nL own Ts ret code S pc lv (.int i :: .ref b :: st) := by
  obtain ⟨p, l, e, s, m, args, below, meth, c, dC, dI, cy, A, c0, bc, bs⟩ := X
  intro o ho
  obtain ⟨h1, h2⟩ := kk o ho
  refine ⟨h1, fun hX H locs ls hl hP hD hS hc => ?_⟩
  have h2 := h2 hX
  obtain ⟨hx, hb, hml, hown, hts, hK, hA, hlocks, hN, hR, hrt⟩ := hX
  obtain ⟨g1, g2, g3⟩ := hXS
  exact va_sld hx hb g1 g2 g3 hS hin d (h2 H locs ls hl hP hD hS hc)
theorem j_slen (hXS : XS X b L xs) (pc : Nat) (d : decode cc pc = .ok (.arraylength, 1)) (kk : JJ X ad γ RQ fc fr lo cc nL own Ts ret code S (pc + 1) lv (.int (Int32.ofNat L) :: st)) : JJ X ad γ RQ fc fr lo cc nL own Ts ret code S pc lv (.ref b :: st) := by
  obtain ⟨p, l, e, s, m, args, below, meth, c, dC, dI, cy, A, c0, bc, bs⟩ := X
  intro o ho
  obtain ⟨h1, h2⟩ := kk o ho
  refine ⟨h1, fun hX H locs ls hl hP hD hS hc => ?_⟩
  have h2 := h2 hX
  obtain ⟨hx, hb, hml, hown, hts, hK, hA, hlocks, hN, hR, hrt⟩ := hX
  obtain ⟨g1, g2, g3⟩ := hXS
  exact va_slen hx hb g1 g2 g3 hS d (h2 H locs ls hl hP hD hS hc)
end LROWS
def fL_0 (F : Nat) (a1 : Int32) (a2 : Int32) (a3 : Int32) (a4 : Int32) (rec : St → Option LR) (S : St) : Option LR := cal (fX11_book S a1 a2 a3 a4) fun r => cal (fX12_book r.2 a1 a2 a3 a4) fun q => if r.1 = q.1 then rec q.2 else none
theorem eL11_0 : yX11_book.cls = RX11 ∧ yX11_book.cls ≠ "java/lang/invoke/MethodHandle" ∧ yX11_book.cls ≠ "java/lang/invoke/VarHandle" ∧ (parseMethodDescriptor yX11_book.desc).map (fun d => d.parameters.length) = some 4 := by decide +kernel
theorem eL12_0 : yX12_book.cls = RX12 ∧ yX12_book.cls ≠ "java/lang/invoke/MethodHandle" ∧ yX12_book.cls ≠ "java/lang/invoke/VarHandle" ∧ (parseMethodDescriptor yX12_book.desc).map (fun d => d.parameters.length) = some 4 := by decide +kernel
set_option maxRecDepth 100000 in
set_option maxHeartbeats 1000000 in
theorem tL_0 {ad : Nat → Nat → Nat} (X : Ctx) {RQ : LR → Room × (State → Prop)} {fc : LR → Nat} {b L : Nat} {xs : Nat → Int32} (hXS : XS X b L xs) (F : Nat) (x3 : Int32) (hin : ∀ j : Int32, 0 ≤ j → j ≤ 6 → vp_in (x3 + j) L) (rec : St → Option LR) (hrec : ∀ (γ : Nat → Nat) (S : St), JJ X ad γ RQ fc 11 426 cL_law 4 RL wsL ret (rec S) S 1793 [(0, .ref b), (1, .ref (ad 10 0)), (2, .ref (ad 11 0)), (3, .int x3)] []) (γ : Nat → Nat) (S : St) : JJ X ad γ RQ fc 11 426 cL_law 4 RL wsL ret (fL_0 F (xs (x3 + 1).toNatClampNeg) (xs (x3 + 2).toNatClampNeg) (xs (x3 + 3).toNatClampNeg) (xs (x3 + 4).toNatClampNeg) rec S) S 208 [(0, .ref b), (1, .ref (ad 10 0)), (2, .ref (ad 11 0)), (3, .int x3)] [] := by
  unfold fL_0
  refine j_aload_n 208 1 dL_law_208 rfl rfl ?_
  refine j_aload_n 209 0 dL_law_209 rfl rfl ?_
  refine j_iload_n 210 3 dL_law_210 rfl rfl ?_
  refine j_iconst (v := 1) 211 dL_law_211 (by decide) ?_
  refine j_iadd 212 dL_law_212 ?_
  refine j_sld hXS 213 (hin 1 (by decide) (by decide)) dL_law_213 ?_
  refine j_aload_n 214 0 dL_law_214 rfl rfl ?_
  refine j_iload_n 215 3 dL_law_215 rfl rfl ?_
  refine j_iconst (v := 2) 216 dL_law_216 (by decide) ?_
  refine j_iadd 217 dL_law_217 ?_
  refine j_sld hXS 218 (hin 2 (by decide) (by decide)) dL_law_218 ?_
  refine j_aload_n 219 0 dL_law_219 rfl rfl ?_
  refine j_iload_n 220 3 dL_law_220 rfl rfl ?_
  refine j_iconst (v := 3) 221 dL_law_221 (by decide) ?_
  refine j_iadd 222 dL_law_222 ?_
  refine j_sld hXS 223 (hin 3 (by decide) (by decide)) dL_law_223 ?_
  refine j_aload_n 224 0 dL_law_224 rfl rfl ?_
  refine j_iload_n 225 3 dL_law_225 rfl rfl ?_
  refine j_iconst (v := 4) 226 dL_law_226 (by decide) ?_
  refine j_iadd 227 dL_law_227 ?_
  refine j_sld hXS 228 (hin 4 (by decide) (by decide)) dL_law_228 ?_
  refine j_callV_ei 229 (nn := 0) rfl (by decide) (prs_mem (by decide) (by decide)) [.int (xs (x3 + 1).toNatClampNeg), .int (xs (x3 + 2).toNatClampNeg), .int (xs (x3 + 3).toNatClampNeg), .int (xs (x3 + 4).toNatClampNeg)] [] gL_law_X11_book rfl eL11_0 ⟨Nat.le_of_ble_eq_true rfl, Nat.le_of_ble_eq_true rfl⟩ rfl rfl (Nat.le_of_ble_eq_true rfl) dL_law_229 (kX11_book _ _ _ _ _) (fun r γ => ?_)
  refine j_aload_n 232 2 dL_law_232 rfl rfl ?_
  refine j_aload_n 233 0 dL_law_233 rfl rfl ?_
  refine j_iload_n 234 3 dL_law_234 rfl rfl ?_
  refine j_iconst (v := 1) 235 dL_law_235 (by decide) ?_
  refine j_iadd 236 dL_law_236 ?_
  refine j_sld hXS 237 (hin 1 (by decide) (by decide)) dL_law_237 ?_
  refine j_aload_n 238 0 dL_law_238 rfl rfl ?_
  refine j_iload_n 239 3 dL_law_239 rfl rfl ?_
  refine j_iconst (v := 2) 240 dL_law_240 (by decide) ?_
  refine j_iadd 241 dL_law_241 ?_
  refine j_sld hXS 242 (hin 2 (by decide) (by decide)) dL_law_242 ?_
  refine j_aload_n 243 0 dL_law_243 rfl rfl ?_
  refine j_iload_n 244 3 dL_law_244 rfl rfl ?_
  refine j_iconst (v := 3) 245 dL_law_245 (by decide) ?_
  refine j_iadd 246 dL_law_246 ?_
  refine j_sld hXS 247 (hin 3 (by decide) (by decide)) dL_law_247 ?_
  refine j_aload_n 248 0 dL_law_248 rfl rfl ?_
  refine j_iload_n 249 3 dL_law_249 rfl rfl ?_
  refine j_iconst (v := 4) 250 dL_law_250 (by decide) ?_
  refine j_iadd 251 dL_law_251 ?_
  refine j_sld hXS 252 (hin 4 (by decide) (by decide)) dL_law_252 ?_
  refine j_callV_ei 253 (nn := 0) rfl (by decide) (prs_mem (by decide) (by decide)) [.int (xs (x3 + 1).toNatClampNeg), .int (xs (x3 + 2).toNatClampNeg), .int (xs (x3 + 3).toNatClampNeg), .int (xs (x3 + 4).toNatClampNeg)] [.int r.1] gL_law_X12_book rfl eL12_0 ⟨Nat.le_of_ble_eq_true rfl, Nat.le_of_ble_eq_true rfl⟩ rfl rfl (Nat.le_of_ble_eq_true rfl) dL_law_253 (kX12_book _ _ _ _ _) (fun q γ => ?_)
  refine j_icmp_eq 256 1793 dL_law_256 (by decide) (fun _ => ?_) (fun _ => ?_)
  · exact hrec _ _
  · exact j_none
def fL_1 (F : Nat) (a1 : Int32) (a2 : Int32) (a3 : Int32) (a4 : Int32) (rec : St → Option LR) (S : St) : Option LR := cal (fX11_write F S a1 a2 ((a3.toInt64 <<< ((32 : Int32).toInt64 &&& 63)) ||| (a4.toInt64 &&& 4294967295))) fun r => cal (fX12_write F r.2 a1 a2 ((a3.toInt64 <<< ((32 : Int32).toInt64 &&& 63)) ||| (a4.toInt64 &&& 4294967295))) fun q => if r.1 = q.1 then rec q.2 else none
theorem eL11_1 : yX11_write.cls = RX11 ∧ yX11_write.cls ≠ "java/lang/invoke/MethodHandle" ∧ yX11_write.cls ≠ "java/lang/invoke/VarHandle" ∧ (parseMethodDescriptor yX11_write.desc).map (fun d => d.parameters.length) = some 3 := by decide +kernel
theorem eL12_1 : yX12_write.cls = RX12 ∧ yX12_write.cls ≠ "java/lang/invoke/MethodHandle" ∧ yX12_write.cls ≠ "java/lang/invoke/VarHandle" ∧ (parseMethodDescriptor yX12_write.desc).map (fun d => d.parameters.length) = some 3 := by decide +kernel
set_option maxRecDepth 100000 in
set_option maxHeartbeats 1000000 in
theorem tL_1 {ad : Nat → Nat → Nat} (X : Ctx) {RQ : LR → Room × (State → Prop)} {fc : LR → Nat} {b L : Nat} {xs : Nat → Int32} (hXS : XS X b L xs) (F : Nat) (x3 : Int32) (hin : ∀ j : Int32, 0 ≤ j → j ≤ 6 → vp_in (x3 + j) L) (rec : St → Option LR) (hrec : ∀ (γ : Nat → Nat) (S : St), JJ X ad γ RQ fc 11 426 cL_law 4 RL wsL ret (rec S) S 1793 [(0, .ref b), (1, .ref (ad 10 0)), (2, .ref (ad 11 0)), (3, .int x3)] []) (γ : Nat → Nat) (S : St) : JJ X ad γ RQ fc 11 426 cL_law 4 RL wsL ret (fL_1 F (xs (x3 + 1).toNatClampNeg) (xs (x3 + 2).toNatClampNeg) (xs (x3 + 3).toNatClampNeg) (xs (x3 + 4).toNatClampNeg) rec S) S 261 [(0, .ref b), (1, .ref (ad 10 0)), (2, .ref (ad 11 0)), (3, .int x3)] [] := by
  unfold fL_1
  refine j_aload_n 261 1 dL_law_261 rfl rfl ?_
  refine j_aload_n 262 0 dL_law_262 rfl rfl ?_
  refine j_iload_n 263 3 dL_law_263 rfl rfl ?_
  refine j_iconst (v := 1) 264 dL_law_264 (by decide) ?_
  refine j_iadd 265 dL_law_265 ?_
  refine j_sld hXS 266 (hin 1 (by decide) (by decide)) dL_law_266 ?_
  refine j_aload_n 267 0 dL_law_267 rfl rfl ?_
  refine j_iload_n 268 3 dL_law_268 rfl rfl ?_
  refine j_iconst (v := 2) 269 dL_law_269 (by decide) ?_
  refine j_iadd 270 dL_law_270 ?_
  refine j_sld hXS 271 (hin 2 (by decide) (by decide)) dL_law_271 ?_
  refine j_aload_n 272 0 dL_law_272 rfl rfl ?_
  refine j_iload_n 273 3 dL_law_273 rfl rfl ?_
  refine j_iconst (v := 3) 274 dL_law_274 (by decide) ?_
  refine j_iadd 275 dL_law_275 ?_
  refine j_sld hXS 276 (hin 3 (by decide) (by decide)) dL_law_276 ?_
  refine j_i2l 277 dL_law_277 ?_
  refine j_bipush (v := 32) 278 dL_law_278 (by decide) ?_
  refine j_lshl 280 dL_law_280 ?_
  refine j_aload_n 281 0 dL_law_281 rfl rfl ?_
  refine j_iload_n 282 3 dL_law_282 rfl rfl ?_
  refine j_iconst (v := 4) 283 dL_law_283 (by decide) ?_
  refine j_iadd 284 dL_law_284 ?_
  refine j_sld hXS 285 (hin 4 (by decide) (by decide)) dL_law_285 ?_
  refine j_i2l 286 dL_law_286 ?_
  refine j_ldc2 (v := 4294967295) 287 dL_law_287 wL_18 ?_
  refine j_land 290 dL_law_290 ?_
  refine j_lor 291 dL_law_291 ?_
  refine j_callV_ei 292 (nn := 0) rfl (by decide) (prs_mem (by decide) (by decide)) [.int (xs (x3 + 1).toNatClampNeg), .int (xs (x3 + 2).toNatClampNeg), .long (((xs (x3 + 3).toNatClampNeg).toInt64 <<< ((32 : Int32).toInt64 &&& 63)) ||| ((xs (x3 + 4).toNatClampNeg).toInt64 &&& 4294967295))] [] gL_law_X11_write rfl eL11_1 ⟨Nat.le_of_ble_eq_true rfl, Nat.le_of_ble_eq_true rfl⟩ rfl rfl (Nat.le_of_ble_eq_true rfl) dL_law_292 (kX11_write F _ _ _ _) (fun r γ => ?_)
  refine j_aload_n 295 2 dL_law_295 rfl rfl ?_
  refine j_aload_n 296 0 dL_law_296 rfl rfl ?_
  refine j_iload_n 297 3 dL_law_297 rfl rfl ?_
  refine j_iconst (v := 1) 298 dL_law_298 (by decide) ?_
  refine j_iadd 299 dL_law_299 ?_
  refine j_sld hXS 300 (hin 1 (by decide) (by decide)) dL_law_300 ?_
  refine j_aload_n 301 0 dL_law_301 rfl rfl ?_
  refine j_iload_n 302 3 dL_law_302 rfl rfl ?_
  refine j_iconst (v := 2) 303 dL_law_303 (by decide) ?_
  refine j_iadd 304 dL_law_304 ?_
  refine j_sld hXS 305 (hin 2 (by decide) (by decide)) dL_law_305 ?_
  refine j_aload_n 306 0 dL_law_306 rfl rfl ?_
  refine j_iload_n 307 3 dL_law_307 rfl rfl ?_
  refine j_iconst (v := 3) 308 dL_law_308 (by decide) ?_
  refine j_iadd 309 dL_law_309 ?_
  refine j_sld hXS 310 (hin 3 (by decide) (by decide)) dL_law_310 ?_
  refine j_i2l 311 dL_law_311 ?_
  refine j_bipush (v := 32) 312 dL_law_312 (by decide) ?_
  refine j_lshl 314 dL_law_314 ?_
  refine j_aload_n 315 0 dL_law_315 rfl rfl ?_
  refine j_iload_n 316 3 dL_law_316 rfl rfl ?_
  refine j_iconst (v := 4) 317 dL_law_317 (by decide) ?_
  refine j_iadd 318 dL_law_318 ?_
  refine j_sld hXS 319 (hin 4 (by decide) (by decide)) dL_law_319 ?_
  refine j_i2l 320 dL_law_320 ?_
  refine j_ldc2 (v := 4294967295) 321 dL_law_321 wL_18 ?_
  refine j_land 324 dL_law_324 ?_
  refine j_lor 325 dL_law_325 ?_
  refine j_callV_ei 326 (nn := 0) rfl (by decide) (prs_mem (by decide) (by decide)) [.int (xs (x3 + 1).toNatClampNeg), .int (xs (x3 + 2).toNatClampNeg), .long (((xs (x3 + 3).toNatClampNeg).toInt64 <<< ((32 : Int32).toInt64 &&& 63)) ||| ((xs (x3 + 4).toNatClampNeg).toInt64 &&& 4294967295))] [.int r.1] gL_law_X12_write rfl eL12_1 ⟨Nat.le_of_ble_eq_true rfl, Nat.le_of_ble_eq_true rfl⟩ rfl rfl (Nat.le_of_ble_eq_true rfl) dL_law_326 (kX12_write F _ _ _ _) (fun q γ => ?_)
  refine j_icmp_eq 329 1793 dL_law_329 (by decide) (fun _ => ?_) (fun _ => ?_)
  · exact hrec _ _
  · exact j_none
def fL_2 (F : Nat) (a1 : Int32) (rec : St → Option LR) (S : St) : Option LR := cal (fX11_wipe S a1) fun r => cal (fX12_wipe r.2 a1) fun q => if r.1 = q.1 then rec q.2 else none
theorem eL11_2 : yX11_wipe.cls = RX11 ∧ yX11_wipe.cls ≠ "java/lang/invoke/MethodHandle" ∧ yX11_wipe.cls ≠ "java/lang/invoke/VarHandle" ∧ (parseMethodDescriptor yX11_wipe.desc).map (fun d => d.parameters.length) = some 1 := by decide +kernel
theorem eL12_2 : yX12_wipe.cls = RX12 ∧ yX12_wipe.cls ≠ "java/lang/invoke/MethodHandle" ∧ yX12_wipe.cls ≠ "java/lang/invoke/VarHandle" ∧ (parseMethodDescriptor yX12_wipe.desc).map (fun d => d.parameters.length) = some 1 := by decide +kernel
set_option maxRecDepth 100000 in
set_option maxHeartbeats 1000000 in
theorem tL_2 {ad : Nat → Nat → Nat} (X : Ctx) {RQ : LR → Room × (State → Prop)} {fc : LR → Nat} {b L : Nat} {xs : Nat → Int32} (hXS : XS X b L xs) (F : Nat) (x3 : Int32) (hin : ∀ j : Int32, 0 ≤ j → j ≤ 6 → vp_in (x3 + j) L) (rec : St → Option LR) (hrec : ∀ (γ : Nat → Nat) (S : St), JJ X ad γ RQ fc 11 426 cL_law 4 RL wsL ret (rec S) S 1793 [(0, .ref b), (1, .ref (ad 10 0)), (2, .ref (ad 11 0)), (3, .int x3)] []) (γ : Nat → Nat) (S : St) : JJ X ad γ RQ fc 11 426 cL_law 4 RL wsL ret (fL_2 F (xs (x3 + 1).toNatClampNeg) rec S) S 334 [(0, .ref b), (1, .ref (ad 10 0)), (2, .ref (ad 11 0)), (3, .int x3)] [] := by
  unfold fL_2
  refine j_aload_n 334 1 dL_law_334 rfl rfl ?_
  refine j_aload_n 335 0 dL_law_335 rfl rfl ?_
  refine j_iload_n 336 3 dL_law_336 rfl rfl ?_
  refine j_iconst (v := 1) 337 dL_law_337 (by decide) ?_
  refine j_iadd 338 dL_law_338 ?_
  refine j_sld hXS 339 (hin 1 (by decide) (by decide)) dL_law_339 ?_
  refine j_callV_ei 340 (nn := 0) rfl (by decide) (prs_mem (by decide) (by decide)) [.int (xs (x3 + 1).toNatClampNeg)] [] gL_law_X11_wipe rfl eL11_2 ⟨Nat.le_of_ble_eq_true rfl, Nat.le_of_ble_eq_true rfl⟩ rfl rfl (Nat.le_of_ble_eq_true rfl) dL_law_340 (kX11_wipe _ _) (fun r γ => ?_)
  refine j_aload_n 343 2 dL_law_343 rfl rfl ?_
  refine j_aload_n 344 0 dL_law_344 rfl rfl ?_
  refine j_iload_n 345 3 dL_law_345 rfl rfl ?_
  refine j_iconst (v := 1) 346 dL_law_346 (by decide) ?_
  refine j_iadd 347 dL_law_347 ?_
  refine j_sld hXS 348 (hin 1 (by decide) (by decide)) dL_law_348 ?_
  refine j_callV_ei 349 (nn := 0) rfl (by decide) (prs_mem (by decide) (by decide)) [.int (xs (x3 + 1).toNatClampNeg)] [.int r.1] gL_law_X12_wipe rfl eL12_2 ⟨Nat.le_of_ble_eq_true rfl, Nat.le_of_ble_eq_true rfl⟩ rfl rfl (Nat.le_of_ble_eq_true rfl) dL_law_349 (kX12_wipe _ _) (fun q γ => ?_)
  refine j_icmp_eq 352 1793 dL_law_352 (by decide) (fun _ => ?_) (fun _ => ?_)
  · exact hrec _ _
  · exact j_none
def fL_3 (F : Nat) (a1 : Int32) (rec : St → Option LR) (S : St) : Option LR := cal (fX11_fault F S a1) fun r => cal (fX12_fault F r.2 a1) fun q => if r.1 = q.1 then rec q.2 else none
theorem eL11_3 : yX11_fault.cls = RX11 ∧ yX11_fault.cls ≠ "java/lang/invoke/MethodHandle" ∧ yX11_fault.cls ≠ "java/lang/invoke/VarHandle" ∧ (parseMethodDescriptor yX11_fault.desc).map (fun d => d.parameters.length) = some 1 := by decide +kernel
theorem eL12_3 : yX12_fault.cls = RX12 ∧ yX12_fault.cls ≠ "java/lang/invoke/MethodHandle" ∧ yX12_fault.cls ≠ "java/lang/invoke/VarHandle" ∧ (parseMethodDescriptor yX12_fault.desc).map (fun d => d.parameters.length) = some 1 := by decide +kernel
set_option maxRecDepth 100000 in
set_option maxHeartbeats 1000000 in
theorem tL_3 {ad : Nat → Nat → Nat} (X : Ctx) {RQ : LR → Room × (State → Prop)} {fc : LR → Nat} {b L : Nat} {xs : Nat → Int32} (hXS : XS X b L xs) (F : Nat) (x3 : Int32) (hin : ∀ j : Int32, 0 ≤ j → j ≤ 6 → vp_in (x3 + j) L) (rec : St → Option LR) (hrec : ∀ (γ : Nat → Nat) (S : St), JJ X ad γ RQ fc 11 426 cL_law 4 RL wsL ret (rec S) S 1793 [(0, .ref b), (1, .ref (ad 10 0)), (2, .ref (ad 11 0)), (3, .int x3)] []) (γ : Nat → Nat) (S : St) : JJ X ad γ RQ fc 11 426 cL_law 4 RL wsL ret (fL_3 F (xs (x3 + 1).toNatClampNeg) rec S) S 357 [(0, .ref b), (1, .ref (ad 10 0)), (2, .ref (ad 11 0)), (3, .int x3)] [] := by
  unfold fL_3
  refine j_aload_n 357 1 dL_law_357 rfl rfl ?_
  refine j_aload_n 358 0 dL_law_358 rfl rfl ?_
  refine j_iload_n 359 3 dL_law_359 rfl rfl ?_
  refine j_iconst (v := 1) 360 dL_law_360 (by decide) ?_
  refine j_iadd 361 dL_law_361 ?_
  refine j_sld hXS 362 (hin 1 (by decide) (by decide)) dL_law_362 ?_
  refine j_callV_ei 363 (nn := 0) rfl (by decide) (prs_mem (by decide) (by decide)) [.int (xs (x3 + 1).toNatClampNeg)] [] gL_law_X11_fault rfl eL11_3 ⟨Nat.le_of_ble_eq_true rfl, Nat.le_of_ble_eq_true rfl⟩ rfl rfl (Nat.le_of_ble_eq_true rfl) dL_law_363 (kX11_fault F _ _) (fun r γ => ?_)
  refine j_aload_n 366 2 dL_law_366 rfl rfl ?_
  refine j_aload_n 367 0 dL_law_367 rfl rfl ?_
  refine j_iload_n 368 3 dL_law_368 rfl rfl ?_
  refine j_iconst (v := 1) 369 dL_law_369 (by decide) ?_
  refine j_iadd 370 dL_law_370 ?_
  refine j_sld hXS 371 (hin 1 (by decide) (by decide)) dL_law_371 ?_
  refine j_callV_ei 372 (nn := 0) rfl (by decide) (prs_mem (by decide) (by decide)) [.int (xs (x3 + 1).toNatClampNeg)] [.int r.1] gL_law_X12_fault rfl eL12_3 ⟨Nat.le_of_ble_eq_true rfl, Nat.le_of_ble_eq_true rfl⟩ rfl rfl (Nat.le_of_ble_eq_true rfl) dL_law_372 (kX12_fault F _ _) (fun q γ => ?_)
  refine j_icmp_eq 375 1793 dL_law_375 (by decide) (fun _ => ?_) (fun _ => ?_)
  · exact hrec _ _
  · exact j_none
def fL_4 (F : Nat) (a1 : Int32) (rec : St → Option LR) (S : St) : Option LR := cal (fX11_force F S a1) fun r => cal (fX12_force F r.2 a1) fun q => if r.1 = q.1 then rec q.2 else none
theorem eL11_4 : yX11_force.cls = RX11 ∧ yX11_force.cls ≠ "java/lang/invoke/MethodHandle" ∧ yX11_force.cls ≠ "java/lang/invoke/VarHandle" ∧ (parseMethodDescriptor yX11_force.desc).map (fun d => d.parameters.length) = some 1 := by decide +kernel
theorem eL12_4 : yX12_force.cls = RX12 ∧ yX12_force.cls ≠ "java/lang/invoke/MethodHandle" ∧ yX12_force.cls ≠ "java/lang/invoke/VarHandle" ∧ (parseMethodDescriptor yX12_force.desc).map (fun d => d.parameters.length) = some 1 := by decide +kernel
set_option maxRecDepth 100000 in
set_option maxHeartbeats 1000000 in
theorem tL_4 {ad : Nat → Nat → Nat} (X : Ctx) {RQ : LR → Room × (State → Prop)} {fc : LR → Nat} {b L : Nat} {xs : Nat → Int32} (hXS : XS X b L xs) (F : Nat) (x3 : Int32) (hin : ∀ j : Int32, 0 ≤ j → j ≤ 6 → vp_in (x3 + j) L) (rec : St → Option LR) (hrec : ∀ (γ : Nat → Nat) (S : St), JJ X ad γ RQ fc 11 426 cL_law 4 RL wsL ret (rec S) S 1793 [(0, .ref b), (1, .ref (ad 10 0)), (2, .ref (ad 11 0)), (3, .int x3)] []) (γ : Nat → Nat) (S : St) : JJ X ad γ RQ fc 11 426 cL_law 4 RL wsL ret (fL_4 F (xs (x3 + 1).toNatClampNeg) rec S) S 380 [(0, .ref b), (1, .ref (ad 10 0)), (2, .ref (ad 11 0)), (3, .int x3)] [] := by
  unfold fL_4
  refine j_aload_n 380 1 dL_law_380 rfl rfl ?_
  refine j_aload_n 381 0 dL_law_381 rfl rfl ?_
  refine j_iload_n 382 3 dL_law_382 rfl rfl ?_
  refine j_iconst (v := 1) 383 dL_law_383 (by decide) ?_
  refine j_iadd 384 dL_law_384 ?_
  refine j_sld hXS 385 (hin 1 (by decide) (by decide)) dL_law_385 ?_
  refine j_callV_ei 386 (nn := 0) rfl (by decide) (prs_mem (by decide) (by decide)) [.int (xs (x3 + 1).toNatClampNeg)] [] gL_law_X11_force rfl eL11_4 ⟨Nat.le_of_ble_eq_true rfl, Nat.le_of_ble_eq_true rfl⟩ rfl rfl (Nat.le_of_ble_eq_true rfl) dL_law_386 (kX11_force F _ _) (fun r γ => ?_)
  refine j_aload_n 389 2 dL_law_389 rfl rfl ?_
  refine j_aload_n 390 0 dL_law_390 rfl rfl ?_
  refine j_iload_n 391 3 dL_law_391 rfl rfl ?_
  refine j_iconst (v := 1) 392 dL_law_392 (by decide) ?_
  refine j_iadd 393 dL_law_393 ?_
  refine j_sld hXS 394 (hin 1 (by decide) (by decide)) dL_law_394 ?_
  refine j_callV_ei 395 (nn := 0) rfl (by decide) (prs_mem (by decide) (by decide)) [.int (xs (x3 + 1).toNatClampNeg)] [.int r.1] gL_law_X12_force rfl eL12_4 ⟨Nat.le_of_ble_eq_true rfl, Nat.le_of_ble_eq_true rfl⟩ rfl rfl (Nat.le_of_ble_eq_true rfl) dL_law_395 (kX12_force F _ _) (fun q γ => ?_)
  refine j_icmp_eq 398 1793 dL_law_398 (by decide) (fun _ => ?_) (fun _ => ?_)
  · exact hrec _ _
  · exact j_none
def fL_5 (F : Nat) (a1 : Int32) (a2 : Int32) (a3 : Int32) (rec : St → Option LR) (S : St) : Option LR := cal (fX11_means F S a1 a2 a3) fun r => cal (fX12_means F S a1 a2 a3) fun q => if r = q then rec S else none
theorem eL11_5 : yX11_means.cls = RX11 ∧ yX11_means.cls ≠ "java/lang/invoke/MethodHandle" ∧ yX11_means.cls ≠ "java/lang/invoke/VarHandle" ∧ (parseMethodDescriptor yX11_means.desc).map (fun d => d.parameters.length) = some 3 := by decide +kernel
theorem eL12_5 : yX12_means.cls = RX12 ∧ yX12_means.cls ≠ "java/lang/invoke/MethodHandle" ∧ yX12_means.cls ≠ "java/lang/invoke/VarHandle" ∧ (parseMethodDescriptor yX12_means.desc).map (fun d => d.parameters.length) = some 3 := by decide +kernel
set_option maxRecDepth 100000 in
set_option maxHeartbeats 1000000 in
theorem tL_5 {ad : Nat → Nat → Nat} (X : Ctx) {RQ : LR → Room × (State → Prop)} {fc : LR → Nat} {b L : Nat} {xs : Nat → Int32} (hXS : XS X b L xs) (F : Nat) (x3 : Int32) (hin : ∀ j : Int32, 0 ≤ j → j ≤ 6 → vp_in (x3 + j) L) (rec : St → Option LR) (hrec : ∀ (γ : Nat → Nat) (S : St), JJ X ad γ RQ fc 11 426 cL_law 4 RL wsL ret (rec S) S 1793 [(0, .ref b), (1, .ref (ad 10 0)), (2, .ref (ad 11 0)), (3, .int x3)] []) (γ : Nat → Nat) (S : St) : JJ X ad γ RQ fc 11 426 cL_law 4 RL wsL ret (fL_5 F (xs (x3 + 1).toNatClampNeg) (xs (x3 + 2).toNatClampNeg) (xs (x3 + 3).toNatClampNeg) rec S) S 403 [(0, .ref b), (1, .ref (ad 10 0)), (2, .ref (ad 11 0)), (3, .int x3)] [] := by
  unfold fL_5
  refine j_aload_n 403 1 dL_law_403 rfl rfl ?_
  refine j_aload_n 404 0 dL_law_404 rfl rfl ?_
  refine j_iload_n 405 3 dL_law_405 rfl rfl ?_
  refine j_iconst (v := 1) 406 dL_law_406 (by decide) ?_
  refine j_iadd 407 dL_law_407 ?_
  refine j_sld hXS 408 (hin 1 (by decide) (by decide)) dL_law_408 ?_
  refine j_aload_n 409 0 dL_law_409 rfl rfl ?_
  refine j_iload_n 410 3 dL_law_410 rfl rfl ?_
  refine j_iconst (v := 2) 411 dL_law_411 (by decide) ?_
  refine j_iadd 412 dL_law_412 ?_
  refine j_sld hXS 413 (hin 2 (by decide) (by decide)) dL_law_413 ?_
  refine j_aload_n 414 0 dL_law_414 rfl rfl ?_
  refine j_iload_n 415 3 dL_law_415 rfl rfl ?_
  refine j_iconst (v := 3) 416 dL_law_416 (by decide) ?_
  refine j_iadd 417 dL_law_417 ?_
  refine j_sld hXS 418 (hin 3 (by decide) (by decide)) dL_law_418 ?_
  refine j_callV_pi 419 (nn := 0) rfl (by decide) (prs_mem (by decide) (by decide)) [.int (xs (x3 + 1).toNatClampNeg), .int (xs (x3 + 2).toNatClampNeg), .int (xs (x3 + 3).toNatClampNeg)] [] gL_law_X11_means rfl eL11_5 ⟨Nat.le_of_ble_eq_true rfl, Nat.le_of_ble_eq_true rfl⟩ rfl rfl (Nat.le_of_ble_eq_true rfl) dL_law_419 (kX11_means F _ _ _ _) (fun r γ => ?_)
  refine j_aload_n 422 2 dL_law_422 rfl rfl ?_
  refine j_aload_n 423 0 dL_law_423 rfl rfl ?_
  refine j_iload_n 424 3 dL_law_424 rfl rfl ?_
  refine j_iconst (v := 1) 425 dL_law_425 (by decide) ?_
  refine j_iadd 426 dL_law_426 ?_
  refine j_sld hXS 427 (hin 1 (by decide) (by decide)) dL_law_427 ?_
  refine j_aload_n 428 0 dL_law_428 rfl rfl ?_
  refine j_iload_n 429 3 dL_law_429 rfl rfl ?_
  refine j_iconst (v := 2) 430 dL_law_430 (by decide) ?_
  refine j_iadd 431 dL_law_431 ?_
  refine j_sld hXS 432 (hin 2 (by decide) (by decide)) dL_law_432 ?_
  refine j_aload_n 433 0 dL_law_433 rfl rfl ?_
  refine j_iload_n 434 3 dL_law_434 rfl rfl ?_
  refine j_iconst (v := 3) 435 dL_law_435 (by decide) ?_
  refine j_iadd 436 dL_law_436 ?_
  refine j_sld hXS 437 (hin 3 (by decide) (by decide)) dL_law_437 ?_
  refine j_callV_pi 438 (nn := 0) rfl (by decide) (prs_mem (by decide) (by decide)) [.int (xs (x3 + 1).toNatClampNeg), .int (xs (x3 + 2).toNatClampNeg), .int (xs (x3 + 3).toNatClampNeg)] [.int r] gL_law_X12_means rfl eL12_5 ⟨Nat.le_of_ble_eq_true rfl, Nat.le_of_ble_eq_true rfl⟩ rfl rfl (Nat.le_of_ble_eq_true rfl) dL_law_438 (kX12_means F _ _ _ _) (fun q γ => ?_)
  refine j_icmp_eq 441 1793 dL_law_441 (by decide) (fun _ => ?_) (fun _ => ?_)
  · exact hrec _ _
  · exact j_none
def fL_6 (F : Nat) (a1 : Int32) (a2 : Int32) (a3 : Int32) (a4 : Int32) (a5 : Int32) (rec : St → Option LR) (S : St) : Option LR := cal (fX11_let F S a1 a2 a3 a4 a5) fun r => cal (fX12_let F r.2 a1 a2 a3 a4 a5) fun q => if r.1 = q.1 then rec q.2 else none
theorem eL11_6 : yX11_let.cls = RX11 ∧ yX11_let.cls ≠ "java/lang/invoke/MethodHandle" ∧ yX11_let.cls ≠ "java/lang/invoke/VarHandle" ∧ (parseMethodDescriptor yX11_let.desc).map (fun d => d.parameters.length) = some 5 := by decide +kernel
theorem eL12_6 : yX12_let.cls = RX12 ∧ yX12_let.cls ≠ "java/lang/invoke/MethodHandle" ∧ yX12_let.cls ≠ "java/lang/invoke/VarHandle" ∧ (parseMethodDescriptor yX12_let.desc).map (fun d => d.parameters.length) = some 5 := by decide +kernel
set_option maxRecDepth 100000 in
set_option maxHeartbeats 1000000 in
theorem tL_6 {ad : Nat → Nat → Nat} (X : Ctx) {RQ : LR → Room × (State → Prop)} {fc : LR → Nat} {b L : Nat} {xs : Nat → Int32} (hXS : XS X b L xs) (F : Nat) (x3 : Int32) (hin : ∀ j : Int32, 0 ≤ j → j ≤ 6 → vp_in (x3 + j) L) (rec : St → Option LR) (hrec : ∀ (γ : Nat → Nat) (S : St), JJ X ad γ RQ fc 11 426 cL_law 4 RL wsL ret (rec S) S 1793 [(0, .ref b), (1, .ref (ad 10 0)), (2, .ref (ad 11 0)), (3, .int x3)] []) (γ : Nat → Nat) (S : St) : JJ X ad γ RQ fc 11 426 cL_law 4 RL wsL ret (fL_6 F (xs (x3 + 1).toNatClampNeg) (xs (x3 + 2).toNatClampNeg) (xs (x3 + 3).toNatClampNeg) (xs (x3 + 4).toNatClampNeg) (xs (x3 + 5).toNatClampNeg) rec S) S 446 [(0, .ref b), (1, .ref (ad 10 0)), (2, .ref (ad 11 0)), (3, .int x3)] [] := by
  unfold fL_6
  refine j_aload_n 446 1 dL_law_446 rfl rfl ?_
  refine j_aload_n 447 0 dL_law_447 rfl rfl ?_
  refine j_iload_n 448 3 dL_law_448 rfl rfl ?_
  refine j_iconst (v := 1) 449 dL_law_449 (by decide) ?_
  refine j_iadd 450 dL_law_450 ?_
  refine j_sld hXS 451 (hin 1 (by decide) (by decide)) dL_law_451 ?_
  refine j_aload_n 452 0 dL_law_452 rfl rfl ?_
  refine j_iload_n 453 3 dL_law_453 rfl rfl ?_
  refine j_iconst (v := 2) 454 dL_law_454 (by decide) ?_
  refine j_iadd 455 dL_law_455 ?_
  refine j_sld hXS 456 (hin 2 (by decide) (by decide)) dL_law_456 ?_
  refine j_aload_n 457 0 dL_law_457 rfl rfl ?_
  refine j_iload_n 458 3 dL_law_458 rfl rfl ?_
  refine j_iconst (v := 3) 459 dL_law_459 (by decide) ?_
  refine j_iadd 460 dL_law_460 ?_
  refine j_sld hXS 461 (hin 3 (by decide) (by decide)) dL_law_461 ?_
  refine j_aload_n 462 0 dL_law_462 rfl rfl ?_
  refine j_iload_n 463 3 dL_law_463 rfl rfl ?_
  refine j_iconst (v := 4) 464 dL_law_464 (by decide) ?_
  refine j_iadd 465 dL_law_465 ?_
  refine j_sld hXS 466 (hin 4 (by decide) (by decide)) dL_law_466 ?_
  refine j_aload_n 467 0 dL_law_467 rfl rfl ?_
  refine j_iload_n 468 3 dL_law_468 rfl rfl ?_
  refine j_iconst (v := 5) 469 dL_law_469 (by decide) ?_
  refine j_iadd 470 dL_law_470 ?_
  refine j_sld hXS 471 (hin 5 (by decide) (by decide)) dL_law_471 ?_
  refine j_callV_ei 472 (nn := 0) rfl (by decide) (prs_mem (by decide) (by decide)) [.int (xs (x3 + 1).toNatClampNeg), .int (xs (x3 + 2).toNatClampNeg), .int (xs (x3 + 3).toNatClampNeg), .int (xs (x3 + 4).toNatClampNeg), .int (xs (x3 + 5).toNatClampNeg)] [] gL_law_X11_let rfl eL11_6 ⟨Nat.le_of_ble_eq_true rfl, Nat.le_of_ble_eq_true rfl⟩ rfl rfl (Nat.le_of_ble_eq_true rfl) dL_law_472 (kX11_let F _ _ _ _ _ _) (fun r γ => ?_)
  refine j_aload_n 475 2 dL_law_475 rfl rfl ?_
  refine j_aload_n 476 0 dL_law_476 rfl rfl ?_
  refine j_iload_n 477 3 dL_law_477 rfl rfl ?_
  refine j_iconst (v := 1) 478 dL_law_478 (by decide) ?_
  refine j_iadd 479 dL_law_479 ?_
  refine j_sld hXS 480 (hin 1 (by decide) (by decide)) dL_law_480 ?_
  refine j_aload_n 481 0 dL_law_481 rfl rfl ?_
  refine j_iload_n 482 3 dL_law_482 rfl rfl ?_
  refine j_iconst (v := 2) 483 dL_law_483 (by decide) ?_
  refine j_iadd 484 dL_law_484 ?_
  refine j_sld hXS 485 (hin 2 (by decide) (by decide)) dL_law_485 ?_
  refine j_aload_n 486 0 dL_law_486 rfl rfl ?_
  refine j_iload_n 487 3 dL_law_487 rfl rfl ?_
  refine j_iconst (v := 3) 488 dL_law_488 (by decide) ?_
  refine j_iadd 489 dL_law_489 ?_
  refine j_sld hXS 490 (hin 3 (by decide) (by decide)) dL_law_490 ?_
  refine j_aload_n 491 0 dL_law_491 rfl rfl ?_
  refine j_iload_n 492 3 dL_law_492 rfl rfl ?_
  refine j_iconst (v := 4) 493 dL_law_493 (by decide) ?_
  refine j_iadd 494 dL_law_494 ?_
  refine j_sld hXS 495 (hin 4 (by decide) (by decide)) dL_law_495 ?_
  refine j_aload_n 496 0 dL_law_496 rfl rfl ?_
  refine j_iload_n 497 3 dL_law_497 rfl rfl ?_
  refine j_iconst (v := 5) 498 dL_law_498 (by decide) ?_
  refine j_iadd 499 dL_law_499 ?_
  refine j_sld hXS 500 (hin 5 (by decide) (by decide)) dL_law_500 ?_
  refine j_callV_ei 501 (nn := 0) rfl (by decide) (prs_mem (by decide) (by decide)) [.int (xs (x3 + 1).toNatClampNeg), .int (xs (x3 + 2).toNatClampNeg), .int (xs (x3 + 3).toNatClampNeg), .int (xs (x3 + 4).toNatClampNeg), .int (xs (x3 + 5).toNatClampNeg)] [.int r.1] gL_law_X12_let rfl eL12_6 ⟨Nat.le_of_ble_eq_true rfl, Nat.le_of_ble_eq_true rfl⟩ rfl rfl (Nat.le_of_ble_eq_true rfl) dL_law_501 (kX12_let F _ _ _ _ _ _) (fun q γ => ?_)
  refine j_icmp_eq 504 1793 dL_law_504 (by decide) (fun _ => ?_) (fun _ => ?_)
  · exact hrec _ _
  · exact j_none
def fL_7 (F : Nat) (a1 : Int32) (a2 : Int32) (a3 : Int32) (a4 : Int32) (a5 : Int32) (rec : St → Option LR) (S : St) : Option LR := cal (fX11_why F S a1 a2 a3 a4 a5) fun r => cal (fX12_why F r.2 a1 a2 a3 a4 a5) fun q => if r.1 = q.1 then rec q.2 else none
theorem eL11_7 : yX11_why.cls = RX11 ∧ yX11_why.cls ≠ "java/lang/invoke/MethodHandle" ∧ yX11_why.cls ≠ "java/lang/invoke/VarHandle" ∧ (parseMethodDescriptor yX11_why.desc).map (fun d => d.parameters.length) = some 5 := by decide +kernel
theorem eL12_7 : yX12_why.cls = RX12 ∧ yX12_why.cls ≠ "java/lang/invoke/MethodHandle" ∧ yX12_why.cls ≠ "java/lang/invoke/VarHandle" ∧ (parseMethodDescriptor yX12_why.desc).map (fun d => d.parameters.length) = some 5 := by decide +kernel
set_option maxRecDepth 100000 in
set_option maxHeartbeats 1000000 in
theorem tL_7 {ad : Nat → Nat → Nat} (X : Ctx) {RQ : LR → Room × (State → Prop)} {fc : LR → Nat} {b L : Nat} {xs : Nat → Int32} (hXS : XS X b L xs) (F : Nat) (x3 : Int32) (hin : ∀ j : Int32, 0 ≤ j → j ≤ 6 → vp_in (x3 + j) L) (rec : St → Option LR) (hrec : ∀ (γ : Nat → Nat) (S : St), JJ X ad γ RQ fc 11 426 cL_law 4 RL wsL ret (rec S) S 1793 [(0, .ref b), (1, .ref (ad 10 0)), (2, .ref (ad 11 0)), (3, .int x3)] []) (γ : Nat → Nat) (S : St) : JJ X ad γ RQ fc 11 426 cL_law 4 RL wsL ret (fL_7 F (xs (x3 + 1).toNatClampNeg) (xs (x3 + 2).toNatClampNeg) (xs (x3 + 3).toNatClampNeg) (xs (x3 + 4).toNatClampNeg) (xs (x3 + 5).toNatClampNeg) rec S) S 509 [(0, .ref b), (1, .ref (ad 10 0)), (2, .ref (ad 11 0)), (3, .int x3)] [] := by
  unfold fL_7
  refine j_aload_n 509 1 dL_law_509 rfl rfl ?_
  refine j_aload_n 510 0 dL_law_510 rfl rfl ?_
  refine j_iload_n 511 3 dL_law_511 rfl rfl ?_
  refine j_iconst (v := 1) 512 dL_law_512 (by decide) ?_
  refine j_iadd 513 dL_law_513 ?_
  refine j_sld hXS 514 (hin 1 (by decide) (by decide)) dL_law_514 ?_
  refine j_aload_n 515 0 dL_law_515 rfl rfl ?_
  refine j_iload_n 516 3 dL_law_516 rfl rfl ?_
  refine j_iconst (v := 2) 517 dL_law_517 (by decide) ?_
  refine j_iadd 518 dL_law_518 ?_
  refine j_sld hXS 519 (hin 2 (by decide) (by decide)) dL_law_519 ?_
  refine j_aload_n 520 0 dL_law_520 rfl rfl ?_
  refine j_iload_n 521 3 dL_law_521 rfl rfl ?_
  refine j_iconst (v := 3) 522 dL_law_522 (by decide) ?_
  refine j_iadd 523 dL_law_523 ?_
  refine j_sld hXS 524 (hin 3 (by decide) (by decide)) dL_law_524 ?_
  refine j_aload_n 525 0 dL_law_525 rfl rfl ?_
  refine j_iload_n 526 3 dL_law_526 rfl rfl ?_
  refine j_iconst (v := 4) 527 dL_law_527 (by decide) ?_
  refine j_iadd 528 dL_law_528 ?_
  refine j_sld hXS 529 (hin 4 (by decide) (by decide)) dL_law_529 ?_
  refine j_aload_n 530 0 dL_law_530 rfl rfl ?_
  refine j_iload_n 531 3 dL_law_531 rfl rfl ?_
  refine j_iconst (v := 5) 532 dL_law_532 (by decide) ?_
  refine j_iadd 533 dL_law_533 ?_
  refine j_sld hXS 534 (hin 5 (by decide) (by decide)) dL_law_534 ?_
  refine j_callV_ei 535 (nn := 0) rfl (by decide) (prs_mem (by decide) (by decide)) [.int (xs (x3 + 1).toNatClampNeg), .int (xs (x3 + 2).toNatClampNeg), .int (xs (x3 + 3).toNatClampNeg), .int (xs (x3 + 4).toNatClampNeg), .int (xs (x3 + 5).toNatClampNeg)] [] gL_law_X11_why rfl eL11_7 ⟨Nat.le_of_ble_eq_true rfl, Nat.le_of_ble_eq_true rfl⟩ rfl rfl (Nat.le_of_ble_eq_true rfl) dL_law_535 (kX11_why F _ _ _ _ _ _) (fun r γ => ?_)
  refine j_aload_n 538 2 dL_law_538 rfl rfl ?_
  refine j_aload_n 539 0 dL_law_539 rfl rfl ?_
  refine j_iload_n 540 3 dL_law_540 rfl rfl ?_
  refine j_iconst (v := 1) 541 dL_law_541 (by decide) ?_
  refine j_iadd 542 dL_law_542 ?_
  refine j_sld hXS 543 (hin 1 (by decide) (by decide)) dL_law_543 ?_
  refine j_aload_n 544 0 dL_law_544 rfl rfl ?_
  refine j_iload_n 545 3 dL_law_545 rfl rfl ?_
  refine j_iconst (v := 2) 546 dL_law_546 (by decide) ?_
  refine j_iadd 547 dL_law_547 ?_
  refine j_sld hXS 548 (hin 2 (by decide) (by decide)) dL_law_548 ?_
  refine j_aload_n 549 0 dL_law_549 rfl rfl ?_
  refine j_iload_n 550 3 dL_law_550 rfl rfl ?_
  refine j_iconst (v := 3) 551 dL_law_551 (by decide) ?_
  refine j_iadd 552 dL_law_552 ?_
  refine j_sld hXS 553 (hin 3 (by decide) (by decide)) dL_law_553 ?_
  refine j_aload_n 554 0 dL_law_554 rfl rfl ?_
  refine j_iload_n 555 3 dL_law_555 rfl rfl ?_
  refine j_iconst (v := 4) 556 dL_law_556 (by decide) ?_
  refine j_iadd 557 dL_law_557 ?_
  refine j_sld hXS 558 (hin 4 (by decide) (by decide)) dL_law_558 ?_
  refine j_aload_n 559 0 dL_law_559 rfl rfl ?_
  refine j_iload_n 560 3 dL_law_560 rfl rfl ?_
  refine j_iconst (v := 5) 561 dL_law_561 (by decide) ?_
  refine j_iadd 562 dL_law_562 ?_
  refine j_sld hXS 563 (hin 5 (by decide) (by decide)) dL_law_563 ?_
  refine j_callV_ei 564 (nn := 0) rfl (by decide) (prs_mem (by decide) (by decide)) [.int (xs (x3 + 1).toNatClampNeg), .int (xs (x3 + 2).toNatClampNeg), .int (xs (x3 + 3).toNatClampNeg), .int (xs (x3 + 4).toNatClampNeg), .int (xs (x3 + 5).toNatClampNeg)] [.int r.1] gL_law_X12_why rfl eL12_7 ⟨Nat.le_of_ble_eq_true rfl, Nat.le_of_ble_eq_true rfl⟩ rfl rfl (Nat.le_of_ble_eq_true rfl) dL_law_564 (kX12_why F _ _ _ _ _ _) (fun q γ => ?_)
  refine j_icmp_eq 567 1793 dL_law_567 (by decide) (fun _ => ?_) (fun _ => ?_)
  · exact hrec _ _
  · exact j_none
def fL_8 (F : Nat) (a1 : Int32) (a2 : Int32) (a3 : Int32) (rec : St → Option LR) (S : St) : Option LR := cal (fX11_unlike F S a1 a2 a3) fun r => cal (fX12_unlike F r.2 a1 a2 a3) fun q => if r.1 = q.1 then rec q.2 else none
theorem eL11_8 : yX11_unlike.cls = RX11 ∧ yX11_unlike.cls ≠ "java/lang/invoke/MethodHandle" ∧ yX11_unlike.cls ≠ "java/lang/invoke/VarHandle" ∧ (parseMethodDescriptor yX11_unlike.desc).map (fun d => d.parameters.length) = some 3 := by decide +kernel
theorem eL12_8 : yX12_unlike.cls = RX12 ∧ yX12_unlike.cls ≠ "java/lang/invoke/MethodHandle" ∧ yX12_unlike.cls ≠ "java/lang/invoke/VarHandle" ∧ (parseMethodDescriptor yX12_unlike.desc).map (fun d => d.parameters.length) = some 3 := by decide +kernel
set_option maxRecDepth 100000 in
set_option maxHeartbeats 1000000 in
theorem tL_8 {ad : Nat → Nat → Nat} (X : Ctx) {RQ : LR → Room × (State → Prop)} {fc : LR → Nat} {b L : Nat} {xs : Nat → Int32} (hXS : XS X b L xs) (F : Nat) (x3 : Int32) (hin : ∀ j : Int32, 0 ≤ j → j ≤ 6 → vp_in (x3 + j) L) (rec : St → Option LR) (hrec : ∀ (γ : Nat → Nat) (S : St), JJ X ad γ RQ fc 11 426 cL_law 4 RL wsL ret (rec S) S 1793 [(0, .ref b), (1, .ref (ad 10 0)), (2, .ref (ad 11 0)), (3, .int x3)] []) (γ : Nat → Nat) (S : St) : JJ X ad γ RQ fc 11 426 cL_law 4 RL wsL ret (fL_8 F (xs (x3 + 1).toNatClampNeg) (xs (x3 + 2).toNatClampNeg) (xs (x3 + 3).toNatClampNeg) rec S) S 572 [(0, .ref b), (1, .ref (ad 10 0)), (2, .ref (ad 11 0)), (3, .int x3)] [] := by
  unfold fL_8
  refine j_aload_n 572 1 dL_law_572 rfl rfl ?_
  refine j_aload_n 573 0 dL_law_573 rfl rfl ?_
  refine j_iload_n 574 3 dL_law_574 rfl rfl ?_
  refine j_iconst (v := 1) 575 dL_law_575 (by decide) ?_
  refine j_iadd 576 dL_law_576 ?_
  refine j_sld hXS 577 (hin 1 (by decide) (by decide)) dL_law_577 ?_
  refine j_aload_n 578 0 dL_law_578 rfl rfl ?_
  refine j_iload_n 579 3 dL_law_579 rfl rfl ?_
  refine j_iconst (v := 2) 580 dL_law_580 (by decide) ?_
  refine j_iadd 581 dL_law_581 ?_
  refine j_sld hXS 582 (hin 2 (by decide) (by decide)) dL_law_582 ?_
  refine j_aload_n 583 0 dL_law_583 rfl rfl ?_
  refine j_iload_n 584 3 dL_law_584 rfl rfl ?_
  refine j_iconst (v := 3) 585 dL_law_585 (by decide) ?_
  refine j_iadd 586 dL_law_586 ?_
  refine j_sld hXS 587 (hin 3 (by decide) (by decide)) dL_law_587 ?_
  refine j_callV_ei 588 (nn := 0) rfl (by decide) (prs_mem (by decide) (by decide)) [.int (xs (x3 + 1).toNatClampNeg), .int (xs (x3 + 2).toNatClampNeg), .int (xs (x3 + 3).toNatClampNeg)] [] gL_law_X11_unlike rfl eL11_8 ⟨Nat.le_of_ble_eq_true rfl, Nat.le_of_ble_eq_true rfl⟩ rfl rfl (Nat.le_of_ble_eq_true rfl) dL_law_588 (kX11_unlike F _ _ _ _) (fun r γ => ?_)
  refine j_aload_n 591 2 dL_law_591 rfl rfl ?_
  refine j_aload_n 592 0 dL_law_592 rfl rfl ?_
  refine j_iload_n 593 3 dL_law_593 rfl rfl ?_
  refine j_iconst (v := 1) 594 dL_law_594 (by decide) ?_
  refine j_iadd 595 dL_law_595 ?_
  refine j_sld hXS 596 (hin 1 (by decide) (by decide)) dL_law_596 ?_
  refine j_aload_n 597 0 dL_law_597 rfl rfl ?_
  refine j_iload_n 598 3 dL_law_598 rfl rfl ?_
  refine j_iconst (v := 2) 599 dL_law_599 (by decide) ?_
  refine j_iadd 600 dL_law_600 ?_
  refine j_sld hXS 601 (hin 2 (by decide) (by decide)) dL_law_601 ?_
  refine j_aload_n 602 0 dL_law_602 rfl rfl ?_
  refine j_iload_n 603 3 dL_law_603 rfl rfl ?_
  refine j_iconst (v := 3) 604 dL_law_604 (by decide) ?_
  refine j_iadd 605 dL_law_605 ?_
  refine j_sld hXS 606 (hin 3 (by decide) (by decide)) dL_law_606 ?_
  refine j_callV_ei 607 (nn := 0) rfl (by decide) (prs_mem (by decide) (by decide)) [.int (xs (x3 + 1).toNatClampNeg), .int (xs (x3 + 2).toNatClampNeg), .int (xs (x3 + 3).toNatClampNeg)] [.int r.1] gL_law_X12_unlike rfl eL12_8 ⟨Nat.le_of_ble_eq_true rfl, Nat.le_of_ble_eq_true rfl⟩ rfl rfl (Nat.le_of_ble_eq_true rfl) dL_law_607 (kX12_unlike F _ _ _ _) (fun q γ => ?_)
  refine j_icmp_eq 610 1793 dL_law_610 (by decide) (fun _ => ?_) (fun _ => ?_)
  · exact hrec _ _
  · exact j_none
def fL_9 (F : Nat) (a1 : Int32) (a2 : Int32) (rec : St → Option LR) (S : St) : Option LR := cal (fX11_least F S a1 a2) fun r => cal (fX12_least F r.2 a1 a2) fun q => if r.1 = q.1 then rec q.2 else none
theorem eL11_9 : yX11_least.cls = RX11 ∧ yX11_least.cls ≠ "java/lang/invoke/MethodHandle" ∧ yX11_least.cls ≠ "java/lang/invoke/VarHandle" ∧ (parseMethodDescriptor yX11_least.desc).map (fun d => d.parameters.length) = some 2 := by decide +kernel
theorem eL12_9 : yX12_least.cls = RX12 ∧ yX12_least.cls ≠ "java/lang/invoke/MethodHandle" ∧ yX12_least.cls ≠ "java/lang/invoke/VarHandle" ∧ (parseMethodDescriptor yX12_least.desc).map (fun d => d.parameters.length) = some 2 := by decide +kernel
set_option maxRecDepth 100000 in
set_option maxHeartbeats 1000000 in
theorem tL_9 {ad : Nat → Nat → Nat} (X : Ctx) {RQ : LR → Room × (State → Prop)} {fc : LR → Nat} {b L : Nat} {xs : Nat → Int32} (hXS : XS X b L xs) (F : Nat) (x3 : Int32) (hin : ∀ j : Int32, 0 ≤ j → j ≤ 6 → vp_in (x3 + j) L) (rec : St → Option LR) (hrec : ∀ (γ : Nat → Nat) (S : St), JJ X ad γ RQ fc 11 426 cL_law 4 RL wsL ret (rec S) S 1793 [(0, .ref b), (1, .ref (ad 10 0)), (2, .ref (ad 11 0)), (3, .int x3)] []) (γ : Nat → Nat) (S : St) : JJ X ad γ RQ fc 11 426 cL_law 4 RL wsL ret (fL_9 F (xs (x3 + 1).toNatClampNeg) (xs (x3 + 2).toNatClampNeg) rec S) S 615 [(0, .ref b), (1, .ref (ad 10 0)), (2, .ref (ad 11 0)), (3, .int x3)] [] := by
  unfold fL_9
  refine j_aload_n 615 1 dL_law_615 rfl rfl ?_
  refine j_aload_n 616 0 dL_law_616 rfl rfl ?_
  refine j_iload_n 617 3 dL_law_617 rfl rfl ?_
  refine j_iconst (v := 1) 618 dL_law_618 (by decide) ?_
  refine j_iadd 619 dL_law_619 ?_
  refine j_sld hXS 620 (hin 1 (by decide) (by decide)) dL_law_620 ?_
  refine j_aload_n 621 0 dL_law_621 rfl rfl ?_
  refine j_iload_n 622 3 dL_law_622 rfl rfl ?_
  refine j_iconst (v := 2) 623 dL_law_623 (by decide) ?_
  refine j_iadd 624 dL_law_624 ?_
  refine j_sld hXS 625 (hin 2 (by decide) (by decide)) dL_law_625 ?_
  refine j_callV_ei 626 (nn := 0) rfl (by decide) (prs_mem (by decide) (by decide)) [.int (xs (x3 + 1).toNatClampNeg), .int (xs (x3 + 2).toNatClampNeg)] [] gL_law_X11_least rfl eL11_9 ⟨Nat.le_of_ble_eq_true rfl, Nat.le_of_ble_eq_true rfl⟩ rfl rfl (Nat.le_of_ble_eq_true rfl) dL_law_626 (kX11_least F _ _ _) (fun r γ => ?_)
  refine j_aload_n 629 2 dL_law_629 rfl rfl ?_
  refine j_aload_n 630 0 dL_law_630 rfl rfl ?_
  refine j_iload_n 631 3 dL_law_631 rfl rfl ?_
  refine j_iconst (v := 1) 632 dL_law_632 (by decide) ?_
  refine j_iadd 633 dL_law_633 ?_
  refine j_sld hXS 634 (hin 1 (by decide) (by decide)) dL_law_634 ?_
  refine j_aload_n 635 0 dL_law_635 rfl rfl ?_
  refine j_iload_n 636 3 dL_law_636 rfl rfl ?_
  refine j_iconst (v := 2) 637 dL_law_637 (by decide) ?_
  refine j_iadd 638 dL_law_638 ?_
  refine j_sld hXS 639 (hin 2 (by decide) (by decide)) dL_law_639 ?_
  refine j_callV_ei 640 (nn := 0) rfl (by decide) (prs_mem (by decide) (by decide)) [.int (xs (x3 + 1).toNatClampNeg), .int (xs (x3 + 2).toNatClampNeg)] [.int r.1] gL_law_X12_least rfl eL12_9 ⟨Nat.le_of_ble_eq_true rfl, Nat.le_of_ble_eq_true rfl⟩ rfl rfl (Nat.le_of_ble_eq_true rfl) dL_law_640 (kX12_least F _ _ _) (fun q γ => ?_)
  refine j_icmp_eq 643 1793 dL_law_643 (by decide) (fun _ => ?_) (fun _ => ?_)
  · exact hrec _ _
  · exact j_none
def fL_10 (F : Nat) (a1 : Int32) (a2 : Int32) (a3 : Int32) (rec : St → Option LR) (S : St) : Option LR := cal (fX11_doneBy F S a1 a2 a3) fun r => cal (fX12_doneBy F r.2 a1 a2 a3) fun q => if r.1 = q.1 then rec q.2 else none
theorem eL11_10 : yX11_doneBy.cls = RX11 ∧ yX11_doneBy.cls ≠ "java/lang/invoke/MethodHandle" ∧ yX11_doneBy.cls ≠ "java/lang/invoke/VarHandle" ∧ (parseMethodDescriptor yX11_doneBy.desc).map (fun d => d.parameters.length) = some 3 := by decide +kernel
theorem eL12_10 : yX12_doneBy.cls = RX12 ∧ yX12_doneBy.cls ≠ "java/lang/invoke/MethodHandle" ∧ yX12_doneBy.cls ≠ "java/lang/invoke/VarHandle" ∧ (parseMethodDescriptor yX12_doneBy.desc).map (fun d => d.parameters.length) = some 3 := by decide +kernel
set_option maxRecDepth 100000 in
set_option maxHeartbeats 1000000 in
theorem tL_10 {ad : Nat → Nat → Nat} (X : Ctx) {RQ : LR → Room × (State → Prop)} {fc : LR → Nat} {b L : Nat} {xs : Nat → Int32} (hXS : XS X b L xs) (F : Nat) (x3 : Int32) (hin : ∀ j : Int32, 0 ≤ j → j ≤ 6 → vp_in (x3 + j) L) (rec : St → Option LR) (hrec : ∀ (γ : Nat → Nat) (S : St), JJ X ad γ RQ fc 11 426 cL_law 4 RL wsL ret (rec S) S 1793 [(0, .ref b), (1, .ref (ad 10 0)), (2, .ref (ad 11 0)), (3, .int x3)] []) (γ : Nat → Nat) (S : St) : JJ X ad γ RQ fc 11 426 cL_law 4 RL wsL ret (fL_10 F (xs (x3 + 1).toNatClampNeg) (xs (x3 + 2).toNatClampNeg) (xs (x3 + 3).toNatClampNeg) rec S) S 648 [(0, .ref b), (1, .ref (ad 10 0)), (2, .ref (ad 11 0)), (3, .int x3)] [] := by
  unfold fL_10
  refine j_aload_n 648 1 dL_law_648 rfl rfl ?_
  refine j_aload_n 649 0 dL_law_649 rfl rfl ?_
  refine j_iload_n 650 3 dL_law_650 rfl rfl ?_
  refine j_iconst (v := 1) 651 dL_law_651 (by decide) ?_
  refine j_iadd 652 dL_law_652 ?_
  refine j_sld hXS 653 (hin 1 (by decide) (by decide)) dL_law_653 ?_
  refine j_aload_n 654 0 dL_law_654 rfl rfl ?_
  refine j_iload_n 655 3 dL_law_655 rfl rfl ?_
  refine j_iconst (v := 2) 656 dL_law_656 (by decide) ?_
  refine j_iadd 657 dL_law_657 ?_
  refine j_sld hXS 658 (hin 2 (by decide) (by decide)) dL_law_658 ?_
  refine j_aload_n 659 0 dL_law_659 rfl rfl ?_
  refine j_iload_n 660 3 dL_law_660 rfl rfl ?_
  refine j_iconst (v := 3) 661 dL_law_661 (by decide) ?_
  refine j_iadd 662 dL_law_662 ?_
  refine j_sld hXS 663 (hin 3 (by decide) (by decide)) dL_law_663 ?_
  refine j_callV_ei 664 (nn := 0) rfl (by decide) (prs_mem (by decide) (by decide)) [.int (xs (x3 + 1).toNatClampNeg), .int (xs (x3 + 2).toNatClampNeg), .int (xs (x3 + 3).toNatClampNeg)] [] gL_law_X11_doneBy rfl eL11_10 ⟨Nat.le_of_ble_eq_true rfl, Nat.le_of_ble_eq_true rfl⟩ rfl rfl (Nat.le_of_ble_eq_true rfl) dL_law_664 (kX11_doneBy F _ _ _ _) (fun r γ => ?_)
  refine j_aload_n 667 2 dL_law_667 rfl rfl ?_
  refine j_aload_n 668 0 dL_law_668 rfl rfl ?_
  refine j_iload_n 669 3 dL_law_669 rfl rfl ?_
  refine j_iconst (v := 1) 670 dL_law_670 (by decide) ?_
  refine j_iadd 671 dL_law_671 ?_
  refine j_sld hXS 672 (hin 1 (by decide) (by decide)) dL_law_672 ?_
  refine j_aload_n 673 0 dL_law_673 rfl rfl ?_
  refine j_iload_n 674 3 dL_law_674 rfl rfl ?_
  refine j_iconst (v := 2) 675 dL_law_675 (by decide) ?_
  refine j_iadd 676 dL_law_676 ?_
  refine j_sld hXS 677 (hin 2 (by decide) (by decide)) dL_law_677 ?_
  refine j_aload_n 678 0 dL_law_678 rfl rfl ?_
  refine j_iload_n 679 3 dL_law_679 rfl rfl ?_
  refine j_iconst (v := 3) 680 dL_law_680 (by decide) ?_
  refine j_iadd 681 dL_law_681 ?_
  refine j_sld hXS 682 (hin 3 (by decide) (by decide)) dL_law_682 ?_
  refine j_callV_ei 683 (nn := 0) rfl (by decide) (prs_mem (by decide) (by decide)) [.int (xs (x3 + 1).toNatClampNeg), .int (xs (x3 + 2).toNatClampNeg), .int (xs (x3 + 3).toNatClampNeg)] [.int r.1] gL_law_X12_doneBy rfl eL12_10 ⟨Nat.le_of_ble_eq_true rfl, Nat.le_of_ble_eq_true rfl⟩ rfl rfl (Nat.le_of_ble_eq_true rfl) dL_law_683 (kX12_doneBy F _ _ _ _) (fun q γ => ?_)
  refine j_icmp_eq 686 1793 dL_law_686 (by decide) (fun _ => ?_) (fun _ => ?_)
  · exact hrec _ _
  · exact j_none
def fL_11 (F : Nat) (a1 : Int32) (a2 : Int32) (a3 : Int32) (rec : St → Option LR) (S : St) : Option LR := cal (fX11_person S a1 a2 a3) fun r => cal (fX12_person r.2 a1 a2 a3) fun q => if r.1 = q.1 then rec q.2 else none
theorem eL11_11 : yX11_person.cls = RX11 ∧ yX11_person.cls ≠ "java/lang/invoke/MethodHandle" ∧ yX11_person.cls ≠ "java/lang/invoke/VarHandle" ∧ (parseMethodDescriptor yX11_person.desc).map (fun d => d.parameters.length) = some 3 := by decide +kernel
theorem eL12_11 : yX12_person.cls = RX12 ∧ yX12_person.cls ≠ "java/lang/invoke/MethodHandle" ∧ yX12_person.cls ≠ "java/lang/invoke/VarHandle" ∧ (parseMethodDescriptor yX12_person.desc).map (fun d => d.parameters.length) = some 3 := by decide +kernel
set_option maxRecDepth 100000 in
set_option maxHeartbeats 1000000 in
theorem tL_11 {ad : Nat → Nat → Nat} (X : Ctx) {RQ : LR → Room × (State → Prop)} {fc : LR → Nat} {b L : Nat} {xs : Nat → Int32} (hXS : XS X b L xs) (F : Nat) (x3 : Int32) (hin : ∀ j : Int32, 0 ≤ j → j ≤ 6 → vp_in (x3 + j) L) (rec : St → Option LR) (hrec : ∀ (γ : Nat → Nat) (S : St), JJ X ad γ RQ fc 11 426 cL_law 4 RL wsL ret (rec S) S 1793 [(0, .ref b), (1, .ref (ad 10 0)), (2, .ref (ad 11 0)), (3, .int x3)] []) (γ : Nat → Nat) (S : St) : JJ X ad γ RQ fc 11 426 cL_law 4 RL wsL ret (fL_11 F (xs (x3 + 1).toNatClampNeg) (xs (x3 + 2).toNatClampNeg) (xs (x3 + 3).toNatClampNeg) rec S) S 691 [(0, .ref b), (1, .ref (ad 10 0)), (2, .ref (ad 11 0)), (3, .int x3)] [] := by
  unfold fL_11
  refine j_aload_n 691 1 dL_law_691 rfl rfl ?_
  refine j_aload_n 692 0 dL_law_692 rfl rfl ?_
  refine j_iload_n 693 3 dL_law_693 rfl rfl ?_
  refine j_iconst (v := 1) 694 dL_law_694 (by decide) ?_
  refine j_iadd 695 dL_law_695 ?_
  refine j_sld hXS 696 (hin 1 (by decide) (by decide)) dL_law_696 ?_
  refine j_aload_n 697 0 dL_law_697 rfl rfl ?_
  refine j_iload_n 698 3 dL_law_698 rfl rfl ?_
  refine j_iconst (v := 2) 699 dL_law_699 (by decide) ?_
  refine j_iadd 700 dL_law_700 ?_
  refine j_sld hXS 701 (hin 2 (by decide) (by decide)) dL_law_701 ?_
  refine j_aload_n 702 0 dL_law_702 rfl rfl ?_
  refine j_iload_n 703 3 dL_law_703 rfl rfl ?_
  refine j_iconst (v := 3) 704 dL_law_704 (by decide) ?_
  refine j_iadd 705 dL_law_705 ?_
  refine j_sld hXS 706 (hin 3 (by decide) (by decide)) dL_law_706 ?_
  refine j_callV_ei 707 (nn := 0) rfl (by decide) (prs_mem (by decide) (by decide)) [.int (xs (x3 + 1).toNatClampNeg), .int (xs (x3 + 2).toNatClampNeg), .int (xs (x3 + 3).toNatClampNeg)] [] gL_law_X11_person rfl eL11_11 ⟨Nat.le_of_ble_eq_true rfl, Nat.le_of_ble_eq_true rfl⟩ rfl rfl (Nat.le_of_ble_eq_true rfl) dL_law_707 (kX11_person _ _ _ _) (fun r γ => ?_)
  refine j_aload_n 710 2 dL_law_710 rfl rfl ?_
  refine j_aload_n 711 0 dL_law_711 rfl rfl ?_
  refine j_iload_n 712 3 dL_law_712 rfl rfl ?_
  refine j_iconst (v := 1) 713 dL_law_713 (by decide) ?_
  refine j_iadd 714 dL_law_714 ?_
  refine j_sld hXS 715 (hin 1 (by decide) (by decide)) dL_law_715 ?_
  refine j_aload_n 716 0 dL_law_716 rfl rfl ?_
  refine j_iload_n 717 3 dL_law_717 rfl rfl ?_
  refine j_iconst (v := 2) 718 dL_law_718 (by decide) ?_
  refine j_iadd 719 dL_law_719 ?_
  refine j_sld hXS 720 (hin 2 (by decide) (by decide)) dL_law_720 ?_
  refine j_aload_n 721 0 dL_law_721 rfl rfl ?_
  refine j_iload_n 722 3 dL_law_722 rfl rfl ?_
  refine j_iconst (v := 3) 723 dL_law_723 (by decide) ?_
  refine j_iadd 724 dL_law_724 ?_
  refine j_sld hXS 725 (hin 3 (by decide) (by decide)) dL_law_725 ?_
  refine j_callV_ei 726 (nn := 0) rfl (by decide) (prs_mem (by decide) (by decide)) [.int (xs (x3 + 1).toNatClampNeg), .int (xs (x3 + 2).toNatClampNeg), .int (xs (x3 + 3).toNatClampNeg)] [.int r.1] gL_law_X12_person rfl eL12_11 ⟨Nat.le_of_ble_eq_true rfl, Nat.le_of_ble_eq_true rfl⟩ rfl rfl (Nat.le_of_ble_eq_true rfl) dL_law_726 (kX12_person _ _ _ _) (fun q γ => ?_)
  refine j_icmp_eq 729 1793 dL_law_729 (by decide) (fun _ => ?_) (fun _ => ?_)
  · exact hrec _ _
  · exact j_none
def fL_12 (F : Nat) (a1 : Int32) (a2 : Int32) (rec : St → Option LR) (S : St) : Option LR := cal (fX11_die S a1 a2) fun r => cal (fX12_die r.2 a1 a2) fun q => if r.1 = q.1 then rec q.2 else none
theorem eL11_12 : yX11_die.cls = RX11 ∧ yX11_die.cls ≠ "java/lang/invoke/MethodHandle" ∧ yX11_die.cls ≠ "java/lang/invoke/VarHandle" ∧ (parseMethodDescriptor yX11_die.desc).map (fun d => d.parameters.length) = some 2 := by decide +kernel
theorem eL12_12 : yX12_die.cls = RX12 ∧ yX12_die.cls ≠ "java/lang/invoke/MethodHandle" ∧ yX12_die.cls ≠ "java/lang/invoke/VarHandle" ∧ (parseMethodDescriptor yX12_die.desc).map (fun d => d.parameters.length) = some 2 := by decide +kernel
set_option maxRecDepth 100000 in
set_option maxHeartbeats 1000000 in
theorem tL_12 {ad : Nat → Nat → Nat} (X : Ctx) {RQ : LR → Room × (State → Prop)} {fc : LR → Nat} {b L : Nat} {xs : Nat → Int32} (hXS : XS X b L xs) (F : Nat) (x3 : Int32) (hin : ∀ j : Int32, 0 ≤ j → j ≤ 6 → vp_in (x3 + j) L) (rec : St → Option LR) (hrec : ∀ (γ : Nat → Nat) (S : St), JJ X ad γ RQ fc 11 426 cL_law 4 RL wsL ret (rec S) S 1793 [(0, .ref b), (1, .ref (ad 10 0)), (2, .ref (ad 11 0)), (3, .int x3)] []) (γ : Nat → Nat) (S : St) : JJ X ad γ RQ fc 11 426 cL_law 4 RL wsL ret (fL_12 F (xs (x3 + 1).toNatClampNeg) (xs (x3 + 2).toNatClampNeg) rec S) S 734 [(0, .ref b), (1, .ref (ad 10 0)), (2, .ref (ad 11 0)), (3, .int x3)] [] := by
  unfold fL_12
  refine j_aload_n 734 1 dL_law_734 rfl rfl ?_
  refine j_aload_n 735 0 dL_law_735 rfl rfl ?_
  refine j_iload_n 736 3 dL_law_736 rfl rfl ?_
  refine j_iconst (v := 1) 737 dL_law_737 (by decide) ?_
  refine j_iadd 738 dL_law_738 ?_
  refine j_sld hXS 739 (hin 1 (by decide) (by decide)) dL_law_739 ?_
  refine j_aload_n 740 0 dL_law_740 rfl rfl ?_
  refine j_iload_n 741 3 dL_law_741 rfl rfl ?_
  refine j_iconst (v := 2) 742 dL_law_742 (by decide) ?_
  refine j_iadd 743 dL_law_743 ?_
  refine j_sld hXS 744 (hin 2 (by decide) (by decide)) dL_law_744 ?_
  refine j_callV_ei 745 (nn := 0) rfl (by decide) (prs_mem (by decide) (by decide)) [.int (xs (x3 + 1).toNatClampNeg), .int (xs (x3 + 2).toNatClampNeg)] [] gL_law_X11_die rfl eL11_12 ⟨Nat.le_of_ble_eq_true rfl, Nat.le_of_ble_eq_true rfl⟩ rfl rfl (Nat.le_of_ble_eq_true rfl) dL_law_745 (kX11_die _ _ _) (fun r γ => ?_)
  refine j_aload_n 748 2 dL_law_748 rfl rfl ?_
  refine j_aload_n 749 0 dL_law_749 rfl rfl ?_
  refine j_iload_n 750 3 dL_law_750 rfl rfl ?_
  refine j_iconst (v := 1) 751 dL_law_751 (by decide) ?_
  refine j_iadd 752 dL_law_752 ?_
  refine j_sld hXS 753 (hin 1 (by decide) (by decide)) dL_law_753 ?_
  refine j_aload_n 754 0 dL_law_754 rfl rfl ?_
  refine j_iload_n 755 3 dL_law_755 rfl rfl ?_
  refine j_iconst (v := 2) 756 dL_law_756 (by decide) ?_
  refine j_iadd 757 dL_law_757 ?_
  refine j_sld hXS 758 (hin 2 (by decide) (by decide)) dL_law_758 ?_
  refine j_callV_ei 759 (nn := 0) rfl (by decide) (prs_mem (by decide) (by decide)) [.int (xs (x3 + 1).toNatClampNeg), .int (xs (x3 + 2).toNatClampNeg)] [.int r.1] gL_law_X12_die rfl eL12_12 ⟨Nat.le_of_ble_eq_true rfl, Nat.le_of_ble_eq_true rfl⟩ rfl rfl (Nat.le_of_ble_eq_true rfl) dL_law_759 (kX12_die _ _ _) (fun q γ => ?_)
  refine j_icmp_eq 762 1793 dL_law_762 (by decide) (fun _ => ?_) (fun _ => ?_)
  · exact hrec _ _
  · exact j_none
def fL_13 (F : Nat) (a1 : Int32) (a2 : Int32) (rec : St → Option LR) (S : St) : Option LR := cal (fX11_founder F S a1 a2) fun r => cal (fX12_founder F r.2 a1 a2) fun q => if r.1 = q.1 then rec q.2 else none
theorem eL11_13 : yX11_founder.cls = RX11 ∧ yX11_founder.cls ≠ "java/lang/invoke/MethodHandle" ∧ yX11_founder.cls ≠ "java/lang/invoke/VarHandle" ∧ (parseMethodDescriptor yX11_founder.desc).map (fun d => d.parameters.length) = some 2 := by decide +kernel
theorem eL12_13 : yX12_founder.cls = RX12 ∧ yX12_founder.cls ≠ "java/lang/invoke/MethodHandle" ∧ yX12_founder.cls ≠ "java/lang/invoke/VarHandle" ∧ (parseMethodDescriptor yX12_founder.desc).map (fun d => d.parameters.length) = some 2 := by decide +kernel
set_option maxRecDepth 100000 in
set_option maxHeartbeats 1000000 in
theorem tL_13 {ad : Nat → Nat → Nat} (X : Ctx) {RQ : LR → Room × (State → Prop)} {fc : LR → Nat} {b L : Nat} {xs : Nat → Int32} (hXS : XS X b L xs) (F : Nat) (x3 : Int32) (hin : ∀ j : Int32, 0 ≤ j → j ≤ 6 → vp_in (x3 + j) L) (rec : St → Option LR) (hrec : ∀ (γ : Nat → Nat) (S : St), JJ X ad γ RQ fc 11 426 cL_law 4 RL wsL ret (rec S) S 1793 [(0, .ref b), (1, .ref (ad 10 0)), (2, .ref (ad 11 0)), (3, .int x3)] []) (γ : Nat → Nat) (S : St) : JJ X ad γ RQ fc 11 426 cL_law 4 RL wsL ret (fL_13 F (xs (x3 + 1).toNatClampNeg) (xs (x3 + 2).toNatClampNeg) rec S) S 767 [(0, .ref b), (1, .ref (ad 10 0)), (2, .ref (ad 11 0)), (3, .int x3)] [] := by
  unfold fL_13
  refine j_aload_n 767 1 dL_law_767 rfl rfl ?_
  refine j_aload_n 768 0 dL_law_768 rfl rfl ?_
  refine j_iload_n 769 3 dL_law_769 rfl rfl ?_
  refine j_iconst (v := 1) 770 dL_law_770 (by decide) ?_
  refine j_iadd 771 dL_law_771 ?_
  refine j_sld hXS 772 (hin 1 (by decide) (by decide)) dL_law_772 ?_
  refine j_aload_n 773 0 dL_law_773 rfl rfl ?_
  refine j_iload_n 774 3 dL_law_774 rfl rfl ?_
  refine j_iconst (v := 2) 775 dL_law_775 (by decide) ?_
  refine j_iadd 776 dL_law_776 ?_
  refine j_sld hXS 777 (hin 2 (by decide) (by decide)) dL_law_777 ?_
  refine j_callV_ei 778 (nn := 0) rfl (by decide) (prs_mem (by decide) (by decide)) [.int (xs (x3 + 1).toNatClampNeg), .int (xs (x3 + 2).toNatClampNeg)] [] gL_law_X11_founder rfl eL11_13 ⟨Nat.le_of_ble_eq_true rfl, Nat.le_of_ble_eq_true rfl⟩ rfl rfl (Nat.le_of_ble_eq_true rfl) dL_law_778 (kX11_founder F _ _ _) (fun r γ => ?_)
  refine j_aload_n 781 2 dL_law_781 rfl rfl ?_
  refine j_aload_n 782 0 dL_law_782 rfl rfl ?_
  refine j_iload_n 783 3 dL_law_783 rfl rfl ?_
  refine j_iconst (v := 1) 784 dL_law_784 (by decide) ?_
  refine j_iadd 785 dL_law_785 ?_
  refine j_sld hXS 786 (hin 1 (by decide) (by decide)) dL_law_786 ?_
  refine j_aload_n 787 0 dL_law_787 rfl rfl ?_
  refine j_iload_n 788 3 dL_law_788 rfl rfl ?_
  refine j_iconst (v := 2) 789 dL_law_789 (by decide) ?_
  refine j_iadd 790 dL_law_790 ?_
  refine j_sld hXS 791 (hin 2 (by decide) (by decide)) dL_law_791 ?_
  refine j_callV_ei 792 (nn := 0) rfl (by decide) (prs_mem (by decide) (by decide)) [.int (xs (x3 + 1).toNatClampNeg), .int (xs (x3 + 2).toNatClampNeg)] [.int r.1] gL_law_X12_founder rfl eL12_13 ⟨Nat.le_of_ble_eq_true rfl, Nat.le_of_ble_eq_true rfl⟩ rfl rfl (Nat.le_of_ble_eq_true rfl) dL_law_792 (kX12_founder F _ _ _) (fun q γ => ?_)
  refine j_icmp_eq 795 1793 dL_law_795 (by decide) (fun _ => ?_) (fun _ => ?_)
  · exact hrec _ _
  · exact j_none
def fL_14 (F : Nat) (a1 : Int32) (a2 : Int32) (a3 : Int32) (a4 : Int32) (rec : St → Option LR) (S : St) : Option LR := if a4 = 0 then (cal (fX11_say S a1 a2 a3 0) fun r => if a4 = 0 then cal (fX12_say r.2 a1 a2 a3 0) fun q => if r.1 = q.1 then rec q.2 else none else none) else (cal (fX11_say S a1 a2 a3 1) fun r => if a4 = 0 then none else cal (fX12_say r.2 a1 a2 a3 1) fun q => if r.1 = q.1 then rec q.2 else none)
theorem eL11_14 : yX11_say.cls = RX11 ∧ yX11_say.cls ≠ "java/lang/invoke/MethodHandle" ∧ yX11_say.cls ≠ "java/lang/invoke/VarHandle" ∧ (parseMethodDescriptor yX11_say.desc).map (fun d => d.parameters.length) = some 4 := by decide +kernel
theorem eL12_14 : yX12_say.cls = RX12 ∧ yX12_say.cls ≠ "java/lang/invoke/MethodHandle" ∧ yX12_say.cls ≠ "java/lang/invoke/VarHandle" ∧ (parseMethodDescriptor yX12_say.desc).map (fun d => d.parameters.length) = some 4 := by decide +kernel
set_option maxRecDepth 100000 in
set_option maxHeartbeats 1000000 in
theorem tL_14 {ad : Nat → Nat → Nat} (X : Ctx) {RQ : LR → Room × (State → Prop)} {fc : LR → Nat} {b L : Nat} {xs : Nat → Int32} (hXS : XS X b L xs) (F : Nat) (x3 : Int32) (hin : ∀ j : Int32, 0 ≤ j → j ≤ 6 → vp_in (x3 + j) L) (rec : St → Option LR) (hrec : ∀ (γ : Nat → Nat) (S : St), JJ X ad γ RQ fc 11 426 cL_law 4 RL wsL ret (rec S) S 1793 [(0, .ref b), (1, .ref (ad 10 0)), (2, .ref (ad 11 0)), (3, .int x3)] []) (γ : Nat → Nat) (S : St) : JJ X ad γ RQ fc 11 426 cL_law 4 RL wsL ret (fL_14 F (xs (x3 + 1).toNatClampNeg) (xs (x3 + 2).toNatClampNeg) (xs (x3 + 3).toNatClampNeg) (xs (x3 + 4).toNatClampNeg) rec S) S 800 [(0, .ref b), (1, .ref (ad 10 0)), (2, .ref (ad 11 0)), (3, .int x3)] [] := by
  unfold fL_14
  refine j_aload_n 800 1 dL_law_800 rfl rfl ?_
  refine j_aload_n 801 0 dL_law_801 rfl rfl ?_
  refine j_iload_n 802 3 dL_law_802 rfl rfl ?_
  refine j_iconst (v := 1) 803 dL_law_803 (by decide) ?_
  refine j_iadd 804 dL_law_804 ?_
  refine j_sld hXS 805 (hin 1 (by decide) (by decide)) dL_law_805 ?_
  refine j_aload_n 806 0 dL_law_806 rfl rfl ?_
  refine j_iload_n 807 3 dL_law_807 rfl rfl ?_
  refine j_iconst (v := 2) 808 dL_law_808 (by decide) ?_
  refine j_iadd 809 dL_law_809 ?_
  refine j_sld hXS 810 (hin 2 (by decide) (by decide)) dL_law_810 ?_
  refine j_aload_n 811 0 dL_law_811 rfl rfl ?_
  refine j_iload_n 812 3 dL_law_812 rfl rfl ?_
  refine j_iconst (v := 3) 813 dL_law_813 (by decide) ?_
  refine j_iadd 814 dL_law_814 ?_
  refine j_sld hXS 815 (hin 3 (by decide) (by decide)) dL_law_815 ?_
  refine j_aload_n 816 0 dL_law_816 rfl rfl ?_
  refine j_iload_n 817 3 dL_law_817 rfl rfl ?_
  refine j_iconst (v := 4) 818 dL_law_818 (by decide) ?_
  refine j_iadd 819 dL_law_819 ?_
  refine j_sld hXS 820 (hin 4 (by decide) (by decide)) dL_law_820 ?_
  refine j_if_eq 821 828 dL_law_821 (by decide) (fun z0 => ?_) (fun z0 => ?_)
  · refine j_iconst (v := 0) 828 dL_law_828 (by decide) ?_
    refine j_callV_ei 829 (nn := 0) rfl (by decide) (prs_mem (by decide) (by decide)) [.int (xs (x3 + 1).toNatClampNeg), .int (xs (x3 + 2).toNatClampNeg), .int (xs (x3 + 3).toNatClampNeg), .int 0] [] gL_law_X11_say rfl eL11_14 ⟨Nat.le_of_ble_eq_true rfl, Nat.le_of_ble_eq_true rfl⟩ rfl rfl (Nat.le_of_ble_eq_true rfl) dL_law_829 (kX11_say _ _ _ _ _) (fun r γ => ?_)
    refine j_aload_n 832 2 dL_law_832 rfl rfl ?_
    refine j_aload_n 833 0 dL_law_833 rfl rfl ?_
    refine j_iload_n 834 3 dL_law_834 rfl rfl ?_
    refine j_iconst (v := 1) 835 dL_law_835 (by decide) ?_
    refine j_iadd 836 dL_law_836 ?_
    refine j_sld hXS 837 (hin 1 (by decide) (by decide)) dL_law_837 ?_
    refine j_aload_n 838 0 dL_law_838 rfl rfl ?_
    refine j_iload_n 839 3 dL_law_839 rfl rfl ?_
    refine j_iconst (v := 2) 840 dL_law_840 (by decide) ?_
    refine j_iadd 841 dL_law_841 ?_
    refine j_sld hXS 842 (hin 2 (by decide) (by decide)) dL_law_842 ?_
    refine j_aload_n 843 0 dL_law_843 rfl rfl ?_
    refine j_iload_n 844 3 dL_law_844 rfl rfl ?_
    refine j_iconst (v := 3) 845 dL_law_845 (by decide) ?_
    refine j_iadd 846 dL_law_846 ?_
    refine j_sld hXS 847 (hin 3 (by decide) (by decide)) dL_law_847 ?_
    refine j_aload_n 848 0 dL_law_848 rfl rfl ?_
    refine j_iload_n 849 3 dL_law_849 rfl rfl ?_
    refine j_iconst (v := 4) 850 dL_law_850 (by decide) ?_
    refine j_iadd 851 dL_law_851 ?_
    refine j_sld hXS 852 (hin 4 (by decide) (by decide)) dL_law_852 ?_
    refine j_if_eq 853 860 dL_law_853 (by decide) (fun z1 => ?_) (fun z1 => ?_)
    · refine j_iconst (v := 0) 860 dL_law_860 (by decide) ?_
      refine j_callV_ei 861 (nn := 0) rfl (by decide) (prs_mem (by decide) (by decide)) [.int (xs (x3 + 1).toNatClampNeg), .int (xs (x3 + 2).toNatClampNeg), .int (xs (x3 + 3).toNatClampNeg), .int 0] [.int r.1] gL_law_X12_say rfl eL12_14 ⟨Nat.le_of_ble_eq_true rfl, Nat.le_of_ble_eq_true rfl⟩ rfl rfl (Nat.le_of_ble_eq_true rfl) dL_law_861 (kX12_say _ _ _ _ _) (fun q γ => ?_)
      refine j_icmp_eq 864 1793 dL_law_864 (by decide) (fun _ => ?_) (fun _ => ?_)
      · exact hrec _ _
      · exact j_none
    · exact j_none
  · refine j_iconst (v := 1) 824 dL_law_824 (by decide) ?_
    refine j_goto 825 829 dL_law_825 (by decide) ?_
    refine j_callV_ei 829 (nn := 0) rfl (by decide) (prs_mem (by decide) (by decide)) [.int (xs (x3 + 1).toNatClampNeg), .int (xs (x3 + 2).toNatClampNeg), .int (xs (x3 + 3).toNatClampNeg), .int 1] [] gL_law_X11_say rfl eL11_14 ⟨Nat.le_of_ble_eq_true rfl, Nat.le_of_ble_eq_true rfl⟩ rfl rfl (Nat.le_of_ble_eq_true rfl) dL_law_829 (kX11_say _ _ _ _ _) (fun r γ => ?_)
    refine j_aload_n 832 2 dL_law_832 rfl rfl ?_
    refine j_aload_n 833 0 dL_law_833 rfl rfl ?_
    refine j_iload_n 834 3 dL_law_834 rfl rfl ?_
    refine j_iconst (v := 1) 835 dL_law_835 (by decide) ?_
    refine j_iadd 836 dL_law_836 ?_
    refine j_sld hXS 837 (hin 1 (by decide) (by decide)) dL_law_837 ?_
    refine j_aload_n 838 0 dL_law_838 rfl rfl ?_
    refine j_iload_n 839 3 dL_law_839 rfl rfl ?_
    refine j_iconst (v := 2) 840 dL_law_840 (by decide) ?_
    refine j_iadd 841 dL_law_841 ?_
    refine j_sld hXS 842 (hin 2 (by decide) (by decide)) dL_law_842 ?_
    refine j_aload_n 843 0 dL_law_843 rfl rfl ?_
    refine j_iload_n 844 3 dL_law_844 rfl rfl ?_
    refine j_iconst (v := 3) 845 dL_law_845 (by decide) ?_
    refine j_iadd 846 dL_law_846 ?_
    refine j_sld hXS 847 (hin 3 (by decide) (by decide)) dL_law_847 ?_
    refine j_aload_n 848 0 dL_law_848 rfl rfl ?_
    refine j_iload_n 849 3 dL_law_849 rfl rfl ?_
    refine j_iconst (v := 4) 850 dL_law_850 (by decide) ?_
    refine j_iadd 851 dL_law_851 ?_
    refine j_sld hXS 852 (hin 4 (by decide) (by decide)) dL_law_852 ?_
    refine j_if_eq 853 860 dL_law_853 (by decide) (fun z1 => ?_) (fun z1 => ?_)
    · exact j_none
    · refine j_iconst (v := 1) 856 dL_law_856 (by decide) ?_
      refine j_goto 857 861 dL_law_857 (by decide) ?_
      refine j_callV_ei 861 (nn := 0) rfl (by decide) (prs_mem (by decide) (by decide)) [.int (xs (x3 + 1).toNatClampNeg), .int (xs (x3 + 2).toNatClampNeg), .int (xs (x3 + 3).toNatClampNeg), .int 1] [.int r.1] gL_law_X12_say rfl eL12_14 ⟨Nat.le_of_ble_eq_true rfl, Nat.le_of_ble_eq_true rfl⟩ rfl rfl (Nat.le_of_ble_eq_true rfl) dL_law_861 (kX12_say _ _ _ _ _) (fun q γ => ?_)
      refine j_icmp_eq 864 1793 dL_law_864 (by decide) (fun _ => ?_) (fun _ => ?_)
      · exact hrec _ _
      · exact j_none
def fL_15 (F : Nat) (a1 : Int32) (a2 : Int32) (rec : St → Option LR) (S : St) : Option LR := cal (fX11_of F S a1 a2) fun r => cal (fX12_of F S a1 a2) fun q => if r = q.1 then rec q.2 else none
theorem eL11_15 : yX11_of.cls = RX11 ∧ yX11_of.cls ≠ "java/lang/invoke/MethodHandle" ∧ yX11_of.cls ≠ "java/lang/invoke/VarHandle" ∧ (parseMethodDescriptor yX11_of.desc).map (fun d => d.parameters.length) = some 2 := by decide +kernel
theorem eL12_15 : yX12_of.cls = RX12 ∧ yX12_of.cls ≠ "java/lang/invoke/MethodHandle" ∧ yX12_of.cls ≠ "java/lang/invoke/VarHandle" ∧ (parseMethodDescriptor yX12_of.desc).map (fun d => d.parameters.length) = some 2 := by decide +kernel
set_option maxRecDepth 100000 in
set_option maxHeartbeats 1000000 in
theorem tL_15 {ad : Nat → Nat → Nat} (X : Ctx) {RQ : LR → Room × (State → Prop)} {fc : LR → Nat} {b L : Nat} {xs : Nat → Int32} (hXS : XS X b L xs) (F : Nat) (x3 : Int32) (hin : ∀ j : Int32, 0 ≤ j → j ≤ 6 → vp_in (x3 + j) L) (rec : St → Option LR) (hrec : ∀ (γ : Nat → Nat) (S : St), JJ X ad γ RQ fc 11 426 cL_law 4 RL wsL ret (rec S) S 1793 [(0, .ref b), (1, .ref (ad 10 0)), (2, .ref (ad 11 0)), (3, .int x3)] []) (γ : Nat → Nat) (S : St) : JJ X ad γ RQ fc 11 426 cL_law 4 RL wsL ret (fL_15 F (xs (x3 + 1).toNatClampNeg) (xs (x3 + 2).toNatClampNeg) rec S) S 869 [(0, .ref b), (1, .ref (ad 10 0)), (2, .ref (ad 11 0)), (3, .int x3)] [] := by
  unfold fL_15
  refine j_aload_n 869 1 dL_law_869 rfl rfl ?_
  refine j_aload_n 870 0 dL_law_870 rfl rfl ?_
  refine j_iload_n 871 3 dL_law_871 rfl rfl ?_
  refine j_iconst (v := 1) 872 dL_law_872 (by decide) ?_
  refine j_iadd 873 dL_law_873 ?_
  refine j_sld hXS 874 (hin 1 (by decide) (by decide)) dL_law_874 ?_
  refine j_aload_n 875 0 dL_law_875 rfl rfl ?_
  refine j_iload_n 876 3 dL_law_876 rfl rfl ?_
  refine j_iconst (v := 2) 877 dL_law_877 (by decide) ?_
  refine j_iadd 878 dL_law_878 ?_
  refine j_sld hXS 879 (hin 2 (by decide) (by decide)) dL_law_879 ?_
  refine j_callV_pi 880 (nn := 0) rfl (by decide) (prs_mem (by decide) (by decide)) [.int (xs (x3 + 1).toNatClampNeg), .int (xs (x3 + 2).toNatClampNeg)] [] gL_law_X11_of rfl eL11_15 ⟨Nat.le_of_ble_eq_true rfl, Nat.le_of_ble_eq_true rfl⟩ rfl rfl (Nat.le_of_ble_eq_true rfl) dL_law_880 (kX11_of F _ _ _) (fun r γ => ?_)
  refine j_aload_n 883 2 dL_law_883 rfl rfl ?_
  refine j_aload_n 884 0 dL_law_884 rfl rfl ?_
  refine j_iload_n 885 3 dL_law_885 rfl rfl ?_
  refine j_iconst (v := 1) 886 dL_law_886 (by decide) ?_
  refine j_iadd 887 dL_law_887 ?_
  refine j_sld hXS 888 (hin 1 (by decide) (by decide)) dL_law_888 ?_
  refine j_aload_n 889 0 dL_law_889 rfl rfl ?_
  refine j_iload_n 890 3 dL_law_890 rfl rfl ?_
  refine j_iconst (v := 2) 891 dL_law_891 (by decide) ?_
  refine j_iadd 892 dL_law_892 ?_
  refine j_sld hXS 893 (hin 2 (by decide) (by decide)) dL_law_893 ?_
  refine j_callV_ei 894 (nn := 0) rfl (by decide) (prs_mem (by decide) (by decide)) [.int (xs (x3 + 1).toNatClampNeg), .int (xs (x3 + 2).toNatClampNeg)] [.int r] gL_law_X12_of rfl eL12_15 ⟨Nat.le_of_ble_eq_true rfl, Nat.le_of_ble_eq_true rfl⟩ rfl rfl (Nat.le_of_ble_eq_true rfl) dL_law_894 (kX12_of F _ _ _) (fun q γ => ?_)
  refine j_icmp_eq 897 1793 dL_law_897 (by decide) (fun _ => ?_) (fun _ => ?_)
  · exact hrec _ _
  · exact j_none
def fL_16 (F : Nat) (a1 : Int32) (a2 : Int32) (rec : St → Option LR) (S : St) : Option LR := cal (fX11_odds F S a1 a2) fun r => cal (fX12_odds F S a1 a2) fun q => if r = q then rec S else none
theorem eL11_16 : yX11_odds.cls = RX11 ∧ yX11_odds.cls ≠ "java/lang/invoke/MethodHandle" ∧ yX11_odds.cls ≠ "java/lang/invoke/VarHandle" ∧ (parseMethodDescriptor yX11_odds.desc).map (fun d => d.parameters.length) = some 2 := by decide +kernel
theorem eL12_16 : yX12_odds.cls = RX12 ∧ yX12_odds.cls ≠ "java/lang/invoke/MethodHandle" ∧ yX12_odds.cls ≠ "java/lang/invoke/VarHandle" ∧ (parseMethodDescriptor yX12_odds.desc).map (fun d => d.parameters.length) = some 2 := by decide +kernel
set_option maxRecDepth 100000 in
set_option maxHeartbeats 1000000 in
theorem tL_16 {ad : Nat → Nat → Nat} (X : Ctx) {RQ : LR → Room × (State → Prop)} {fc : LR → Nat} {b L : Nat} {xs : Nat → Int32} (hXS : XS X b L xs) (F : Nat) (x3 : Int32) (hin : ∀ j : Int32, 0 ≤ j → j ≤ 6 → vp_in (x3 + j) L) (rec : St → Option LR) (hrec : ∀ (γ : Nat → Nat) (S : St), JJ X ad γ RQ fc 11 426 cL_law 4 RL wsL ret (rec S) S 1793 [(0, .ref b), (1, .ref (ad 10 0)), (2, .ref (ad 11 0)), (3, .int x3)] []) (γ : Nat → Nat) (S : St) : JJ X ad γ RQ fc 11 426 cL_law 4 RL wsL ret (fL_16 F (xs (x3 + 1).toNatClampNeg) (xs (x3 + 2).toNatClampNeg) rec S) S 902 [(0, .ref b), (1, .ref (ad 10 0)), (2, .ref (ad 11 0)), (3, .int x3)] [] := by
  unfold fL_16
  refine j_aload_n 902 1 dL_law_902 rfl rfl ?_
  refine j_aload_n 903 0 dL_law_903 rfl rfl ?_
  refine j_iload_n 904 3 dL_law_904 rfl rfl ?_
  refine j_iconst (v := 1) 905 dL_law_905 (by decide) ?_
  refine j_iadd 906 dL_law_906 ?_
  refine j_sld hXS 907 (hin 1 (by decide) (by decide)) dL_law_907 ?_
  refine j_aload_n 908 0 dL_law_908 rfl rfl ?_
  refine j_iload_n 909 3 dL_law_909 rfl rfl ?_
  refine j_iconst (v := 2) 910 dL_law_910 (by decide) ?_
  refine j_iadd 911 dL_law_911 ?_
  refine j_sld hXS 912 (hin 2 (by decide) (by decide)) dL_law_912 ?_
  refine j_callV_pi 913 (nn := 0) rfl (by decide) (prs_mem (by decide) (by decide)) [.int (xs (x3 + 1).toNatClampNeg), .int (xs (x3 + 2).toNatClampNeg)] [] gL_law_X11_odds rfl eL11_16 ⟨Nat.le_of_ble_eq_true rfl, Nat.le_of_ble_eq_true rfl⟩ rfl rfl (Nat.le_of_ble_eq_true rfl) dL_law_913 (kX11_odds F _ _ _) (fun r γ => ?_)
  refine j_aload_n 916 2 dL_law_916 rfl rfl ?_
  refine j_aload_n 917 0 dL_law_917 rfl rfl ?_
  refine j_iload_n 918 3 dL_law_918 rfl rfl ?_
  refine j_iconst (v := 1) 919 dL_law_919 (by decide) ?_
  refine j_iadd 920 dL_law_920 ?_
  refine j_sld hXS 921 (hin 1 (by decide) (by decide)) dL_law_921 ?_
  refine j_aload_n 922 0 dL_law_922 rfl rfl ?_
  refine j_iload_n 923 3 dL_law_923 rfl rfl ?_
  refine j_iconst (v := 2) 924 dL_law_924 (by decide) ?_
  refine j_iadd 925 dL_law_925 ?_
  refine j_sld hXS 926 (hin 2 (by decide) (by decide)) dL_law_926 ?_
  refine j_callV_pi 927 (nn := 0) rfl (by decide) (prs_mem (by decide) (by decide)) [.int (xs (x3 + 1).toNatClampNeg), .int (xs (x3 + 2).toNatClampNeg)] [.int r] gL_law_X12_odds rfl eL12_16 ⟨Nat.le_of_ble_eq_true rfl, Nat.le_of_ble_eq_true rfl⟩ rfl rfl (Nat.le_of_ble_eq_true rfl) dL_law_927 (kX12_odds F _ _ _) (fun q γ => ?_)
  refine j_icmp_eq 930 1793 dL_law_930 (by decide) (fun _ => ?_) (fun _ => ?_)
  · exact hrec _ _
  · exact j_none
def fL_17 (F : Nat) (a1 : Int32) (rec : St → Option LR) (S : St) : Option LR := cal (fX11_block S a1) fun r => cal (fX12_block r.2 a1) fun q => if r.1 = q.1 then rec q.2 else none
theorem eL11_17 : yX11_block.cls = RX11 ∧ yX11_block.cls ≠ "java/lang/invoke/MethodHandle" ∧ yX11_block.cls ≠ "java/lang/invoke/VarHandle" ∧ (parseMethodDescriptor yX11_block.desc).map (fun d => d.parameters.length) = some 1 := by decide +kernel
theorem eL12_17 : yX12_block.cls = RX12 ∧ yX12_block.cls ≠ "java/lang/invoke/MethodHandle" ∧ yX12_block.cls ≠ "java/lang/invoke/VarHandle" ∧ (parseMethodDescriptor yX12_block.desc).map (fun d => d.parameters.length) = some 1 := by decide +kernel
set_option maxRecDepth 100000 in
set_option maxHeartbeats 1000000 in
theorem tL_17 {ad : Nat → Nat → Nat} (X : Ctx) {RQ : LR → Room × (State → Prop)} {fc : LR → Nat} {b L : Nat} {xs : Nat → Int32} (hXS : XS X b L xs) (F : Nat) (x3 : Int32) (hin : ∀ j : Int32, 0 ≤ j → j ≤ 6 → vp_in (x3 + j) L) (rec : St → Option LR) (hrec : ∀ (γ : Nat → Nat) (S : St), JJ X ad γ RQ fc 11 426 cL_law 4 RL wsL ret (rec S) S 1793 [(0, .ref b), (1, .ref (ad 10 0)), (2, .ref (ad 11 0)), (3, .int x3)] []) (γ : Nat → Nat) (S : St) : JJ X ad γ RQ fc 11 426 cL_law 4 RL wsL ret (fL_17 F (xs (x3 + 1).toNatClampNeg) rec S) S 935 [(0, .ref b), (1, .ref (ad 10 0)), (2, .ref (ad 11 0)), (3, .int x3)] [] := by
  unfold fL_17
  refine j_aload_n 935 1 dL_law_935 rfl rfl ?_
  refine j_aload_n 936 0 dL_law_936 rfl rfl ?_
  refine j_iload_n 937 3 dL_law_937 rfl rfl ?_
  refine j_iconst (v := 1) 938 dL_law_938 (by decide) ?_
  refine j_iadd 939 dL_law_939 ?_
  refine j_sld hXS 940 (hin 1 (by decide) (by decide)) dL_law_940 ?_
  refine j_callV_ei 941 (nn := 0) rfl (by decide) (prs_mem (by decide) (by decide)) [.int (xs (x3 + 1).toNatClampNeg)] [] gL_law_X11_block rfl eL11_17 ⟨Nat.le_of_ble_eq_true rfl, Nat.le_of_ble_eq_true rfl⟩ rfl rfl (Nat.le_of_ble_eq_true rfl) dL_law_941 (kX11_block _ _) (fun r γ => ?_)
  refine j_aload_n 944 2 dL_law_944 rfl rfl ?_
  refine j_aload_n 945 0 dL_law_945 rfl rfl ?_
  refine j_iload_n 946 3 dL_law_946 rfl rfl ?_
  refine j_iconst (v := 1) 947 dL_law_947 (by decide) ?_
  refine j_iadd 948 dL_law_948 ?_
  refine j_sld hXS 949 (hin 1 (by decide) (by decide)) dL_law_949 ?_
  refine j_callV_ei 950 (nn := 0) rfl (by decide) (prs_mem (by decide) (by decide)) [.int (xs (x3 + 1).toNatClampNeg)] [.int r.1] gL_law_X12_block rfl eL12_17 ⟨Nat.le_of_ble_eq_true rfl, Nat.le_of_ble_eq_true rfl⟩ rfl rfl (Nat.le_of_ble_eq_true rfl) dL_law_950 (kX12_block _ _) (fun q γ => ?_)
  refine j_icmp_eq 953 1793 dL_law_953 (by decide) (fun _ => ?_) (fun _ => ?_)
  · exact hrec _ _
  · exact j_none
def fL_18 (F : Nat) (a1 : Int32) (a2 : Int32) (a3 : Int32) (rec : St → Option LR) (S : St) : Option LR := cal (fX11_paper S a1 a2 a3) fun r => cal (fX12_paper r.2 a1 a2 a3) fun q => if r.1 = q.1 then rec q.2 else none
theorem eL11_18 : yX11_paper.cls = RX11 ∧ yX11_paper.cls ≠ "java/lang/invoke/MethodHandle" ∧ yX11_paper.cls ≠ "java/lang/invoke/VarHandle" ∧ (parseMethodDescriptor yX11_paper.desc).map (fun d => d.parameters.length) = some 3 := by decide +kernel
theorem eL12_18 : yX12_paper.cls = RX12 ∧ yX12_paper.cls ≠ "java/lang/invoke/MethodHandle" ∧ yX12_paper.cls ≠ "java/lang/invoke/VarHandle" ∧ (parseMethodDescriptor yX12_paper.desc).map (fun d => d.parameters.length) = some 3 := by decide +kernel
set_option maxRecDepth 100000 in
set_option maxHeartbeats 1000000 in
theorem tL_18 {ad : Nat → Nat → Nat} (X : Ctx) {RQ : LR → Room × (State → Prop)} {fc : LR → Nat} {b L : Nat} {xs : Nat → Int32} (hXS : XS X b L xs) (F : Nat) (x3 : Int32) (hin : ∀ j : Int32, 0 ≤ j → j ≤ 6 → vp_in (x3 + j) L) (rec : St → Option LR) (hrec : ∀ (γ : Nat → Nat) (S : St), JJ X ad γ RQ fc 11 426 cL_law 4 RL wsL ret (rec S) S 1793 [(0, .ref b), (1, .ref (ad 10 0)), (2, .ref (ad 11 0)), (3, .int x3)] []) (γ : Nat → Nat) (S : St) : JJ X ad γ RQ fc 11 426 cL_law 4 RL wsL ret (fL_18 F (xs (x3 + 1).toNatClampNeg) (xs (x3 + 2).toNatClampNeg) (xs (x3 + 3).toNatClampNeg) rec S) S 958 [(0, .ref b), (1, .ref (ad 10 0)), (2, .ref (ad 11 0)), (3, .int x3)] [] := by
  unfold fL_18
  refine j_aload_n 958 1 dL_law_958 rfl rfl ?_
  refine j_aload_n 959 0 dL_law_959 rfl rfl ?_
  refine j_iload_n 960 3 dL_law_960 rfl rfl ?_
  refine j_iconst (v := 1) 961 dL_law_961 (by decide) ?_
  refine j_iadd 962 dL_law_962 ?_
  refine j_sld hXS 963 (hin 1 (by decide) (by decide)) dL_law_963 ?_
  refine j_aload_n 964 0 dL_law_964 rfl rfl ?_
  refine j_iload_n 965 3 dL_law_965 rfl rfl ?_
  refine j_iconst (v := 2) 966 dL_law_966 (by decide) ?_
  refine j_iadd 967 dL_law_967 ?_
  refine j_sld hXS 968 (hin 2 (by decide) (by decide)) dL_law_968 ?_
  refine j_aload_n 969 0 dL_law_969 rfl rfl ?_
  refine j_iload_n 970 3 dL_law_970 rfl rfl ?_
  refine j_iconst (v := 3) 971 dL_law_971 (by decide) ?_
  refine j_iadd 972 dL_law_972 ?_
  refine j_sld hXS 973 (hin 3 (by decide) (by decide)) dL_law_973 ?_
  refine j_callV_ei 974 (nn := 0) rfl (by decide) (prs_mem (by decide) (by decide)) [.int (xs (x3 + 1).toNatClampNeg), .int (xs (x3 + 2).toNatClampNeg), .int (xs (x3 + 3).toNatClampNeg)] [] gL_law_X11_paper rfl eL11_18 ⟨Nat.le_of_ble_eq_true rfl, Nat.le_of_ble_eq_true rfl⟩ rfl rfl (Nat.le_of_ble_eq_true rfl) dL_law_974 (kX11_paper _ _ _ _) (fun r γ => ?_)
  refine j_aload_n 977 2 dL_law_977 rfl rfl ?_
  refine j_aload_n 978 0 dL_law_978 rfl rfl ?_
  refine j_iload_n 979 3 dL_law_979 rfl rfl ?_
  refine j_iconst (v := 1) 980 dL_law_980 (by decide) ?_
  refine j_iadd 981 dL_law_981 ?_
  refine j_sld hXS 982 (hin 1 (by decide) (by decide)) dL_law_982 ?_
  refine j_aload_n 983 0 dL_law_983 rfl rfl ?_
  refine j_iload_n 984 3 dL_law_984 rfl rfl ?_
  refine j_iconst (v := 2) 985 dL_law_985 (by decide) ?_
  refine j_iadd 986 dL_law_986 ?_
  refine j_sld hXS 987 (hin 2 (by decide) (by decide)) dL_law_987 ?_
  refine j_aload_n 988 0 dL_law_988 rfl rfl ?_
  refine j_iload_n 989 3 dL_law_989 rfl rfl ?_
  refine j_iconst (v := 3) 990 dL_law_990 (by decide) ?_
  refine j_iadd 991 dL_law_991 ?_
  refine j_sld hXS 992 (hin 3 (by decide) (by decide)) dL_law_992 ?_
  refine j_callV_ei 993 (nn := 0) rfl (by decide) (prs_mem (by decide) (by decide)) [.int (xs (x3 + 1).toNatClampNeg), .int (xs (x3 + 2).toNatClampNeg), .int (xs (x3 + 3).toNatClampNeg)] [.int r.1] gL_law_X12_paper rfl eL12_18 ⟨Nat.le_of_ble_eq_true rfl, Nat.le_of_ble_eq_true rfl⟩ rfl rfl (Nat.le_of_ble_eq_true rfl) dL_law_993 (kX12_paper _ _ _ _) (fun q γ => ?_)
  refine j_icmp_eq 996 1793 dL_law_996 (by decide) (fun _ => ?_) (fun _ => ?_)
  · exact hrec _ _
  · exact j_none
def fL_19 (F : Nat) (a1 : Int32) (a2 : Int32) (a3 : Int32) (rec : St → Option LR) (S : St) : Option LR := cal (fX11_use S a1 a2 a3) fun r => cal (fX12_use r.2 a1 a2 a3) fun q => if r.1 = q.1 then rec q.2 else none
theorem eL11_19 : yX11_use.cls = RX11 ∧ yX11_use.cls ≠ "java/lang/invoke/MethodHandle" ∧ yX11_use.cls ≠ "java/lang/invoke/VarHandle" ∧ (parseMethodDescriptor yX11_use.desc).map (fun d => d.parameters.length) = some 3 := by decide +kernel
theorem eL12_19 : yX12_use.cls = RX12 ∧ yX12_use.cls ≠ "java/lang/invoke/MethodHandle" ∧ yX12_use.cls ≠ "java/lang/invoke/VarHandle" ∧ (parseMethodDescriptor yX12_use.desc).map (fun d => d.parameters.length) = some 3 := by decide +kernel
set_option maxRecDepth 100000 in
set_option maxHeartbeats 1000000 in
theorem tL_19 {ad : Nat → Nat → Nat} (X : Ctx) {RQ : LR → Room × (State → Prop)} {fc : LR → Nat} {b L : Nat} {xs : Nat → Int32} (hXS : XS X b L xs) (F : Nat) (x3 : Int32) (hin : ∀ j : Int32, 0 ≤ j → j ≤ 6 → vp_in (x3 + j) L) (rec : St → Option LR) (hrec : ∀ (γ : Nat → Nat) (S : St), JJ X ad γ RQ fc 11 426 cL_law 4 RL wsL ret (rec S) S 1793 [(0, .ref b), (1, .ref (ad 10 0)), (2, .ref (ad 11 0)), (3, .int x3)] []) (γ : Nat → Nat) (S : St) : JJ X ad γ RQ fc 11 426 cL_law 4 RL wsL ret (fL_19 F (xs (x3 + 1).toNatClampNeg) (xs (x3 + 2).toNatClampNeg) (xs (x3 + 3).toNatClampNeg) rec S) S 1001 [(0, .ref b), (1, .ref (ad 10 0)), (2, .ref (ad 11 0)), (3, .int x3)] [] := by
  unfold fL_19
  refine j_aload_n 1001 1 dL_law_1001 rfl rfl ?_
  refine j_aload_n 1002 0 dL_law_1002 rfl rfl ?_
  refine j_iload_n 1003 3 dL_law_1003 rfl rfl ?_
  refine j_iconst (v := 1) 1004 dL_law_1004 (by decide) ?_
  refine j_iadd 1005 dL_law_1005 ?_
  refine j_sld hXS 1006 (hin 1 (by decide) (by decide)) dL_law_1006 ?_
  refine j_aload_n 1007 0 dL_law_1007 rfl rfl ?_
  refine j_iload_n 1008 3 dL_law_1008 rfl rfl ?_
  refine j_iconst (v := 2) 1009 dL_law_1009 (by decide) ?_
  refine j_iadd 1010 dL_law_1010 ?_
  refine j_sld hXS 1011 (hin 2 (by decide) (by decide)) dL_law_1011 ?_
  refine j_aload_n 1012 0 dL_law_1012 rfl rfl ?_
  refine j_iload_n 1013 3 dL_law_1013 rfl rfl ?_
  refine j_iconst (v := 3) 1014 dL_law_1014 (by decide) ?_
  refine j_iadd 1015 dL_law_1015 ?_
  refine j_sld hXS 1016 (hin 3 (by decide) (by decide)) dL_law_1016 ?_
  refine j_callV_ei 1017 (nn := 0) rfl (by decide) (prs_mem (by decide) (by decide)) [.int (xs (x3 + 1).toNatClampNeg), .int (xs (x3 + 2).toNatClampNeg), .int (xs (x3 + 3).toNatClampNeg)] [] gL_law_X11_use rfl eL11_19 ⟨Nat.le_of_ble_eq_true rfl, Nat.le_of_ble_eq_true rfl⟩ rfl rfl (Nat.le_of_ble_eq_true rfl) dL_law_1017 (kX11_use _ _ _ _) (fun r γ => ?_)
  refine j_aload_n 1020 2 dL_law_1020 rfl rfl ?_
  refine j_aload_n 1021 0 dL_law_1021 rfl rfl ?_
  refine j_iload_n 1022 3 dL_law_1022 rfl rfl ?_
  refine j_iconst (v := 1) 1023 dL_law_1023 (by decide) ?_
  refine j_iadd 1024 dL_law_1024 ?_
  refine j_sld hXS 1025 (hin 1 (by decide) (by decide)) dL_law_1025 ?_
  refine j_aload_n 1026 0 dL_law_1026 rfl rfl ?_
  refine j_iload_n 1027 3 dL_law_1027 rfl rfl ?_
  refine j_iconst (v := 2) 1028 dL_law_1028 (by decide) ?_
  refine j_iadd 1029 dL_law_1029 ?_
  refine j_sld hXS 1030 (hin 2 (by decide) (by decide)) dL_law_1030 ?_
  refine j_aload_n 1031 0 dL_law_1031 rfl rfl ?_
  refine j_iload_n 1032 3 dL_law_1032 rfl rfl ?_
  refine j_iconst (v := 3) 1033 dL_law_1033 (by decide) ?_
  refine j_iadd 1034 dL_law_1034 ?_
  refine j_sld hXS 1035 (hin 3 (by decide) (by decide)) dL_law_1035 ?_
  refine j_callV_ei 1036 (nn := 0) rfl (by decide) (prs_mem (by decide) (by decide)) [.int (xs (x3 + 1).toNatClampNeg), .int (xs (x3 + 2).toNatClampNeg), .int (xs (x3 + 3).toNatClampNeg)] [.int r.1] gL_law_X12_use rfl eL12_19 ⟨Nat.le_of_ble_eq_true rfl, Nat.le_of_ble_eq_true rfl⟩ rfl rfl (Nat.le_of_ble_eq_true rfl) dL_law_1036 (kX12_use _ _ _ _) (fun q γ => ?_)
  refine j_icmp_eq 1039 1793 dL_law_1039 (by decide) (fun _ => ?_) (fun _ => ?_)
  · exact hrec _ _
  · exact j_none
def fL_20 (F : Nat) (a1 : Int32) (a2 : Int32) (a3 : Int32) (rec : St → Option LR) (S : St) : Option LR := cal (fX11_holds F S a1 a2 a3) fun r => cal (fX12_holds F S a1 a2 a3) fun q => if r = q then rec S else none
theorem eL11_20 : yX11_holds.cls = RX11 ∧ yX11_holds.cls ≠ "java/lang/invoke/MethodHandle" ∧ yX11_holds.cls ≠ "java/lang/invoke/VarHandle" ∧ (parseMethodDescriptor yX11_holds.desc).map (fun d => d.parameters.length) = some 3 := by decide +kernel
theorem eL12_20 : yX12_holds.cls = RX12 ∧ yX12_holds.cls ≠ "java/lang/invoke/MethodHandle" ∧ yX12_holds.cls ≠ "java/lang/invoke/VarHandle" ∧ (parseMethodDescriptor yX12_holds.desc).map (fun d => d.parameters.length) = some 3 := by decide +kernel
set_option maxRecDepth 100000 in
set_option maxHeartbeats 1000000 in
theorem tL_20 {ad : Nat → Nat → Nat} (X : Ctx) {RQ : LR → Room × (State → Prop)} {fc : LR → Nat} {b L : Nat} {xs : Nat → Int32} (hXS : XS X b L xs) (F : Nat) (x3 : Int32) (hin : ∀ j : Int32, 0 ≤ j → j ≤ 6 → vp_in (x3 + j) L) (rec : St → Option LR) (hrec : ∀ (γ : Nat → Nat) (S : St), JJ X ad γ RQ fc 11 426 cL_law 4 RL wsL ret (rec S) S 1793 [(0, .ref b), (1, .ref (ad 10 0)), (2, .ref (ad 11 0)), (3, .int x3)] []) (γ : Nat → Nat) (S : St) : JJ X ad γ RQ fc 11 426 cL_law 4 RL wsL ret (fL_20 F (xs (x3 + 1).toNatClampNeg) (xs (x3 + 2).toNatClampNeg) (xs (x3 + 3).toNatClampNeg) rec S) S 1044 [(0, .ref b), (1, .ref (ad 10 0)), (2, .ref (ad 11 0)), (3, .int x3)] [] := by
  unfold fL_20
  refine j_aload_n 1044 1 dL_law_1044 rfl rfl ?_
  refine j_aload_n 1045 0 dL_law_1045 rfl rfl ?_
  refine j_iload_n 1046 3 dL_law_1046 rfl rfl ?_
  refine j_iconst (v := 1) 1047 dL_law_1047 (by decide) ?_
  refine j_iadd 1048 dL_law_1048 ?_
  refine j_sld hXS 1049 (hin 1 (by decide) (by decide)) dL_law_1049 ?_
  refine j_aload_n 1050 0 dL_law_1050 rfl rfl ?_
  refine j_iload_n 1051 3 dL_law_1051 rfl rfl ?_
  refine j_iconst (v := 2) 1052 dL_law_1052 (by decide) ?_
  refine j_iadd 1053 dL_law_1053 ?_
  refine j_sld hXS 1054 (hin 2 (by decide) (by decide)) dL_law_1054 ?_
  refine j_aload_n 1055 0 dL_law_1055 rfl rfl ?_
  refine j_iload_n 1056 3 dL_law_1056 rfl rfl ?_
  refine j_iconst (v := 3) 1057 dL_law_1057 (by decide) ?_
  refine j_iadd 1058 dL_law_1058 ?_
  refine j_sld hXS 1059 (hin 3 (by decide) (by decide)) dL_law_1059 ?_
  refine j_callV_pi 1060 (nn := 0) rfl (by decide) (prs_mem (by decide) (by decide)) [.int (xs (x3 + 1).toNatClampNeg), .int (xs (x3 + 2).toNatClampNeg), .int (xs (x3 + 3).toNatClampNeg)] [] gL_law_X11_holds rfl eL11_20 ⟨Nat.le_of_ble_eq_true rfl, Nat.le_of_ble_eq_true rfl⟩ rfl rfl (Nat.le_of_ble_eq_true rfl) dL_law_1060 (kX11_holds F _ _ _ _) (fun r γ => ?_)
  refine j_aload_n 1063 2 dL_law_1063 rfl rfl ?_
  refine j_aload_n 1064 0 dL_law_1064 rfl rfl ?_
  refine j_iload_n 1065 3 dL_law_1065 rfl rfl ?_
  refine j_iconst (v := 1) 1066 dL_law_1066 (by decide) ?_
  refine j_iadd 1067 dL_law_1067 ?_
  refine j_sld hXS 1068 (hin 1 (by decide) (by decide)) dL_law_1068 ?_
  refine j_aload_n 1069 0 dL_law_1069 rfl rfl ?_
  refine j_iload_n 1070 3 dL_law_1070 rfl rfl ?_
  refine j_iconst (v := 2) 1071 dL_law_1071 (by decide) ?_
  refine j_iadd 1072 dL_law_1072 ?_
  refine j_sld hXS 1073 (hin 2 (by decide) (by decide)) dL_law_1073 ?_
  refine j_aload_n 1074 0 dL_law_1074 rfl rfl ?_
  refine j_iload_n 1075 3 dL_law_1075 rfl rfl ?_
  refine j_iconst (v := 3) 1076 dL_law_1076 (by decide) ?_
  refine j_iadd 1077 dL_law_1077 ?_
  refine j_sld hXS 1078 (hin 3 (by decide) (by decide)) dL_law_1078 ?_
  refine j_callV_pi 1079 (nn := 0) rfl (by decide) (prs_mem (by decide) (by decide)) [.int (xs (x3 + 1).toNatClampNeg), .int (xs (x3 + 2).toNatClampNeg), .int (xs (x3 + 3).toNatClampNeg)] [.int r] gL_law_X12_holds rfl eL12_20 ⟨Nat.le_of_ble_eq_true rfl, Nat.le_of_ble_eq_true rfl⟩ rfl rfl (Nat.le_of_ble_eq_true rfl) dL_law_1079 (kX12_holds F _ _ _ _) (fun q γ => ?_)
  refine j_icmp_eq 1082 1793 dL_law_1082 (by decide) (fun _ => ?_) (fun _ => ?_)
  · exact hrec _ _
  · exact j_none
def fL_21 (F : Nat) (a1 : Int32) (a2 : Int32) (a3 : Int32) (a4 : Int32) (rec : St → Option LR) (S : St) : Option LR := cal (fX11_deed S a1 a2 a3 a4) fun r => cal (fX12_deed r.2 a1 a2 a3 a4) fun q => if r.1 = q.1 then rec q.2 else none
theorem eL11_21 : yX11_deed.cls = RX11 ∧ yX11_deed.cls ≠ "java/lang/invoke/MethodHandle" ∧ yX11_deed.cls ≠ "java/lang/invoke/VarHandle" ∧ (parseMethodDescriptor yX11_deed.desc).map (fun d => d.parameters.length) = some 4 := by decide +kernel
theorem eL12_21 : yX12_deed.cls = RX12 ∧ yX12_deed.cls ≠ "java/lang/invoke/MethodHandle" ∧ yX12_deed.cls ≠ "java/lang/invoke/VarHandle" ∧ (parseMethodDescriptor yX12_deed.desc).map (fun d => d.parameters.length) = some 4 := by decide +kernel
set_option maxRecDepth 100000 in
set_option maxHeartbeats 1000000 in
theorem tL_21 {ad : Nat → Nat → Nat} (X : Ctx) {RQ : LR → Room × (State → Prop)} {fc : LR → Nat} {b L : Nat} {xs : Nat → Int32} (hXS : XS X b L xs) (F : Nat) (x3 : Int32) (hin : ∀ j : Int32, 0 ≤ j → j ≤ 6 → vp_in (x3 + j) L) (rec : St → Option LR) (hrec : ∀ (γ : Nat → Nat) (S : St), JJ X ad γ RQ fc 11 426 cL_law 4 RL wsL ret (rec S) S 1793 [(0, .ref b), (1, .ref (ad 10 0)), (2, .ref (ad 11 0)), (3, .int x3)] []) (γ : Nat → Nat) (S : St) : JJ X ad γ RQ fc 11 426 cL_law 4 RL wsL ret (fL_21 F (xs (x3 + 1).toNatClampNeg) (xs (x3 + 2).toNatClampNeg) (xs (x3 + 3).toNatClampNeg) (xs (x3 + 4).toNatClampNeg) rec S) S 1087 [(0, .ref b), (1, .ref (ad 10 0)), (2, .ref (ad 11 0)), (3, .int x3)] [] := by
  unfold fL_21
  refine j_aload_n 1087 1 dL_law_1087 rfl rfl ?_
  refine j_aload_n 1088 0 dL_law_1088 rfl rfl ?_
  refine j_iload_n 1089 3 dL_law_1089 rfl rfl ?_
  refine j_iconst (v := 1) 1090 dL_law_1090 (by decide) ?_
  refine j_iadd 1091 dL_law_1091 ?_
  refine j_sld hXS 1092 (hin 1 (by decide) (by decide)) dL_law_1092 ?_
  refine j_aload_n 1093 0 dL_law_1093 rfl rfl ?_
  refine j_iload_n 1094 3 dL_law_1094 rfl rfl ?_
  refine j_iconst (v := 2) 1095 dL_law_1095 (by decide) ?_
  refine j_iadd 1096 dL_law_1096 ?_
  refine j_sld hXS 1097 (hin 2 (by decide) (by decide)) dL_law_1097 ?_
  refine j_aload_n 1098 0 dL_law_1098 rfl rfl ?_
  refine j_iload_n 1099 3 dL_law_1099 rfl rfl ?_
  refine j_iconst (v := 3) 1100 dL_law_1100 (by decide) ?_
  refine j_iadd 1101 dL_law_1101 ?_
  refine j_sld hXS 1102 (hin 3 (by decide) (by decide)) dL_law_1102 ?_
  refine j_aload_n 1103 0 dL_law_1103 rfl rfl ?_
  refine j_iload_n 1104 3 dL_law_1104 rfl rfl ?_
  refine j_iconst (v := 4) 1105 dL_law_1105 (by decide) ?_
  refine j_iadd 1106 dL_law_1106 ?_
  refine j_sld hXS 1107 (hin 4 (by decide) (by decide)) dL_law_1107 ?_
  refine j_callV_ei 1108 (nn := 0) rfl (by decide) (prs_mem (by decide) (by decide)) [.int (xs (x3 + 1).toNatClampNeg), .int (xs (x3 + 2).toNatClampNeg), .int (xs (x3 + 3).toNatClampNeg), .int (xs (x3 + 4).toNatClampNeg)] [] gL_law_X11_deed rfl eL11_21 ⟨Nat.le_of_ble_eq_true rfl, Nat.le_of_ble_eq_true rfl⟩ rfl rfl (Nat.le_of_ble_eq_true rfl) dL_law_1108 (kX11_deed _ _ _ _ _) (fun r γ => ?_)
  refine j_aload_n 1111 2 dL_law_1111 rfl rfl ?_
  refine j_aload_n 1112 0 dL_law_1112 rfl rfl ?_
  refine j_iload_n 1113 3 dL_law_1113 rfl rfl ?_
  refine j_iconst (v := 1) 1114 dL_law_1114 (by decide) ?_
  refine j_iadd 1115 dL_law_1115 ?_
  refine j_sld hXS 1116 (hin 1 (by decide) (by decide)) dL_law_1116 ?_
  refine j_aload_n 1117 0 dL_law_1117 rfl rfl ?_
  refine j_iload_n 1118 3 dL_law_1118 rfl rfl ?_
  refine j_iconst (v := 2) 1119 dL_law_1119 (by decide) ?_
  refine j_iadd 1120 dL_law_1120 ?_
  refine j_sld hXS 1121 (hin 2 (by decide) (by decide)) dL_law_1121 ?_
  refine j_aload_n 1122 0 dL_law_1122 rfl rfl ?_
  refine j_iload_n 1123 3 dL_law_1123 rfl rfl ?_
  refine j_iconst (v := 3) 1124 dL_law_1124 (by decide) ?_
  refine j_iadd 1125 dL_law_1125 ?_
  refine j_sld hXS 1126 (hin 3 (by decide) (by decide)) dL_law_1126 ?_
  refine j_aload_n 1127 0 dL_law_1127 rfl rfl ?_
  refine j_iload_n 1128 3 dL_law_1128 rfl rfl ?_
  refine j_iconst (v := 4) 1129 dL_law_1129 (by decide) ?_
  refine j_iadd 1130 dL_law_1130 ?_
  refine j_sld hXS 1131 (hin 4 (by decide) (by decide)) dL_law_1131 ?_
  refine j_callV_ei 1132 (nn := 0) rfl (by decide) (prs_mem (by decide) (by decide)) [.int (xs (x3 + 1).toNatClampNeg), .int (xs (x3 + 2).toNatClampNeg), .int (xs (x3 + 3).toNatClampNeg), .int (xs (x3 + 4).toNatClampNeg)] [.int r.1] gL_law_X12_deed rfl eL12_21 ⟨Nat.le_of_ble_eq_true rfl, Nat.le_of_ble_eq_true rfl⟩ rfl rfl (Nat.le_of_ble_eq_true rfl) dL_law_1132 (kX12_deed _ _ _ _ _) (fun q γ => ?_)
  refine j_icmp_eq 1135 1793 dL_law_1135 (by decide) (fun _ => ?_) (fun _ => ?_)
  · exact hrec _ _
  · exact j_none
def fL_22 (F : Nat) (a1 : Int32) (rec : St → Option LR) (S : St) : Option LR := cal (fX11_could F S a1) fun r => cal (fX12_could F S a1) fun q => if r = q then rec S else none
theorem eL11_22 : yX11_could.cls = RX11 ∧ yX11_could.cls ≠ "java/lang/invoke/MethodHandle" ∧ yX11_could.cls ≠ "java/lang/invoke/VarHandle" ∧ (parseMethodDescriptor yX11_could.desc).map (fun d => d.parameters.length) = some 1 := by decide +kernel
theorem eL12_22 : yX12_could.cls = RX12 ∧ yX12_could.cls ≠ "java/lang/invoke/MethodHandle" ∧ yX12_could.cls ≠ "java/lang/invoke/VarHandle" ∧ (parseMethodDescriptor yX12_could.desc).map (fun d => d.parameters.length) = some 1 := by decide +kernel
set_option maxRecDepth 100000 in
set_option maxHeartbeats 1000000 in
theorem tL_22 {ad : Nat → Nat → Nat} (X : Ctx) {RQ : LR → Room × (State → Prop)} {fc : LR → Nat} {b L : Nat} {xs : Nat → Int32} (hXS : XS X b L xs) (F : Nat) (x3 : Int32) (hin : ∀ j : Int32, 0 ≤ j → j ≤ 6 → vp_in (x3 + j) L) (rec : St → Option LR) (hrec : ∀ (γ : Nat → Nat) (S : St), JJ X ad γ RQ fc 11 426 cL_law 4 RL wsL ret (rec S) S 1793 [(0, .ref b), (1, .ref (ad 10 0)), (2, .ref (ad 11 0)), (3, .int x3)] []) (γ : Nat → Nat) (S : St) : JJ X ad γ RQ fc 11 426 cL_law 4 RL wsL ret (fL_22 F (xs (x3 + 1).toNatClampNeg) rec S) S 1140 [(0, .ref b), (1, .ref (ad 10 0)), (2, .ref (ad 11 0)), (3, .int x3)] [] := by
  unfold fL_22
  refine j_aload_n 1140 1 dL_law_1140 rfl rfl ?_
  refine j_aload_n 1141 0 dL_law_1141 rfl rfl ?_
  refine j_iload_n 1142 3 dL_law_1142 rfl rfl ?_
  refine j_iconst (v := 1) 1143 dL_law_1143 (by decide) ?_
  refine j_iadd 1144 dL_law_1144 ?_
  refine j_sld hXS 1145 (hin 1 (by decide) (by decide)) dL_law_1145 ?_
  refine j_callV_pi 1146 (nn := 0) rfl (by decide) (prs_mem (by decide) (by decide)) [.int (xs (x3 + 1).toNatClampNeg)] [] gL_law_X11_could rfl eL11_22 ⟨Nat.le_of_ble_eq_true rfl, Nat.le_of_ble_eq_true rfl⟩ rfl rfl (Nat.le_of_ble_eq_true rfl) dL_law_1146 (kX11_could F _ _) (fun r γ => ?_)
  refine j_aload_n 1149 2 dL_law_1149 rfl rfl ?_
  refine j_aload_n 1150 0 dL_law_1150 rfl rfl ?_
  refine j_iload_n 1151 3 dL_law_1151 rfl rfl ?_
  refine j_iconst (v := 1) 1152 dL_law_1152 (by decide) ?_
  refine j_iadd 1153 dL_law_1153 ?_
  refine j_sld hXS 1154 (hin 1 (by decide) (by decide)) dL_law_1154 ?_
  refine j_callV_pi 1155 (nn := 0) rfl (by decide) (prs_mem (by decide) (by decide)) [.int (xs (x3 + 1).toNatClampNeg)] [.int r] gL_law_X12_could rfl eL12_22 ⟨Nat.le_of_ble_eq_true rfl, Nat.le_of_ble_eq_true rfl⟩ rfl rfl (Nat.le_of_ble_eq_true rfl) dL_law_1155 (kX12_could F _ _) (fun q γ => ?_)
  refine j_icmp_eq 1158 1793 dL_law_1158 (by decide) (fun _ => ?_) (fun _ => ?_)
  · exact hrec _ _
  · exact j_none
def fL_23 (F : Nat) (a1 : Int32) (rec : St → Option LR) (S : St) : Option LR := cal (fX11_twice F S a1) fun r => cal (fX12_twice F S a1) fun q => if r = q then rec S else none
theorem eL11_23 : yX11_twice.cls = RX11 ∧ yX11_twice.cls ≠ "java/lang/invoke/MethodHandle" ∧ yX11_twice.cls ≠ "java/lang/invoke/VarHandle" ∧ (parseMethodDescriptor yX11_twice.desc).map (fun d => d.parameters.length) = some 1 := by decide +kernel
theorem eL12_23 : yX12_twice.cls = RX12 ∧ yX12_twice.cls ≠ "java/lang/invoke/MethodHandle" ∧ yX12_twice.cls ≠ "java/lang/invoke/VarHandle" ∧ (parseMethodDescriptor yX12_twice.desc).map (fun d => d.parameters.length) = some 1 := by decide +kernel
set_option maxRecDepth 100000 in
set_option maxHeartbeats 1000000 in
theorem tL_23 {ad : Nat → Nat → Nat} (X : Ctx) {RQ : LR → Room × (State → Prop)} {fc : LR → Nat} {b L : Nat} {xs : Nat → Int32} (hXS : XS X b L xs) (F : Nat) (x3 : Int32) (hin : ∀ j : Int32, 0 ≤ j → j ≤ 6 → vp_in (x3 + j) L) (rec : St → Option LR) (hrec : ∀ (γ : Nat → Nat) (S : St), JJ X ad γ RQ fc 11 426 cL_law 4 RL wsL ret (rec S) S 1793 [(0, .ref b), (1, .ref (ad 10 0)), (2, .ref (ad 11 0)), (3, .int x3)] []) (γ : Nat → Nat) (S : St) : JJ X ad γ RQ fc 11 426 cL_law 4 RL wsL ret (fL_23 F (xs (x3 + 1).toNatClampNeg) rec S) S 1163 [(0, .ref b), (1, .ref (ad 10 0)), (2, .ref (ad 11 0)), (3, .int x3)] [] := by
  unfold fL_23
  refine j_aload_n 1163 1 dL_law_1163 rfl rfl ?_
  refine j_aload_n 1164 0 dL_law_1164 rfl rfl ?_
  refine j_iload_n 1165 3 dL_law_1165 rfl rfl ?_
  refine j_iconst (v := 1) 1166 dL_law_1166 (by decide) ?_
  refine j_iadd 1167 dL_law_1167 ?_
  refine j_sld hXS 1168 (hin 1 (by decide) (by decide)) dL_law_1168 ?_
  refine j_callV_pi 1169 (nn := 0) rfl (by decide) (prs_mem (by decide) (by decide)) [.int (xs (x3 + 1).toNatClampNeg)] [] gL_law_X11_twice rfl eL11_23 ⟨Nat.le_of_ble_eq_true rfl, Nat.le_of_ble_eq_true rfl⟩ rfl rfl (Nat.le_of_ble_eq_true rfl) dL_law_1169 (kX11_twice F _ _) (fun r γ => ?_)
  refine j_aload_n 1172 2 dL_law_1172 rfl rfl ?_
  refine j_aload_n 1173 0 dL_law_1173 rfl rfl ?_
  refine j_iload_n 1174 3 dL_law_1174 rfl rfl ?_
  refine j_iconst (v := 1) 1175 dL_law_1175 (by decide) ?_
  refine j_iadd 1176 dL_law_1176 ?_
  refine j_sld hXS 1177 (hin 1 (by decide) (by decide)) dL_law_1177 ?_
  refine j_callV_pi 1178 (nn := 0) rfl (by decide) (prs_mem (by decide) (by decide)) [.int (xs (x3 + 1).toNatClampNeg)] [.int r] gL_law_X12_twice rfl eL12_23 ⟨Nat.le_of_ble_eq_true rfl, Nat.le_of_ble_eq_true rfl⟩ rfl rfl (Nat.le_of_ble_eq_true rfl) dL_law_1178 (kX12_twice F _ _) (fun q γ => ?_)
  refine j_icmp_eq 1181 1793 dL_law_1181 (by decide) (fun _ => ?_) (fun _ => ?_)
  · exact hrec _ _
  · exact j_none
def fL_24 (F : Nat) (a1 : Int32) (a2 : Int32) (a3 : Int32) (rec : St → Option LR) (S : St) : Option LR := cal (fX11_take S a1 a2 a3) fun r => cal (fX12_take r.2 a1 a2 a3) fun q => if r.1 = q.1 then rec q.2 else none
theorem eL11_24 : yX11_take.cls = RX11 ∧ yX11_take.cls ≠ "java/lang/invoke/MethodHandle" ∧ yX11_take.cls ≠ "java/lang/invoke/VarHandle" ∧ (parseMethodDescriptor yX11_take.desc).map (fun d => d.parameters.length) = some 3 := by decide +kernel
theorem eL12_24 : yX12_take.cls = RX12 ∧ yX12_take.cls ≠ "java/lang/invoke/MethodHandle" ∧ yX12_take.cls ≠ "java/lang/invoke/VarHandle" ∧ (parseMethodDescriptor yX12_take.desc).map (fun d => d.parameters.length) = some 3 := by decide +kernel
set_option maxRecDepth 100000 in
set_option maxHeartbeats 1000000 in
theorem tL_24 {ad : Nat → Nat → Nat} (X : Ctx) {RQ : LR → Room × (State → Prop)} {fc : LR → Nat} {b L : Nat} {xs : Nat → Int32} (hXS : XS X b L xs) (F : Nat) (x3 : Int32) (hin : ∀ j : Int32, 0 ≤ j → j ≤ 6 → vp_in (x3 + j) L) (rec : St → Option LR) (hrec : ∀ (γ : Nat → Nat) (S : St), JJ X ad γ RQ fc 11 426 cL_law 4 RL wsL ret (rec S) S 1793 [(0, .ref b), (1, .ref (ad 10 0)), (2, .ref (ad 11 0)), (3, .int x3)] []) (γ : Nat → Nat) (S : St) : JJ X ad γ RQ fc 11 426 cL_law 4 RL wsL ret (fL_24 F (xs (x3 + 1).toNatClampNeg) (xs (x3 + 2).toNatClampNeg) (xs (x3 + 3).toNatClampNeg) rec S) S 1186 [(0, .ref b), (1, .ref (ad 10 0)), (2, .ref (ad 11 0)), (3, .int x3)] [] := by
  unfold fL_24
  refine j_aload_n 1186 1 dL_law_1186 rfl rfl ?_
  refine j_aload_n 1187 0 dL_law_1187 rfl rfl ?_
  refine j_iload_n 1188 3 dL_law_1188 rfl rfl ?_
  refine j_iconst (v := 1) 1189 dL_law_1189 (by decide) ?_
  refine j_iadd 1190 dL_law_1190 ?_
  refine j_sld hXS 1191 (hin 1 (by decide) (by decide)) dL_law_1191 ?_
  refine j_aload_n 1192 0 dL_law_1192 rfl rfl ?_
  refine j_iload_n 1193 3 dL_law_1193 rfl rfl ?_
  refine j_iconst (v := 2) 1194 dL_law_1194 (by decide) ?_
  refine j_iadd 1195 dL_law_1195 ?_
  refine j_sld hXS 1196 (hin 2 (by decide) (by decide)) dL_law_1196 ?_
  refine j_aload_n 1197 0 dL_law_1197 rfl rfl ?_
  refine j_iload_n 1198 3 dL_law_1198 rfl rfl ?_
  refine j_iconst (v := 3) 1199 dL_law_1199 (by decide) ?_
  refine j_iadd 1200 dL_law_1200 ?_
  refine j_sld hXS 1201 (hin 3 (by decide) (by decide)) dL_law_1201 ?_
  refine j_callV_ei 1202 (nn := 0) rfl (by decide) (prs_mem (by decide) (by decide)) [.int (xs (x3 + 1).toNatClampNeg), .int (xs (x3 + 2).toNatClampNeg), .int (xs (x3 + 3).toNatClampNeg)] [] gL_law_X11_take rfl eL11_24 ⟨Nat.le_of_ble_eq_true rfl, Nat.le_of_ble_eq_true rfl⟩ rfl rfl (Nat.le_of_ble_eq_true rfl) dL_law_1202 (kX11_take _ _ _ _) (fun r γ => ?_)
  refine j_aload_n 1205 2 dL_law_1205 rfl rfl ?_
  refine j_aload_n 1206 0 dL_law_1206 rfl rfl ?_
  refine j_iload_n 1207 3 dL_law_1207 rfl rfl ?_
  refine j_iconst (v := 1) 1208 dL_law_1208 (by decide) ?_
  refine j_iadd 1209 dL_law_1209 ?_
  refine j_sld hXS 1210 (hin 1 (by decide) (by decide)) dL_law_1210 ?_
  refine j_aload_n 1211 0 dL_law_1211 rfl rfl ?_
  refine j_iload_n 1212 3 dL_law_1212 rfl rfl ?_
  refine j_iconst (v := 2) 1213 dL_law_1213 (by decide) ?_
  refine j_iadd 1214 dL_law_1214 ?_
  refine j_sld hXS 1215 (hin 2 (by decide) (by decide)) dL_law_1215 ?_
  refine j_aload_n 1216 0 dL_law_1216 rfl rfl ?_
  refine j_iload_n 1217 3 dL_law_1217 rfl rfl ?_
  refine j_iconst (v := 3) 1218 dL_law_1218 (by decide) ?_
  refine j_iadd 1219 dL_law_1219 ?_
  refine j_sld hXS 1220 (hin 3 (by decide) (by decide)) dL_law_1220 ?_
  refine j_callV_ei 1221 (nn := 0) rfl (by decide) (prs_mem (by decide) (by decide)) [.int (xs (x3 + 1).toNatClampNeg), .int (xs (x3 + 2).toNatClampNeg), .int (xs (x3 + 3).toNatClampNeg)] [.int r.1] gL_law_X12_take rfl eL12_24 ⟨Nat.le_of_ble_eq_true rfl, Nat.le_of_ble_eq_true rfl⟩ rfl rfl (Nat.le_of_ble_eq_true rfl) dL_law_1221 (kX12_take _ _ _ _) (fun q γ => ?_)
  refine j_icmp_eq 1224 1793 dL_law_1224 (by decide) (fun _ => ?_) (fun _ => ?_)
  · exact hrec _ _
  · exact j_none
def fL_25 (F : Nat) (a1 : Int32) (rec : St → Option LR) (S : St) : Option LR := cal (fX11_wronged F S a1) fun r => cal (fX12_wronged F S a1) fun q => if r = q then rec S else none
theorem eL11_25 : yX11_wronged.cls = RX11 ∧ yX11_wronged.cls ≠ "java/lang/invoke/MethodHandle" ∧ yX11_wronged.cls ≠ "java/lang/invoke/VarHandle" ∧ (parseMethodDescriptor yX11_wronged.desc).map (fun d => d.parameters.length) = some 1 := by decide +kernel
theorem eL12_25 : yX12_wronged.cls = RX12 ∧ yX12_wronged.cls ≠ "java/lang/invoke/MethodHandle" ∧ yX12_wronged.cls ≠ "java/lang/invoke/VarHandle" ∧ (parseMethodDescriptor yX12_wronged.desc).map (fun d => d.parameters.length) = some 1 := by decide +kernel
set_option maxRecDepth 100000 in
set_option maxHeartbeats 1000000 in
theorem tL_25 {ad : Nat → Nat → Nat} (X : Ctx) {RQ : LR → Room × (State → Prop)} {fc : LR → Nat} {b L : Nat} {xs : Nat → Int32} (hXS : XS X b L xs) (F : Nat) (x3 : Int32) (hin : ∀ j : Int32, 0 ≤ j → j ≤ 6 → vp_in (x3 + j) L) (rec : St → Option LR) (hrec : ∀ (γ : Nat → Nat) (S : St), JJ X ad γ RQ fc 11 426 cL_law 4 RL wsL ret (rec S) S 1793 [(0, .ref b), (1, .ref (ad 10 0)), (2, .ref (ad 11 0)), (3, .int x3)] []) (γ : Nat → Nat) (S : St) : JJ X ad γ RQ fc 11 426 cL_law 4 RL wsL ret (fL_25 F (xs (x3 + 1).toNatClampNeg) rec S) S 1229 [(0, .ref b), (1, .ref (ad 10 0)), (2, .ref (ad 11 0)), (3, .int x3)] [] := by
  unfold fL_25
  refine j_aload_n 1229 1 dL_law_1229 rfl rfl ?_
  refine j_aload_n 1230 0 dL_law_1230 rfl rfl ?_
  refine j_iload_n 1231 3 dL_law_1231 rfl rfl ?_
  refine j_iconst (v := 1) 1232 dL_law_1232 (by decide) ?_
  refine j_iadd 1233 dL_law_1233 ?_
  refine j_sld hXS 1234 (hin 1 (by decide) (by decide)) dL_law_1234 ?_
  refine j_callV_pi 1235 (nn := 0) rfl (by decide) (prs_mem (by decide) (by decide)) [.int (xs (x3 + 1).toNatClampNeg)] [] gL_law_X11_wronged rfl eL11_25 ⟨Nat.le_of_ble_eq_true rfl, Nat.le_of_ble_eq_true rfl⟩ rfl rfl (Nat.le_of_ble_eq_true rfl) dL_law_1235 (kX11_wronged F _ _) (fun r γ => ?_)
  refine j_aload_n 1238 2 dL_law_1238 rfl rfl ?_
  refine j_aload_n 1239 0 dL_law_1239 rfl rfl ?_
  refine j_iload_n 1240 3 dL_law_1240 rfl rfl ?_
  refine j_iconst (v := 1) 1241 dL_law_1241 (by decide) ?_
  refine j_iadd 1242 dL_law_1242 ?_
  refine j_sld hXS 1243 (hin 1 (by decide) (by decide)) dL_law_1243 ?_
  refine j_callV_pi 1244 (nn := 0) rfl (by decide) (prs_mem (by decide) (by decide)) [.int (xs (x3 + 1).toNatClampNeg)] [.int r] gL_law_X12_wronged rfl eL12_25 ⟨Nat.le_of_ble_eq_true rfl, Nat.le_of_ble_eq_true rfl⟩ rfl rfl (Nat.le_of_ble_eq_true rfl) dL_law_1244 (kX12_wronged F _ _) (fun q γ => ?_)
  refine j_icmp_eq 1247 1793 dL_law_1247 (by decide) (fun _ => ?_) (fun _ => ?_)
  · exact hrec _ _
  · exact j_none
def fL_26 (F : Nat) (a1 : Int32) (a2 : Int32) (a3 : Int32) (rec : St → Option LR) (S : St) : Option LR := cal (fX11_shares F S a1 a2 a3) fun r => cal (fX12_shares F r.2 a1 a2 a3) fun q => if r.1 = q.1 then rec q.2 else none
theorem eL11_26 : yX11_shares.cls = RX11 ∧ yX11_shares.cls ≠ "java/lang/invoke/MethodHandle" ∧ yX11_shares.cls ≠ "java/lang/invoke/VarHandle" ∧ (parseMethodDescriptor yX11_shares.desc).map (fun d => d.parameters.length) = some 3 := by decide +kernel
theorem eL12_26 : yX12_shares.cls = RX12 ∧ yX12_shares.cls ≠ "java/lang/invoke/MethodHandle" ∧ yX12_shares.cls ≠ "java/lang/invoke/VarHandle" ∧ (parseMethodDescriptor yX12_shares.desc).map (fun d => d.parameters.length) = some 3 := by decide +kernel
set_option maxRecDepth 100000 in
set_option maxHeartbeats 1000000 in
theorem tL_26 {ad : Nat → Nat → Nat} (X : Ctx) {RQ : LR → Room × (State → Prop)} {fc : LR → Nat} {b L : Nat} {xs : Nat → Int32} (hXS : XS X b L xs) (F : Nat) (x3 : Int32) (hin : ∀ j : Int32, 0 ≤ j → j ≤ 6 → vp_in (x3 + j) L) (rec : St → Option LR) (hrec : ∀ (γ : Nat → Nat) (S : St), JJ X ad γ RQ fc 11 426 cL_law 4 RL wsL ret (rec S) S 1793 [(0, .ref b), (1, .ref (ad 10 0)), (2, .ref (ad 11 0)), (3, .int x3)] []) (γ : Nat → Nat) (S : St) : JJ X ad γ RQ fc 11 426 cL_law 4 RL wsL ret (fL_26 F (xs (x3 + 1).toNatClampNeg) (xs (x3 + 2).toNatClampNeg) (xs (x3 + 3).toNatClampNeg) rec S) S 1252 [(0, .ref b), (1, .ref (ad 10 0)), (2, .ref (ad 11 0)), (3, .int x3)] [] := by
  unfold fL_26
  refine j_aload_n 1252 1 dL_law_1252 rfl rfl ?_
  refine j_aload_n 1253 0 dL_law_1253 rfl rfl ?_
  refine j_iload_n 1254 3 dL_law_1254 rfl rfl ?_
  refine j_iconst (v := 1) 1255 dL_law_1255 (by decide) ?_
  refine j_iadd 1256 dL_law_1256 ?_
  refine j_sld hXS 1257 (hin 1 (by decide) (by decide)) dL_law_1257 ?_
  refine j_aload_n 1258 0 dL_law_1258 rfl rfl ?_
  refine j_iload_n 1259 3 dL_law_1259 rfl rfl ?_
  refine j_iconst (v := 2) 1260 dL_law_1260 (by decide) ?_
  refine j_iadd 1261 dL_law_1261 ?_
  refine j_sld hXS 1262 (hin 2 (by decide) (by decide)) dL_law_1262 ?_
  refine j_aload_n 1263 0 dL_law_1263 rfl rfl ?_
  refine j_iload_n 1264 3 dL_law_1264 rfl rfl ?_
  refine j_iconst (v := 3) 1265 dL_law_1265 (by decide) ?_
  refine j_iadd 1266 dL_law_1266 ?_
  refine j_sld hXS 1267 (hin 3 (by decide) (by decide)) dL_law_1267 ?_
  refine j_callV_ei 1268 (nn := 0) rfl (by decide) (prs_mem (by decide) (by decide)) [.int (xs (x3 + 1).toNatClampNeg), .int (xs (x3 + 2).toNatClampNeg), .int (xs (x3 + 3).toNatClampNeg)] [] gL_law_X11_shares rfl eL11_26 ⟨Nat.le_of_ble_eq_true rfl, Nat.le_of_ble_eq_true rfl⟩ rfl rfl (Nat.le_of_ble_eq_true rfl) dL_law_1268 (kX11_shares F _ _ _ _) (fun r γ => ?_)
  refine j_aload_n 1271 2 dL_law_1271 rfl rfl ?_
  refine j_aload_n 1272 0 dL_law_1272 rfl rfl ?_
  refine j_iload_n 1273 3 dL_law_1273 rfl rfl ?_
  refine j_iconst (v := 1) 1274 dL_law_1274 (by decide) ?_
  refine j_iadd 1275 dL_law_1275 ?_
  refine j_sld hXS 1276 (hin 1 (by decide) (by decide)) dL_law_1276 ?_
  refine j_aload_n 1277 0 dL_law_1277 rfl rfl ?_
  refine j_iload_n 1278 3 dL_law_1278 rfl rfl ?_
  refine j_iconst (v := 2) 1279 dL_law_1279 (by decide) ?_
  refine j_iadd 1280 dL_law_1280 ?_
  refine j_sld hXS 1281 (hin 2 (by decide) (by decide)) dL_law_1281 ?_
  refine j_aload_n 1282 0 dL_law_1282 rfl rfl ?_
  refine j_iload_n 1283 3 dL_law_1283 rfl rfl ?_
  refine j_iconst (v := 3) 1284 dL_law_1284 (by decide) ?_
  refine j_iadd 1285 dL_law_1285 ?_
  refine j_sld hXS 1286 (hin 3 (by decide) (by decide)) dL_law_1286 ?_
  refine j_callV_ei 1287 (nn := 0) rfl (by decide) (prs_mem (by decide) (by decide)) [.int (xs (x3 + 1).toNatClampNeg), .int (xs (x3 + 2).toNatClampNeg), .int (xs (x3 + 3).toNatClampNeg)] [.int r.1] gL_law_X12_shares rfl eL12_26 ⟨Nat.le_of_ble_eq_true rfl, Nat.le_of_ble_eq_true rfl⟩ rfl rfl (Nat.le_of_ble_eq_true rfl) dL_law_1287 (kX12_shares F _ _ _ _) (fun q γ => ?_)
  refine j_icmp_eq 1290 1793 dL_law_1290 (by decide) (fun _ => ?_) (fun _ => ?_)
  · exact hrec _ _
  · exact j_none
def fL_27 (F : Nat) (a1 : Int32) (a2 : Int32) (a3 : Int32) (rec : St → Option LR) (S : St) : Option LR := cal (fX11_share F S a1 a2 a3) fun r => cal (fX12_share F r.2 a1 a2 a3) fun q => if lg_cmp r.1 q.1 = 0 then rec q.2 else none
theorem eL11_27 : yX11_share.cls = RX11 ∧ yX11_share.cls ≠ "java/lang/invoke/MethodHandle" ∧ yX11_share.cls ≠ "java/lang/invoke/VarHandle" ∧ (parseMethodDescriptor yX11_share.desc).map (fun d => d.parameters.length) = some 3 := by decide +kernel
theorem eL12_27 : yX12_share.cls = RX12 ∧ yX12_share.cls ≠ "java/lang/invoke/MethodHandle" ∧ yX12_share.cls ≠ "java/lang/invoke/VarHandle" ∧ (parseMethodDescriptor yX12_share.desc).map (fun d => d.parameters.length) = some 3 := by decide +kernel
set_option maxRecDepth 100000 in
set_option maxHeartbeats 1000000 in
theorem tL_27 {ad : Nat → Nat → Nat} (X : Ctx) {RQ : LR → Room × (State → Prop)} {fc : LR → Nat} {b L : Nat} {xs : Nat → Int32} (hXS : XS X b L xs) (F : Nat) (x3 : Int32) (hin : ∀ j : Int32, 0 ≤ j → j ≤ 6 → vp_in (x3 + j) L) (rec : St → Option LR) (hrec : ∀ (γ : Nat → Nat) (S : St), JJ X ad γ RQ fc 11 426 cL_law 4 RL wsL ret (rec S) S 1793 [(0, .ref b), (1, .ref (ad 10 0)), (2, .ref (ad 11 0)), (3, .int x3)] []) (γ : Nat → Nat) (S : St) : JJ X ad γ RQ fc 11 426 cL_law 4 RL wsL ret (fL_27 F (xs (x3 + 1).toNatClampNeg) (xs (x3 + 2).toNatClampNeg) (xs (x3 + 3).toNatClampNeg) rec S) S 1295 [(0, .ref b), (1, .ref (ad 10 0)), (2, .ref (ad 11 0)), (3, .int x3)] [] := by
  unfold fL_27
  refine j_aload_n 1295 1 dL_law_1295 rfl rfl ?_
  refine j_aload_n 1296 0 dL_law_1296 rfl rfl ?_
  refine j_iload_n 1297 3 dL_law_1297 rfl rfl ?_
  refine j_iconst (v := 1) 1298 dL_law_1298 (by decide) ?_
  refine j_iadd 1299 dL_law_1299 ?_
  refine j_sld hXS 1300 (hin 1 (by decide) (by decide)) dL_law_1300 ?_
  refine j_aload_n 1301 0 dL_law_1301 rfl rfl ?_
  refine j_iload_n 1302 3 dL_law_1302 rfl rfl ?_
  refine j_iconst (v := 2) 1303 dL_law_1303 (by decide) ?_
  refine j_iadd 1304 dL_law_1304 ?_
  refine j_sld hXS 1305 (hin 2 (by decide) (by decide)) dL_law_1305 ?_
  refine j_aload_n 1306 0 dL_law_1306 rfl rfl ?_
  refine j_iload_n 1307 3 dL_law_1307 rfl rfl ?_
  refine j_iconst (v := 3) 1308 dL_law_1308 (by decide) ?_
  refine j_iadd 1309 dL_law_1309 ?_
  refine j_sld hXS 1310 (hin 3 (by decide) (by decide)) dL_law_1310 ?_
  refine j_callV_el 1311 (nn := 0) rfl (by decide) (prs_mem (by decide) (by decide)) [.int (xs (x3 + 1).toNatClampNeg), .int (xs (x3 + 2).toNatClampNeg), .int (xs (x3 + 3).toNatClampNeg)] [] gL_law_X11_share rfl eL11_27 ⟨Nat.le_of_ble_eq_true rfl, Nat.le_of_ble_eq_true rfl⟩ rfl rfl (Nat.le_of_ble_eq_true rfl) dL_law_1311 (kX11_share F _ _ _ _) (fun r γ => ?_)
  refine j_aload_n 1314 2 dL_law_1314 rfl rfl ?_
  refine j_aload_n 1315 0 dL_law_1315 rfl rfl ?_
  refine j_iload_n 1316 3 dL_law_1316 rfl rfl ?_
  refine j_iconst (v := 1) 1317 dL_law_1317 (by decide) ?_
  refine j_iadd 1318 dL_law_1318 ?_
  refine j_sld hXS 1319 (hin 1 (by decide) (by decide)) dL_law_1319 ?_
  refine j_aload_n 1320 0 dL_law_1320 rfl rfl ?_
  refine j_iload_n 1321 3 dL_law_1321 rfl rfl ?_
  refine j_iconst (v := 2) 1322 dL_law_1322 (by decide) ?_
  refine j_iadd 1323 dL_law_1323 ?_
  refine j_sld hXS 1324 (hin 2 (by decide) (by decide)) dL_law_1324 ?_
  refine j_aload_n 1325 0 dL_law_1325 rfl rfl ?_
  refine j_iload_n 1326 3 dL_law_1326 rfl rfl ?_
  refine j_iconst (v := 3) 1327 dL_law_1327 (by decide) ?_
  refine j_iadd 1328 dL_law_1328 ?_
  refine j_sld hXS 1329 (hin 3 (by decide) (by decide)) dL_law_1329 ?_
  refine j_callV_el 1330 (nn := 0) rfl (by decide) (prs_mem (by decide) (by decide)) [.int (xs (x3 + 1).toNatClampNeg), .int (xs (x3 + 2).toNatClampNeg), .int (xs (x3 + 3).toNatClampNeg)] [.long r.1] gL_law_X12_share rfl eL12_27 ⟨Nat.le_of_ble_eq_true rfl, Nat.le_of_ble_eq_true rfl⟩ rfl rfl (Nat.le_of_ble_eq_true rfl) dL_law_1330 (kX12_share F _ _ _ _) (fun q γ => ?_)
  refine j_lcmp 1333 dL_law_1333 ?_
  refine j_if_eq 1334 1793 dL_law_1334 (by decide) (fun _ => ?_) (fun _ => ?_)
  · exact hrec _ _
  · exact j_none
def fL_28 (F : Nat) (a1 : Int32) (a2 : Int32) (rec : St → Option LR) (S : St) : Option LR := cal (fX11_small F S a1 a2) fun r => cal (fX12_small F r.2 a1 a2) fun q => if r.1 = q.1 then rec q.2 else none
theorem eL11_28 : yX11_small.cls = RX11 ∧ yX11_small.cls ≠ "java/lang/invoke/MethodHandle" ∧ yX11_small.cls ≠ "java/lang/invoke/VarHandle" ∧ (parseMethodDescriptor yX11_small.desc).map (fun d => d.parameters.length) = some 2 := by decide +kernel
theorem eL12_28 : yX12_small.cls = RX12 ∧ yX12_small.cls ≠ "java/lang/invoke/MethodHandle" ∧ yX12_small.cls ≠ "java/lang/invoke/VarHandle" ∧ (parseMethodDescriptor yX12_small.desc).map (fun d => d.parameters.length) = some 2 := by decide +kernel
set_option maxRecDepth 100000 in
set_option maxHeartbeats 1000000 in
theorem tL_28 {ad : Nat → Nat → Nat} (X : Ctx) {RQ : LR → Room × (State → Prop)} {fc : LR → Nat} {b L : Nat} {xs : Nat → Int32} (hXS : XS X b L xs) (F : Nat) (x3 : Int32) (hin : ∀ j : Int32, 0 ≤ j → j ≤ 6 → vp_in (x3 + j) L) (rec : St → Option LR) (hrec : ∀ (γ : Nat → Nat) (S : St), JJ X ad γ RQ fc 11 426 cL_law 4 RL wsL ret (rec S) S 1793 [(0, .ref b), (1, .ref (ad 10 0)), (2, .ref (ad 11 0)), (3, .int x3)] []) (γ : Nat → Nat) (S : St) : JJ X ad γ RQ fc 11 426 cL_law 4 RL wsL ret (fL_28 F (xs (x3 + 1).toNatClampNeg) (xs (x3 + 2).toNatClampNeg) rec S) S 1339 [(0, .ref b), (1, .ref (ad 10 0)), (2, .ref (ad 11 0)), (3, .int x3)] [] := by
  unfold fL_28
  refine j_aload_n 1339 1 dL_law_1339 rfl rfl ?_
  refine j_aload_n 1340 0 dL_law_1340 rfl rfl ?_
  refine j_iload_n 1341 3 dL_law_1341 rfl rfl ?_
  refine j_iconst (v := 1) 1342 dL_law_1342 (by decide) ?_
  refine j_iadd 1343 dL_law_1343 ?_
  refine j_sld hXS 1344 (hin 1 (by decide) (by decide)) dL_law_1344 ?_
  refine j_aload_n 1345 0 dL_law_1345 rfl rfl ?_
  refine j_iload_n 1346 3 dL_law_1346 rfl rfl ?_
  refine j_iconst (v := 2) 1347 dL_law_1347 (by decide) ?_
  refine j_iadd 1348 dL_law_1348 ?_
  refine j_sld hXS 1349 (hin 2 (by decide) (by decide)) dL_law_1349 ?_
  refine j_callV_ei 1350 (nn := 0) rfl (by decide) (prs_mem (by decide) (by decide)) [.int (xs (x3 + 1).toNatClampNeg), .int (xs (x3 + 2).toNatClampNeg)] [] gL_law_X11_small rfl eL11_28 ⟨Nat.le_of_ble_eq_true rfl, Nat.le_of_ble_eq_true rfl⟩ rfl rfl (Nat.le_of_ble_eq_true rfl) dL_law_1350 (kX11_small F _ _ _) (fun r γ => ?_)
  refine j_aload_n 1353 2 dL_law_1353 rfl rfl ?_
  refine j_aload_n 1354 0 dL_law_1354 rfl rfl ?_
  refine j_iload_n 1355 3 dL_law_1355 rfl rfl ?_
  refine j_iconst (v := 1) 1356 dL_law_1356 (by decide) ?_
  refine j_iadd 1357 dL_law_1357 ?_
  refine j_sld hXS 1358 (hin 1 (by decide) (by decide)) dL_law_1358 ?_
  refine j_aload_n 1359 0 dL_law_1359 rfl rfl ?_
  refine j_iload_n 1360 3 dL_law_1360 rfl rfl ?_
  refine j_iconst (v := 2) 1361 dL_law_1361 (by decide) ?_
  refine j_iadd 1362 dL_law_1362 ?_
  refine j_sld hXS 1363 (hin 2 (by decide) (by decide)) dL_law_1363 ?_
  refine j_callV_ei 1364 (nn := 0) rfl (by decide) (prs_mem (by decide) (by decide)) [.int (xs (x3 + 1).toNatClampNeg), .int (xs (x3 + 2).toNatClampNeg)] [.int r.1] gL_law_X12_small rfl eL12_28 ⟨Nat.le_of_ble_eq_true rfl, Nat.le_of_ble_eq_true rfl⟩ rfl rfl (Nat.le_of_ble_eq_true rfl) dL_law_1364 (kX12_small F _ _ _) (fun q γ => ?_)
  refine j_icmp_eq 1367 1793 dL_law_1367 (by decide) (fun _ => ?_) (fun _ => ?_)
  · exact hrec _ _
  · exact j_none
def fL_29 (F : Nat) (a1 : Int32) (a2 : Int32) (a3 : Int32) (a4 : Int32) (a5 : Int32) (a6 : Int32) (rec : St → Option LR) (S : St) : Option LR := cal (fX11_claim S a1 a2 a3 a4 a5 a6) fun r => cal (fX12_claim r.2 a1 a2 a3 a4 a5 a6) fun q => if r.1 = q.1 then rec q.2 else none
theorem eL11_29 : yX11_claim.cls = RX11 ∧ yX11_claim.cls ≠ "java/lang/invoke/MethodHandle" ∧ yX11_claim.cls ≠ "java/lang/invoke/VarHandle" ∧ (parseMethodDescriptor yX11_claim.desc).map (fun d => d.parameters.length) = some 6 := by decide +kernel
theorem eL12_29 : yX12_claim.cls = RX12 ∧ yX12_claim.cls ≠ "java/lang/invoke/MethodHandle" ∧ yX12_claim.cls ≠ "java/lang/invoke/VarHandle" ∧ (parseMethodDescriptor yX12_claim.desc).map (fun d => d.parameters.length) = some 6 := by decide +kernel
set_option maxRecDepth 100000 in
set_option maxHeartbeats 1000000 in
theorem tL_29 {ad : Nat → Nat → Nat} (X : Ctx) {RQ : LR → Room × (State → Prop)} {fc : LR → Nat} {b L : Nat} {xs : Nat → Int32} (hXS : XS X b L xs) (F : Nat) (x3 : Int32) (hin : ∀ j : Int32, 0 ≤ j → j ≤ 6 → vp_in (x3 + j) L) (rec : St → Option LR) (hrec : ∀ (γ : Nat → Nat) (S : St), JJ X ad γ RQ fc 11 426 cL_law 4 RL wsL ret (rec S) S 1793 [(0, .ref b), (1, .ref (ad 10 0)), (2, .ref (ad 11 0)), (3, .int x3)] []) (γ : Nat → Nat) (S : St) : JJ X ad γ RQ fc 11 426 cL_law 4 RL wsL ret (fL_29 F (xs (x3 + 1).toNatClampNeg) (xs (x3 + 2).toNatClampNeg) (xs (x3 + 3).toNatClampNeg) (xs (x3 + 4).toNatClampNeg) (xs (x3 + 5).toNatClampNeg) (xs (x3 + 6).toNatClampNeg) rec S) S 1372 [(0, .ref b), (1, .ref (ad 10 0)), (2, .ref (ad 11 0)), (3, .int x3)] [] := by
  unfold fL_29
  refine j_aload_n 1372 1 dL_law_1372 rfl rfl ?_
  refine j_aload_n 1373 0 dL_law_1373 rfl rfl ?_
  refine j_iload_n 1374 3 dL_law_1374 rfl rfl ?_
  refine j_iconst (v := 1) 1375 dL_law_1375 (by decide) ?_
  refine j_iadd 1376 dL_law_1376 ?_
  refine j_sld hXS 1377 (hin 1 (by decide) (by decide)) dL_law_1377 ?_
  refine j_aload_n 1378 0 dL_law_1378 rfl rfl ?_
  refine j_iload_n 1379 3 dL_law_1379 rfl rfl ?_
  refine j_iconst (v := 2) 1380 dL_law_1380 (by decide) ?_
  refine j_iadd 1381 dL_law_1381 ?_
  refine j_sld hXS 1382 (hin 2 (by decide) (by decide)) dL_law_1382 ?_
  refine j_aload_n 1383 0 dL_law_1383 rfl rfl ?_
  refine j_iload_n 1384 3 dL_law_1384 rfl rfl ?_
  refine j_iconst (v := 3) 1385 dL_law_1385 (by decide) ?_
  refine j_iadd 1386 dL_law_1386 ?_
  refine j_sld hXS 1387 (hin 3 (by decide) (by decide)) dL_law_1387 ?_
  refine j_aload_n 1388 0 dL_law_1388 rfl rfl ?_
  refine j_iload_n 1389 3 dL_law_1389 rfl rfl ?_
  refine j_iconst (v := 4) 1390 dL_law_1390 (by decide) ?_
  refine j_iadd 1391 dL_law_1391 ?_
  refine j_sld hXS 1392 (hin 4 (by decide) (by decide)) dL_law_1392 ?_
  refine j_aload_n 1393 0 dL_law_1393 rfl rfl ?_
  refine j_iload_n 1394 3 dL_law_1394 rfl rfl ?_
  refine j_iconst (v := 5) 1395 dL_law_1395 (by decide) ?_
  refine j_iadd 1396 dL_law_1396 ?_
  refine j_sld hXS 1397 (hin 5 (by decide) (by decide)) dL_law_1397 ?_
  refine j_aload_n 1398 0 dL_law_1398 rfl rfl ?_
  refine j_iload_n 1399 3 dL_law_1399 rfl rfl ?_
  refine j_bipush (v := 6) 1400 dL_law_1400 (by decide) ?_
  refine j_iadd 1402 dL_law_1402 ?_
  refine j_sld hXS 1403 (hin 6 (by decide) (by decide)) dL_law_1403 ?_
  refine j_callV_ei 1404 (nn := 0) rfl (by decide) (prs_mem (by decide) (by decide)) [.int (xs (x3 + 1).toNatClampNeg), .int (xs (x3 + 2).toNatClampNeg), .int (xs (x3 + 3).toNatClampNeg), .int (xs (x3 + 4).toNatClampNeg), .int (xs (x3 + 5).toNatClampNeg), .int (xs (x3 + 6).toNatClampNeg)] [] gL_law_X11_claim rfl eL11_29 ⟨Nat.le_of_ble_eq_true rfl, Nat.le_of_ble_eq_true rfl⟩ rfl rfl (Nat.le_of_ble_eq_true rfl) dL_law_1404 (kX11_claim _ _ _ _ _ _ _) (fun r γ => ?_)
  refine j_aload_n 1407 2 dL_law_1407 rfl rfl ?_
  refine j_aload_n 1408 0 dL_law_1408 rfl rfl ?_
  refine j_iload_n 1409 3 dL_law_1409 rfl rfl ?_
  refine j_iconst (v := 1) 1410 dL_law_1410 (by decide) ?_
  refine j_iadd 1411 dL_law_1411 ?_
  refine j_sld hXS 1412 (hin 1 (by decide) (by decide)) dL_law_1412 ?_
  refine j_aload_n 1413 0 dL_law_1413 rfl rfl ?_
  refine j_iload_n 1414 3 dL_law_1414 rfl rfl ?_
  refine j_iconst (v := 2) 1415 dL_law_1415 (by decide) ?_
  refine j_iadd 1416 dL_law_1416 ?_
  refine j_sld hXS 1417 (hin 2 (by decide) (by decide)) dL_law_1417 ?_
  refine j_aload_n 1418 0 dL_law_1418 rfl rfl ?_
  refine j_iload_n 1419 3 dL_law_1419 rfl rfl ?_
  refine j_iconst (v := 3) 1420 dL_law_1420 (by decide) ?_
  refine j_iadd 1421 dL_law_1421 ?_
  refine j_sld hXS 1422 (hin 3 (by decide) (by decide)) dL_law_1422 ?_
  refine j_aload_n 1423 0 dL_law_1423 rfl rfl ?_
  refine j_iload_n 1424 3 dL_law_1424 rfl rfl ?_
  refine j_iconst (v := 4) 1425 dL_law_1425 (by decide) ?_
  refine j_iadd 1426 dL_law_1426 ?_
  refine j_sld hXS 1427 (hin 4 (by decide) (by decide)) dL_law_1427 ?_
  refine j_aload_n 1428 0 dL_law_1428 rfl rfl ?_
  refine j_iload_n 1429 3 dL_law_1429 rfl rfl ?_
  refine j_iconst (v := 5) 1430 dL_law_1430 (by decide) ?_
  refine j_iadd 1431 dL_law_1431 ?_
  refine j_sld hXS 1432 (hin 5 (by decide) (by decide)) dL_law_1432 ?_
  refine j_aload_n 1433 0 dL_law_1433 rfl rfl ?_
  refine j_iload_n 1434 3 dL_law_1434 rfl rfl ?_
  refine j_bipush (v := 6) 1435 dL_law_1435 (by decide) ?_
  refine j_iadd 1437 dL_law_1437 ?_
  refine j_sld hXS 1438 (hin 6 (by decide) (by decide)) dL_law_1438 ?_
  refine j_callV_ei 1439 (nn := 0) rfl (by decide) (prs_mem (by decide) (by decide)) [.int (xs (x3 + 1).toNatClampNeg), .int (xs (x3 + 2).toNatClampNeg), .int (xs (x3 + 3).toNatClampNeg), .int (xs (x3 + 4).toNatClampNeg), .int (xs (x3 + 5).toNatClampNeg), .int (xs (x3 + 6).toNatClampNeg)] [.int r.1] gL_law_X12_claim rfl eL12_29 ⟨Nat.le_of_ble_eq_true rfl, Nat.le_of_ble_eq_true rfl⟩ rfl rfl (Nat.le_of_ble_eq_true rfl) dL_law_1439 (kX12_claim _ _ _ _ _ _ _) (fun q γ => ?_)
  refine j_icmp_eq 1442 1793 dL_law_1442 (by decide) (fun _ => ?_) (fun _ => ?_)
  · exact hrec _ _
  · exact j_none
def fL_30 (F : Nat) (a1 : Int32) (rec : St → Option LR) (S : St) : Option LR := cal (fX11_founded F S a1) fun r => cal (fX12_founded F S a1) fun q => if r = q then rec S else none
theorem eL11_30 : yX11_founded.cls = RX11 ∧ yX11_founded.cls ≠ "java/lang/invoke/MethodHandle" ∧ yX11_founded.cls ≠ "java/lang/invoke/VarHandle" ∧ (parseMethodDescriptor yX11_founded.desc).map (fun d => d.parameters.length) = some 1 := by decide +kernel
theorem eL12_30 : yX12_founded.cls = RX12 ∧ yX12_founded.cls ≠ "java/lang/invoke/MethodHandle" ∧ yX12_founded.cls ≠ "java/lang/invoke/VarHandle" ∧ (parseMethodDescriptor yX12_founded.desc).map (fun d => d.parameters.length) = some 1 := by decide +kernel
set_option maxRecDepth 100000 in
set_option maxHeartbeats 1000000 in
theorem tL_30 {ad : Nat → Nat → Nat} (X : Ctx) {RQ : LR → Room × (State → Prop)} {fc : LR → Nat} {b L : Nat} {xs : Nat → Int32} (hXS : XS X b L xs) (F : Nat) (x3 : Int32) (hin : ∀ j : Int32, 0 ≤ j → j ≤ 6 → vp_in (x3 + j) L) (rec : St → Option LR) (hrec : ∀ (γ : Nat → Nat) (S : St), JJ X ad γ RQ fc 11 426 cL_law 4 RL wsL ret (rec S) S 1793 [(0, .ref b), (1, .ref (ad 10 0)), (2, .ref (ad 11 0)), (3, .int x3)] []) (γ : Nat → Nat) (S : St) : JJ X ad γ RQ fc 11 426 cL_law 4 RL wsL ret (fL_30 F (xs (x3 + 1).toNatClampNeg) rec S) S 1447 [(0, .ref b), (1, .ref (ad 10 0)), (2, .ref (ad 11 0)), (3, .int x3)] [] := by
  unfold fL_30
  refine j_aload_n 1447 1 dL_law_1447 rfl rfl ?_
  refine j_aload_n 1448 0 dL_law_1448 rfl rfl ?_
  refine j_iload_n 1449 3 dL_law_1449 rfl rfl ?_
  refine j_iconst (v := 1) 1450 dL_law_1450 (by decide) ?_
  refine j_iadd 1451 dL_law_1451 ?_
  refine j_sld hXS 1452 (hin 1 (by decide) (by decide)) dL_law_1452 ?_
  refine j_callV_pi 1453 (nn := 0) rfl (by decide) (prs_mem (by decide) (by decide)) [.int (xs (x3 + 1).toNatClampNeg)] [] gL_law_X11_founded rfl eL11_30 ⟨Nat.le_of_ble_eq_true rfl, Nat.le_of_ble_eq_true rfl⟩ rfl rfl (Nat.le_of_ble_eq_true rfl) dL_law_1453 (kX11_founded F _ _) (fun r γ => ?_)
  refine j_aload_n 1456 2 dL_law_1456 rfl rfl ?_
  refine j_aload_n 1457 0 dL_law_1457 rfl rfl ?_
  refine j_iload_n 1458 3 dL_law_1458 rfl rfl ?_
  refine j_iconst (v := 1) 1459 dL_law_1459 (by decide) ?_
  refine j_iadd 1460 dL_law_1460 ?_
  refine j_sld hXS 1461 (hin 1 (by decide) (by decide)) dL_law_1461 ?_
  refine j_callV_pi 1462 (nn := 0) rfl (by decide) (prs_mem (by decide) (by decide)) [.int (xs (x3 + 1).toNatClampNeg)] [.int r] gL_law_X12_founded rfl eL12_30 ⟨Nat.le_of_ble_eq_true rfl, Nat.le_of_ble_eq_true rfl⟩ rfl rfl (Nat.le_of_ble_eq_true rfl) dL_law_1462 (kX12_founded F _ _) (fun q γ => ?_)
  refine j_icmp_eq 1465 1793 dL_law_1465 (by decide) (fun _ => ?_) (fun _ => ?_)
  · exact hrec _ _
  · exact j_none
def fL_31 (F : Nat) (a1 : Int32) (a2 : Int32) (rec : St → Option LR) (S : St) : Option LR := cal (fX11_falls F S a1 a2) fun r => cal (fX12_falls F S a1 a2) fun q => if r = q then rec S else none
theorem eL11_31 : yX11_falls.cls = RX11 ∧ yX11_falls.cls ≠ "java/lang/invoke/MethodHandle" ∧ yX11_falls.cls ≠ "java/lang/invoke/VarHandle" ∧ (parseMethodDescriptor yX11_falls.desc).map (fun d => d.parameters.length) = some 2 := by decide +kernel
theorem eL12_31 : yX12_falls.cls = RX12 ∧ yX12_falls.cls ≠ "java/lang/invoke/MethodHandle" ∧ yX12_falls.cls ≠ "java/lang/invoke/VarHandle" ∧ (parseMethodDescriptor yX12_falls.desc).map (fun d => d.parameters.length) = some 2 := by decide +kernel
set_option maxRecDepth 100000 in
set_option maxHeartbeats 1000000 in
theorem tL_31 {ad : Nat → Nat → Nat} (X : Ctx) {RQ : LR → Room × (State → Prop)} {fc : LR → Nat} {b L : Nat} {xs : Nat → Int32} (hXS : XS X b L xs) (F : Nat) (x3 : Int32) (hin : ∀ j : Int32, 0 ≤ j → j ≤ 6 → vp_in (x3 + j) L) (rec : St → Option LR) (hrec : ∀ (γ : Nat → Nat) (S : St), JJ X ad γ RQ fc 11 426 cL_law 4 RL wsL ret (rec S) S 1793 [(0, .ref b), (1, .ref (ad 10 0)), (2, .ref (ad 11 0)), (3, .int x3)] []) (γ : Nat → Nat) (S : St) : JJ X ad γ RQ fc 11 426 cL_law 4 RL wsL ret (fL_31 F (xs (x3 + 1).toNatClampNeg) (xs (x3 + 2).toNatClampNeg) rec S) S 1470 [(0, .ref b), (1, .ref (ad 10 0)), (2, .ref (ad 11 0)), (3, .int x3)] [] := by
  unfold fL_31
  refine j_aload_n 1470 1 dL_law_1470 rfl rfl ?_
  refine j_aload_n 1471 0 dL_law_1471 rfl rfl ?_
  refine j_iload_n 1472 3 dL_law_1472 rfl rfl ?_
  refine j_iconst (v := 1) 1473 dL_law_1473 (by decide) ?_
  refine j_iadd 1474 dL_law_1474 ?_
  refine j_sld hXS 1475 (hin 1 (by decide) (by decide)) dL_law_1475 ?_
  refine j_aload_n 1476 0 dL_law_1476 rfl rfl ?_
  refine j_iload_n 1477 3 dL_law_1477 rfl rfl ?_
  refine j_iconst (v := 2) 1478 dL_law_1478 (by decide) ?_
  refine j_iadd 1479 dL_law_1479 ?_
  refine j_sld hXS 1480 (hin 2 (by decide) (by decide)) dL_law_1480 ?_
  refine j_callV_pi 1481 (nn := 0) rfl (by decide) (prs_mem (by decide) (by decide)) [.int (xs (x3 + 1).toNatClampNeg), .int (xs (x3 + 2).toNatClampNeg)] [] gL_law_X11_falls rfl eL11_31 ⟨Nat.le_of_ble_eq_true rfl, Nat.le_of_ble_eq_true rfl⟩ rfl rfl (Nat.le_of_ble_eq_true rfl) dL_law_1481 (kX11_falls F _ _ _) (fun r γ => ?_)
  refine j_aload_n 1484 2 dL_law_1484 rfl rfl ?_
  refine j_aload_n 1485 0 dL_law_1485 rfl rfl ?_
  refine j_iload_n 1486 3 dL_law_1486 rfl rfl ?_
  refine j_iconst (v := 1) 1487 dL_law_1487 (by decide) ?_
  refine j_iadd 1488 dL_law_1488 ?_
  refine j_sld hXS 1489 (hin 1 (by decide) (by decide)) dL_law_1489 ?_
  refine j_aload_n 1490 0 dL_law_1490 rfl rfl ?_
  refine j_iload_n 1491 3 dL_law_1491 rfl rfl ?_
  refine j_iconst (v := 2) 1492 dL_law_1492 (by decide) ?_
  refine j_iadd 1493 dL_law_1493 ?_
  refine j_sld hXS 1494 (hin 2 (by decide) (by decide)) dL_law_1494 ?_
  refine j_callV_pi 1495 (nn := 0) rfl (by decide) (prs_mem (by decide) (by decide)) [.int (xs (x3 + 1).toNatClampNeg), .int (xs (x3 + 2).toNatClampNeg)] [.int r] gL_law_X12_falls rfl eL12_31 ⟨Nat.le_of_ble_eq_true rfl, Nat.le_of_ble_eq_true rfl⟩ rfl rfl (Nat.le_of_ble_eq_true rfl) dL_law_1495 (kX12_falls F _ _ _) (fun q γ => ?_)
  refine j_icmp_eq 1498 1793 dL_law_1498 (by decide) (fun _ => ?_) (fun _ => ?_)
  · exact hrec _ _
  · exact j_none
def fL_32 (F : Nat) (a1 : Int32) (a2 : Int32) (rec : St → Option LR) (S : St) : Option LR := cal (fX11_hear F S a1 a2) fun r => cal (fX12_hear F r.2 a1 a2) fun q => if r.1 = q.1 then rec q.2 else none
theorem eL11_32 : yX11_hear.cls = RX11 ∧ yX11_hear.cls ≠ "java/lang/invoke/MethodHandle" ∧ yX11_hear.cls ≠ "java/lang/invoke/VarHandle" ∧ (parseMethodDescriptor yX11_hear.desc).map (fun d => d.parameters.length) = some 2 := by decide +kernel
theorem eL12_32 : yX12_hear.cls = RX12 ∧ yX12_hear.cls ≠ "java/lang/invoke/MethodHandle" ∧ yX12_hear.cls ≠ "java/lang/invoke/VarHandle" ∧ (parseMethodDescriptor yX12_hear.desc).map (fun d => d.parameters.length) = some 2 := by decide +kernel
set_option maxRecDepth 100000 in
set_option maxHeartbeats 1000000 in
theorem tL_32 {ad : Nat → Nat → Nat} (X : Ctx) {RQ : LR → Room × (State → Prop)} {fc : LR → Nat} {b L : Nat} {xs : Nat → Int32} (hXS : XS X b L xs) (F : Nat) (x3 : Int32) (hin : ∀ j : Int32, 0 ≤ j → j ≤ 6 → vp_in (x3 + j) L) (rec : St → Option LR) (hrec : ∀ (γ : Nat → Nat) (S : St), JJ X ad γ RQ fc 11 426 cL_law 4 RL wsL ret (rec S) S 1793 [(0, .ref b), (1, .ref (ad 10 0)), (2, .ref (ad 11 0)), (3, .int x3)] []) (γ : Nat → Nat) (S : St) : JJ X ad γ RQ fc 11 426 cL_law 4 RL wsL ret (fL_32 F (xs (x3 + 1).toNatClampNeg) (xs (x3 + 2).toNatClampNeg) rec S) S 1503 [(0, .ref b), (1, .ref (ad 10 0)), (2, .ref (ad 11 0)), (3, .int x3)] [] := by
  unfold fL_32
  refine j_aload_n 1503 1 dL_law_1503 rfl rfl ?_
  refine j_aload_n 1504 0 dL_law_1504 rfl rfl ?_
  refine j_iload_n 1505 3 dL_law_1505 rfl rfl ?_
  refine j_iconst (v := 1) 1506 dL_law_1506 (by decide) ?_
  refine j_iadd 1507 dL_law_1507 ?_
  refine j_sld hXS 1508 (hin 1 (by decide) (by decide)) dL_law_1508 ?_
  refine j_aload_n 1509 0 dL_law_1509 rfl rfl ?_
  refine j_iload_n 1510 3 dL_law_1510 rfl rfl ?_
  refine j_iconst (v := 2) 1511 dL_law_1511 (by decide) ?_
  refine j_iadd 1512 dL_law_1512 ?_
  refine j_sld hXS 1513 (hin 2 (by decide) (by decide)) dL_law_1513 ?_
  refine j_callV_ei 1514 (nn := 0) rfl (by decide) (prs_mem (by decide) (by decide)) [.int (xs (x3 + 1).toNatClampNeg), .int (xs (x3 + 2).toNatClampNeg)] [] gL_law_X11_hear rfl eL11_32 ⟨Nat.le_of_ble_eq_true rfl, Nat.le_of_ble_eq_true rfl⟩ rfl rfl (Nat.le_of_ble_eq_true rfl) dL_law_1514 (kX11_hear F _ _ _) (fun r γ => ?_)
  refine j_aload_n 1517 2 dL_law_1517 rfl rfl ?_
  refine j_aload_n 1518 0 dL_law_1518 rfl rfl ?_
  refine j_iload_n 1519 3 dL_law_1519 rfl rfl ?_
  refine j_iconst (v := 1) 1520 dL_law_1520 (by decide) ?_
  refine j_iadd 1521 dL_law_1521 ?_
  refine j_sld hXS 1522 (hin 1 (by decide) (by decide)) dL_law_1522 ?_
  refine j_aload_n 1523 0 dL_law_1523 rfl rfl ?_
  refine j_iload_n 1524 3 dL_law_1524 rfl rfl ?_
  refine j_iconst (v := 2) 1525 dL_law_1525 (by decide) ?_
  refine j_iadd 1526 dL_law_1526 ?_
  refine j_sld hXS 1527 (hin 2 (by decide) (by decide)) dL_law_1527 ?_
  refine j_callV_ei 1528 (nn := 0) rfl (by decide) (prs_mem (by decide) (by decide)) [.int (xs (x3 + 1).toNatClampNeg), .int (xs (x3 + 2).toNatClampNeg)] [.int r.1] gL_law_X12_hear rfl eL12_32 ⟨Nat.le_of_ble_eq_true rfl, Nat.le_of_ble_eq_true rfl⟩ rfl rfl (Nat.le_of_ble_eq_true rfl) dL_law_1528 (kX12_hear F _ _ _) (fun q γ => ?_)
  refine j_icmp_eq 1531 1793 dL_law_1531 (by decide) (fun _ => ?_) (fun _ => ?_)
  · exact hrec _ _
  · exact j_none
def fL_33 (F : Nat) (a1 : Int32) (a2 : Int32) (a3 : Int32) (rec : St → Option LR) (S : St) : Option LR := if a3 = 0 then (cal (fX11_left F S a1 a2 0) fun r => if a3 = 0 then cal (fX12_left F S a1 a2 0) fun q => if r = q then rec S else none else none) else (cal (fX11_left F S a1 a2 1) fun r => if a3 = 0 then none else cal (fX12_left F S a1 a2 1) fun q => if r = q then rec S else none)
theorem eL11_33 : yX11_left.cls = RX11 ∧ yX11_left.cls ≠ "java/lang/invoke/MethodHandle" ∧ yX11_left.cls ≠ "java/lang/invoke/VarHandle" ∧ (parseMethodDescriptor yX11_left.desc).map (fun d => d.parameters.length) = some 3 := by decide +kernel
theorem eL12_33 : yX12_left.cls = RX12 ∧ yX12_left.cls ≠ "java/lang/invoke/MethodHandle" ∧ yX12_left.cls ≠ "java/lang/invoke/VarHandle" ∧ (parseMethodDescriptor yX12_left.desc).map (fun d => d.parameters.length) = some 3 := by decide +kernel
set_option maxRecDepth 100000 in
set_option maxHeartbeats 1000000 in
theorem tL_33 {ad : Nat → Nat → Nat} (X : Ctx) {RQ : LR → Room × (State → Prop)} {fc : LR → Nat} {b L : Nat} {xs : Nat → Int32} (hXS : XS X b L xs) (F : Nat) (x3 : Int32) (hin : ∀ j : Int32, 0 ≤ j → j ≤ 6 → vp_in (x3 + j) L) (rec : St → Option LR) (hrec : ∀ (γ : Nat → Nat) (S : St), JJ X ad γ RQ fc 11 426 cL_law 4 RL wsL ret (rec S) S 1793 [(0, .ref b), (1, .ref (ad 10 0)), (2, .ref (ad 11 0)), (3, .int x3)] []) (γ : Nat → Nat) (S : St) : JJ X ad γ RQ fc 11 426 cL_law 4 RL wsL ret (fL_33 F (xs (x3 + 1).toNatClampNeg) (xs (x3 + 2).toNatClampNeg) (xs (x3 + 3).toNatClampNeg) rec S) S 1536 [(0, .ref b), (1, .ref (ad 10 0)), (2, .ref (ad 11 0)), (3, .int x3)] [] := by
  unfold fL_33
  refine j_aload_n 1536 1 dL_law_1536 rfl rfl ?_
  refine j_aload_n 1537 0 dL_law_1537 rfl rfl ?_
  refine j_iload_n 1538 3 dL_law_1538 rfl rfl ?_
  refine j_iconst (v := 1) 1539 dL_law_1539 (by decide) ?_
  refine j_iadd 1540 dL_law_1540 ?_
  refine j_sld hXS 1541 (hin 1 (by decide) (by decide)) dL_law_1541 ?_
  refine j_aload_n 1542 0 dL_law_1542 rfl rfl ?_
  refine j_iload_n 1543 3 dL_law_1543 rfl rfl ?_
  refine j_iconst (v := 2) 1544 dL_law_1544 (by decide) ?_
  refine j_iadd 1545 dL_law_1545 ?_
  refine j_sld hXS 1546 (hin 2 (by decide) (by decide)) dL_law_1546 ?_
  refine j_aload_n 1547 0 dL_law_1547 rfl rfl ?_
  refine j_iload_n 1548 3 dL_law_1548 rfl rfl ?_
  refine j_iconst (v := 3) 1549 dL_law_1549 (by decide) ?_
  refine j_iadd 1550 dL_law_1550 ?_
  refine j_sld hXS 1551 (hin 3 (by decide) (by decide)) dL_law_1551 ?_
  refine j_if_eq 1552 1559 dL_law_1552 (by decide) (fun z0 => ?_) (fun z0 => ?_)
  · refine j_iconst (v := 0) 1559 dL_law_1559 (by decide) ?_
    refine j_callV_pi 1560 (nn := 0) rfl (by decide) (prs_mem (by decide) (by decide)) [.int (xs (x3 + 1).toNatClampNeg), .int (xs (x3 + 2).toNatClampNeg), .int 0] [] gL_law_X11_left rfl eL11_33 ⟨Nat.le_of_ble_eq_true rfl, Nat.le_of_ble_eq_true rfl⟩ rfl rfl (Nat.le_of_ble_eq_true rfl) dL_law_1560 (kX11_left F _ _ _ _) (fun r γ => ?_)
    refine j_aload_n 1563 2 dL_law_1563 rfl rfl ?_
    refine j_aload_n 1564 0 dL_law_1564 rfl rfl ?_
    refine j_iload_n 1565 3 dL_law_1565 rfl rfl ?_
    refine j_iconst (v := 1) 1566 dL_law_1566 (by decide) ?_
    refine j_iadd 1567 dL_law_1567 ?_
    refine j_sld hXS 1568 (hin 1 (by decide) (by decide)) dL_law_1568 ?_
    refine j_aload_n 1569 0 dL_law_1569 rfl rfl ?_
    refine j_iload_n 1570 3 dL_law_1570 rfl rfl ?_
    refine j_iconst (v := 2) 1571 dL_law_1571 (by decide) ?_
    refine j_iadd 1572 dL_law_1572 ?_
    refine j_sld hXS 1573 (hin 2 (by decide) (by decide)) dL_law_1573 ?_
    refine j_aload_n 1574 0 dL_law_1574 rfl rfl ?_
    refine j_iload_n 1575 3 dL_law_1575 rfl rfl ?_
    refine j_iconst (v := 3) 1576 dL_law_1576 (by decide) ?_
    refine j_iadd 1577 dL_law_1577 ?_
    refine j_sld hXS 1578 (hin 3 (by decide) (by decide)) dL_law_1578 ?_
    refine j_if_eq 1579 1586 dL_law_1579 (by decide) (fun z1 => ?_) (fun z1 => ?_)
    · refine j_iconst (v := 0) 1586 dL_law_1586 (by decide) ?_
      refine j_callV_pi 1587 (nn := 0) rfl (by decide) (prs_mem (by decide) (by decide)) [.int (xs (x3 + 1).toNatClampNeg), .int (xs (x3 + 2).toNatClampNeg), .int 0] [.int r] gL_law_X12_left rfl eL12_33 ⟨Nat.le_of_ble_eq_true rfl, Nat.le_of_ble_eq_true rfl⟩ rfl rfl (Nat.le_of_ble_eq_true rfl) dL_law_1587 (kX12_left F _ _ _ _) (fun q γ => ?_)
      refine j_icmp_eq 1590 1793 dL_law_1590 (by decide) (fun _ => ?_) (fun _ => ?_)
      · exact hrec _ _
      · exact j_none
    · exact j_none
  · refine j_iconst (v := 1) 1555 dL_law_1555 (by decide) ?_
    refine j_goto 1556 1560 dL_law_1556 (by decide) ?_
    refine j_callV_pi 1560 (nn := 0) rfl (by decide) (prs_mem (by decide) (by decide)) [.int (xs (x3 + 1).toNatClampNeg), .int (xs (x3 + 2).toNatClampNeg), .int 1] [] gL_law_X11_left rfl eL11_33 ⟨Nat.le_of_ble_eq_true rfl, Nat.le_of_ble_eq_true rfl⟩ rfl rfl (Nat.le_of_ble_eq_true rfl) dL_law_1560 (kX11_left F _ _ _ _) (fun r γ => ?_)
    refine j_aload_n 1563 2 dL_law_1563 rfl rfl ?_
    refine j_aload_n 1564 0 dL_law_1564 rfl rfl ?_
    refine j_iload_n 1565 3 dL_law_1565 rfl rfl ?_
    refine j_iconst (v := 1) 1566 dL_law_1566 (by decide) ?_
    refine j_iadd 1567 dL_law_1567 ?_
    refine j_sld hXS 1568 (hin 1 (by decide) (by decide)) dL_law_1568 ?_
    refine j_aload_n 1569 0 dL_law_1569 rfl rfl ?_
    refine j_iload_n 1570 3 dL_law_1570 rfl rfl ?_
    refine j_iconst (v := 2) 1571 dL_law_1571 (by decide) ?_
    refine j_iadd 1572 dL_law_1572 ?_
    refine j_sld hXS 1573 (hin 2 (by decide) (by decide)) dL_law_1573 ?_
    refine j_aload_n 1574 0 dL_law_1574 rfl rfl ?_
    refine j_iload_n 1575 3 dL_law_1575 rfl rfl ?_
    refine j_iconst (v := 3) 1576 dL_law_1576 (by decide) ?_
    refine j_iadd 1577 dL_law_1577 ?_
    refine j_sld hXS 1578 (hin 3 (by decide) (by decide)) dL_law_1578 ?_
    refine j_if_eq 1579 1586 dL_law_1579 (by decide) (fun z1 => ?_) (fun z1 => ?_)
    · exact j_none
    · refine j_iconst (v := 1) 1582 dL_law_1582 (by decide) ?_
      refine j_goto 1583 1587 dL_law_1583 (by decide) ?_
      refine j_callV_pi 1587 (nn := 0) rfl (by decide) (prs_mem (by decide) (by decide)) [.int (xs (x3 + 1).toNatClampNeg), .int (xs (x3 + 2).toNatClampNeg), .int 1] [.int r] gL_law_X12_left rfl eL12_33 ⟨Nat.le_of_ble_eq_true rfl, Nat.le_of_ble_eq_true rfl⟩ rfl rfl (Nat.le_of_ble_eq_true rfl) dL_law_1587 (kX12_left F _ _ _ _) (fun q γ => ?_)
      refine j_icmp_eq 1590 1793 dL_law_1590 (by decide) (fun _ => ?_) (fun _ => ?_)
      · exact hrec _ _
      · exact j_none
def fL_34 (F : Nat) (a1 : Int32) (a2 : Int32) (rec : St → Option LR) (S : St) : Option LR := cal (fX11_cousins F S a1 a2) fun r => cal (fX12_cousins F S a1 a2) fun q => if r = q.1 then rec q.2 else none
theorem eL11_34 : yX11_cousins.cls = RX11 ∧ yX11_cousins.cls ≠ "java/lang/invoke/MethodHandle" ∧ yX11_cousins.cls ≠ "java/lang/invoke/VarHandle" ∧ (parseMethodDescriptor yX11_cousins.desc).map (fun d => d.parameters.length) = some 2 := by decide +kernel
theorem eL12_34 : yX12_cousins.cls = RX12 ∧ yX12_cousins.cls ≠ "java/lang/invoke/MethodHandle" ∧ yX12_cousins.cls ≠ "java/lang/invoke/VarHandle" ∧ (parseMethodDescriptor yX12_cousins.desc).map (fun d => d.parameters.length) = some 2 := by decide +kernel
set_option maxRecDepth 100000 in
set_option maxHeartbeats 1000000 in
theorem tL_34 {ad : Nat → Nat → Nat} (X : Ctx) {RQ : LR → Room × (State → Prop)} {fc : LR → Nat} {b L : Nat} {xs : Nat → Int32} (hXS : XS X b L xs) (F : Nat) (x3 : Int32) (hin : ∀ j : Int32, 0 ≤ j → j ≤ 6 → vp_in (x3 + j) L) (rec : St → Option LR) (hrec : ∀ (γ : Nat → Nat) (S : St), JJ X ad γ RQ fc 11 426 cL_law 4 RL wsL ret (rec S) S 1793 [(0, .ref b), (1, .ref (ad 10 0)), (2, .ref (ad 11 0)), (3, .int x3)] []) (γ : Nat → Nat) (S : St) : JJ X ad γ RQ fc 11 426 cL_law 4 RL wsL ret (fL_34 F (xs (x3 + 1).toNatClampNeg) (xs (x3 + 2).toNatClampNeg) rec S) S 1595 [(0, .ref b), (1, .ref (ad 10 0)), (2, .ref (ad 11 0)), (3, .int x3)] [] := by
  unfold fL_34
  refine j_aload_n 1595 1 dL_law_1595 rfl rfl ?_
  refine j_aload_n 1596 0 dL_law_1596 rfl rfl ?_
  refine j_iload_n 1597 3 dL_law_1597 rfl rfl ?_
  refine j_iconst (v := 1) 1598 dL_law_1598 (by decide) ?_
  refine j_iadd 1599 dL_law_1599 ?_
  refine j_sld hXS 1600 (hin 1 (by decide) (by decide)) dL_law_1600 ?_
  refine j_aload_n 1601 0 dL_law_1601 rfl rfl ?_
  refine j_iload_n 1602 3 dL_law_1602 rfl rfl ?_
  refine j_iconst (v := 2) 1603 dL_law_1603 (by decide) ?_
  refine j_iadd 1604 dL_law_1604 ?_
  refine j_sld hXS 1605 (hin 2 (by decide) (by decide)) dL_law_1605 ?_
  refine j_callV_pi 1606 (nn := 0) rfl (by decide) (prs_mem (by decide) (by decide)) [.int (xs (x3 + 1).toNatClampNeg), .int (xs (x3 + 2).toNatClampNeg)] [] gL_law_X11_cousins rfl eL11_34 ⟨Nat.le_of_ble_eq_true rfl, Nat.le_of_ble_eq_true rfl⟩ rfl rfl (Nat.le_of_ble_eq_true rfl) dL_law_1606 (kX11_cousins F _ _ _) (fun r γ => ?_)
  refine j_aload_n 1609 2 dL_law_1609 rfl rfl ?_
  refine j_aload_n 1610 0 dL_law_1610 rfl rfl ?_
  refine j_iload_n 1611 3 dL_law_1611 rfl rfl ?_
  refine j_iconst (v := 1) 1612 dL_law_1612 (by decide) ?_
  refine j_iadd 1613 dL_law_1613 ?_
  refine j_sld hXS 1614 (hin 1 (by decide) (by decide)) dL_law_1614 ?_
  refine j_aload_n 1615 0 dL_law_1615 rfl rfl ?_
  refine j_iload_n 1616 3 dL_law_1616 rfl rfl ?_
  refine j_iconst (v := 2) 1617 dL_law_1617 (by decide) ?_
  refine j_iadd 1618 dL_law_1618 ?_
  refine j_sld hXS 1619 (hin 2 (by decide) (by decide)) dL_law_1619 ?_
  refine j_callV_ei 1620 (nn := 0) rfl (by decide) (prs_mem (by decide) (by decide)) [.int (xs (x3 + 1).toNatClampNeg), .int (xs (x3 + 2).toNatClampNeg)] [.int r] gL_law_X12_cousins rfl eL12_34 ⟨Nat.le_of_ble_eq_true rfl, Nat.le_of_ble_eq_true rfl⟩ rfl rfl (Nat.le_of_ble_eq_true rfl) dL_law_1620 (kX12_cousins F _ _ _) (fun q γ => ?_)
  refine j_icmp_eq 1623 1793 dL_law_1623 (by decide) (fun _ => ?_) (fun _ => ?_)
  · exact hrec _ _
  · exact j_none
def fL_35 (F : Nat) (a1 : Int32) (a2 : Int32) (a3 : Int32) (rec : St → Option LR) (S : St) : Option LR := cal (fX11_settled F S a1 a2 a3) fun r => cal (fX12_settled F S a1 a2 a3) fun q => if r = q.1 then rec q.2 else none
theorem eL11_35 : yX11_settled.cls = RX11 ∧ yX11_settled.cls ≠ "java/lang/invoke/MethodHandle" ∧ yX11_settled.cls ≠ "java/lang/invoke/VarHandle" ∧ (parseMethodDescriptor yX11_settled.desc).map (fun d => d.parameters.length) = some 3 := by decide +kernel
theorem eL12_35 : yX12_settled.cls = RX12 ∧ yX12_settled.cls ≠ "java/lang/invoke/MethodHandle" ∧ yX12_settled.cls ≠ "java/lang/invoke/VarHandle" ∧ (parseMethodDescriptor yX12_settled.desc).map (fun d => d.parameters.length) = some 3 := by decide +kernel
set_option maxRecDepth 100000 in
set_option maxHeartbeats 1000000 in
theorem tL_35 {ad : Nat → Nat → Nat} (X : Ctx) {RQ : LR → Room × (State → Prop)} {fc : LR → Nat} {b L : Nat} {xs : Nat → Int32} (hXS : XS X b L xs) (F : Nat) (x3 : Int32) (hin : ∀ j : Int32, 0 ≤ j → j ≤ 6 → vp_in (x3 + j) L) (rec : St → Option LR) (hrec : ∀ (γ : Nat → Nat) (S : St), JJ X ad γ RQ fc 11 426 cL_law 4 RL wsL ret (rec S) S 1793 [(0, .ref b), (1, .ref (ad 10 0)), (2, .ref (ad 11 0)), (3, .int x3)] []) (γ : Nat → Nat) (S : St) : JJ X ad γ RQ fc 11 426 cL_law 4 RL wsL ret (fL_35 F (xs (x3 + 1).toNatClampNeg) (xs (x3 + 2).toNatClampNeg) (xs (x3 + 3).toNatClampNeg) rec S) S 1628 [(0, .ref b), (1, .ref (ad 10 0)), (2, .ref (ad 11 0)), (3, .int x3)] [] := by
  unfold fL_35
  refine j_aload_n 1628 1 dL_law_1628 rfl rfl ?_
  refine j_aload_n 1629 0 dL_law_1629 rfl rfl ?_
  refine j_iload_n 1630 3 dL_law_1630 rfl rfl ?_
  refine j_iconst (v := 1) 1631 dL_law_1631 (by decide) ?_
  refine j_iadd 1632 dL_law_1632 ?_
  refine j_sld hXS 1633 (hin 1 (by decide) (by decide)) dL_law_1633 ?_
  refine j_aload_n 1634 0 dL_law_1634 rfl rfl ?_
  refine j_iload_n 1635 3 dL_law_1635 rfl rfl ?_
  refine j_iconst (v := 2) 1636 dL_law_1636 (by decide) ?_
  refine j_iadd 1637 dL_law_1637 ?_
  refine j_sld hXS 1638 (hin 2 (by decide) (by decide)) dL_law_1638 ?_
  refine j_aload_n 1639 0 dL_law_1639 rfl rfl ?_
  refine j_iload_n 1640 3 dL_law_1640 rfl rfl ?_
  refine j_iconst (v := 3) 1641 dL_law_1641 (by decide) ?_
  refine j_iadd 1642 dL_law_1642 ?_
  refine j_sld hXS 1643 (hin 3 (by decide) (by decide)) dL_law_1643 ?_
  refine j_callV_pi 1644 (nn := 0) rfl (by decide) (prs_mem (by decide) (by decide)) [.int (xs (x3 + 1).toNatClampNeg), .int (xs (x3 + 2).toNatClampNeg), .int (xs (x3 + 3).toNatClampNeg)] [] gL_law_X11_settled rfl eL11_35 ⟨Nat.le_of_ble_eq_true rfl, Nat.le_of_ble_eq_true rfl⟩ rfl rfl (Nat.le_of_ble_eq_true rfl) dL_law_1644 (kX11_settled F _ _ _ _) (fun r γ => ?_)
  refine j_aload_n 1647 2 dL_law_1647 rfl rfl ?_
  refine j_aload_n 1648 0 dL_law_1648 rfl rfl ?_
  refine j_iload_n 1649 3 dL_law_1649 rfl rfl ?_
  refine j_iconst (v := 1) 1650 dL_law_1650 (by decide) ?_
  refine j_iadd 1651 dL_law_1651 ?_
  refine j_sld hXS 1652 (hin 1 (by decide) (by decide)) dL_law_1652 ?_
  refine j_aload_n 1653 0 dL_law_1653 rfl rfl ?_
  refine j_iload_n 1654 3 dL_law_1654 rfl rfl ?_
  refine j_iconst (v := 2) 1655 dL_law_1655 (by decide) ?_
  refine j_iadd 1656 dL_law_1656 ?_
  refine j_sld hXS 1657 (hin 2 (by decide) (by decide)) dL_law_1657 ?_
  refine j_aload_n 1658 0 dL_law_1658 rfl rfl ?_
  refine j_iload_n 1659 3 dL_law_1659 rfl rfl ?_
  refine j_iconst (v := 3) 1660 dL_law_1660 (by decide) ?_
  refine j_iadd 1661 dL_law_1661 ?_
  refine j_sld hXS 1662 (hin 3 (by decide) (by decide)) dL_law_1662 ?_
  refine j_callV_ei 1663 (nn := 0) rfl (by decide) (prs_mem (by decide) (by decide)) [.int (xs (x3 + 1).toNatClampNeg), .int (xs (x3 + 2).toNatClampNeg), .int (xs (x3 + 3).toNatClampNeg)] [.int r] gL_law_X12_settled rfl eL12_35 ⟨Nat.le_of_ble_eq_true rfl, Nat.le_of_ble_eq_true rfl⟩ rfl rfl (Nat.le_of_ble_eq_true rfl) dL_law_1663 (kX12_settled F _ _ _ _) (fun q γ => ?_)
  refine j_icmp_eq 1666 1793 dL_law_1666 (by decide) (fun _ => ?_) (fun _ => ?_)
  · exact hrec _ _
  · exact j_none
def fL_36 (F : Nat) (a1 : Int32) (a2 : Int32) (rec : St → Option LR) (S : St) : Option LR := cal (fX11_settlement S a1 a2) fun r => cal (fX12_settlement r.2 a1 a2) fun q => if r.1 = q.1 then rec q.2 else none
theorem eL11_36 : yX11_settlement.cls = RX11 ∧ yX11_settlement.cls ≠ "java/lang/invoke/MethodHandle" ∧ yX11_settlement.cls ≠ "java/lang/invoke/VarHandle" ∧ (parseMethodDescriptor yX11_settlement.desc).map (fun d => d.parameters.length) = some 2 := by decide +kernel
theorem eL12_36 : yX12_settlement.cls = RX12 ∧ yX12_settlement.cls ≠ "java/lang/invoke/MethodHandle" ∧ yX12_settlement.cls ≠ "java/lang/invoke/VarHandle" ∧ (parseMethodDescriptor yX12_settlement.desc).map (fun d => d.parameters.length) = some 2 := by decide +kernel
set_option maxRecDepth 100000 in
set_option maxHeartbeats 1000000 in
theorem tL_36 {ad : Nat → Nat → Nat} (X : Ctx) {RQ : LR → Room × (State → Prop)} {fc : LR → Nat} {b L : Nat} {xs : Nat → Int32} (hXS : XS X b L xs) (F : Nat) (x3 : Int32) (hin : ∀ j : Int32, 0 ≤ j → j ≤ 6 → vp_in (x3 + j) L) (rec : St → Option LR) (hrec : ∀ (γ : Nat → Nat) (S : St), JJ X ad γ RQ fc 11 426 cL_law 4 RL wsL ret (rec S) S 1793 [(0, .ref b), (1, .ref (ad 10 0)), (2, .ref (ad 11 0)), (3, .int x3)] []) (γ : Nat → Nat) (S : St) : JJ X ad γ RQ fc 11 426 cL_law 4 RL wsL ret (fL_36 F (xs (x3 + 1).toNatClampNeg) (xs (x3 + 2).toNatClampNeg) rec S) S 1671 [(0, .ref b), (1, .ref (ad 10 0)), (2, .ref (ad 11 0)), (3, .int x3)] [] := by
  unfold fL_36
  refine j_aload_n 1671 1 dL_law_1671 rfl rfl ?_
  refine j_aload_n 1672 0 dL_law_1672 rfl rfl ?_
  refine j_iload_n 1673 3 dL_law_1673 rfl rfl ?_
  refine j_iconst (v := 1) 1674 dL_law_1674 (by decide) ?_
  refine j_iadd 1675 dL_law_1675 ?_
  refine j_sld hXS 1676 (hin 1 (by decide) (by decide)) dL_law_1676 ?_
  refine j_aload_n 1677 0 dL_law_1677 rfl rfl ?_
  refine j_iload_n 1678 3 dL_law_1678 rfl rfl ?_
  refine j_iconst (v := 2) 1679 dL_law_1679 (by decide) ?_
  refine j_iadd 1680 dL_law_1680 ?_
  refine j_sld hXS 1681 (hin 2 (by decide) (by decide)) dL_law_1681 ?_
  refine j_callV_ei 1682 (nn := 0) rfl (by decide) (prs_mem (by decide) (by decide)) [.int (xs (x3 + 1).toNatClampNeg), .int (xs (x3 + 2).toNatClampNeg)] [] gL_law_X11_settlement rfl eL11_36 ⟨Nat.le_of_ble_eq_true rfl, Nat.le_of_ble_eq_true rfl⟩ rfl rfl (Nat.le_of_ble_eq_true rfl) dL_law_1682 (kX11_settlement _ _ _) (fun r γ => ?_)
  refine j_aload_n 1685 2 dL_law_1685 rfl rfl ?_
  refine j_aload_n 1686 0 dL_law_1686 rfl rfl ?_
  refine j_iload_n 1687 3 dL_law_1687 rfl rfl ?_
  refine j_iconst (v := 1) 1688 dL_law_1688 (by decide) ?_
  refine j_iadd 1689 dL_law_1689 ?_
  refine j_sld hXS 1690 (hin 1 (by decide) (by decide)) dL_law_1690 ?_
  refine j_aload_n 1691 0 dL_law_1691 rfl rfl ?_
  refine j_iload_n 1692 3 dL_law_1692 rfl rfl ?_
  refine j_iconst (v := 2) 1693 dL_law_1693 (by decide) ?_
  refine j_iadd 1694 dL_law_1694 ?_
  refine j_sld hXS 1695 (hin 2 (by decide) (by decide)) dL_law_1695 ?_
  refine j_callV_ei 1696 (nn := 0) rfl (by decide) (prs_mem (by decide) (by decide)) [.int (xs (x3 + 1).toNatClampNeg), .int (xs (x3 + 2).toNatClampNeg)] [.int r.1] gL_law_X12_settlement rfl eL12_36 ⟨Nat.le_of_ble_eq_true rfl, Nat.le_of_ble_eq_true rfl⟩ rfl rfl (Nat.le_of_ble_eq_true rfl) dL_law_1696 (kX12_settlement _ _ _) (fun q γ => ?_)
  refine j_icmp_eq 1699 1793 dL_law_1699 (by decide) (fun _ => ?_) (fun _ => ?_)
  · exact hrec _ _
  · exact j_none
def fL_37 (F : Nat) (a1 : Int32) (rec : St → Option LR) (S : St) : Option LR := cal (fX11_topped F S a1) fun r => cal (fX12_topped F S a1) fun q => if r = q then rec S else none
theorem eL11_37 : yX11_topped.cls = RX11 ∧ yX11_topped.cls ≠ "java/lang/invoke/MethodHandle" ∧ yX11_topped.cls ≠ "java/lang/invoke/VarHandle" ∧ (parseMethodDescriptor yX11_topped.desc).map (fun d => d.parameters.length) = some 1 := by decide +kernel
theorem eL12_37 : yX12_topped.cls = RX12 ∧ yX12_topped.cls ≠ "java/lang/invoke/MethodHandle" ∧ yX12_topped.cls ≠ "java/lang/invoke/VarHandle" ∧ (parseMethodDescriptor yX12_topped.desc).map (fun d => d.parameters.length) = some 1 := by decide +kernel
set_option maxRecDepth 100000 in
set_option maxHeartbeats 1000000 in
theorem tL_37 {ad : Nat → Nat → Nat} (X : Ctx) {RQ : LR → Room × (State → Prop)} {fc : LR → Nat} {b L : Nat} {xs : Nat → Int32} (hXS : XS X b L xs) (F : Nat) (x3 : Int32) (hin : ∀ j : Int32, 0 ≤ j → j ≤ 6 → vp_in (x3 + j) L) (rec : St → Option LR) (hrec : ∀ (γ : Nat → Nat) (S : St), JJ X ad γ RQ fc 11 426 cL_law 4 RL wsL ret (rec S) S 1793 [(0, .ref b), (1, .ref (ad 10 0)), (2, .ref (ad 11 0)), (3, .int x3)] []) (γ : Nat → Nat) (S : St) : JJ X ad γ RQ fc 11 426 cL_law 4 RL wsL ret (fL_37 F (xs (x3 + 1).toNatClampNeg) rec S) S 1704 [(0, .ref b), (1, .ref (ad 10 0)), (2, .ref (ad 11 0)), (3, .int x3)] [] := by
  unfold fL_37
  refine j_aload_n 1704 1 dL_law_1704 rfl rfl ?_
  refine j_aload_n 1705 0 dL_law_1705 rfl rfl ?_
  refine j_iload_n 1706 3 dL_law_1706 rfl rfl ?_
  refine j_iconst (v := 1) 1707 dL_law_1707 (by decide) ?_
  refine j_iadd 1708 dL_law_1708 ?_
  refine j_sld hXS 1709 (hin 1 (by decide) (by decide)) dL_law_1709 ?_
  refine j_callV_pi 1710 (nn := 0) rfl (by decide) (prs_mem (by decide) (by decide)) [.int (xs (x3 + 1).toNatClampNeg)] [] gL_law_X11_topped rfl eL11_37 ⟨Nat.le_of_ble_eq_true rfl, Nat.le_of_ble_eq_true rfl⟩ rfl rfl (Nat.le_of_ble_eq_true rfl) dL_law_1710 (kX11_topped F _ _) (fun r γ => ?_)
  refine j_aload_n 1713 2 dL_law_1713 rfl rfl ?_
  refine j_aload_n 1714 0 dL_law_1714 rfl rfl ?_
  refine j_iload_n 1715 3 dL_law_1715 rfl rfl ?_
  refine j_iconst (v := 1) 1716 dL_law_1716 (by decide) ?_
  refine j_iadd 1717 dL_law_1717 ?_
  refine j_sld hXS 1718 (hin 1 (by decide) (by decide)) dL_law_1718 ?_
  refine j_callV_pi 1719 (nn := 0) rfl (by decide) (prs_mem (by decide) (by decide)) [.int (xs (x3 + 1).toNatClampNeg)] [.int r] gL_law_X12_topped rfl eL12_37 ⟨Nat.le_of_ble_eq_true rfl, Nat.le_of_ble_eq_true rfl⟩ rfl rfl (Nat.le_of_ble_eq_true rfl) dL_law_1719 (kX12_topped F _ _) (fun q γ => ?_)
  refine j_icmp_eq 1722 1793 dL_law_1722 (by decide) (fun _ => ?_) (fun _ => ?_)
  · exact hrec _ _
  · exact j_none
def fL_38 (F : Nat) (a1 : Int32) (a2 : Int32) (a3 : Int32) (rec : St → Option LR) (S : St) : Option LR := cal (fX11_plan F S a1 a2 a3) fun r => cal (fX12_plan F r.2 a1 a2 a3) fun q => if r.1 = q.1 then rec q.2 else none
theorem eL11_38 : yX11_plan.cls = RX11 ∧ yX11_plan.cls ≠ "java/lang/invoke/MethodHandle" ∧ yX11_plan.cls ≠ "java/lang/invoke/VarHandle" ∧ (parseMethodDescriptor yX11_plan.desc).map (fun d => d.parameters.length) = some 3 := by decide +kernel
theorem eL12_38 : yX12_plan.cls = RX12 ∧ yX12_plan.cls ≠ "java/lang/invoke/MethodHandle" ∧ yX12_plan.cls ≠ "java/lang/invoke/VarHandle" ∧ (parseMethodDescriptor yX12_plan.desc).map (fun d => d.parameters.length) = some 3 := by decide +kernel
set_option maxRecDepth 100000 in
set_option maxHeartbeats 1000000 in
theorem tL_38 {ad : Nat → Nat → Nat} (X : Ctx) {RQ : LR → Room × (State → Prop)} {fc : LR → Nat} {b L : Nat} {xs : Nat → Int32} (hXS : XS X b L xs) (F : Nat) (x3 : Int32) (hin : ∀ j : Int32, 0 ≤ j → j ≤ 6 → vp_in (x3 + j) L) (rec : St → Option LR) (hrec : ∀ (γ : Nat → Nat) (S : St), JJ X ad γ RQ fc 11 426 cL_law 4 RL wsL ret (rec S) S 1793 [(0, .ref b), (1, .ref (ad 10 0)), (2, .ref (ad 11 0)), (3, .int x3)] []) (γ : Nat → Nat) (S : St) : JJ X ad γ RQ fc 11 426 cL_law 4 RL wsL ret (fL_38 F (xs (x3 + 1).toNatClampNeg) (xs (x3 + 2).toNatClampNeg) (xs (x3 + 3).toNatClampNeg) rec S) S 1727 [(0, .ref b), (1, .ref (ad 10 0)), (2, .ref (ad 11 0)), (3, .int x3)] [] := by
  unfold fL_38
  refine j_aload_n 1727 1 dL_law_1727 rfl rfl ?_
  refine j_aload_n 1728 0 dL_law_1728 rfl rfl ?_
  refine j_iload_n 1729 3 dL_law_1729 rfl rfl ?_
  refine j_iconst (v := 1) 1730 dL_law_1730 (by decide) ?_
  refine j_iadd 1731 dL_law_1731 ?_
  refine j_sld hXS 1732 (hin 1 (by decide) (by decide)) dL_law_1732 ?_
  refine j_aload_n 1733 0 dL_law_1733 rfl rfl ?_
  refine j_iload_n 1734 3 dL_law_1734 rfl rfl ?_
  refine j_iconst (v := 2) 1735 dL_law_1735 (by decide) ?_
  refine j_iadd 1736 dL_law_1736 ?_
  refine j_sld hXS 1737 (hin 2 (by decide) (by decide)) dL_law_1737 ?_
  refine j_aload_n 1738 0 dL_law_1738 rfl rfl ?_
  refine j_iload_n 1739 3 dL_law_1739 rfl rfl ?_
  refine j_iconst (v := 3) 1740 dL_law_1740 (by decide) ?_
  refine j_iadd 1741 dL_law_1741 ?_
  refine j_sld hXS 1742 (hin 3 (by decide) (by decide)) dL_law_1742 ?_
  refine j_callV_ei 1743 (nn := 0) rfl (by decide) (prs_mem (by decide) (by decide)) [.int (xs (x3 + 1).toNatClampNeg), .int (xs (x3 + 2).toNatClampNeg), .int (xs (x3 + 3).toNatClampNeg)] [] gL_law_X11_plan rfl eL11_38 ⟨Nat.le_of_ble_eq_true rfl, Nat.le_of_ble_eq_true rfl⟩ rfl rfl (Nat.le_of_ble_eq_true rfl) dL_law_1743 (kX11_plan F _ _ _ _) (fun r γ => ?_)
  refine j_aload_n 1746 2 dL_law_1746 rfl rfl ?_
  refine j_aload_n 1747 0 dL_law_1747 rfl rfl ?_
  refine j_iload_n 1748 3 dL_law_1748 rfl rfl ?_
  refine j_iconst (v := 1) 1749 dL_law_1749 (by decide) ?_
  refine j_iadd 1750 dL_law_1750 ?_
  refine j_sld hXS 1751 (hin 1 (by decide) (by decide)) dL_law_1751 ?_
  refine j_aload_n 1752 0 dL_law_1752 rfl rfl ?_
  refine j_iload_n 1753 3 dL_law_1753 rfl rfl ?_
  refine j_iconst (v := 2) 1754 dL_law_1754 (by decide) ?_
  refine j_iadd 1755 dL_law_1755 ?_
  refine j_sld hXS 1756 (hin 2 (by decide) (by decide)) dL_law_1756 ?_
  refine j_aload_n 1757 0 dL_law_1757 rfl rfl ?_
  refine j_iload_n 1758 3 dL_law_1758 rfl rfl ?_
  refine j_iconst (v := 3) 1759 dL_law_1759 (by decide) ?_
  refine j_iadd 1760 dL_law_1760 ?_
  refine j_sld hXS 1761 (hin 3 (by decide) (by decide)) dL_law_1761 ?_
  refine j_callV_ei 1762 (nn := 0) rfl (by decide) (prs_mem (by decide) (by decide)) [.int (xs (x3 + 1).toNatClampNeg), .int (xs (x3 + 2).toNatClampNeg), .int (xs (x3 + 3).toNatClampNeg)] [.int r.1] gL_law_X12_plan rfl eL12_38 ⟨Nat.le_of_ble_eq_true rfl, Nat.le_of_ble_eq_true rfl⟩ rfl rfl (Nat.le_of_ble_eq_true rfl) dL_law_1762 (kX12_plan F _ _ _ _) (fun q γ => ?_)
  refine j_icmp_eq 1765 1793 dL_law_1765 (by decide) (fun _ => ?_) (fun _ => ?_)
  · exact hrec _ _
  · exact j_none
def fL_39 (F : Nat) (a1 : Int32) (rec : St → Option LR) (S : St) : Option LR := cal (fX11_count S a1) fun r => cal (fX12_count S a1) fun q => if r = q then rec S else none
theorem eL11_39 : yX11_count.cls = RX11 ∧ yX11_count.cls ≠ "java/lang/invoke/MethodHandle" ∧ yX11_count.cls ≠ "java/lang/invoke/VarHandle" ∧ (parseMethodDescriptor yX11_count.desc).map (fun d => d.parameters.length) = some 1 := by decide +kernel
theorem eL12_39 : yX12_count.cls = RX12 ∧ yX12_count.cls ≠ "java/lang/invoke/MethodHandle" ∧ yX12_count.cls ≠ "java/lang/invoke/VarHandle" ∧ (parseMethodDescriptor yX12_count.desc).map (fun d => d.parameters.length) = some 1 := by decide +kernel
set_option maxRecDepth 100000 in
set_option maxHeartbeats 1000000 in
theorem tL_39 {ad : Nat → Nat → Nat} (X : Ctx) {RQ : LR → Room × (State → Prop)} {fc : LR → Nat} {b L : Nat} {xs : Nat → Int32} (hXS : XS X b L xs) (F : Nat) (x3 : Int32) (hin : ∀ j : Int32, 0 ≤ j → j ≤ 6 → vp_in (x3 + j) L) (rec : St → Option LR) (hrec : ∀ (γ : Nat → Nat) (S : St), JJ X ad γ RQ fc 11 426 cL_law 4 RL wsL ret (rec S) S 1793 [(0, .ref b), (1, .ref (ad 10 0)), (2, .ref (ad 11 0)), (3, .int x3)] []) (γ : Nat → Nat) (S : St) : JJ X ad γ RQ fc 11 426 cL_law 4 RL wsL ret (fL_39 F (xs (x3 + 1).toNatClampNeg) rec S) S 1770 [(0, .ref b), (1, .ref (ad 10 0)), (2, .ref (ad 11 0)), (3, .int x3)] [] := by
  unfold fL_39
  refine j_aload_n 1770 1 dL_law_1770 rfl rfl ?_
  refine j_aload_n 1771 0 dL_law_1771 rfl rfl ?_
  refine j_iload_n 1772 3 dL_law_1772 rfl rfl ?_
  refine j_iconst (v := 1) 1773 dL_law_1773 (by decide) ?_
  refine j_iadd 1774 dL_law_1774 ?_
  refine j_sld hXS 1775 (hin 1 (by decide) (by decide)) dL_law_1775 ?_
  refine j_callV_pi 1776 (nn := 0) rfl (by decide) (prs_mem (by decide) (by decide)) [.int (xs (x3 + 1).toNatClampNeg)] [] gL_law_X11_count rfl eL11_39 ⟨Nat.le_of_ble_eq_true rfl, Nat.le_of_ble_eq_true rfl⟩ rfl rfl (Nat.le_of_ble_eq_true rfl) dL_law_1776 (kX11_count _ _) (fun r γ => ?_)
  refine j_aload_n 1779 2 dL_law_1779 rfl rfl ?_
  refine j_aload_n 1780 0 dL_law_1780 rfl rfl ?_
  refine j_iload_n 1781 3 dL_law_1781 rfl rfl ?_
  refine j_iconst (v := 1) 1782 dL_law_1782 (by decide) ?_
  refine j_iadd 1783 dL_law_1783 ?_
  refine j_sld hXS 1784 (hin 1 (by decide) (by decide)) dL_law_1784 ?_
  refine j_callV_pi 1785 (nn := 0) rfl (by decide) (prs_mem (by decide) (by decide)) [.int (xs (x3 + 1).toNatClampNeg)] [.int r] gL_law_X12_count rfl eL12_39 ⟨Nat.le_of_ble_eq_true rfl, Nat.le_of_ble_eq_true rfl⟩ rfl rfl (Nat.le_of_ble_eq_true rfl) dL_law_1785 (kX12_count _ _) (fun q γ => ?_)
  refine j_icmp_eq 1788 1793 dL_law_1788 (by decide) (fun _ => ?_) (fun _ => ?_)
  · exact hrec _ _
  · exact j_none
def fL_op (F : Nat) (xs : Nat → Int32) (x3 op : Int32) (rec : St → Option LR) (S : St) : Option LR := if op = 0 then fL_0 F (xs (x3 + 1).toNatClampNeg) (xs (x3 + 2).toNatClampNeg) (xs (x3 + 3).toNatClampNeg) (xs (x3 + 4).toNatClampNeg) rec S else if op = 1 then fL_1 F (xs (x3 + 1).toNatClampNeg) (xs (x3 + 2).toNatClampNeg) (xs (x3 + 3).toNatClampNeg) (xs (x3 + 4).toNatClampNeg) rec S else if op = 2 then fL_2 F (xs (x3 + 1).toNatClampNeg) rec S else if op = 3 then fL_3 F (xs (x3 + 1).toNatClampNeg) rec S else if op = 4 then fL_4 F (xs (x3 + 1).toNatClampNeg) rec S else if op = 5 then fL_5 F (xs (x3 + 1).toNatClampNeg) (xs (x3 + 2).toNatClampNeg) (xs (x3 + 3).toNatClampNeg) rec S else if op = 6 then fL_6 F (xs (x3 + 1).toNatClampNeg) (xs (x3 + 2).toNatClampNeg) (xs (x3 + 3).toNatClampNeg) (xs (x3 + 4).toNatClampNeg) (xs (x3 + 5).toNatClampNeg) rec S else if op = 7 then fL_7 F (xs (x3 + 1).toNatClampNeg) (xs (x3 + 2).toNatClampNeg) (xs (x3 + 3).toNatClampNeg) (xs (x3 + 4).toNatClampNeg) (xs (x3 + 5).toNatClampNeg) rec S else if op = 8 then fL_8 F (xs (x3 + 1).toNatClampNeg) (xs (x3 + 2).toNatClampNeg) (xs (x3 + 3).toNatClampNeg) rec S else if op = 9 then fL_9 F (xs (x3 + 1).toNatClampNeg) (xs (x3 + 2).toNatClampNeg) rec S else if op = 10 then fL_10 F (xs (x3 + 1).toNatClampNeg) (xs (x3 + 2).toNatClampNeg) (xs (x3 + 3).toNatClampNeg) rec S else if op = 11 then fL_11 F (xs (x3 + 1).toNatClampNeg) (xs (x3 + 2).toNatClampNeg) (xs (x3 + 3).toNatClampNeg) rec S else if op = 12 then fL_12 F (xs (x3 + 1).toNatClampNeg) (xs (x3 + 2).toNatClampNeg) rec S else if op = 13 then fL_13 F (xs (x3 + 1).toNatClampNeg) (xs (x3 + 2).toNatClampNeg) rec S else if op = 14 then fL_14 F (xs (x3 + 1).toNatClampNeg) (xs (x3 + 2).toNatClampNeg) (xs (x3 + 3).toNatClampNeg) (xs (x3 + 4).toNatClampNeg) rec S else if op = 15 then fL_15 F (xs (x3 + 1).toNatClampNeg) (xs (x3 + 2).toNatClampNeg) rec S else if op = 16 then fL_16 F (xs (x3 + 1).toNatClampNeg) (xs (x3 + 2).toNatClampNeg) rec S else if op = 17 then fL_17 F (xs (x3 + 1).toNatClampNeg) rec S else if op = 18 then fL_18 F (xs (x3 + 1).toNatClampNeg) (xs (x3 + 2).toNatClampNeg) (xs (x3 + 3).toNatClampNeg) rec S else if op = 19 then fL_19 F (xs (x3 + 1).toNatClampNeg) (xs (x3 + 2).toNatClampNeg) (xs (x3 + 3).toNatClampNeg) rec S else if op = 20 then fL_20 F (xs (x3 + 1).toNatClampNeg) (xs (x3 + 2).toNatClampNeg) (xs (x3 + 3).toNatClampNeg) rec S else if op = 21 then fL_21 F (xs (x3 + 1).toNatClampNeg) (xs (x3 + 2).toNatClampNeg) (xs (x3 + 3).toNatClampNeg) (xs (x3 + 4).toNatClampNeg) rec S else if op = 22 then fL_22 F (xs (x3 + 1).toNatClampNeg) rec S else if op = 23 then fL_23 F (xs (x3 + 1).toNatClampNeg) rec S else if op = 24 then fL_24 F (xs (x3 + 1).toNatClampNeg) (xs (x3 + 2).toNatClampNeg) (xs (x3 + 3).toNatClampNeg) rec S else if op = 25 then fL_25 F (xs (x3 + 1).toNatClampNeg) rec S else if op = 26 then fL_26 F (xs (x3 + 1).toNatClampNeg) (xs (x3 + 2).toNatClampNeg) (xs (x3 + 3).toNatClampNeg) rec S else if op = 27 then fL_27 F (xs (x3 + 1).toNatClampNeg) (xs (x3 + 2).toNatClampNeg) (xs (x3 + 3).toNatClampNeg) rec S else if op = 28 then fL_28 F (xs (x3 + 1).toNatClampNeg) (xs (x3 + 2).toNatClampNeg) rec S else if op = 29 then fL_29 F (xs (x3 + 1).toNatClampNeg) (xs (x3 + 2).toNatClampNeg) (xs (x3 + 3).toNatClampNeg) (xs (x3 + 4).toNatClampNeg) (xs (x3 + 5).toNatClampNeg) (xs (x3 + 6).toNatClampNeg) rec S else if op = 30 then fL_30 F (xs (x3 + 1).toNatClampNeg) rec S else if op = 31 then fL_31 F (xs (x3 + 1).toNatClampNeg) (xs (x3 + 2).toNatClampNeg) rec S else if op = 32 then fL_32 F (xs (x3 + 1).toNatClampNeg) (xs (x3 + 2).toNatClampNeg) rec S else if op = 33 then fL_33 F (xs (x3 + 1).toNatClampNeg) (xs (x3 + 2).toNatClampNeg) (xs (x3 + 3).toNatClampNeg) rec S else if op = 34 then fL_34 F (xs (x3 + 1).toNatClampNeg) (xs (x3 + 2).toNatClampNeg) rec S else if op = 35 then fL_35 F (xs (x3 + 1).toNatClampNeg) (xs (x3 + 2).toNatClampNeg) (xs (x3 + 3).toNatClampNeg) rec S else if op = 36 then fL_36 F (xs (x3 + 1).toNatClampNeg) (xs (x3 + 2).toNatClampNeg) rec S else if op = 37 then fL_37 F (xs (x3 + 1).toNatClampNeg) rec S else if op = 38 then fL_38 F (xs (x3 + 1).toNatClampNeg) (xs (x3 + 2).toNatClampNeg) (xs (x3 + 3).toNatClampNeg) rec S else if op = 39 then fL_39 F (xs (x3 + 1).toNatClampNeg) rec S else rec S
theorem tab40 {x : Int32} (h0 : x ≠ 0) (h1 : x ≠ 1) (h2 : x ≠ 2) (h3 : x ≠ 3) (h4 : x ≠ 4) (h5 : x ≠ 5) (h6 : x ≠ 6) (h7 : x ≠ 7) (h8 : x ≠ 8) (h9 : x ≠ 9) (h10 : x ≠ 10) (h11 : x ≠ 11) (h12 : x ≠ 12) (h13 : x ≠ 13) (h14 : x ≠ 14) (h15 : x ≠ 15) (h16 : x ≠ 16) (h17 : x ≠ 17) (h18 : x ≠ 18) (h19 : x ≠ 19) (h20 : x ≠ 20) (h21 : x ≠ 21) (h22 : x ≠ 22) (h23 : x ≠ 23) (h24 : x ≠ 24) (h25 : x ≠ 25) (h26 : x ≠ 26) (h27 : x ≠ 27) (h28 : x ≠ 28) (h29 : x ≠ 29) (h30 : x ≠ 30) (h31 : x ≠ 31) (h32 : x ≠ 32) (h33 : x ≠ 33) (h34 : x ≠ 34) (h35 : x ≠ 35) (h36 : x ≠ 36) (h37 : x ≠ 37) (h38 : x ≠ 38) (h39 : x ≠ 39) : x.toInt < 0 ∨ 39 < x.toInt := by
  have g : ∀ k : Int32, x ≠ k → x.toInt ≠ k.toInt := fun k hk h => hk (Int32.toInt_inj.mp h)
  have := g 0 h0
  have := g 1 h1
  have := g 2 h2
  have := g 3 h3
  have := g 4 h4
  have := g 5 h5
  have := g 6 h6
  have := g 7 h7
  have := g 8 h8
  have := g 9 h9
  have := g 10 h10
  have := g 11 h11
  have := g 12 h12
  have := g 13 h13
  have := g 14 h14
  have := g 15 h15
  have := g 16 h16
  have := g 17 h17
  have := g 18 h18
  have := g 19 h19
  have := g 20 h20
  have := g 21 h21
  have := g 22 h22
  have := g 23 h23
  have := g 24 h24
  have := g 25 h25
  have := g 26 h26
  have := g 27 h27
  have := g 28 h28
  have := g 29 h29
  have := g 30 h30
  have := g 31 h31
  have := g 32 h32
  have := g 33 h33
  have := g 34 h34
  have := g 35 h35
  have := g 36 h36
  have := g 37 h37
  have := g 38 h38
  have := g 39 h39
  simp only [show (0 : Int32).toInt = 0 by decide, show (1 : Int32).toInt = 1 by decide, show (2 : Int32).toInt = 2 by decide, show (3 : Int32).toInt = 3 by decide, show (4 : Int32).toInt = 4 by decide, show (5 : Int32).toInt = 5 by decide, show (6 : Int32).toInt = 6 by decide, show (7 : Int32).toInt = 7 by decide, show (8 : Int32).toInt = 8 by decide, show (9 : Int32).toInt = 9 by decide, show (10 : Int32).toInt = 10 by decide, show (11 : Int32).toInt = 11 by decide, show (12 : Int32).toInt = 12 by decide, show (13 : Int32).toInt = 13 by decide, show (14 : Int32).toInt = 14 by decide, show (15 : Int32).toInt = 15 by decide, show (16 : Int32).toInt = 16 by decide, show (17 : Int32).toInt = 17 by decide, show (18 : Int32).toInt = 18 by decide, show (19 : Int32).toInt = 19 by decide, show (20 : Int32).toInt = 20 by decide, show (21 : Int32).toInt = 21 by decide, show (22 : Int32).toInt = 22 by decide, show (23 : Int32).toInt = 23 by decide, show (24 : Int32).toInt = 24 by decide, show (25 : Int32).toInt = 25 by decide, show (26 : Int32).toInt = 26 by decide, show (27 : Int32).toInt = 27 by decide, show (28 : Int32).toInt = 28 by decide, show (29 : Int32).toInt = 29 by decide, show (30 : Int32).toInt = 30 by decide, show (31 : Int32).toInt = 31 by decide, show (32 : Int32).toInt = 32 by decide, show (33 : Int32).toInt = 33 by decide, show (34 : Int32).toInt = 34 by decide, show (35 : Int32).toInt = 35 by decide, show (36 : Int32).toInt = 36 by decide, show (37 : Int32).toInt = 37 by decide, show (38 : Int32).toInt = 38 by decide, show (39 : Int32).toInt = 39 by decide] at *
  omega
set_option maxRecDepth 100000 in
set_option maxHeartbeats 1000000 in
theorem tL_op {ad : Nat → Nat → Nat} (X : Ctx) {RQ : LR → Room × (State → Prop)} {fc : LR → Nat} {b L : Nat} {xs : Nat → Int32} (hXS : XS X b L xs) (F : Nat) (x3 : Int32) (op : Int32) (hin : ∀ j : Int32, 0 ≤ j → j ≤ 6 → vp_in (x3 + j) L) (rec : St → Option LR) (hrec : ∀ (γ : Nat → Nat) (S : St), JJ X ad γ RQ fc 11 426 cL_law 4 RL wsL ret (rec S) S 1793 [(0, .ref b), (1, .ref (ad 10 0)), (2, .ref (ad 11 0)), (3, .int x3)] []) (γ : Nat → Nat) (S : St) : JJ X ad γ RQ fc 11 426 cL_law 4 RL wsL ret (fL_op F xs x3 op rec S) S 33 [(0, .ref b), (1, .ref (ad 10 0)), (2, .ref (ad 11 0)), (3, .int x3)] [.int op] := by
  unfold fL_op
  refine j_table (v := 0) (off := 175) 33 208 dL_law_33 (by decide) (by decide) (tL_0 X hXS F x3 hin rec hrec γ S) (fun h0 => ?_)
  refine j_table (v := 1) (off := 228) 33 261 dL_law_33 (by decide) (by decide) (tL_1 X hXS F x3 hin rec hrec γ S) (fun h1 => ?_)
  refine j_table (v := 2) (off := 301) 33 334 dL_law_33 (by decide) (by decide) (tL_2 X hXS F x3 hin rec hrec γ S) (fun h2 => ?_)
  refine j_table (v := 3) (off := 324) 33 357 dL_law_33 (by decide) (by decide) (tL_3 X hXS F x3 hin rec hrec γ S) (fun h3 => ?_)
  refine j_table (v := 4) (off := 347) 33 380 dL_law_33 (by decide) (by decide) (tL_4 X hXS F x3 hin rec hrec γ S) (fun h4 => ?_)
  refine j_table (v := 5) (off := 370) 33 403 dL_law_33 (by decide) (by decide) (tL_5 X hXS F x3 hin rec hrec γ S) (fun h5 => ?_)
  refine j_table (v := 6) (off := 413) 33 446 dL_law_33 (by decide) (by decide) (tL_6 X hXS F x3 hin rec hrec γ S) (fun h6 => ?_)
  refine j_table (v := 7) (off := 476) 33 509 dL_law_33 (by decide) (by decide) (tL_7 X hXS F x3 hin rec hrec γ S) (fun h7 => ?_)
  refine j_table (v := 8) (off := 539) 33 572 dL_law_33 (by decide) (by decide) (tL_8 X hXS F x3 hin rec hrec γ S) (fun h8 => ?_)
  refine j_table (v := 9) (off := 582) 33 615 dL_law_33 (by decide) (by decide) (tL_9 X hXS F x3 hin rec hrec γ S) (fun h9 => ?_)
  refine j_table (v := 10) (off := 615) 33 648 dL_law_33 (by decide) (by decide) (tL_10 X hXS F x3 hin rec hrec γ S) (fun h10 => ?_)
  refine j_table (v := 11) (off := 658) 33 691 dL_law_33 (by decide) (by decide) (tL_11 X hXS F x3 hin rec hrec γ S) (fun h11 => ?_)
  refine j_table (v := 12) (off := 701) 33 734 dL_law_33 (by decide) (by decide) (tL_12 X hXS F x3 hin rec hrec γ S) (fun h12 => ?_)
  refine j_table (v := 13) (off := 734) 33 767 dL_law_33 (by decide) (by decide) (tL_13 X hXS F x3 hin rec hrec γ S) (fun h13 => ?_)
  refine j_table (v := 14) (off := 767) 33 800 dL_law_33 (by decide) (by decide) (tL_14 X hXS F x3 hin rec hrec γ S) (fun h14 => ?_)
  refine j_table (v := 15) (off := 836) 33 869 dL_law_33 (by decide) (by decide) (tL_15 X hXS F x3 hin rec hrec γ S) (fun h15 => ?_)
  refine j_table (v := 16) (off := 869) 33 902 dL_law_33 (by decide) (by decide) (tL_16 X hXS F x3 hin rec hrec γ S) (fun h16 => ?_)
  refine j_table (v := 17) (off := 902) 33 935 dL_law_33 (by decide) (by decide) (tL_17 X hXS F x3 hin rec hrec γ S) (fun h17 => ?_)
  refine j_table (v := 18) (off := 925) 33 958 dL_law_33 (by decide) (by decide) (tL_18 X hXS F x3 hin rec hrec γ S) (fun h18 => ?_)
  refine j_table (v := 19) (off := 968) 33 1001 dL_law_33 (by decide) (by decide) (tL_19 X hXS F x3 hin rec hrec γ S) (fun h19 => ?_)
  refine j_table (v := 20) (off := 1011) 33 1044 dL_law_33 (by decide) (by decide) (tL_20 X hXS F x3 hin rec hrec γ S) (fun h20 => ?_)
  refine j_table (v := 21) (off := 1054) 33 1087 dL_law_33 (by decide) (by decide) (tL_21 X hXS F x3 hin rec hrec γ S) (fun h21 => ?_)
  refine j_table (v := 22) (off := 1107) 33 1140 dL_law_33 (by decide) (by decide) (tL_22 X hXS F x3 hin rec hrec γ S) (fun h22 => ?_)
  refine j_table (v := 23) (off := 1130) 33 1163 dL_law_33 (by decide) (by decide) (tL_23 X hXS F x3 hin rec hrec γ S) (fun h23 => ?_)
  refine j_table (v := 24) (off := 1153) 33 1186 dL_law_33 (by decide) (by decide) (tL_24 X hXS F x3 hin rec hrec γ S) (fun h24 => ?_)
  refine j_table (v := 25) (off := 1196) 33 1229 dL_law_33 (by decide) (by decide) (tL_25 X hXS F x3 hin rec hrec γ S) (fun h25 => ?_)
  refine j_table (v := 26) (off := 1219) 33 1252 dL_law_33 (by decide) (by decide) (tL_26 X hXS F x3 hin rec hrec γ S) (fun h26 => ?_)
  refine j_table (v := 27) (off := 1262) 33 1295 dL_law_33 (by decide) (by decide) (tL_27 X hXS F x3 hin rec hrec γ S) (fun h27 => ?_)
  refine j_table (v := 28) (off := 1306) 33 1339 dL_law_33 (by decide) (by decide) (tL_28 X hXS F x3 hin rec hrec γ S) (fun h28 => ?_)
  refine j_table (v := 29) (off := 1339) 33 1372 dL_law_33 (by decide) (by decide) (tL_29 X hXS F x3 hin rec hrec γ S) (fun h29 => ?_)
  refine j_table (v := 30) (off := 1414) 33 1447 dL_law_33 (by decide) (by decide) (tL_30 X hXS F x3 hin rec hrec γ S) (fun h30 => ?_)
  refine j_table (v := 31) (off := 1437) 33 1470 dL_law_33 (by decide) (by decide) (tL_31 X hXS F x3 hin rec hrec γ S) (fun h31 => ?_)
  refine j_table (v := 32) (off := 1470) 33 1503 dL_law_33 (by decide) (by decide) (tL_32 X hXS F x3 hin rec hrec γ S) (fun h32 => ?_)
  refine j_table (v := 33) (off := 1503) 33 1536 dL_law_33 (by decide) (by decide) (tL_33 X hXS F x3 hin rec hrec γ S) (fun h33 => ?_)
  refine j_table (v := 34) (off := 1562) 33 1595 dL_law_33 (by decide) (by decide) (tL_34 X hXS F x3 hin rec hrec γ S) (fun h34 => ?_)
  refine j_table (v := 35) (off := 1595) 33 1628 dL_law_33 (by decide) (by decide) (tL_35 X hXS F x3 hin rec hrec γ S) (fun h35 => ?_)
  refine j_table (v := 36) (off := 1638) 33 1671 dL_law_33 (by decide) (by decide) (tL_36 X hXS F x3 hin rec hrec γ S) (fun h36 => ?_)
  refine j_table (v := 37) (off := 1671) 33 1704 dL_law_33 (by decide) (by decide) (tL_37 X hXS F x3 hin rec hrec γ S) (fun h37 => ?_)
  refine j_table (v := 38) (off := 1694) 33 1727 dL_law_33 (by decide) (by decide) (tL_38 X hXS F x3 hin rec hrec γ S) (fun h38 => ?_)
  refine j_table (v := 39) (off := 1737) 33 1770 dL_law_33 (by decide) (by decide) (tL_39 X hXS F x3 hin rec hrec γ S) (fun h39 => ?_)
  refine j_tableD 33 1793 dL_law_33 (tab40 h0 h1 h2 h3 h4 h5 h6 h7 h8 h9 h10 h11 h12 h13 h14 h15 h16 h17 h18 h19 h20 h21 h22 h23 h24 h25 h26 h27 h28 h29 h30 h31 h32 h33 h34 h35 h36 h37 h38 h39) (by decide) ?_
  exact hrec γ S
