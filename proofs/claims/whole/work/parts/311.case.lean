theorem dL_law_196 : decode cL_law 196 = .ok (.aload_n 1, 1) := by decide +kernel
theorem dL_law_197 : decode cL_law 197 = .ok (.aload_n 0, 1) := by decide +kernel
theorem dL_law_198 : decode cL_law 198 = .ok (.iload_n 3, 1) := by decide +kernel
theorem dL_law_199 : decode cL_law 199 = .ok (.iconst 1, 1) := by decide +kernel
theorem dL_law_200 : decode cL_law 200 = .ok (.iadd, 1) := by decide +kernel
theorem dL_law_201 : decode cL_law 201 = .ok (.iaload, 1) := by decide +kernel
theorem dL_law_202 : decode cL_law 202 = .ok (.aload_n 0, 1) := by decide +kernel
theorem dL_law_203 : decode cL_law 203 = .ok (.iload_n 3, 1) := by decide +kernel
theorem dL_law_204 : decode cL_law 204 = .ok (.iconst 2, 1) := by decide +kernel
theorem dL_law_205 : decode cL_law 205 = .ok (.iadd, 1) := by decide +kernel
theorem dL_law_206 : decode cL_law 206 = .ok (.iaload, 1) := by decide +kernel
theorem dL_law_207 : decode cL_law 207 = .ok (.invokevirtual 13, 3) := by decide +kernel
theorem dL_law_210 : decode cL_law 210 = .ok (.aload_n 2, 1) := by decide +kernel
theorem dL_law_211 : decode cL_law 211 = .ok (.aload_n 0, 1) := by decide +kernel
theorem dL_law_212 : decode cL_law 212 = .ok (.iload_n 3, 1) := by decide +kernel
theorem dL_law_213 : decode cL_law 213 = .ok (.iconst 1, 1) := by decide +kernel
theorem dL_law_214 : decode cL_law 214 = .ok (.iadd, 1) := by decide +kernel
theorem dL_law_215 : decode cL_law 215 = .ok (.iaload, 1) := by decide +kernel
theorem dL_law_216 : decode cL_law 216 = .ok (.aload_n 0, 1) := by decide +kernel
theorem dL_law_217 : decode cL_law 217 = .ok (.iload_n 3, 1) := by decide +kernel
theorem dL_law_218 : decode cL_law 218 = .ok (.iconst 2, 1) := by decide +kernel
theorem dL_law_219 : decode cL_law 219 = .ok (.iadd, 1) := by decide +kernel
theorem dL_law_220 : decode cL_law 220 = .ok (.iaload, 1) := by decide +kernel
theorem dL_law_221 : decode cL_law 221 = .ok (.invokevirtual 17, 3) := by decide +kernel
theorem dL_law_224 : decode cL_law 224 = .ok (.if_icmp .eq 1045, 3) := by decide +kernel
theorem dL_law_227 : decode cL_law 227 = .ok (.iconst 0, 1) := by decide +kernel
theorem dL_law_228 : decode cL_law 228 = .ok (.ireturn, 1) := by decide +kernel
theorem wq_X7_type : tg_Y0 yX7_type cX7_type 4 (some .int) 2 ∧ Cond.instanceMethod yX7_type ∈ tg_gG ∧ Cond.selects yX7_type.cls yX7_type yX7_type ∈ tg_gG ∧ Cond.methodLink RL 13 yX7_type ∈ tg_gG := ⟨⟨tg_mem (List.mem_of_getElem? (i := 413) (by decide +kernel)) (by decide +kernel), wi_X7, by decide +kernel, by decide +kernel, by decide +kernel⟩, tg_mem (List.mem_of_getElem? (i := 411) (by decide +kernel)) (by decide +kernel), tg_mem (List.mem_of_getElem? (i := 412) (by decide +kernel)) (by decide +kernel), tg_mem (List.mem_of_getElem? (i := 410) (by decide +kernel)) (by decide +kernel)⟩
theorem wq_X8_type : tg_Y0 yX8_type cX8_type 3 (some .int) 2 ∧ Cond.instanceMethod yX8_type ∈ tg_gG ∧ Cond.selects yX8_type.cls yX8_type yX8_type ∈ tg_gG ∧ Cond.methodLink RL 17 yX8_type ∈ tg_gG := ⟨⟨tg_mem (List.mem_of_getElem? (i := 919) (by decide +kernel)) (by decide +kernel), wi_X8, by decide +kernel, by decide +kernel, by decide +kernel⟩, tg_mem (List.mem_of_getElem? (i := 917) (by decide +kernel)) (by decide +kernel), tg_mem (List.mem_of_getElem? (i := 918) (by decide +kernel)) (by decide +kernel), tg_mem (List.mem_of_getElem? (i := 916) (by decide +kernel)) (by decide +kernel)⟩
theorem lc_0 {x : tg_X} {b L : Nat} {xs : Nat → Int32} {bd : Nat → Nat} {S T : tg_S} {A : Nat → Nat → Nat} {i : Nat} (X : lq_M x b L xs) (hI : z_I S T A) (hi : i + 6 ≤ L) (k : ∀ S T A, z_I S T A → lq_G x b bd S T i 1269 []) : lq_G x b bd S T i 196 [] := by
  obtain ⟨S1, T1, r, A1, h1, h2, h3⟩ := e_type S T A hI (xs (i + 1)) (xs (i + 2))
  refine lq_x1 X dL_law_196 ?_
  refine lq_arg X (j := 1) (by decide) (by decide) hi dL_law_197 dL_law_198 dL_law_199 dL_law_200 dL_law_201 ?_
  refine lq_arg X (j := 2) (by decide) (by decide) hi dL_law_202 dL_law_203 dL_law_204 dL_law_205 dL_law_206 ?_
  refine lq_C (st := []) X (cm_X7_type _ _ _ _ _ h1) wq_X7_type.1 wq_X7_type.2.1 wq_X7_type.2.2.1 wq_X7_type.2.2.2 rfl ⟨rfl, rfl, Nat.le_of_ble_eq_true rfl, Nat.le_of_ble_eq_true rfl⟩ rfl rfl (Nat.le_of_ble_eq_true rfl) dL_law_207 rfl ?_
  refine lq_x2 X dL_law_210 ?_
  refine lq_arg X (j := 1) (by decide) (by decide) hi dL_law_211 dL_law_212 dL_law_213 dL_law_214 dL_law_215 ?_
  refine lq_arg X (j := 2) (by decide) (by decide) hi dL_law_216 dL_law_217 dL_law_218 dL_law_219 dL_law_220 ?_
  refine lq_R (st := [.int r]) X (cm_X8_type _ _ _ _ _ h2) wq_X8_type.1 wq_X8_type.2.1 wq_X8_type.2.2.1 wq_X8_type.2.2.2 rfl ⟨rfl, rfl, Nat.le_of_ble_eq_true rfl, Nat.le_of_ble_eq_true rfl⟩ rfl rfl (Nat.le_of_ble_eq_true rfl) dL_law_221 rfl ?_
  exact lq_same X dL_law_224 (by decide) (k S1 T1 A1 h3)
theorem dL_law_229 : decode cL_law 229 = .ok (.aload_n 1, 1) := by decide +kernel
theorem dL_law_230 : decode cL_law 230 = .ok (.aload_n 0, 1) := by decide +kernel
theorem dL_law_231 : decode cL_law 231 = .ok (.iload_n 3, 1) := by decide +kernel
theorem dL_law_232 : decode cL_law 232 = .ok (.iconst 1, 1) := by decide +kernel
theorem dL_law_233 : decode cL_law 233 = .ok (.iadd, 1) := by decide +kernel
theorem dL_law_234 : decode cL_law 234 = .ok (.iaload, 1) := by decide +kernel
theorem dL_law_235 : decode cL_law 235 = .ok (.invokevirtual 18, 3) := by decide +kernel
theorem dL_law_238 : decode cL_law 238 = .ok (.aload_n 2, 1) := by decide +kernel
theorem dL_law_239 : decode cL_law 239 = .ok (.aload_n 0, 1) := by decide +kernel
theorem dL_law_240 : decode cL_law 240 = .ok (.iload_n 3, 1) := by decide +kernel
theorem dL_law_241 : decode cL_law 241 = .ok (.iconst 1, 1) := by decide +kernel
theorem dL_law_242 : decode cL_law 242 = .ok (.iadd, 1) := by decide +kernel
theorem dL_law_243 : decode cL_law 243 = .ok (.iaload, 1) := by decide +kernel
theorem dL_law_244 : decode cL_law 244 = .ok (.invokevirtual 22, 3) := by decide +kernel
theorem dL_law_247 : decode cL_law 247 = .ok (.if_icmp .eq 1022, 3) := by decide +kernel
theorem dL_law_250 : decode cL_law 250 = .ok (.iconst 0, 1) := by decide +kernel
theorem dL_law_251 : decode cL_law 251 = .ok (.ireturn, 1) := by decide +kernel
theorem wq_X7_wipe : tg_Y0 yX7_wipe cX7_wipe 3 (some .int) 1 ∧ Cond.instanceMethod yX7_wipe ∈ tg_gG ∧ Cond.selects yX7_wipe.cls yX7_wipe yX7_wipe ∈ tg_gG ∧ Cond.methodLink RL 18 yX7_wipe ∈ tg_gG := ⟨⟨tg_mem (List.mem_of_getElem? (i := 428) (by decide +kernel)) (by decide +kernel), wi_X7, by decide +kernel, by decide +kernel, by decide +kernel⟩, tg_mem (List.mem_of_getElem? (i := 426) (by decide +kernel)) (by decide +kernel), tg_mem (List.mem_of_getElem? (i := 427) (by decide +kernel)) (by decide +kernel), tg_mem (List.mem_of_getElem? (i := 425) (by decide +kernel)) (by decide +kernel)⟩
theorem wq_X8_wipe : tg_Y0 yX8_wipe cX8_wipe 3 (some .int) 1 ∧ Cond.instanceMethod yX8_wipe ∈ tg_gG ∧ Cond.selects yX8_wipe.cls yX8_wipe yX8_wipe ∈ tg_gG ∧ Cond.methodLink RL 22 yX8_wipe ∈ tg_gG := ⟨⟨tg_mem (List.mem_of_getElem? (i := 929) (by decide +kernel)) (by decide +kernel), wi_X8, by decide +kernel, by decide +kernel, by decide +kernel⟩, tg_mem (List.mem_of_getElem? (i := 927) (by decide +kernel)) (by decide +kernel), tg_mem (List.mem_of_getElem? (i := 928) (by decide +kernel)) (by decide +kernel), tg_mem (List.mem_of_getElem? (i := 926) (by decide +kernel)) (by decide +kernel)⟩
theorem lc_1 {x : tg_X} {b L : Nat} {xs : Nat → Int32} {bd : Nat → Nat} {S T : tg_S} {A : Nat → Nat → Nat} {i : Nat} (X : lq_M x b L xs) (hI : z_I S T A) (hi : i + 6 ≤ L) (k : ∀ S T A, z_I S T A → lq_G x b bd S T i 1269 []) : lq_G x b bd S T i 229 [] := by
  obtain ⟨S1, T1, r, A1, h1, h2, h3⟩ := e_wipe S T A hI (xs (i + 1))
  refine lq_x1 X dL_law_229 ?_
  refine lq_arg X (j := 1) (by decide) (by decide) hi dL_law_230 dL_law_231 dL_law_232 dL_law_233 dL_law_234 ?_
  refine lq_C (st := []) X (cm_X7_wipe _ _ _ _ _ h1) wq_X7_wipe.1 wq_X7_wipe.2.1 wq_X7_wipe.2.2.1 wq_X7_wipe.2.2.2 rfl ⟨rfl, rfl, Nat.le_of_ble_eq_true rfl, Nat.le_of_ble_eq_true rfl⟩ rfl rfl (Nat.le_of_ble_eq_true rfl) dL_law_235 rfl ?_
  refine lq_x2 X dL_law_238 ?_
  refine lq_arg X (j := 1) (by decide) (by decide) hi dL_law_239 dL_law_240 dL_law_241 dL_law_242 dL_law_243 ?_
  refine lq_R (st := [.int r]) X (cm_X8_wipe _ _ _ _ _ h2) wq_X8_wipe.1 wq_X8_wipe.2.1 wq_X8_wipe.2.2.1 wq_X8_wipe.2.2.2 rfl ⟨rfl, rfl, Nat.le_of_ble_eq_true rfl, Nat.le_of_ble_eq_true rfl⟩ rfl rfl (Nat.le_of_ble_eq_true rfl) dL_law_244 rfl ?_
  exact lq_same X dL_law_247 (by decide) (k S1 T1 A1 h3)
theorem dL_law_252 : decode cL_law 252 = .ok (.aload_n 1, 1) := by decide +kernel
theorem dL_law_253 : decode cL_law 253 = .ok (.aload_n 0, 1) := by decide +kernel
theorem dL_law_254 : decode cL_law 254 = .ok (.iload_n 3, 1) := by decide +kernel
theorem dL_law_255 : decode cL_law 255 = .ok (.iconst 1, 1) := by decide +kernel
theorem dL_law_256 : decode cL_law 256 = .ok (.iadd, 1) := by decide +kernel
theorem dL_law_257 : decode cL_law 257 = .ok (.iaload, 1) := by decide +kernel
theorem dL_law_258 : decode cL_law 258 = .ok (.invokevirtual 23, 3) := by decide +kernel
theorem dL_law_261 : decode cL_law 261 = .ok (.aload_n 2, 1) := by decide +kernel
theorem dL_law_262 : decode cL_law 262 = .ok (.aload_n 0, 1) := by decide +kernel
theorem dL_law_263 : decode cL_law 263 = .ok (.iload_n 3, 1) := by decide +kernel
theorem dL_law_264 : decode cL_law 264 = .ok (.iconst 1, 1) := by decide +kernel
theorem dL_law_265 : decode cL_law 265 = .ok (.iadd, 1) := by decide +kernel
theorem dL_law_266 : decode cL_law 266 = .ok (.iaload, 1) := by decide +kernel
theorem dL_law_267 : decode cL_law 267 = .ok (.invokevirtual 26, 3) := by decide +kernel
theorem dL_law_270 : decode cL_law 270 = .ok (.if_icmp .eq 999, 3) := by decide +kernel
theorem dL_law_273 : decode cL_law 273 = .ok (.iconst 0, 1) := by decide +kernel
theorem dL_law_274 : decode cL_law 274 = .ok (.ireturn, 1) := by decide +kernel
theorem wq_X7_undo : tg_Y0 yX7_undo cX7_undo 3 (some .int) 1 ∧ Cond.instanceMethod yX7_undo ∈ tg_gG ∧ Cond.selects yX7_undo.cls yX7_undo yX7_undo ∈ tg_gG ∧ Cond.methodLink RL 23 yX7_undo ∈ tg_gG := ⟨⟨tg_mem (List.mem_of_getElem? (i := 436) (by decide +kernel)) (by decide +kernel), wi_X7, by decide +kernel, by decide +kernel, by decide +kernel⟩, tg_mem (List.mem_of_getElem? (i := 434) (by decide +kernel)) (by decide +kernel), tg_mem (List.mem_of_getElem? (i := 435) (by decide +kernel)) (by decide +kernel), tg_mem (List.mem_of_getElem? (i := 433) (by decide +kernel)) (by decide +kernel)⟩
theorem wq_X8_undo : tg_Y0 yX8_undo cX8_undo 2 (some .int) 1 ∧ Cond.instanceMethod yX8_undo ∈ tg_gG ∧ Cond.selects yX8_undo.cls yX8_undo yX8_undo ∈ tg_gG ∧ Cond.methodLink RL 26 yX8_undo ∈ tg_gG := ⟨⟨tg_mem (List.mem_of_getElem? (i := 933) (by decide +kernel)) (by decide +kernel), wi_X8, by decide +kernel, by decide +kernel, by decide +kernel⟩, tg_mem (List.mem_of_getElem? (i := 931) (by decide +kernel)) (by decide +kernel), tg_mem (List.mem_of_getElem? (i := 932) (by decide +kernel)) (by decide +kernel), tg_mem (List.mem_of_getElem? (i := 930) (by decide +kernel)) (by decide +kernel)⟩
theorem lc_2 {x : tg_X} {b L : Nat} {xs : Nat → Int32} {bd : Nat → Nat} {S T : tg_S} {A : Nat → Nat → Nat} {i : Nat} (X : lq_M x b L xs) (hI : z_I S T A) (hi : i + 6 ≤ L) (k : ∀ S T A, z_I S T A → lq_G x b bd S T i 1269 []) : lq_G x b bd S T i 252 [] := by
  obtain ⟨S1, T1, r, A1, h1, h2, h3⟩ := e_undo S T A hI (xs (i + 1))
  refine lq_x1 X dL_law_252 ?_
  refine lq_arg X (j := 1) (by decide) (by decide) hi dL_law_253 dL_law_254 dL_law_255 dL_law_256 dL_law_257 ?_
  refine lq_C (st := []) X (cm_X7_undo _ _ _ _ _ h1) wq_X7_undo.1 wq_X7_undo.2.1 wq_X7_undo.2.2.1 wq_X7_undo.2.2.2 rfl ⟨rfl, rfl, Nat.le_of_ble_eq_true rfl, Nat.le_of_ble_eq_true rfl⟩ rfl rfl (Nat.le_of_ble_eq_true rfl) dL_law_258 rfl ?_
  refine lq_x2 X dL_law_261 ?_
  refine lq_arg X (j := 1) (by decide) (by decide) hi dL_law_262 dL_law_263 dL_law_264 dL_law_265 dL_law_266 ?_
  refine lq_R (st := [.int r]) X (cm_X8_undo _ _ _ _ _ h2) wq_X8_undo.1 wq_X8_undo.2.1 wq_X8_undo.2.2.1 wq_X8_undo.2.2.2 rfl ⟨rfl, rfl, Nat.le_of_ble_eq_true rfl, Nat.le_of_ble_eq_true rfl⟩ rfl rfl (Nat.le_of_ble_eq_true rfl) dL_law_267 rfl ?_
  exact lq_same X dL_law_270 (by decide) (k S1 T1 A1 h3)
theorem dL_law_275 : decode cL_law 275 = .ok (.aload_n 1, 1) := by decide +kernel
theorem dL_law_276 : decode cL_law 276 = .ok (.aload_n 0, 1) := by decide +kernel
theorem dL_law_277 : decode cL_law 277 = .ok (.iload_n 3, 1) := by decide +kernel
theorem dL_law_278 : decode cL_law 278 = .ok (.iconst 1, 1) := by decide +kernel
theorem dL_law_279 : decode cL_law 279 = .ok (.iadd, 1) := by decide +kernel
theorem dL_law_280 : decode cL_law 280 = .ok (.iaload, 1) := by decide +kernel
theorem dL_law_281 : decode cL_law 281 = .ok (.invokevirtual 27, 3) := by decide +kernel
theorem dL_law_284 : decode cL_law 284 = .ok (.aload_n 2, 1) := by decide +kernel
theorem dL_law_285 : decode cL_law 285 = .ok (.aload_n 0, 1) := by decide +kernel
theorem dL_law_286 : decode cL_law 286 = .ok (.iload_n 3, 1) := by decide +kernel
theorem dL_law_287 : decode cL_law 287 = .ok (.iconst 1, 1) := by decide +kernel
theorem dL_law_288 : decode cL_law 288 = .ok (.iadd, 1) := by decide +kernel
theorem dL_law_289 : decode cL_law 289 = .ok (.iaload, 1) := by decide +kernel
theorem dL_law_290 : decode cL_law 290 = .ok (.invokevirtual 30, 3) := by decide +kernel
theorem dL_law_293 : decode cL_law 293 = .ok (.if_icmp .eq 976, 3) := by decide +kernel
theorem dL_law_296 : decode cL_law 296 = .ok (.iconst 0, 1) := by decide +kernel
theorem dL_law_297 : decode cL_law 297 = .ok (.ireturn, 1) := by decide +kernel
theorem wq_X7_fault : tg_Y0 yX7_fault cX7_fault 2 (some .int) 1 ∧ Cond.instanceMethod yX7_fault ∈ tg_gG ∧ Cond.selects yX7_fault.cls yX7_fault yX7_fault ∈ tg_gG ∧ Cond.methodLink RL 27 yX7_fault ∈ tg_gG := ⟨⟨tg_mem (List.mem_of_getElem? (i := 448) (by decide +kernel)) (by decide +kernel), wi_X7, by decide +kernel, by decide +kernel, by decide +kernel⟩, tg_mem (List.mem_of_getElem? (i := 446) (by decide +kernel)) (by decide +kernel), tg_mem (List.mem_of_getElem? (i := 447) (by decide +kernel)) (by decide +kernel), tg_mem (List.mem_of_getElem? (i := 445) (by decide +kernel)) (by decide +kernel)⟩
theorem wq_X8_fault : tg_Y0 yX8_fault cX8_fault 2 (some .int) 1 ∧ Cond.instanceMethod yX8_fault ∈ tg_gG ∧ Cond.selects yX8_fault.cls yX8_fault yX8_fault ∈ tg_gG ∧ Cond.methodLink RL 30 yX8_fault ∈ tg_gG := ⟨⟨tg_mem (List.mem_of_getElem? (i := 937) (by decide +kernel)) (by decide +kernel), wi_X8, by decide +kernel, by decide +kernel, by decide +kernel⟩, tg_mem (List.mem_of_getElem? (i := 935) (by decide +kernel)) (by decide +kernel), tg_mem (List.mem_of_getElem? (i := 936) (by decide +kernel)) (by decide +kernel), tg_mem (List.mem_of_getElem? (i := 934) (by decide +kernel)) (by decide +kernel)⟩
theorem lc_3 {x : tg_X} {b L : Nat} {xs : Nat → Int32} {bd : Nat → Nat} {S T : tg_S} {A : Nat → Nat → Nat} {i : Nat} (X : lq_M x b L xs) (hI : z_I S T A) (hi : i + 6 ≤ L) (k : ∀ S T A, z_I S T A → lq_G x b bd S T i 1269 []) : lq_G x b bd S T i 275 [] := by
  obtain ⟨S1, T1, r, A1, h1, h2, h3⟩ := e_fault S T A hI (xs (i + 1))
  refine lq_x1 X dL_law_275 ?_
  refine lq_arg X (j := 1) (by decide) (by decide) hi dL_law_276 dL_law_277 dL_law_278 dL_law_279 dL_law_280 ?_
  refine lq_C (st := []) X (cm_X7_fault _ _ _ _ _ h1) wq_X7_fault.1 wq_X7_fault.2.1 wq_X7_fault.2.2.1 wq_X7_fault.2.2.2 rfl ⟨rfl, rfl, Nat.le_of_ble_eq_true rfl, Nat.le_of_ble_eq_true rfl⟩ rfl rfl (Nat.le_of_ble_eq_true rfl) dL_law_281 rfl ?_
  refine lq_x2 X dL_law_284 ?_
  refine lq_arg X (j := 1) (by decide) (by decide) hi dL_law_285 dL_law_286 dL_law_287 dL_law_288 dL_law_289 ?_
  refine lq_R (st := [.int r]) X (cm_X8_fault _ _ _ _ _ h2) wq_X8_fault.1 wq_X8_fault.2.1 wq_X8_fault.2.2.1 wq_X8_fault.2.2.2 rfl ⟨rfl, rfl, Nat.le_of_ble_eq_true rfl, Nat.le_of_ble_eq_true rfl⟩ rfl rfl (Nat.le_of_ble_eq_true rfl) dL_law_290 rfl ?_
  exact lq_same X dL_law_293 (by decide) (k S1 T1 A1 h3)
theorem dL_law_298 : decode cL_law 298 = .ok (.aload_n 1, 1) := by decide +kernel
theorem dL_law_299 : decode cL_law 299 = .ok (.aload_n 0, 1) := by decide +kernel
theorem dL_law_300 : decode cL_law 300 = .ok (.iload_n 3, 1) := by decide +kernel
theorem dL_law_301 : decode cL_law 301 = .ok (.iconst 1, 1) := by decide +kernel
theorem dL_law_302 : decode cL_law 302 = .ok (.iadd, 1) := by decide +kernel
theorem dL_law_303 : decode cL_law 303 = .ok (.iaload, 1) := by decide +kernel
theorem dL_law_304 : decode cL_law 304 = .ok (.aload_n 0, 1) := by decide +kernel
theorem dL_law_305 : decode cL_law 305 = .ok (.iload_n 3, 1) := by decide +kernel
theorem dL_law_306 : decode cL_law 306 = .ok (.iconst 2, 1) := by decide +kernel
theorem dL_law_307 : decode cL_law 307 = .ok (.iadd, 1) := by decide +kernel
theorem dL_law_308 : decode cL_law 308 = .ok (.iaload, 1) := by decide +kernel
theorem dL_law_309 : decode cL_law 309 = .ok (.invokevirtual 31, 3) := by decide +kernel
theorem dL_law_312 : decode cL_law 312 = .ok (.aload_n 2, 1) := by decide +kernel
theorem dL_law_313 : decode cL_law 313 = .ok (.aload_n 0, 1) := by decide +kernel
theorem dL_law_314 : decode cL_law 314 = .ok (.iload_n 3, 1) := by decide +kernel
theorem dL_law_315 : decode cL_law 315 = .ok (.iconst 1, 1) := by decide +kernel
theorem dL_law_316 : decode cL_law 316 = .ok (.iadd, 1) := by decide +kernel
theorem dL_law_317 : decode cL_law 317 = .ok (.iaload, 1) := by decide +kernel
theorem dL_law_318 : decode cL_law 318 = .ok (.aload_n 0, 1) := by decide +kernel
theorem dL_law_319 : decode cL_law 319 = .ok (.iload_n 3, 1) := by decide +kernel
theorem dL_law_320 : decode cL_law 320 = .ok (.iconst 2, 1) := by decide +kernel
theorem dL_law_321 : decode cL_law 321 = .ok (.iadd, 1) := by decide +kernel
theorem dL_law_322 : decode cL_law 322 = .ok (.iaload, 1) := by decide +kernel
theorem dL_law_323 : decode cL_law 323 = .ok (.invokevirtual 34, 3) := by decide +kernel
theorem dL_law_326 : decode cL_law 326 = .ok (.if_icmp .eq 943, 3) := by decide +kernel
theorem dL_law_329 : decode cL_law 329 = .ok (.iconst 0, 1) := by decide +kernel
theorem dL_law_330 : decode cL_law 330 = .ok (.ireturn, 1) := by decide +kernel
theorem wq_X7_puller : tg_Y0 yX7_puller cX7_puller 3 (some .int) 2 ∧ Cond.instanceMethod yX7_puller ∈ tg_gG ∧ Cond.selects yX7_puller.cls yX7_puller yX7_puller ∈ tg_gG ∧ Cond.methodLink RL 31 yX7_puller ∈ tg_gG := ⟨⟨tg_mem (List.mem_of_getElem? (i := 453) (by decide +kernel)) (by decide +kernel), wi_X7, by decide +kernel, by decide +kernel, by decide +kernel⟩, tg_mem (List.mem_of_getElem? (i := 451) (by decide +kernel)) (by decide +kernel), tg_mem (List.mem_of_getElem? (i := 452) (by decide +kernel)) (by decide +kernel), tg_mem (List.mem_of_getElem? (i := 450) (by decide +kernel)) (by decide +kernel)⟩
theorem wq_X8_puller : tg_Y0 yX8_puller cX8_puller 3 (some .int) 2 ∧ Cond.instanceMethod yX8_puller ∈ tg_gG ∧ Cond.selects yX8_puller.cls yX8_puller yX8_puller ∈ tg_gG ∧ Cond.methodLink RL 34 yX8_puller ∈ tg_gG := ⟨⟨tg_mem (List.mem_of_getElem? (i := 964) (by decide +kernel)) (by decide +kernel), wi_X8, by decide +kernel, by decide +kernel, by decide +kernel⟩, tg_mem (List.mem_of_getElem? (i := 962) (by decide +kernel)) (by decide +kernel), tg_mem (List.mem_of_getElem? (i := 963) (by decide +kernel)) (by decide +kernel), tg_mem (List.mem_of_getElem? (i := 961) (by decide +kernel)) (by decide +kernel)⟩
theorem lc_4 {x : tg_X} {b L : Nat} {xs : Nat → Int32} {bd : Nat → Nat} {S T : tg_S} {A : Nat → Nat → Nat} {i : Nat} (X : lq_M x b L xs) (hI : z_I S T A) (hi : i + 6 ≤ L) (k : ∀ S T A, z_I S T A → lq_G x b bd S T i 1269 []) : lq_G x b bd S T i 298 [] := by
  obtain ⟨S1, T1, r, A1, h1, h2, h3⟩ := e_puller S T A hI (xs (i + 1)) (xs (i + 2))
  refine lq_x1 X dL_law_298 ?_
  refine lq_arg X (j := 1) (by decide) (by decide) hi dL_law_299 dL_law_300 dL_law_301 dL_law_302 dL_law_303 ?_
  refine lq_arg X (j := 2) (by decide) (by decide) hi dL_law_304 dL_law_305 dL_law_306 dL_law_307 dL_law_308 ?_
  refine lq_C (st := []) X (cm_X7_puller _ _ _ _ _ h1) wq_X7_puller.1 wq_X7_puller.2.1 wq_X7_puller.2.2.1 wq_X7_puller.2.2.2 rfl ⟨rfl, rfl, Nat.le_of_ble_eq_true rfl, Nat.le_of_ble_eq_true rfl⟩ rfl rfl (Nat.le_of_ble_eq_true rfl) dL_law_309 rfl ?_
  refine lq_x2 X dL_law_312 ?_
  refine lq_arg X (j := 1) (by decide) (by decide) hi dL_law_313 dL_law_314 dL_law_315 dL_law_316 dL_law_317 ?_
  refine lq_arg X (j := 2) (by decide) (by decide) hi dL_law_318 dL_law_319 dL_law_320 dL_law_321 dL_law_322 ?_
  refine lq_R (st := [.int r]) X (cm_X8_puller _ _ _ _ _ h2) wq_X8_puller.1 wq_X8_puller.2.1 wq_X8_puller.2.2.1 wq_X8_puller.2.2.2 rfl ⟨rfl, rfl, Nat.le_of_ble_eq_true rfl, Nat.le_of_ble_eq_true rfl⟩ rfl rfl (Nat.le_of_ble_eq_true rfl) dL_law_323 rfl ?_
  exact lq_same X dL_law_326 (by decide) (k S1 T1 A1 h3)
theorem dL_law_331 : decode cL_law 331 = .ok (.aload_n 1, 1) := by decide +kernel
theorem dL_law_332 : decode cL_law 332 = .ok (.aload_n 0, 1) := by decide +kernel
theorem dL_law_333 : decode cL_law 333 = .ok (.iload_n 3, 1) := by decide +kernel
theorem dL_law_334 : decode cL_law 334 = .ok (.iconst 1, 1) := by decide +kernel
theorem dL_law_335 : decode cL_law 335 = .ok (.iadd, 1) := by decide +kernel
theorem dL_law_336 : decode cL_law 336 = .ok (.iaload, 1) := by decide +kernel
theorem dL_law_337 : decode cL_law 337 = .ok (.aload_n 0, 1) := by decide +kernel
theorem dL_law_338 : decode cL_law 338 = .ok (.iload_n 3, 1) := by decide +kernel
theorem dL_law_339 : decode cL_law 339 = .ok (.iconst 2, 1) := by decide +kernel
theorem dL_law_340 : decode cL_law 340 = .ok (.iadd, 1) := by decide +kernel
theorem dL_law_341 : decode cL_law 341 = .ok (.iaload, 1) := by decide +kernel
theorem dL_law_342 : decode cL_law 342 = .ok (.invokevirtual 35, 3) := by decide +kernel
theorem dL_law_345 : decode cL_law 345 = .ok (.aload_n 2, 1) := by decide +kernel
theorem dL_law_346 : decode cL_law 346 = .ok (.aload_n 0, 1) := by decide +kernel
theorem dL_law_347 : decode cL_law 347 = .ok (.iload_n 3, 1) := by decide +kernel
theorem dL_law_348 : decode cL_law 348 = .ok (.iconst 1, 1) := by decide +kernel
theorem dL_law_349 : decode cL_law 349 = .ok (.iadd, 1) := by decide +kernel
theorem dL_law_350 : decode cL_law 350 = .ok (.iaload, 1) := by decide +kernel
theorem dL_law_351 : decode cL_law 351 = .ok (.aload_n 0, 1) := by decide +kernel
theorem dL_law_352 : decode cL_law 352 = .ok (.iload_n 3, 1) := by decide +kernel
theorem dL_law_353 : decode cL_law 353 = .ok (.iconst 2, 1) := by decide +kernel
theorem dL_law_354 : decode cL_law 354 = .ok (.iadd, 1) := by decide +kernel
theorem dL_law_355 : decode cL_law 355 = .ok (.iaload, 1) := by decide +kernel
theorem dL_law_356 : decode cL_law 356 = .ok (.invokevirtual 38, 3) := by decide +kernel
theorem dL_law_359 : decode cL_law 359 = .ok (.if_icmp .eq 910, 3) := by decide +kernel
theorem dL_law_362 : decode cL_law 362 = .ok (.iconst 0, 1) := by decide +kernel
theorem dL_law_363 : decode cL_law 363 = .ok (.ireturn, 1) := by decide +kernel
theorem wq_X7_call : tg_Y0 yX7_call cX7_call 3 (some .int) 2 ∧ Cond.instanceMethod yX7_call ∈ tg_gG ∧ Cond.selects yX7_call.cls yX7_call yX7_call ∈ tg_gG ∧ Cond.methodLink RL 35 yX7_call ∈ tg_gG := ⟨⟨tg_mem (List.mem_of_getElem? (i := 461) (by decide +kernel)) (by decide +kernel), wi_X7, by decide +kernel, by decide +kernel, by decide +kernel⟩, tg_mem (List.mem_of_getElem? (i := 459) (by decide +kernel)) (by decide +kernel), tg_mem (List.mem_of_getElem? (i := 460) (by decide +kernel)) (by decide +kernel), tg_mem (List.mem_of_getElem? (i := 458) (by decide +kernel)) (by decide +kernel)⟩
theorem wq_X8_call : tg_Y0 yX8_call cX8_call 3 (some .int) 2 ∧ Cond.instanceMethod yX8_call ∈ tg_gG ∧ Cond.selects yX8_call.cls yX8_call yX8_call ∈ tg_gG ∧ Cond.methodLink RL 38 yX8_call ∈ tg_gG := ⟨⟨tg_mem (List.mem_of_getElem? (i := 987) (by decide +kernel)) (by decide +kernel), wi_X8, by decide +kernel, by decide +kernel, by decide +kernel⟩, tg_mem (List.mem_of_getElem? (i := 985) (by decide +kernel)) (by decide +kernel), tg_mem (List.mem_of_getElem? (i := 986) (by decide +kernel)) (by decide +kernel), tg_mem (List.mem_of_getElem? (i := 984) (by decide +kernel)) (by decide +kernel)⟩
theorem lc_5 {x : tg_X} {b L : Nat} {xs : Nat → Int32} {bd : Nat → Nat} {S T : tg_S} {A : Nat → Nat → Nat} {i : Nat} (X : lq_M x b L xs) (hI : z_I S T A) (hi : i + 6 ≤ L) (k : ∀ S T A, z_I S T A → lq_G x b bd S T i 1269 []) : lq_G x b bd S T i 331 [] := by
  obtain ⟨S1, T1, r, A1, h1, h2, h3⟩ := e_call S T A hI (xs (i + 1)) (xs (i + 2))
  refine lq_x1 X dL_law_331 ?_
  refine lq_arg X (j := 1) (by decide) (by decide) hi dL_law_332 dL_law_333 dL_law_334 dL_law_335 dL_law_336 ?_
  refine lq_arg X (j := 2) (by decide) (by decide) hi dL_law_337 dL_law_338 dL_law_339 dL_law_340 dL_law_341 ?_
  refine lq_C (st := []) X (cm_X7_call _ _ _ _ _ h1) wq_X7_call.1 wq_X7_call.2.1 wq_X7_call.2.2.1 wq_X7_call.2.2.2 rfl ⟨rfl, rfl, Nat.le_of_ble_eq_true rfl, Nat.le_of_ble_eq_true rfl⟩ rfl rfl (Nat.le_of_ble_eq_true rfl) dL_law_342 rfl ?_
  refine lq_x2 X dL_law_345 ?_
  refine lq_arg X (j := 1) (by decide) (by decide) hi dL_law_346 dL_law_347 dL_law_348 dL_law_349 dL_law_350 ?_
  refine lq_arg X (j := 2) (by decide) (by decide) hi dL_law_351 dL_law_352 dL_law_353 dL_law_354 dL_law_355 ?_
  refine lq_R (st := [.int r]) X (cm_X8_call _ _ _ _ _ h2) wq_X8_call.1 wq_X8_call.2.1 wq_X8_call.2.2.1 wq_X8_call.2.2.2 rfl ⟨rfl, rfl, Nat.le_of_ble_eq_true rfl, Nat.le_of_ble_eq_true rfl⟩ rfl rfl (Nat.le_of_ble_eq_true rfl) dL_law_356 rfl ?_
  exact lq_same X dL_law_359 (by decide) (k S1 T1 A1 h3)
theorem dL_law_364 : decode cL_law 364 = .ok (.aload_n 1, 1) := by decide +kernel
theorem dL_law_365 : decode cL_law 365 = .ok (.aload_n 0, 1) := by decide +kernel
theorem dL_law_366 : decode cL_law 366 = .ok (.iload_n 3, 1) := by decide +kernel
theorem dL_law_367 : decode cL_law 367 = .ok (.iconst 1, 1) := by decide +kernel
theorem dL_law_368 : decode cL_law 368 = .ok (.iadd, 1) := by decide +kernel
theorem dL_law_369 : decode cL_law 369 = .ok (.iaload, 1) := by decide +kernel
theorem dL_law_370 : decode cL_law 370 = .ok (.invokevirtual 39, 3) := by decide +kernel
theorem dL_law_373 : decode cL_law 373 = .ok (.aload_n 2, 1) := by decide +kernel
theorem dL_law_374 : decode cL_law 374 = .ok (.aload_n 0, 1) := by decide +kernel
theorem dL_law_375 : decode cL_law 375 = .ok (.iload_n 3, 1) := by decide +kernel
theorem dL_law_376 : decode cL_law 376 = .ok (.iconst 1, 1) := by decide +kernel
theorem dL_law_377 : decode cL_law 377 = .ok (.iadd, 1) := by decide +kernel
theorem dL_law_378 : decode cL_law 378 = .ok (.iaload, 1) := by decide +kernel
theorem dL_law_379 : decode cL_law 379 = .ok (.invokevirtual 42, 3) := by decide +kernel
theorem dL_law_382 : decode cL_law 382 = .ok (.if_icmp .eq 887, 3) := by decide +kernel
theorem dL_law_385 : decode cL_law 385 = .ok (.iconst 0, 1) := by decide +kernel
theorem dL_law_386 : decode cL_law 386 = .ok (.ireturn, 1) := by decide +kernel
theorem wq_X7_mud : tg_Y0 yX7_mud cX7_mud 3 (some .int) 1 ∧ Cond.instanceMethod yX7_mud ∈ tg_gG ∧ Cond.selects yX7_mud.cls yX7_mud yX7_mud ∈ tg_gG ∧ Cond.methodLink RL 39 yX7_mud ∈ tg_gG := ⟨⟨tg_mem (List.mem_of_getElem? (i := 465) (by decide +kernel)) (by decide +kernel), wi_X7, by decide +kernel, by decide +kernel, by decide +kernel⟩, tg_mem (List.mem_of_getElem? (i := 463) (by decide +kernel)) (by decide +kernel), tg_mem (List.mem_of_getElem? (i := 464) (by decide +kernel)) (by decide +kernel), tg_mem (List.mem_of_getElem? (i := 462) (by decide +kernel)) (by decide +kernel)⟩
theorem wq_X8_mud : tg_Y0 yX8_mud cX8_mud 3 (some .int) 1 ∧ Cond.instanceMethod yX8_mud ∈ tg_gG ∧ Cond.selects yX8_mud.cls yX8_mud yX8_mud ∈ tg_gG ∧ Cond.methodLink RL 42 yX8_mud ∈ tg_gG := ⟨⟨tg_mem (List.mem_of_getElem? (i := 1001) (by decide +kernel)) (by decide +kernel), wi_X8, by decide +kernel, by decide +kernel, by decide +kernel⟩, tg_mem (List.mem_of_getElem? (i := 999) (by decide +kernel)) (by decide +kernel), tg_mem (List.mem_of_getElem? (i := 1000) (by decide +kernel)) (by decide +kernel), tg_mem (List.mem_of_getElem? (i := 998) (by decide +kernel)) (by decide +kernel)⟩
theorem lc_6 {x : tg_X} {b L : Nat} {xs : Nat → Int32} {bd : Nat → Nat} {S T : tg_S} {A : Nat → Nat → Nat} {i : Nat} (X : lq_M x b L xs) (hI : z_I S T A) (hi : i + 6 ≤ L) (k : ∀ S T A, z_I S T A → lq_G x b bd S T i 1269 []) : lq_G x b bd S T i 364 [] := by
  obtain ⟨S1, T1, r, A1, h1, h2, h3⟩ := e_mud S T A hI (xs (i + 1))
  refine lq_x1 X dL_law_364 ?_
  refine lq_arg X (j := 1) (by decide) (by decide) hi dL_law_365 dL_law_366 dL_law_367 dL_law_368 dL_law_369 ?_
  refine lq_C (st := []) X (cm_X7_mud _ _ _ _ _ h1) wq_X7_mud.1 wq_X7_mud.2.1 wq_X7_mud.2.2.1 wq_X7_mud.2.2.2 rfl ⟨rfl, rfl, Nat.le_of_ble_eq_true rfl, Nat.le_of_ble_eq_true rfl⟩ rfl rfl (Nat.le_of_ble_eq_true rfl) dL_law_370 rfl ?_
  refine lq_x2 X dL_law_373 ?_
  refine lq_arg X (j := 1) (by decide) (by decide) hi dL_law_374 dL_law_375 dL_law_376 dL_law_377 dL_law_378 ?_
  refine lq_R (st := [.int r]) X (cm_X8_mud _ _ _ _ _ h2) wq_X8_mud.1 wq_X8_mud.2.1 wq_X8_mud.2.2.1 wq_X8_mud.2.2.2 rfl ⟨rfl, rfl, Nat.le_of_ble_eq_true rfl, Nat.le_of_ble_eq_true rfl⟩ rfl rfl (Nat.le_of_ble_eq_true rfl) dL_law_379 rfl ?_
  exact lq_same X dL_law_382 (by decide) (k S1 T1 A1 h3)
theorem dL_law_387 : decode cL_law 387 = .ok (.aload_n 1, 1) := by decide +kernel
theorem dL_law_388 : decode cL_law 388 = .ok (.aload_n 0, 1) := by decide +kernel
theorem dL_law_389 : decode cL_law 389 = .ok (.iload_n 3, 1) := by decide +kernel
theorem dL_law_390 : decode cL_law 390 = .ok (.iconst 1, 1) := by decide +kernel
theorem dL_law_391 : decode cL_law 391 = .ok (.iadd, 1) := by decide +kernel
theorem dL_law_392 : decode cL_law 392 = .ok (.iaload, 1) := by decide +kernel
theorem dL_law_393 : decode cL_law 393 = .ok (.aload_n 0, 1) := by decide +kernel
theorem dL_law_394 : decode cL_law 394 = .ok (.iload_n 3, 1) := by decide +kernel
theorem dL_law_395 : decode cL_law 395 = .ok (.iconst 2, 1) := by decide +kernel
theorem dL_law_396 : decode cL_law 396 = .ok (.iadd, 1) := by decide +kernel
theorem dL_law_397 : decode cL_law 397 = .ok (.iaload, 1) := by decide +kernel
theorem dL_law_398 : decode cL_law 398 = .ok (.aload_n 0, 1) := by decide +kernel
theorem dL_law_399 : decode cL_law 399 = .ok (.iload_n 3, 1) := by decide +kernel
theorem dL_law_400 : decode cL_law 400 = .ok (.iconst 3, 1) := by decide +kernel
theorem dL_law_401 : decode cL_law 401 = .ok (.iadd, 1) := by decide +kernel
theorem dL_law_402 : decode cL_law 402 = .ok (.iaload, 1) := by decide +kernel
theorem dL_law_403 : decode cL_law 403 = .ok (.invokevirtual 43, 3) := by decide +kernel
theorem dL_law_406 : decode cL_law 406 = .ok (.aload_n 2, 1) := by decide +kernel
theorem dL_law_407 : decode cL_law 407 = .ok (.aload_n 0, 1) := by decide +kernel
theorem dL_law_408 : decode cL_law 408 = .ok (.iload_n 3, 1) := by decide +kernel
theorem dL_law_409 : decode cL_law 409 = .ok (.iconst 1, 1) := by decide +kernel
theorem dL_law_410 : decode cL_law 410 = .ok (.iadd, 1) := by decide +kernel
theorem dL_law_411 : decode cL_law 411 = .ok (.iaload, 1) := by decide +kernel
theorem dL_law_412 : decode cL_law 412 = .ok (.aload_n 0, 1) := by decide +kernel
theorem dL_law_413 : decode cL_law 413 = .ok (.iload_n 3, 1) := by decide +kernel
theorem dL_law_414 : decode cL_law 414 = .ok (.iconst 2, 1) := by decide +kernel
theorem dL_law_415 : decode cL_law 415 = .ok (.iadd, 1) := by decide +kernel
theorem dL_law_416 : decode cL_law 416 = .ok (.iaload, 1) := by decide +kernel
theorem dL_law_417 : decode cL_law 417 = .ok (.aload_n 0, 1) := by decide +kernel
theorem dL_law_418 : decode cL_law 418 = .ok (.iload_n 3, 1) := by decide +kernel
theorem dL_law_419 : decode cL_law 419 = .ok (.iconst 3, 1) := by decide +kernel
theorem dL_law_420 : decode cL_law 420 = .ok (.iadd, 1) := by decide +kernel
theorem dL_law_421 : decode cL_law 421 = .ok (.iaload, 1) := by decide +kernel
theorem dL_law_422 : decode cL_law 422 = .ok (.invokevirtual 47, 3) := by decide +kernel
theorem dL_law_425 : decode cL_law 425 = .ok (.if_icmp .eq 844, 3) := by decide +kernel
theorem dL_law_428 : decode cL_law 428 = .ok (.iconst 0, 1) := by decide +kernel
theorem dL_law_429 : decode cL_law 429 = .ok (.ireturn, 1) := by decide +kernel
theorem wq_X7_event : tg_Y0 yX7_event cX7_event 5 (some .int) 3 ∧ Cond.instanceMethod yX7_event ∈ tg_gG ∧ Cond.selects yX7_event.cls yX7_event yX7_event ∈ tg_gG ∧ Cond.methodLink RL 43 yX7_event ∈ tg_gG := ⟨⟨tg_mem (List.mem_of_getElem? (i := 469) (by decide +kernel)) (by decide +kernel), wi_X7, by decide +kernel, by decide +kernel, by decide +kernel⟩, tg_mem (List.mem_of_getElem? (i := 467) (by decide +kernel)) (by decide +kernel), tg_mem (List.mem_of_getElem? (i := 468) (by decide +kernel)) (by decide +kernel), tg_mem (List.mem_of_getElem? (i := 466) (by decide +kernel)) (by decide +kernel)⟩
theorem wq_X8_event : tg_Y0 yX8_event cX8_event 4 (some .int) 3 ∧ Cond.instanceMethod yX8_event ∈ tg_gG ∧ Cond.selects yX8_event.cls yX8_event yX8_event ∈ tg_gG ∧ Cond.methodLink RL 47 yX8_event ∈ tg_gG := ⟨⟨tg_mem (List.mem_of_getElem? (i := 1005) (by decide +kernel)) (by decide +kernel), wi_X8, by decide +kernel, by decide +kernel, by decide +kernel⟩, tg_mem (List.mem_of_getElem? (i := 1003) (by decide +kernel)) (by decide +kernel), tg_mem (List.mem_of_getElem? (i := 1004) (by decide +kernel)) (by decide +kernel), tg_mem (List.mem_of_getElem? (i := 1002) (by decide +kernel)) (by decide +kernel)⟩
theorem lc_7 {x : tg_X} {b L : Nat} {xs : Nat → Int32} {bd : Nat → Nat} {S T : tg_S} {A : Nat → Nat → Nat} {i : Nat} (X : lq_M x b L xs) (hI : z_I S T A) (hi : i + 6 ≤ L) (k : ∀ S T A, z_I S T A → lq_G x b bd S T i 1269 []) : lq_G x b bd S T i 387 [] := by
  obtain ⟨S1, T1, r, A1, h1, h2, h3⟩ := e_event S T A hI (xs (i + 1)) (xs (i + 2)) (xs (i + 3))
  refine lq_x1 X dL_law_387 ?_
  refine lq_arg X (j := 1) (by decide) (by decide) hi dL_law_388 dL_law_389 dL_law_390 dL_law_391 dL_law_392 ?_
  refine lq_arg X (j := 2) (by decide) (by decide) hi dL_law_393 dL_law_394 dL_law_395 dL_law_396 dL_law_397 ?_
  refine lq_arg X (j := 3) (by decide) (by decide) hi dL_law_398 dL_law_399 dL_law_400 dL_law_401 dL_law_402 ?_
  refine lq_C (st := []) X (cm_X7_event _ _ _ _ _ h1) wq_X7_event.1 wq_X7_event.2.1 wq_X7_event.2.2.1 wq_X7_event.2.2.2 rfl ⟨rfl, rfl, Nat.le_of_ble_eq_true rfl, Nat.le_of_ble_eq_true rfl⟩ rfl rfl (Nat.le_of_ble_eq_true rfl) dL_law_403 rfl ?_
  refine lq_x2 X dL_law_406 ?_
  refine lq_arg X (j := 1) (by decide) (by decide) hi dL_law_407 dL_law_408 dL_law_409 dL_law_410 dL_law_411 ?_
  refine lq_arg X (j := 2) (by decide) (by decide) hi dL_law_412 dL_law_413 dL_law_414 dL_law_415 dL_law_416 ?_
  refine lq_arg X (j := 3) (by decide) (by decide) hi dL_law_417 dL_law_418 dL_law_419 dL_law_420 dL_law_421 ?_
  refine lq_R (st := [.int r]) X (cm_X8_event _ _ _ _ _ h2) wq_X8_event.1 wq_X8_event.2.1 wq_X8_event.2.2.1 wq_X8_event.2.2.2 rfl ⟨rfl, rfl, Nat.le_of_ble_eq_true rfl, Nat.le_of_ble_eq_true rfl⟩ rfl rfl (Nat.le_of_ble_eq_true rfl) dL_law_422 rfl ?_
  exact lq_same X dL_law_425 (by decide) (k S1 T1 A1 h3)
theorem dL_law_430 : decode cL_law 430 = .ok (.aload_n 1, 1) := by decide +kernel
theorem dL_law_431 : decode cL_law 431 = .ok (.invokevirtual 48, 3) := by decide +kernel
theorem dL_law_434 : decode cL_law 434 = .ok (.aload_n 2, 1) := by decide +kernel
theorem dL_law_435 : decode cL_law 435 = .ok (.invokevirtual 52, 3) := by decide +kernel
theorem dL_law_438 : decode cL_law 438 = .ok (.if_icmp .eq 831, 3) := by decide +kernel
theorem dL_law_441 : decode cL_law 441 = .ok (.iconst 0, 1) := by decide +kernel
theorem dL_law_442 : decode cL_law 442 = .ok (.ireturn, 1) := by decide +kernel
theorem wq_X7_back : tg_Y0 yX7_back cX7_back 2 (some .int) 0 ∧ Cond.instanceMethod yX7_back ∈ tg_gG ∧ Cond.selects yX7_back.cls yX7_back yX7_back ∈ tg_gG ∧ Cond.methodLink RL 48 yX7_back ∈ tg_gG := ⟨⟨tg_mem (List.mem_of_getElem? (i := 481) (by decide +kernel)) (by decide +kernel), wi_X7, by decide +kernel, by decide +kernel, by decide +kernel⟩, tg_mem (List.mem_of_getElem? (i := 479) (by decide +kernel)) (by decide +kernel), tg_mem (List.mem_of_getElem? (i := 480) (by decide +kernel)) (by decide +kernel), tg_mem (List.mem_of_getElem? (i := 478) (by decide +kernel)) (by decide +kernel)⟩
theorem wq_X8_back : tg_Y0 yX8_back cX8_back 1 (some .int) 0 ∧ Cond.instanceMethod yX8_back ∈ tg_gG ∧ Cond.selects yX8_back.cls yX8_back yX8_back ∈ tg_gG ∧ Cond.methodLink RL 52 yX8_back ∈ tg_gG := ⟨⟨tg_mem (List.mem_of_getElem? (i := 1009) (by decide +kernel)) (by decide +kernel), wi_X8, by decide +kernel, by decide +kernel, by decide +kernel⟩, tg_mem (List.mem_of_getElem? (i := 1007) (by decide +kernel)) (by decide +kernel), tg_mem (List.mem_of_getElem? (i := 1008) (by decide +kernel)) (by decide +kernel), tg_mem (List.mem_of_getElem? (i := 1006) (by decide +kernel)) (by decide +kernel)⟩
theorem lc_8 {x : tg_X} {b L : Nat} {xs : Nat → Int32} {bd : Nat → Nat} {S T : tg_S} {A : Nat → Nat → Nat} {i : Nat} (X : lq_M x b L xs) (hI : z_I S T A) (hi : i + 6 ≤ L) (k : ∀ S T A, z_I S T A → lq_G x b bd S T i 1269 []) : lq_G x b bd S T i 430 [] := by
  obtain ⟨S1, T1, r, A1, h1, h2, h3⟩ := e_back S T A hI 
  refine lq_x1 X dL_law_430 ?_
  refine lq_C (st := []) X (cm_X7_back _ _ _ _ _ h1) wq_X7_back.1 wq_X7_back.2.1 wq_X7_back.2.2.1 wq_X7_back.2.2.2 rfl ⟨rfl, rfl, Nat.le_of_ble_eq_true rfl, Nat.le_of_ble_eq_true rfl⟩ rfl rfl (Nat.le_of_ble_eq_true rfl) dL_law_431 rfl ?_
  refine lq_x2 X dL_law_434 ?_
  refine lq_R (st := [.int r]) X (cm_X8_back _ _ _ _ _ h2) wq_X8_back.1 wq_X8_back.2.1 wq_X8_back.2.2.1 wq_X8_back.2.2.2 rfl ⟨rfl, rfl, Nat.le_of_ble_eq_true rfl, Nat.le_of_ble_eq_true rfl⟩ rfl rfl (Nat.le_of_ble_eq_true rfl) dL_law_435 rfl ?_
  exact lq_same X dL_law_438 (by decide) (k S1 T1 A1 h3)
theorem dL_law_443 : decode cL_law 443 = .ok (.aload_n 1, 1) := by decide +kernel
theorem dL_law_444 : decode cL_law 444 = .ok (.aload_n 0, 1) := by decide +kernel
theorem dL_law_445 : decode cL_law 445 = .ok (.iload_n 3, 1) := by decide +kernel
theorem dL_law_446 : decode cL_law 446 = .ok (.iconst 1, 1) := by decide +kernel
theorem dL_law_447 : decode cL_law 447 = .ok (.iadd, 1) := by decide +kernel
theorem dL_law_448 : decode cL_law 448 = .ok (.iaload, 1) := by decide +kernel
theorem dL_law_449 : decode cL_law 449 = .ok (.invokevirtual 53, 3) := by decide +kernel
theorem dL_law_452 : decode cL_law 452 = .ok (.aload_n 2, 1) := by decide +kernel
theorem dL_law_453 : decode cL_law 453 = .ok (.aload_n 0, 1) := by decide +kernel
theorem dL_law_454 : decode cL_law 454 = .ok (.iload_n 3, 1) := by decide +kernel
theorem dL_law_455 : decode cL_law 455 = .ok (.iconst 1, 1) := by decide +kernel
theorem dL_law_456 : decode cL_law 456 = .ok (.iadd, 1) := by decide +kernel
theorem dL_law_457 : decode cL_law 457 = .ok (.iaload, 1) := by decide +kernel
theorem dL_law_458 : decode cL_law 458 = .ok (.invokevirtual 56, 3) := by decide +kernel
theorem dL_law_461 : decode cL_law 461 = .ok (.if_icmp .eq 808, 3) := by decide +kernel
theorem dL_law_464 : decode cL_law 464 = .ok (.iconst 0, 1) := by decide +kernel
theorem dL_law_465 : decode cL_law 465 = .ok (.ireturn, 1) := by decide +kernel
theorem wq_X7_read : tg_Y0 yX7_read cX7_read 5 (some .int) 1 ∧ Cond.instanceMethod yX7_read ∈ tg_gG ∧ Cond.selects yX7_read.cls yX7_read yX7_read ∈ tg_gG ∧ Cond.methodLink RL 53 yX7_read ∈ tg_gG := ⟨⟨tg_mem (List.mem_of_getElem? (i := 489) (by decide +kernel)) (by decide +kernel), wi_X7, by decide +kernel, by decide +kernel, by decide +kernel⟩, tg_mem (List.mem_of_getElem? (i := 487) (by decide +kernel)) (by decide +kernel), tg_mem (List.mem_of_getElem? (i := 488) (by decide +kernel)) (by decide +kernel), tg_mem (List.mem_of_getElem? (i := 486) (by decide +kernel)) (by decide +kernel)⟩
theorem wq_X8_read : tg_Y0 yX8_read cX8_read 4 (some .int) 1 ∧ Cond.instanceMethod yX8_read ∈ tg_gG ∧ Cond.selects yX8_read.cls yX8_read yX8_read ∈ tg_gG ∧ Cond.methodLink RL 56 yX8_read ∈ tg_gG := ⟨⟨tg_mem (List.mem_of_getElem? (i := 1013) (by decide +kernel)) (by decide +kernel), wi_X8, by decide +kernel, by decide +kernel, by decide +kernel⟩, tg_mem (List.mem_of_getElem? (i := 1011) (by decide +kernel)) (by decide +kernel), tg_mem (List.mem_of_getElem? (i := 1012) (by decide +kernel)) (by decide +kernel), tg_mem (List.mem_of_getElem? (i := 1010) (by decide +kernel)) (by decide +kernel)⟩
theorem lc_9 {x : tg_X} {b L : Nat} {xs : Nat → Int32} {bd : Nat → Nat} {S T : tg_S} {A : Nat → Nat → Nat} {i : Nat} (X : lq_M x b L xs) (hI : z_I S T A) (hi : i + 6 ≤ L) (k : ∀ S T A, z_I S T A → lq_G x b bd S T i 1269 []) : lq_G x b bd S T i 443 [] := by
  obtain ⟨S1, T1, r, A1, h1, h2, h3⟩ := e_read S T A hI (xs (i + 1))
  refine lq_x1 X dL_law_443 ?_
  refine lq_arg X (j := 1) (by decide) (by decide) hi dL_law_444 dL_law_445 dL_law_446 dL_law_447 dL_law_448 ?_
  refine lq_C (st := []) X (cm_X7_read _ _ _ _ _ h1) wq_X7_read.1 wq_X7_read.2.1 wq_X7_read.2.2.1 wq_X7_read.2.2.2 rfl ⟨rfl, rfl, Nat.le_of_ble_eq_true rfl, Nat.le_of_ble_eq_true rfl⟩ rfl rfl (Nat.le_of_ble_eq_true rfl) dL_law_449 rfl ?_
  refine lq_x2 X dL_law_452 ?_
  refine lq_arg X (j := 1) (by decide) (by decide) hi dL_law_453 dL_law_454 dL_law_455 dL_law_456 dL_law_457 ?_
  refine lq_R (st := [.int r]) X (cm_X8_read _ _ _ _ _ h2) wq_X8_read.1 wq_X8_read.2.1 wq_X8_read.2.2.1 wq_X8_read.2.2.2 rfl ⟨rfl, rfl, Nat.le_of_ble_eq_true rfl, Nat.le_of_ble_eq_true rfl⟩ rfl rfl (Nat.le_of_ble_eq_true rfl) dL_law_458 rfl ?_
  exact lq_same X dL_law_461 (by decide) (k S1 T1 A1 h3)
