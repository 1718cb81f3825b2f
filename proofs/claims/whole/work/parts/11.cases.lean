/-! ===== the law, call by call ===== -/
set_option maxRecDepth 100000 in
set_option maxHeartbeats 4000000 in
theorem gl_c_write {p : Program} {l : Launch} {e : Env} {s : State} {m : MethodId} {below : List Frame} {meth : Method} {c : Code} {D : va_G} {cyI cyZ cyS : ClassId} {ad bd : Nat → Nat} {b L tt : Nat} {xs : Nat → Int32} {Rel : gq_M → gq_M → Prop} {σ μ : gq_M} {x3 : Int32} (C : gl_C p s m meth c D cyI cyZ cyS ad bd b L tt xs) (hsim : gl_S_write Rel σ μ) (i1 : vp_in (x3 + 1) L) (i2 : vp_in (x3 + 2) L) (i3 : vp_in (x3 + 3) L) (i4 : vp_in (x3 + 4) L) (hnext : ∀ τ ν, Rel τ ν → gl_G p l e s m below meth c D cyI cyZ cyS ad bd b τ ν 1000 [(0, .ref b), (1, .ref (ad 0)), (2, .ref (bd 0)), (3, .int x3)] []) : gl_G p l e s m below meth c D cyI cyZ cyS ad bd b σ μ 164 [(0, .ref b), (1, .ref (ad 0)), (2, .ref (bd 0)), (3, .int x3)] [] := by
  refine gl_aload_n (j := 1) C dL_law_164 rfl ?_
  refine gl_aload_n (j := 0) C dL_law_165 rfl ?_
  refine gl_iload_n (j := 3) C dL_law_166 rfl ?_
  refine gl_iconst (v := 1) C dL_law_167 (by decide) ?_
  refine gl_iadd C dL_law_168 ?_
  refine gl_sld C i1 dL_law_169 ?_
  have h := hsim (xs (x3 + 1).toNatClampNeg)
  refine gl_ci C [.int (xs (x3 + 1).toNatClampNeg)] (mq_X6_write C.2.2.1 (xs (x3 + 1).toNatClampNeg) σ _ h) gL_law_X6_write rfl rfl dq_X6_write ⟨rfl, rfl, by decide, by decide⟩ rfl rfl (Nat.le_of_ble_eq_true rfl) dL_law_170 (fun r0 τ h => ?_)
  refine gl_aload_n (j := 2) C dL_law_173 rfl ?_
  refine gl_aload_n (j := 0) C dL_law_174 rfl ?_
  refine gl_iload_n (j := 3) C dL_law_175 rfl ?_
  refine gl_iconst (v := 1) C dL_law_176 (by decide) ?_
  refine gl_iadd C dL_law_177 ?_
  refine gl_sld C i1 dL_law_178 ?_
  refine gl_mi C [.int (xs (x3 + 1).toNatClampNeg)] (mq_X7_write C.2.2.2.1 (xs (x3 + 1).toNatClampNeg) μ _ h) gL_law_X7_write rfl rfl dq_X7_write ⟨rfl, rfl, by decide, by decide⟩ rfl rfl (Nat.le_of_ble_eq_true rfl) dL_law_179 (fun r1 ν h => ?_)
  refine gl_icmp_eq (tgt := 1000) C dL_law_182 (by decide) (fun _ => ?_) (fun q => absurd h.1 q)
  exact hnext _ _ h.2
set_option maxRecDepth 100000 in
set_option maxHeartbeats 4000000 in
theorem gl_c_wipe {p : Program} {l : Launch} {e : Env} {s : State} {m : MethodId} {below : List Frame} {meth : Method} {c : Code} {D : va_G} {cyI cyZ cyS : ClassId} {ad bd : Nat → Nat} {b L tt : Nat} {xs : Nat → Int32} {Rel : gq_M → gq_M → Prop} {σ μ : gq_M} {x3 : Int32} (C : gl_C p s m meth c D cyI cyZ cyS ad bd b L tt xs) (hsim : gl_S_wipe Rel σ μ) (i1 : vp_in (x3 + 1) L) (i2 : vp_in (x3 + 2) L) (i3 : vp_in (x3 + 3) L) (i4 : vp_in (x3 + 4) L) (hnext : ∀ τ ν, Rel τ ν → gl_G p l e s m below meth c D cyI cyZ cyS ad bd b τ ν 1000 [(0, .ref b), (1, .ref (ad 0)), (2, .ref (bd 0)), (3, .int x3)] []) : gl_G p l e s m below meth c D cyI cyZ cyS ad bd b σ μ 187 [(0, .ref b), (1, .ref (ad 0)), (2, .ref (bd 0)), (3, .int x3)] [] := by
  refine gl_aload_n (j := 1) C dL_law_187 rfl ?_
  have h :  wq_X6_wipe σ (fun r τ => wq_X7_wipe μ (fun r2 ν => r = r2 ∧ Rel τ ν)) := hsim
  refine gl_ci C [] (mq_X6_wipe C.2.2.1 σ _ h) gL_law_X6_wipe rfl rfl dq_X6_wipe ⟨rfl, rfl, by decide, by decide⟩ rfl rfl (Nat.le_of_ble_eq_true rfl) dL_law_188 (fun r0 τ h => ?_)
  refine gl_aload_n (j := 2) C dL_law_191 rfl ?_
  refine gl_mi C [] (mq_X7_wipe C.2.2.2.1 μ _ h) gL_law_X7_wipe rfl rfl dq_X7_wipe ⟨rfl, rfl, by decide, by decide⟩ rfl rfl (Nat.le_of_ble_eq_true rfl) dL_law_192 (fun r1 ν h => ?_)
  refine gl_icmp_eq (tgt := 1000) C dL_law_195 (by decide) (fun _ => ?_) (fun q => absurd h.1 q)
  exact hnext _ _ h.2
set_option maxRecDepth 100000 in
set_option maxHeartbeats 4000000 in
theorem gl_c_fault {p : Program} {l : Launch} {e : Env} {s : State} {m : MethodId} {below : List Frame} {meth : Method} {c : Code} {D : va_G} {cyI cyZ cyS : ClassId} {ad bd : Nat → Nat} {b L tt : Nat} {xs : Nat → Int32} {Rel : gq_M → gq_M → Prop} {σ μ : gq_M} {x3 : Int32} (C : gl_C p s m meth c D cyI cyZ cyS ad bd b L tt xs) (hsim : gl_S_fault Rel σ μ) (i1 : vp_in (x3 + 1) L) (i2 : vp_in (x3 + 2) L) (i3 : vp_in (x3 + 3) L) (i4 : vp_in (x3 + 4) L) (hnext : ∀ τ ν, Rel τ ν → gl_G p l e s m below meth c D cyI cyZ cyS ad bd b τ ν 1000 [(0, .ref b), (1, .ref (ad 0)), (2, .ref (bd 0)), (3, .int x3)] []) : gl_G p l e s m below meth c D cyI cyZ cyS ad bd b σ μ 200 [(0, .ref b), (1, .ref (ad 0)), (2, .ref (bd 0)), (3, .int x3)] [] := by
  refine gl_aload_n (j := 1) C dL_law_200 rfl ?_
  have h :  wq_X6_fault σ (fun r τ => wq_X7_fault μ (fun r2 ν => r = r2 ∧ Rel τ ν)) := hsim
  refine gl_ci C [] (mq_X6_fault C.2.2.1 σ _ h) gL_law_X6_fault rfl rfl dq_X6_fault ⟨rfl, rfl, by decide, by decide⟩ rfl rfl (Nat.le_of_ble_eq_true rfl) dL_law_201 (fun r0 τ h => ?_)
  refine gl_aload_n (j := 2) C dL_law_204 rfl ?_
  refine gl_mi C [] (mq_X7_fault C.2.2.2.1 μ _ h) gL_law_X7_fault rfl rfl dq_X7_fault ⟨rfl, rfl, by decide, by decide⟩ rfl rfl (Nat.le_of_ble_eq_true rfl) dL_law_205 (fun r1 ν h => ?_)
  refine gl_icmp_eq (tgt := 1000) C dL_law_208 (by decide) (fun _ => ?_) (fun q => absurd h.1 q)
  exact hnext _ _ h.2
set_option maxRecDepth 100000 in
set_option maxHeartbeats 4000000 in
theorem gl_c_road {p : Program} {l : Launch} {e : Env} {s : State} {m : MethodId} {below : List Frame} {meth : Method} {c : Code} {D : va_G} {cyI cyZ cyS : ClassId} {ad bd : Nat → Nat} {b L tt : Nat} {xs : Nat → Int32} {Rel : gq_M → gq_M → Prop} {σ μ : gq_M} {x3 : Int32} (C : gl_C p s m meth c D cyI cyZ cyS ad bd b L tt xs) (hsim : gl_S_road Rel σ μ) (i1 : vp_in (x3 + 1) L) (i2 : vp_in (x3 + 2) L) (i3 : vp_in (x3 + 3) L) (i4 : vp_in (x3 + 4) L) (hnext : ∀ τ ν, Rel τ ν → gl_G p l e s m below meth c D cyI cyZ cyS ad bd b τ ν 1000 [(0, .ref b), (1, .ref (ad 0)), (2, .ref (bd 0)), (3, .int x3)] []) : gl_G p l e s m below meth c D cyI cyZ cyS ad bd b σ μ 213 [(0, .ref b), (1, .ref (ad 0)), (2, .ref (bd 0)), (3, .int x3)] [] := by
  refine gl_aload_n (j := 1) C dL_law_213 rfl ?_
  have h :  wq_X6_road σ (fun r τ => wq_X7_road μ (fun r2 ν => r = r2 ∧ Rel τ ν)) := hsim
  refine gl_ci C [] (mq_X6_road C.2.2.1 σ _ h) gL_law_X6_road rfl rfl dq_X6_road ⟨rfl, rfl, by decide, by decide⟩ rfl rfl (Nat.le_of_ble_eq_true rfl) dL_law_214 (fun r0 τ h => ?_)
  refine gl_aload_n (j := 2) C dL_law_217 rfl ?_
  refine gl_mi C [] (mq_X7_road C.2.2.2.1 μ _ h) gL_law_X7_road rfl rfl dq_X7_road ⟨rfl, rfl, by decide, by decide⟩ rfl rfl (Nat.le_of_ble_eq_true rfl) dL_law_218 (fun r1 ν h => ?_)
  refine gl_icmp_eq (tgt := 1000) C dL_law_221 (by decide) (fun _ => ?_) (fun q => absurd h.1 q)
  exact hnext _ _ h.2
set_option maxRecDepth 100000 in
set_option maxHeartbeats 4000000 in
theorem gl_c_pleat {p : Program} {l : Launch} {e : Env} {s : State} {m : MethodId} {below : List Frame} {meth : Method} {c : Code} {D : va_G} {cyI cyZ cyS : ClassId} {ad bd : Nat → Nat} {b L tt : Nat} {xs : Nat → Int32} {Rel : gq_M → gq_M → Prop} {σ μ : gq_M} {x3 : Int32} (C : gl_C p s m meth c D cyI cyZ cyS ad bd b L tt xs) (hsim : gl_S_pleat Rel σ μ) (i1 : vp_in (x3 + 1) L) (i2 : vp_in (x3 + 2) L) (i3 : vp_in (x3 + 3) L) (i4 : vp_in (x3 + 4) L) (hnext : ∀ τ ν, Rel τ ν → gl_G p l e s m below meth c D cyI cyZ cyS ad bd b τ ν 1000 [(0, .ref b), (1, .ref (ad 0)), (2, .ref (bd 0)), (3, .int x3)] []) : gl_G p l e s m below meth c D cyI cyZ cyS ad bd b σ μ 226 [(0, .ref b), (1, .ref (ad 0)), (2, .ref (bd 0)), (3, .int x3)] [] := by
  refine gl_aload_n (j := 1) C dL_law_226 rfl ?_
  refine gl_aload_n (j := 0) C dL_law_227 rfl ?_
  refine gl_iload_n (j := 3) C dL_law_228 rfl ?_
  refine gl_iconst (v := 1) C dL_law_229 (by decide) ?_
  refine gl_iadd C dL_law_230 ?_
  refine gl_sld C i1 dL_law_231 ?_
  refine gl_aload_n (j := 0) C dL_law_232 rfl ?_
  refine gl_iload_n (j := 3) C dL_law_233 rfl ?_
  refine gl_iconst (v := 2) C dL_law_234 (by decide) ?_
  refine gl_iadd C dL_law_235 ?_
  refine gl_sld C i2 dL_law_236 ?_
  have h := hsim (xs (x3 + 1).toNatClampNeg) (xs (x3 + 2).toNatClampNeg)
  refine gl_ci C [.int (xs (x3 + 1).toNatClampNeg), .int (xs (x3 + 2).toNatClampNeg)] (mq_X6_pleat C.2.2.1 (xs (x3 + 1).toNatClampNeg) (xs (x3 + 2).toNatClampNeg) σ _ h) gL_law_X6_pleat rfl rfl dq_X6_pleat ⟨rfl, rfl, by decide, by decide⟩ rfl rfl (Nat.le_of_ble_eq_true rfl) dL_law_237 (fun r0 τ h => ?_)
  refine gl_aload_n (j := 2) C dL_law_240 rfl ?_
  refine gl_aload_n (j := 0) C dL_law_241 rfl ?_
  refine gl_iload_n (j := 3) C dL_law_242 rfl ?_
  refine gl_iconst (v := 1) C dL_law_243 (by decide) ?_
  refine gl_iadd C dL_law_244 ?_
  refine gl_sld C i1 dL_law_245 ?_
  refine gl_aload_n (j := 0) C dL_law_246 rfl ?_
  refine gl_iload_n (j := 3) C dL_law_247 rfl ?_
  refine gl_iconst (v := 2) C dL_law_248 (by decide) ?_
  refine gl_iadd C dL_law_249 ?_
  refine gl_sld C i2 dL_law_250 ?_
  refine gl_mi C [.int (xs (x3 + 1).toNatClampNeg), .int (xs (x3 + 2).toNatClampNeg)] (mq_X7_pleat C.2.2.2.1 (xs (x3 + 1).toNatClampNeg) (xs (x3 + 2).toNatClampNeg) μ _ h) gL_law_X7_pleat rfl rfl dq_X7_pleat ⟨rfl, rfl, by decide, by decide⟩ rfl rfl (Nat.le_of_ble_eq_true rfl) dL_law_251 (fun r1 ν h => ?_)
  refine gl_icmp_eq (tgt := 1000) C dL_law_254 (by decide) (fun _ => ?_) (fun q => absurd h.1 q)
  exact hnext _ _ h.2
set_option maxRecDepth 100000 in
set_option maxHeartbeats 4000000 in
theorem gl_c_traveller {p : Program} {l : Launch} {e : Env} {s : State} {m : MethodId} {below : List Frame} {meth : Method} {c : Code} {D : va_G} {cyI cyZ cyS : ClassId} {ad bd : Nat → Nat} {b L tt : Nat} {xs : Nat → Int32} {Rel : gq_M → gq_M → Prop} {σ μ : gq_M} {x3 : Int32} (C : gl_C p s m meth c D cyI cyZ cyS ad bd b L tt xs) (hsim : gl_S_traveller Rel σ μ) (i1 : vp_in (x3 + 1) L) (i2 : vp_in (x3 + 2) L) (i3 : vp_in (x3 + 3) L) (i4 : vp_in (x3 + 4) L) (hnext : ∀ τ ν, Rel τ ν → gl_G p l e s m below meth c D cyI cyZ cyS ad bd b τ ν 1000 [(0, .ref b), (1, .ref (ad 0)), (2, .ref (bd 0)), (3, .int x3)] []) : gl_G p l e s m below meth c D cyI cyZ cyS ad bd b σ μ 259 [(0, .ref b), (1, .ref (ad 0)), (2, .ref (bd 0)), (3, .int x3)] [] := by
  refine gl_aload_n (j := 1) C dL_law_259 rfl ?_
  refine gl_aload_n (j := 0) C dL_law_260 rfl ?_
  refine gl_iload_n (j := 3) C dL_law_261 rfl ?_
  refine gl_iconst (v := 1) C dL_law_262 (by decide) ?_
  refine gl_iadd C dL_law_263 ?_
  refine gl_sld C i1 dL_law_264 ?_
  refine gl_aload_n (j := 0) C dL_law_265 rfl ?_
  refine gl_iload_n (j := 3) C dL_law_266 rfl ?_
  refine gl_iconst (v := 2) C dL_law_267 (by decide) ?_
  refine gl_iadd C dL_law_268 ?_
  refine gl_sld C i2 dL_law_269 ?_
  have h := hsim (xs (x3 + 1).toNatClampNeg) (xs (x3 + 2).toNatClampNeg)
  refine gl_ci C [.int (xs (x3 + 1).toNatClampNeg), .int (xs (x3 + 2).toNatClampNeg)] (mq_X6_traveller C.2.2.1 (xs (x3 + 1).toNatClampNeg) (xs (x3 + 2).toNatClampNeg) σ _ h) gL_law_X6_traveller rfl rfl dq_X6_traveller ⟨rfl, rfl, by decide, by decide⟩ rfl rfl (Nat.le_of_ble_eq_true rfl) dL_law_270 (fun r0 τ h => ?_)
  refine gl_aload_n (j := 2) C dL_law_273 rfl ?_
  refine gl_aload_n (j := 0) C dL_law_274 rfl ?_
  refine gl_iload_n (j := 3) C dL_law_275 rfl ?_
  refine gl_iconst (v := 1) C dL_law_276 (by decide) ?_
  refine gl_iadd C dL_law_277 ?_
  refine gl_sld C i1 dL_law_278 ?_
  refine gl_aload_n (j := 0) C dL_law_279 rfl ?_
  refine gl_iload_n (j := 3) C dL_law_280 rfl ?_
  refine gl_iconst (v := 2) C dL_law_281 (by decide) ?_
  refine gl_iadd C dL_law_282 ?_
  refine gl_sld C i2 dL_law_283 ?_
  refine gl_mi C [.int (xs (x3 + 1).toNatClampNeg), .int (xs (x3 + 2).toNatClampNeg)] (mq_X7_traveller C.2.2.2.1 (xs (x3 + 1).toNatClampNeg) (xs (x3 + 2).toNatClampNeg) μ _ h) gL_law_X7_traveller rfl rfl dq_X7_traveller ⟨rfl, rfl, by decide, by decide⟩ rfl rfl (Nat.le_of_ble_eq_true rfl) dL_law_284 (fun r1 ν h => ?_)
  refine gl_icmp_eq (tgt := 1000) C dL_law_287 (by decide) (fun _ => ?_) (fun q => absurd h.1 q)
  exact hnext _ _ h.2
set_option maxRecDepth 100000 in
set_option maxHeartbeats 4000000 in
theorem gl_c_step {p : Program} {l : Launch} {e : Env} {s : State} {m : MethodId} {below : List Frame} {meth : Method} {c : Code} {D : va_G} {cyI cyZ cyS : ClassId} {ad bd : Nat → Nat} {b L tt : Nat} {xs : Nat → Int32} {Rel : gq_M → gq_M → Prop} {σ μ : gq_M} {x3 : Int32} (C : gl_C p s m meth c D cyI cyZ cyS ad bd b L tt xs) (hsim : gl_S_step Rel σ μ) (i1 : vp_in (x3 + 1) L) (i2 : vp_in (x3 + 2) L) (i3 : vp_in (x3 + 3) L) (i4 : vp_in (x3 + 4) L) (hnext : ∀ τ ν, Rel τ ν → gl_G p l e s m below meth c D cyI cyZ cyS ad bd b τ ν 1000 [(0, .ref b), (1, .ref (ad 0)), (2, .ref (bd 0)), (3, .int x3)] []) : gl_G p l e s m below meth c D cyI cyZ cyS ad bd b σ μ 292 [(0, .ref b), (1, .ref (ad 0)), (2, .ref (bd 0)), (3, .int x3)] [] := by
  refine gl_aload_n (j := 1) C dL_law_292 rfl ?_
  refine gl_aload_n (j := 0) C dL_law_293 rfl ?_
  refine gl_iload_n (j := 3) C dL_law_294 rfl ?_
  refine gl_iconst (v := 1) C dL_law_295 (by decide) ?_
  refine gl_iadd C dL_law_296 ?_
  refine gl_sld C i1 dL_law_297 ?_
  refine gl_aload_n (j := 0) C dL_law_298 rfl ?_
  refine gl_iload_n (j := 3) C dL_law_299 rfl ?_
  refine gl_iconst (v := 2) C dL_law_300 (by decide) ?_
  refine gl_iadd C dL_law_301 ?_
  refine gl_sld C i2 dL_law_302 ?_
  refine gl_if_eq (tgt := 310) C dL_law_303 (by decide) (fun c303 => ?_) (fun c303 => ?_)
  · refine gl_iconst (v := 0) C dL_law_310 (by decide) ?_
    have h := hsim (xs (x3 + 1).toNatClampNeg) 0 (Or.inl rfl)
    refine gl_ci C [.int (xs (x3 + 1).toNatClampNeg), .int 0] (mq_X6_step C.2.2.1 (xs (x3 + 1).toNatClampNeg) 0 σ _ h) gL_law_X6_step rfl rfl dq_X6_step ⟨rfl, rfl, by decide, by decide⟩ rfl rfl (Nat.le_of_ble_eq_true rfl) dL_law_311 (fun r0 τ h => ?_)
    refine gl_aload_n (j := 2) C dL_law_314 rfl ?_
    refine gl_aload_n (j := 0) C dL_law_315 rfl ?_
    refine gl_iload_n (j := 3) C dL_law_316 rfl ?_
    refine gl_iconst (v := 1) C dL_law_317 (by decide) ?_
    refine gl_iadd C dL_law_318 ?_
    refine gl_sld C i1 dL_law_319 ?_
    refine gl_aload_n (j := 0) C dL_law_320 rfl ?_
    refine gl_iload_n (j := 3) C dL_law_321 rfl ?_
    refine gl_iconst (v := 2) C dL_law_322 (by decide) ?_
    refine gl_iadd C dL_law_323 ?_
    refine gl_sld C i2 dL_law_324 ?_
    refine gl_if_eq (tgt := 332) C dL_law_325 (by decide) (fun _ => ?_) (fun q => absurd c303 q)
    refine gl_iconst (v := 0) C dL_law_332 (by decide) ?_
    refine gl_mi C [.int (xs (x3 + 1).toNatClampNeg), .int 0] (mq_X7_step C.2.2.2.1 (xs (x3 + 1).toNatClampNeg) 0 μ _ h) gL_law_X7_step rfl rfl dq_X7_step ⟨rfl, rfl, by decide, by decide⟩ rfl rfl (Nat.le_of_ble_eq_true rfl) dL_law_333 (fun r1 ν h => ?_)
    refine gl_icmp_eq (tgt := 1000) C dL_law_336 (by decide) (fun _ => ?_) (fun q => absurd h.1 q)
    exact hnext _ _ h.2
  · refine gl_iconst (v := 1) C dL_law_306 (by decide) ?_
    refine gl_goto (tgt := 311) C dL_law_307 (by decide) ?_
    have h := hsim (xs (x3 + 1).toNatClampNeg) 1 (Or.inr rfl)
    refine gl_ci C [.int (xs (x3 + 1).toNatClampNeg), .int 1] (mq_X6_step C.2.2.1 (xs (x3 + 1).toNatClampNeg) 1 σ _ h) gL_law_X6_step rfl rfl dq_X6_step ⟨rfl, rfl, by decide, by decide⟩ rfl rfl (Nat.le_of_ble_eq_true rfl) dL_law_311 (fun r0 τ h => ?_)
    refine gl_aload_n (j := 2) C dL_law_314 rfl ?_
    refine gl_aload_n (j := 0) C dL_law_315 rfl ?_
    refine gl_iload_n (j := 3) C dL_law_316 rfl ?_
    refine gl_iconst (v := 1) C dL_law_317 (by decide) ?_
    refine gl_iadd C dL_law_318 ?_
    refine gl_sld C i1 dL_law_319 ?_
    refine gl_aload_n (j := 0) C dL_law_320 rfl ?_
    refine gl_iload_n (j := 3) C dL_law_321 rfl ?_
    refine gl_iconst (v := 2) C dL_law_322 (by decide) ?_
    refine gl_iadd C dL_law_323 ?_
    refine gl_sld C i2 dL_law_324 ?_
    refine gl_if_eq (tgt := 332) C dL_law_325 (by decide) (fun q => absurd q c303) (fun _ => ?_)
    refine gl_iconst (v := 1) C dL_law_328 (by decide) ?_
    refine gl_goto (tgt := 333) C dL_law_329 (by decide) ?_
    refine gl_mi C [.int (xs (x3 + 1).toNatClampNeg), .int 1] (mq_X7_step C.2.2.2.1 (xs (x3 + 1).toNatClampNeg) 1 μ _ h) gL_law_X7_step rfl rfl dq_X7_step ⟨rfl, rfl, by decide, by decide⟩ rfl rfl (Nat.le_of_ble_eq_true rfl) dL_law_333 (fun r1 ν h => ?_)
    refine gl_icmp_eq (tgt := 1000) C dL_law_336 (by decide) (fun _ => ?_) (fun q => absurd h.1 q)
    exact hnext _ _ h.2
set_option maxRecDepth 100000 in
set_option maxHeartbeats 4000000 in
theorem gl_c_rest {p : Program} {l : Launch} {e : Env} {s : State} {m : MethodId} {below : List Frame} {meth : Method} {c : Code} {D : va_G} {cyI cyZ cyS : ClassId} {ad bd : Nat → Nat} {b L tt : Nat} {xs : Nat → Int32} {Rel : gq_M → gq_M → Prop} {σ μ : gq_M} {x3 : Int32} (C : gl_C p s m meth c D cyI cyZ cyS ad bd b L tt xs) (hsim : gl_S_rest Rel σ μ) (i1 : vp_in (x3 + 1) L) (i2 : vp_in (x3 + 2) L) (i3 : vp_in (x3 + 3) L) (i4 : vp_in (x3 + 4) L) (hnext : ∀ τ ν, Rel τ ν → gl_G p l e s m below meth c D cyI cyZ cyS ad bd b τ ν 1000 [(0, .ref b), (1, .ref (ad 0)), (2, .ref (bd 0)), (3, .int x3)] []) : gl_G p l e s m below meth c D cyI cyZ cyS ad bd b σ μ 341 [(0, .ref b), (1, .ref (ad 0)), (2, .ref (bd 0)), (3, .int x3)] [] := by
  refine gl_aload_n (j := 1) C dL_law_341 rfl ?_
  refine gl_aload_n (j := 0) C dL_law_342 rfl ?_
  refine gl_iload_n (j := 3) C dL_law_343 rfl ?_
  refine gl_iconst (v := 1) C dL_law_344 (by decide) ?_
  refine gl_iadd C dL_law_345 ?_
  refine gl_sld C i1 dL_law_346 ?_
  have h := hsim (xs (x3 + 1).toNatClampNeg)
  refine gl_ci C [.int (xs (x3 + 1).toNatClampNeg)] (mq_X6_rest C.2.2.1 (xs (x3 + 1).toNatClampNeg) σ _ h) gL_law_X6_rest rfl rfl dq_X6_rest ⟨rfl, rfl, by decide, by decide⟩ rfl rfl (Nat.le_of_ble_eq_true rfl) dL_law_347 (fun r0 τ h => ?_)
  refine gl_aload_n (j := 2) C dL_law_350 rfl ?_
  refine gl_aload_n (j := 0) C dL_law_351 rfl ?_
  refine gl_iload_n (j := 3) C dL_law_352 rfl ?_
  refine gl_iconst (v := 1) C dL_law_353 (by decide) ?_
  refine gl_iadd C dL_law_354 ?_
  refine gl_sld C i1 dL_law_355 ?_
  refine gl_mi C [.int (xs (x3 + 1).toNatClampNeg)] (mq_X7_rest C.2.2.2.1 (xs (x3 + 1).toNatClampNeg) μ _ h) gL_law_X7_rest rfl rfl dq_X7_rest ⟨rfl, rfl, by decide, by decide⟩ rfl rfl (Nat.le_of_ble_eq_true rfl) dL_law_356 (fun r1 ν h => ?_)
  refine gl_icmp_eq (tgt := 1000) C dL_law_359 (by decide) (fun _ => ?_) (fun q => absurd h.1 q)
  exact hnext _ _ h.2
set_option maxRecDepth 100000 in
set_option maxHeartbeats 4000000 in
theorem gl_c_grease {p : Program} {l : Launch} {e : Env} {s : State} {m : MethodId} {below : List Frame} {meth : Method} {c : Code} {D : va_G} {cyI cyZ cyS : ClassId} {ad bd : Nat → Nat} {b L tt : Nat} {xs : Nat → Int32} {Rel : gq_M → gq_M → Prop} {σ μ : gq_M} {x3 : Int32} (C : gl_C p s m meth c D cyI cyZ cyS ad bd b L tt xs) (hsim : gl_S_grease Rel σ μ) (i1 : vp_in (x3 + 1) L) (i2 : vp_in (x3 + 2) L) (i3 : vp_in (x3 + 3) L) (i4 : vp_in (x3 + 4) L) (hnext : ∀ τ ν, Rel τ ν → gl_G p l e s m below meth c D cyI cyZ cyS ad bd b τ ν 1000 [(0, .ref b), (1, .ref (ad 0)), (2, .ref (bd 0)), (3, .int x3)] []) : gl_G p l e s m below meth c D cyI cyZ cyS ad bd b σ μ 364 [(0, .ref b), (1, .ref (ad 0)), (2, .ref (bd 0)), (3, .int x3)] [] := by
  refine gl_aload_n (j := 1) C dL_law_364 rfl ?_
  refine gl_aload_n (j := 0) C dL_law_365 rfl ?_
  refine gl_iload_n (j := 3) C dL_law_366 rfl ?_
  refine gl_iconst (v := 1) C dL_law_367 (by decide) ?_
  refine gl_iadd C dL_law_368 ?_
  refine gl_sld C i1 dL_law_369 ?_
  have h := hsim (xs (x3 + 1).toNatClampNeg)
  refine gl_ci C [.int (xs (x3 + 1).toNatClampNeg)] (mq_X6_grease C.2.2.1 (xs (x3 + 1).toNatClampNeg) σ _ h) gL_law_X6_grease rfl rfl dq_X6_grease ⟨rfl, rfl, by decide, by decide⟩ rfl rfl (Nat.le_of_ble_eq_true rfl) dL_law_370 (fun r0 τ h => ?_)
  refine gl_aload_n (j := 2) C dL_law_373 rfl ?_
  refine gl_aload_n (j := 0) C dL_law_374 rfl ?_
  refine gl_iload_n (j := 3) C dL_law_375 rfl ?_
  refine gl_iconst (v := 1) C dL_law_376 (by decide) ?_
  refine gl_iadd C dL_law_377 ?_
  refine gl_sld C i1 dL_law_378 ?_
  refine gl_mi C [.int (xs (x3 + 1).toNatClampNeg)] (mq_X7_grease C.2.2.2.1 (xs (x3 + 1).toNatClampNeg) μ _ h) gL_law_X7_grease rfl rfl dq_X7_grease ⟨rfl, rfl, by decide, by decide⟩ rfl rfl (Nat.le_of_ble_eq_true rfl) dL_law_379 (fun r1 ν h => ?_)
  refine gl_icmp_eq (tgt := 1000) C dL_law_382 (by decide) (fun _ => ?_) (fun q => absurd h.1 q)
  exact hnext _ _ h.2
set_option maxRecDepth 100000 in
set_option maxHeartbeats 4000000 in
theorem gl_c_freeze {p : Program} {l : Launch} {e : Env} {s : State} {m : MethodId} {below : List Frame} {meth : Method} {c : Code} {D : va_G} {cyI cyZ cyS : ClassId} {ad bd : Nat → Nat} {b L tt : Nat} {xs : Nat → Int32} {Rel : gq_M → gq_M → Prop} {σ μ : gq_M} {x3 : Int32} (C : gl_C p s m meth c D cyI cyZ cyS ad bd b L tt xs) (hsim : gl_S_freeze Rel σ μ) (i1 : vp_in (x3 + 1) L) (i2 : vp_in (x3 + 2) L) (i3 : vp_in (x3 + 3) L) (i4 : vp_in (x3 + 4) L) (hnext : ∀ τ ν, Rel τ ν → gl_G p l e s m below meth c D cyI cyZ cyS ad bd b τ ν 1000 [(0, .ref b), (1, .ref (ad 0)), (2, .ref (bd 0)), (3, .int x3)] []) : gl_G p l e s m below meth c D cyI cyZ cyS ad bd b σ μ 387 [(0, .ref b), (1, .ref (ad 0)), (2, .ref (bd 0)), (3, .int x3)] [] := by
  refine gl_aload_n (j := 1) C dL_law_387 rfl ?_
  have h :  wq_X6_freeze σ (fun r τ => wq_X7_freeze μ (fun r2 ν => r = r2 ∧ Rel τ ν)) := hsim
  refine gl_ci C [] (mq_X6_freeze C.2.2.1 σ _ h) gL_law_X6_freeze rfl rfl dq_X6_freeze ⟨rfl, rfl, by decide, by decide⟩ rfl rfl (Nat.le_of_ble_eq_true rfl) dL_law_388 (fun r0 τ h => ?_)
  refine gl_aload_n (j := 2) C dL_law_391 rfl ?_
  refine gl_mi C [] (mq_X7_freeze C.2.2.2.1 μ _ h) gL_law_X7_freeze rfl rfl dq_X7_freeze ⟨rfl, rfl, by decide, by decide⟩ rfl rfl (Nat.le_of_ble_eq_true rfl) dL_law_392 (fun r1 ν h => ?_)
  refine gl_icmp_eq (tgt := 1000) C dL_law_395 (by decide) (fun _ => ?_) (fun q => absurd h.1 q)
  exact hnext _ _ h.2
set_option maxRecDepth 100000 in
set_option maxHeartbeats 4000000 in
theorem gl_c_thaw {p : Program} {l : Launch} {e : Env} {s : State} {m : MethodId} {below : List Frame} {meth : Method} {c : Code} {D : va_G} {cyI cyZ cyS : ClassId} {ad bd : Nat → Nat} {b L tt : Nat} {xs : Nat → Int32} {Rel : gq_M → gq_M → Prop} {σ μ : gq_M} {x3 : Int32} (C : gl_C p s m meth c D cyI cyZ cyS ad bd b L tt xs) (hsim : gl_S_thaw Rel σ μ) (i1 : vp_in (x3 + 1) L) (i2 : vp_in (x3 + 2) L) (i3 : vp_in (x3 + 3) L) (i4 : vp_in (x3 + 4) L) (hnext : ∀ τ ν, Rel τ ν → gl_G p l e s m below meth c D cyI cyZ cyS ad bd b τ ν 1000 [(0, .ref b), (1, .ref (ad 0)), (2, .ref (bd 0)), (3, .int x3)] []) : gl_G p l e s m below meth c D cyI cyZ cyS ad bd b σ μ 400 [(0, .ref b), (1, .ref (ad 0)), (2, .ref (bd 0)), (3, .int x3)] [] := by
  refine gl_aload_n (j := 1) C dL_law_400 rfl ?_
  have h :  wq_X6_thaw σ (fun r τ => wq_X7_thaw μ (fun r2 ν => r = r2 ∧ Rel τ ν)) := hsim
  refine gl_ci C [] (mq_X6_thaw C.2.2.1 σ _ h) gL_law_X6_thaw rfl rfl dq_X6_thaw ⟨rfl, rfl, by decide, by decide⟩ rfl rfl (Nat.le_of_ble_eq_true rfl) dL_law_401 (fun r0 τ h => ?_)
  refine gl_aload_n (j := 2) C dL_law_404 rfl ?_
  refine gl_mi C [] (mq_X7_thaw C.2.2.2.1 μ _ h) gL_law_X7_thaw rfl rfl dq_X7_thaw ⟨rfl, rfl, by decide, by decide⟩ rfl rfl (Nat.le_of_ble_eq_true rfl) dL_law_405 (fun r1 ν h => ?_)
  refine gl_icmp_eq (tgt := 1000) C dL_law_408 (by decide) (fun _ => ?_) (fun q => absurd h.1 q)
  exact hnext _ _ h.2
set_option maxRecDepth 100000 in
set_option maxHeartbeats 4000000 in
theorem gl_c_undo {p : Program} {l : Launch} {e : Env} {s : State} {m : MethodId} {below : List Frame} {meth : Method} {c : Code} {D : va_G} {cyI cyZ cyS : ClassId} {ad bd : Nat → Nat} {b L tt : Nat} {xs : Nat → Int32} {Rel : gq_M → gq_M → Prop} {σ μ : gq_M} {x3 : Int32} (C : gl_C p s m meth c D cyI cyZ cyS ad bd b L tt xs) (hsim : gl_S_undo Rel σ μ) (i1 : vp_in (x3 + 1) L) (i2 : vp_in (x3 + 2) L) (i3 : vp_in (x3 + 3) L) (i4 : vp_in (x3 + 4) L) (hnext : ∀ τ ν, Rel τ ν → gl_G p l e s m below meth c D cyI cyZ cyS ad bd b τ ν 1000 [(0, .ref b), (1, .ref (ad 0)), (2, .ref (bd 0)), (3, .int x3)] []) : gl_G p l e s m below meth c D cyI cyZ cyS ad bd b σ μ 413 [(0, .ref b), (1, .ref (ad 0)), (2, .ref (bd 0)), (3, .int x3)] [] := by
  refine gl_aload_n (j := 1) C dL_law_413 rfl ?_
  have h :  wq_X6_undo σ (fun r τ => wq_X7_undo μ (fun r2 ν => r = r2 ∧ Rel τ ν)) := hsim
  refine gl_ci C [] (mq_X6_undo C.2.2.1 σ _ h) gL_law_X6_undo rfl rfl dq_X6_undo ⟨rfl, rfl, by decide, by decide⟩ rfl rfl (Nat.le_of_ble_eq_true rfl) dL_law_414 (fun r0 τ h => ?_)
  refine gl_aload_n (j := 2) C dL_law_417 rfl ?_
  refine gl_mi C [] (mq_X7_undo C.2.2.2.1 μ _ h) gL_law_X7_undo rfl rfl dq_X7_undo ⟨rfl, rfl, by decide, by decide⟩ rfl rfl (Nat.le_of_ble_eq_true rfl) dL_law_418 (fun r1 ν h => ?_)
  refine gl_icmp_eq (tgt := 1000) C dL_law_421 (by decide) (fun _ => ?_) (fun q => absurd h.1 q)
  exact hnext _ _ h.2
set_option maxRecDepth 100000 in
set_option maxHeartbeats 4000000 in
theorem gl_c_reach {p : Program} {l : Launch} {e : Env} {s : State} {m : MethodId} {below : List Frame} {meth : Method} {c : Code} {D : va_G} {cyI cyZ cyS : ClassId} {ad bd : Nat → Nat} {b L tt : Nat} {xs : Nat → Int32} {Rel : gq_M → gq_M → Prop} {σ μ : gq_M} {x3 : Int32} (C : gl_C p s m meth c D cyI cyZ cyS ad bd b L tt xs) (hsim : gl_S_reach Rel σ μ) (i1 : vp_in (x3 + 1) L) (i2 : vp_in (x3 + 2) L) (i3 : vp_in (x3 + 3) L) (i4 : vp_in (x3 + 4) L) (hnext : ∀ τ ν, Rel τ ν → gl_G p l e s m below meth c D cyI cyZ cyS ad bd b τ ν 1000 [(0, .ref b), (1, .ref (ad 0)), (2, .ref (bd 0)), (3, .int x3)] []) : gl_G p l e s m below meth c D cyI cyZ cyS ad bd b σ μ 426 [(0, .ref b), (1, .ref (ad 0)), (2, .ref (bd 0)), (3, .int x3)] [] := by
  refine gl_aload_n (j := 1) C dL_law_426 rfl ?_
  refine gl_aload_n (j := 0) C dL_law_427 rfl ?_
  refine gl_iload_n (j := 3) C dL_law_428 rfl ?_
  refine gl_iconst (v := 1) C dL_law_429 (by decide) ?_
  refine gl_iadd C dL_law_430 ?_
  refine gl_sld C i1 dL_law_431 ?_
  have h := hsim (xs (x3 + 1).toNatClampNeg)
  refine gl_ci C [.int (xs (x3 + 1).toNatClampNeg)] (mq_X6_reach C.2.2.1 (xs (x3 + 1).toNatClampNeg) σ _ h) gL_law_X6_reach rfl rfl dq_X6_reach ⟨rfl, rfl, by decide, by decide⟩ rfl rfl (Nat.le_of_ble_eq_true rfl) dL_law_432 (fun r0 τ h => ?_)
  refine gl_aload_n (j := 2) C dL_law_435 rfl ?_
  refine gl_aload_n (j := 0) C dL_law_436 rfl ?_
  refine gl_iload_n (j := 3) C dL_law_437 rfl ?_
  refine gl_iconst (v := 1) C dL_law_438 (by decide) ?_
  refine gl_iadd C dL_law_439 ?_
  refine gl_sld C i1 dL_law_440 ?_
  refine gl_mi C [.int (xs (x3 + 1).toNatClampNeg)] (mq_X7_reach C.2.2.2.1 (xs (x3 + 1).toNatClampNeg) μ _ h) gL_law_X7_reach rfl rfl dq_X7_reach ⟨rfl, rfl, by decide, by decide⟩ rfl rfl (Nat.le_of_ble_eq_true rfl) dL_law_441 (fun r1 ν h => ?_)
  refine gl_icmp_eq (tgt := 1000) C dL_law_444 (by decide) (fun _ => ?_) (fun q => absurd h.1 q)
  exact hnext _ _ h.2
set_option maxRecDepth 100000 in
set_option maxHeartbeats 4000000 in
theorem gl_c_fewest {p : Program} {l : Launch} {e : Env} {s : State} {m : MethodId} {below : List Frame} {meth : Method} {c : Code} {D : va_G} {cyI cyZ cyS : ClassId} {ad bd : Nat → Nat} {b L tt : Nat} {xs : Nat → Int32} {Rel : gq_M → gq_M → Prop} {σ μ : gq_M} {x3 : Int32} (C : gl_C p s m meth c D cyI cyZ cyS ad bd b L tt xs) (hsim : gl_S_fewest Rel σ μ) (i1 : vp_in (x3 + 1) L) (i2 : vp_in (x3 + 2) L) (i3 : vp_in (x3 + 3) L) (i4 : vp_in (x3 + 4) L) (hnext : ∀ τ ν, Rel τ ν → gl_G p l e s m below meth c D cyI cyZ cyS ad bd b τ ν 1000 [(0, .ref b), (1, .ref (ad 0)), (2, .ref (bd 0)), (3, .int x3)] []) : gl_G p l e s m below meth c D cyI cyZ cyS ad bd b σ μ 449 [(0, .ref b), (1, .ref (ad 0)), (2, .ref (bd 0)), (3, .int x3)] [] := by
  refine gl_aload_n (j := 1) C dL_law_449 rfl ?_
  refine gl_aload_n (j := 0) C dL_law_450 rfl ?_
  refine gl_iload_n (j := 3) C dL_law_451 rfl ?_
  refine gl_iconst (v := 1) C dL_law_452 (by decide) ?_
  refine gl_iadd C dL_law_453 ?_
  refine gl_sld C i1 dL_law_454 ?_
  refine gl_aload_n (j := 0) C dL_law_455 rfl ?_
  refine gl_iload_n (j := 3) C dL_law_456 rfl ?_
  refine gl_iconst (v := 2) C dL_law_457 (by decide) ?_
  refine gl_iadd C dL_law_458 ?_
  refine gl_sld C i2 dL_law_459 ?_
  have h := hsim (xs (x3 + 1).toNatClampNeg) (xs (x3 + 2).toNatClampNeg)
  refine gl_ci C [.int (xs (x3 + 1).toNatClampNeg), .int (xs (x3 + 2).toNatClampNeg)] (mq_X6_fewest C.2.2.1 (xs (x3 + 1).toNatClampNeg) (xs (x3 + 2).toNatClampNeg) σ _ h) gL_law_X6_fewest rfl rfl dq_X6_fewest ⟨rfl, rfl, by decide, by decide⟩ rfl rfl (Nat.le_of_ble_eq_true rfl) dL_law_460 (fun r0 τ h => ?_)
  refine gl_aload_n (j := 2) C dL_law_463 rfl ?_
  refine gl_aload_n (j := 0) C dL_law_464 rfl ?_
  refine gl_iload_n (j := 3) C dL_law_465 rfl ?_
  refine gl_iconst (v := 1) C dL_law_466 (by decide) ?_
  refine gl_iadd C dL_law_467 ?_
  refine gl_sld C i1 dL_law_468 ?_
  refine gl_aload_n (j := 0) C dL_law_469 rfl ?_
  refine gl_iload_n (j := 3) C dL_law_470 rfl ?_
  refine gl_iconst (v := 2) C dL_law_471 (by decide) ?_
  refine gl_iadd C dL_law_472 ?_
  refine gl_sld C i2 dL_law_473 ?_
  refine gl_mi C [.int (xs (x3 + 1).toNatClampNeg), .int (xs (x3 + 2).toNatClampNeg)] (mq_X7_fewest C.2.2.2.1 (xs (x3 + 1).toNatClampNeg) (xs (x3 + 2).toNatClampNeg) μ _ h) gL_law_X7_fewest rfl rfl dq_X7_fewest ⟨rfl, rfl, by decide, by decide⟩ rfl rfl (Nat.le_of_ble_eq_true rfl) dL_law_474 (fun r1 ν h => ?_)
  refine gl_icmp_eq (tgt := 1000) C dL_law_477 (by decide) (fun _ => ?_) (fun q => absurd h.1 q)
  exact hnext _ _ h.2
set_option maxRecDepth 100000 in
set_option maxHeartbeats 4000000 in
theorem gl_c_wants {p : Program} {l : Launch} {e : Env} {s : State} {m : MethodId} {below : List Frame} {meth : Method} {c : Code} {D : va_G} {cyI cyZ cyS : ClassId} {ad bd : Nat → Nat} {b L tt : Nat} {xs : Nat → Int32} {Rel : gq_M → gq_M → Prop} {σ μ : gq_M} {x3 : Int32} (C : gl_C p s m meth c D cyI cyZ cyS ad bd b L tt xs) (hsim : gl_S_wants Rel σ μ) (i1 : vp_in (x3 + 1) L) (i2 : vp_in (x3 + 2) L) (i3 : vp_in (x3 + 3) L) (i4 : vp_in (x3 + 4) L) (hnext : ∀ τ ν, Rel τ ν → gl_G p l e s m below meth c D cyI cyZ cyS ad bd b τ ν 1000 [(0, .ref b), (1, .ref (ad 0)), (2, .ref (bd 0)), (3, .int x3)] []) : gl_G p l e s m below meth c D cyI cyZ cyS ad bd b σ μ 482 [(0, .ref b), (1, .ref (ad 0)), (2, .ref (bd 0)), (3, .int x3)] [] := by
  refine gl_aload_n (j := 1) C dL_law_482 rfl ?_
  refine gl_aload_n (j := 0) C dL_law_483 rfl ?_
  refine gl_iload_n (j := 3) C dL_law_484 rfl ?_
  refine gl_iconst (v := 1) C dL_law_485 (by decide) ?_
  refine gl_iadd C dL_law_486 ?_
  refine gl_sld C i1 dL_law_487 ?_
  refine gl_aload_n (j := 0) C dL_law_488 rfl ?_
  refine gl_iload_n (j := 3) C dL_law_489 rfl ?_
  refine gl_iconst (v := 2) C dL_law_490 (by decide) ?_
  refine gl_iadd C dL_law_491 ?_
  refine gl_sld C i2 dL_law_492 ?_
  have h := hsim (xs (x3 + 1).toNatClampNeg) (xs (x3 + 2).toNatClampNeg)
  refine gl_ci C [.int (xs (x3 + 1).toNatClampNeg), .int (xs (x3 + 2).toNatClampNeg)] (mq_X6_wants C.2.2.1 (xs (x3 + 1).toNatClampNeg) (xs (x3 + 2).toNatClampNeg) σ _ h) gL_law_X6_wants rfl rfl dq_X6_wants ⟨rfl, rfl, by decide, by decide⟩ rfl rfl (Nat.le_of_ble_eq_true rfl) dL_law_493 (fun r0 τ h => ?_)
  refine gl_aload_n (j := 2) C dL_law_496 rfl ?_
  refine gl_aload_n (j := 0) C dL_law_497 rfl ?_
  refine gl_iload_n (j := 3) C dL_law_498 rfl ?_
  refine gl_iconst (v := 1) C dL_law_499 (by decide) ?_
  refine gl_iadd C dL_law_500 ?_
  refine gl_sld C i1 dL_law_501 ?_
  refine gl_aload_n (j := 0) C dL_law_502 rfl ?_
  refine gl_iload_n (j := 3) C dL_law_503 rfl ?_
  refine gl_iconst (v := 2) C dL_law_504 (by decide) ?_
  refine gl_iadd C dL_law_505 ?_
  refine gl_sld C i2 dL_law_506 ?_
  refine gl_mi C [.int (xs (x3 + 1).toNatClampNeg), .int (xs (x3 + 2).toNatClampNeg)] (mq_X7_wants C.2.2.2.1 (xs (x3 + 1).toNatClampNeg) (xs (x3 + 2).toNatClampNeg) μ _ h) gL_law_X7_wants rfl rfl dq_X7_wants ⟨rfl, rfl, by decide, by decide⟩ rfl rfl (Nat.le_of_ble_eq_true rfl) dL_law_507 (fun r1 ν h => ?_)
  refine gl_icmp_eq (tgt := 1000) C dL_law_510 (by decide) (fun _ => ?_) (fun q => absurd h.1 q)
  exact hnext _ _ h.2
set_option maxRecDepth 100000 in
set_option maxHeartbeats 4000000 in
theorem gl_c_shutIn {p : Program} {l : Launch} {e : Env} {s : State} {m : MethodId} {below : List Frame} {meth : Method} {c : Code} {D : va_G} {cyI cyZ cyS : ClassId} {ad bd : Nat → Nat} {b L tt : Nat} {xs : Nat → Int32} {Rel : gq_M → gq_M → Prop} {σ μ : gq_M} {x3 : Int32} (C : gl_C p s m meth c D cyI cyZ cyS ad bd b L tt xs) (hsim : gl_S_shutIn Rel σ μ) (i1 : vp_in (x3 + 1) L) (i2 : vp_in (x3 + 2) L) (i3 : vp_in (x3 + 3) L) (i4 : vp_in (x3 + 4) L) (hnext : ∀ τ ν, Rel τ ν → gl_G p l e s m below meth c D cyI cyZ cyS ad bd b τ ν 1000 [(0, .ref b), (1, .ref (ad 0)), (2, .ref (bd 0)), (3, .int x3)] []) : gl_G p l e s m below meth c D cyI cyZ cyS ad bd b σ μ 515 [(0, .ref b), (1, .ref (ad 0)), (2, .ref (bd 0)), (3, .int x3)] [] := by
  refine gl_aload_n (j := 1) C dL_law_515 rfl ?_
  have h :  wq_X6_shutIn σ (fun r τ => wq_X7_shutIn μ (fun r2 ν => r = r2 ∧ Rel τ ν)) := hsim
  refine gl_ci C [] (mq_X6_shutIn C.2.2.1 σ _ h) gL_law_X6_shutIn rfl rfl dq_X6_shutIn ⟨rfl, rfl, by decide, by decide⟩ rfl rfl (Nat.le_of_ble_eq_true rfl) dL_law_516 (fun r0 τ h => ?_)
  refine gl_aload_n (j := 2) C dL_law_519 rfl ?_
  refine gl_mi C [] (mq_X7_shutIn C.2.2.2.1 μ _ h) gL_law_X7_shutIn rfl rfl dq_X7_shutIn ⟨rfl, rfl, by decide, by decide⟩ rfl rfl (Nat.le_of_ble_eq_true rfl) dL_law_520 (fun r1 ν h => ?_)
  refine gl_icmp_eq (tgt := 1000) C dL_law_523 (by decide) (fun _ => ?_) (fun q => absurd h.1 q)
  exact hnext _ _ h.2
set_option maxRecDepth 100000 in
set_option maxHeartbeats 4000000 in
theorem gl_c_meet {p : Program} {l : Launch} {e : Env} {s : State} {m : MethodId} {below : List Frame} {meth : Method} {c : Code} {D : va_G} {cyI cyZ cyS : ClassId} {ad bd : Nat → Nat} {b L tt : Nat} {xs : Nat → Int32} {Rel : gq_M → gq_M → Prop} {σ μ : gq_M} {x3 : Int32} (C : gl_C p s m meth c D cyI cyZ cyS ad bd b L tt xs) (hsim : gl_S_meet Rel σ μ) (i1 : vp_in (x3 + 1) L) (i2 : vp_in (x3 + 2) L) (i3 : vp_in (x3 + 3) L) (i4 : vp_in (x3 + 4) L) (hnext : ∀ τ ν, Rel τ ν → gl_G p l e s m below meth c D cyI cyZ cyS ad bd b τ ν 1000 [(0, .ref b), (1, .ref (ad 0)), (2, .ref (bd 0)), (3, .int x3)] []) : gl_G p l e s m below meth c D cyI cyZ cyS ad bd b σ μ 528 [(0, .ref b), (1, .ref (ad 0)), (2, .ref (bd 0)), (3, .int x3)] [] := by
  refine gl_aload_n (j := 1) C dL_law_528 rfl ?_
  refine gl_aload_n (j := 0) C dL_law_529 rfl ?_
  refine gl_iload_n (j := 3) C dL_law_530 rfl ?_
  refine gl_iconst (v := 1) C dL_law_531 (by decide) ?_
  refine gl_iadd C dL_law_532 ?_
  refine gl_sld C i1 dL_law_533 ?_
  refine gl_aload_n (j := 0) C dL_law_534 rfl ?_
  refine gl_iload_n (j := 3) C dL_law_535 rfl ?_
  refine gl_iconst (v := 2) C dL_law_536 (by decide) ?_
  refine gl_iadd C dL_law_537 ?_
  refine gl_sld C i2 dL_law_538 ?_
  have h := hsim (xs (x3 + 1).toNatClampNeg) (xs (x3 + 2).toNatClampNeg)
  refine gl_ci C [.int (xs (x3 + 1).toNatClampNeg), .int (xs (x3 + 2).toNatClampNeg)] (mq_X6_meet C.2.2.1 (xs (x3 + 1).toNatClampNeg) (xs (x3 + 2).toNatClampNeg) σ _ h) gL_law_X6_meet rfl rfl dq_X6_meet ⟨rfl, rfl, by decide, by decide⟩ rfl rfl (Nat.le_of_ble_eq_true rfl) dL_law_539 (fun r0 τ h => ?_)
  refine gl_aload_n (j := 2) C dL_law_542 rfl ?_
  refine gl_aload_n (j := 0) C dL_law_543 rfl ?_
  refine gl_iload_n (j := 3) C dL_law_544 rfl ?_
  refine gl_iconst (v := 1) C dL_law_545 (by decide) ?_
  refine gl_iadd C dL_law_546 ?_
  refine gl_sld C i1 dL_law_547 ?_
  refine gl_aload_n (j := 0) C dL_law_548 rfl ?_
  refine gl_iload_n (j := 3) C dL_law_549 rfl ?_
  refine gl_iconst (v := 2) C dL_law_550 (by decide) ?_
  refine gl_iadd C dL_law_551 ?_
  refine gl_sld C i2 dL_law_552 ?_
  refine gl_mi C [.int (xs (x3 + 1).toNatClampNeg), .int (xs (x3 + 2).toNatClampNeg)] (mq_X7_meet C.2.2.2.1 (xs (x3 + 1).toNatClampNeg) (xs (x3 + 2).toNatClampNeg) μ _ h) gL_law_X7_meet rfl rfl dq_X7_meet ⟨rfl, rfl, by decide, by decide⟩ rfl rfl (Nat.le_of_ble_eq_true rfl) dL_law_553 (fun r1 ν h => ?_)
  refine gl_icmp_eq (tgt := 1000) C dL_law_556 (by decide) (fun _ => ?_) (fun q => absurd h.1 q)
  exact hnext _ _ h.2
set_option maxRecDepth 100000 in
set_option maxHeartbeats 4000000 in
theorem gl_c_judge {p : Program} {l : Launch} {e : Env} {s : State} {m : MethodId} {below : List Frame} {meth : Method} {c : Code} {D : va_G} {cyI cyZ cyS : ClassId} {ad bd : Nat → Nat} {b L tt : Nat} {xs : Nat → Int32} {Rel : gq_M → gq_M → Prop} {σ μ : gq_M} {x3 : Int32} (C : gl_C p s m meth c D cyI cyZ cyS ad bd b L tt xs) (hsim : gl_S_judge Rel tt σ μ) (i1 : vp_in (x3 + 1) L) (i2 : vp_in (x3 + 2) L) (i3 : vp_in (x3 + 3) L) (i4 : vp_in (x3 + 4) L) (hnext : ∀ τ ν, Rel τ ν → gl_G p l e s m below meth c D cyI cyZ cyS ad bd b τ ν 1000 [(0, .ref b), (1, .ref (ad 0)), (2, .ref (bd 0)), (3, .int x3)] []) : gl_G p l e s m below meth c D cyI cyZ cyS ad bd b σ μ 561 [(0, .ref b), (1, .ref (ad 0)), (2, .ref (bd 0)), (3, .int x3)] [] := by
  refine gl_aload_n (j := 1) C dL_law_561 rfl ?_
  refine gl_aload_n (j := 0) C dL_law_562 rfl ?_
  refine gl_iload_n (j := 3) C dL_law_563 rfl ?_
  refine gl_iconst (v := 1) C dL_law_564 (by decide) ?_
  refine gl_iadd C dL_law_565 ?_
  refine gl_sld C i1 dL_law_566 ?_
  refine gl_aload_n (j := 0) C dL_law_567 rfl ?_
  refine gl_iload_n (j := 3) C dL_law_568 rfl ?_
  refine gl_iconst (v := 2) C dL_law_569 (by decide) ?_
  refine gl_iadd C dL_law_570 ?_
  refine gl_sld C i2 dL_law_571 ?_
  refine gl_i2l C dL_law_572 ?_
  refine gl_bipush (v := 32) C dL_law_573 (by decide) ?_
  refine gl_lshl C dL_law_575 ?_
  refine gl_aload_n (j := 0) C dL_law_576 rfl ?_
  refine gl_iload_n (j := 3) C dL_law_577 rfl ?_
  refine gl_iconst (v := 3) C dL_law_578 (by decide) ?_
  refine gl_iadd C dL_law_579 ?_
  refine gl_sld C i3 dL_law_580 ?_
  refine gl_i2l C dL_law_581 ?_
  refine gl_ldc2 (v := 4294967295) C (by decide +kernel) dL_law_582 ?_
  refine gl_land C dL_law_585 ?_
  refine gl_lor C dL_law_586 ?_
  have h := hsim (xs (x3 + 1).toNatClampNeg) (((xs (x3 + 2).toNatClampNeg).toInt64 <<< ((32 : Int32).toInt64 &&& 63)) ||| ((xs (x3 + 3).toNatClampNeg).toInt64 &&& 4294967295))
  refine gl_cj C [.int (xs (x3 + 1).toNatClampNeg), .long (((xs (x3 + 2).toNatClampNeg).toInt64 <<< ((32 : Int32).toInt64 &&& 63)) ||| ((xs (x3 + 3).toNatClampNeg).toInt64 &&& 4294967295))] (mq_X6_judge C.2.2.1 (tt := tt) (xs (x3 + 1).toNatClampNeg) (((xs (x3 + 2).toNatClampNeg).toInt64 <<< ((32 : Int32).toInt64 &&& 63)) ||| ((xs (x3 + 3).toNatClampNeg).toInt64 &&& 4294967295)) σ _ h) gL_law_X6_judge rfl rfl dq_X6_judge ⟨rfl, rfl, by decide, by decide⟩ rfl rfl (Nat.le_of_ble_eq_true rfl) dL_law_587 (fun r0 τ h => ?_)
  refine gl_aload_n (j := 2) C dL_law_590 rfl ?_
  refine gl_aload_n (j := 0) C dL_law_591 rfl ?_
  refine gl_iload_n (j := 3) C dL_law_592 rfl ?_
  refine gl_iconst (v := 1) C dL_law_593 (by decide) ?_
  refine gl_iadd C dL_law_594 ?_
  refine gl_sld C i1 dL_law_595 ?_
  refine gl_aload_n (j := 0) C dL_law_596 rfl ?_
  refine gl_iload_n (j := 3) C dL_law_597 rfl ?_
  refine gl_iconst (v := 2) C dL_law_598 (by decide) ?_
  refine gl_iadd C dL_law_599 ?_
  refine gl_sld C i2 dL_law_600 ?_
  refine gl_i2l C dL_law_601 ?_
  refine gl_bipush (v := 32) C dL_law_602 (by decide) ?_
  refine gl_lshl C dL_law_604 ?_
  refine gl_aload_n (j := 0) C dL_law_605 rfl ?_
  refine gl_iload_n (j := 3) C dL_law_606 rfl ?_
  refine gl_iconst (v := 3) C dL_law_607 (by decide) ?_
  refine gl_iadd C dL_law_608 ?_
  refine gl_sld C i3 dL_law_609 ?_
  refine gl_i2l C dL_law_610 ?_
  refine gl_ldc2 (v := 4294967295) C (by decide +kernel) dL_law_611 ?_
  refine gl_land C dL_law_614 ?_
  refine gl_lor C dL_law_615 ?_
  refine gl_mi C [.int (xs (x3 + 1).toNatClampNeg), .long (((xs (x3 + 2).toNatClampNeg).toInt64 <<< ((32 : Int32).toInt64 &&& 63)) ||| ((xs (x3 + 3).toNatClampNeg).toInt64 &&& 4294967295))] (mq_X7_judge C.2.2.2.1 (xs (x3 + 1).toNatClampNeg) (((xs (x3 + 2).toNatClampNeg).toInt64 <<< ((32 : Int32).toInt64 &&& 63)) ||| ((xs (x3 + 3).toNatClampNeg).toInt64 &&& 4294967295)) μ _ h) gL_law_X7_judge rfl rfl dq_X7_judge ⟨rfl, rfl, by decide, by decide⟩ rfl rfl (Nat.le_of_ble_eq_true rfl) dL_law_616 (fun r1 ν h => ?_)
  refine gl_icmp_eq (tgt := 1000) C dL_law_619 (by decide) (fun _ => ?_) (fun q => absurd h.1 q)
  exact hnext _ _ h.2
set_option maxRecDepth 100000 in
set_option maxHeartbeats 4000000 in
theorem gl_c_hear {p : Program} {l : Launch} {e : Env} {s : State} {m : MethodId} {below : List Frame} {meth : Method} {c : Code} {D : va_G} {cyI cyZ cyS : ClassId} {ad bd : Nat → Nat} {b L tt : Nat} {xs : Nat → Int32} {Rel : gq_M → gq_M → Prop} {σ μ : gq_M} {x3 : Int32} (C : gl_C p s m meth c D cyI cyZ cyS ad bd b L tt xs) (hsim : gl_S_hear Rel σ μ) (i1 : vp_in (x3 + 1) L) (i2 : vp_in (x3 + 2) L) (i3 : vp_in (x3 + 3) L) (i4 : vp_in (x3 + 4) L) (hnext : ∀ τ ν, Rel τ ν → gl_G p l e s m below meth c D cyI cyZ cyS ad bd b τ ν 1000 [(0, .ref b), (1, .ref (ad 0)), (2, .ref (bd 0)), (3, .int x3)] []) : gl_G p l e s m below meth c D cyI cyZ cyS ad bd b σ μ 624 [(0, .ref b), (1, .ref (ad 0)), (2, .ref (bd 0)), (3, .int x3)] [] := by
  refine gl_aload_n (j := 1) C dL_law_624 rfl ?_
  refine gl_aload_n (j := 0) C dL_law_625 rfl ?_
  refine gl_iload_n (j := 3) C dL_law_626 rfl ?_
  refine gl_iconst (v := 1) C dL_law_627 (by decide) ?_
  refine gl_iadd C dL_law_628 ?_
  refine gl_sld C i1 dL_law_629 ?_
  refine gl_aload_n (j := 0) C dL_law_630 rfl ?_
  refine gl_iload_n (j := 3) C dL_law_631 rfl ?_
  refine gl_iconst (v := 2) C dL_law_632 (by decide) ?_
  refine gl_iadd C dL_law_633 ?_
  refine gl_sld C i2 dL_law_634 ?_
  have h := hsim (xs (x3 + 1).toNatClampNeg) (xs (x3 + 2).toNatClampNeg)
  refine gl_ci C [.int (xs (x3 + 1).toNatClampNeg), .int (xs (x3 + 2).toNatClampNeg)] (mq_X6_hear C.2.2.1 (xs (x3 + 1).toNatClampNeg) (xs (x3 + 2).toNatClampNeg) σ _ h) gL_law_X6_hear rfl rfl dq_X6_hear ⟨rfl, rfl, by decide, by decide⟩ rfl rfl (Nat.le_of_ble_eq_true rfl) dL_law_635 (fun r0 τ h => ?_)
  refine gl_aload_n (j := 2) C dL_law_638 rfl ?_
  refine gl_aload_n (j := 0) C dL_law_639 rfl ?_
  refine gl_iload_n (j := 3) C dL_law_640 rfl ?_
  refine gl_iconst (v := 1) C dL_law_641 (by decide) ?_
  refine gl_iadd C dL_law_642 ?_
  refine gl_sld C i1 dL_law_643 ?_
  refine gl_aload_n (j := 0) C dL_law_644 rfl ?_
  refine gl_iload_n (j := 3) C dL_law_645 rfl ?_
  refine gl_iconst (v := 2) C dL_law_646 (by decide) ?_
  refine gl_iadd C dL_law_647 ?_
  refine gl_sld C i2 dL_law_648 ?_
  refine gl_mi C [.int (xs (x3 + 1).toNatClampNeg), .int (xs (x3 + 2).toNatClampNeg)] (mq_X7_hear C.2.2.2.1 (xs (x3 + 1).toNatClampNeg) (xs (x3 + 2).toNatClampNeg) μ _ h) gL_law_X7_hear rfl rfl dq_X7_hear ⟨rfl, rfl, by decide, by decide⟩ rfl rfl (Nat.le_of_ble_eq_true rfl) dL_law_649 (fun r1 ν h => ?_)
  refine gl_icmp_eq (tgt := 1000) C dL_law_652 (by decide) (fun _ => ?_) (fun q => absurd h.1 q)
  exact hnext _ _ h.2
set_option maxRecDepth 100000 in
set_option maxHeartbeats 4000000 in
theorem gl_c_unhear {p : Program} {l : Launch} {e : Env} {s : State} {m : MethodId} {below : List Frame} {meth : Method} {c : Code} {D : va_G} {cyI cyZ cyS : ClassId} {ad bd : Nat → Nat} {b L tt : Nat} {xs : Nat → Int32} {Rel : gq_M → gq_M → Prop} {σ μ : gq_M} {x3 : Int32} (C : gl_C p s m meth c D cyI cyZ cyS ad bd b L tt xs) (hsim : gl_S_unhear Rel σ μ) (i1 : vp_in (x3 + 1) L) (i2 : vp_in (x3 + 2) L) (i3 : vp_in (x3 + 3) L) (i4 : vp_in (x3 + 4) L) (hnext : ∀ τ ν, Rel τ ν → gl_G p l e s m below meth c D cyI cyZ cyS ad bd b τ ν 1000 [(0, .ref b), (1, .ref (ad 0)), (2, .ref (bd 0)), (3, .int x3)] []) : gl_G p l e s m below meth c D cyI cyZ cyS ad bd b σ μ 657 [(0, .ref b), (1, .ref (ad 0)), (2, .ref (bd 0)), (3, .int x3)] [] := by
  refine gl_aload_n (j := 1) C dL_law_657 rfl ?_
  have h :  wq_X6_unhear σ (fun r τ => wq_X7_unhear μ (fun r2 ν => r = r2 ∧ Rel τ ν)) := hsim
  refine gl_ci C [] (mq_X6_unhear C.2.2.1 σ _ h) gL_law_X6_unhear rfl rfl dq_X6_unhear ⟨rfl, rfl, by decide, by decide⟩ rfl rfl (Nat.le_of_ble_eq_true rfl) dL_law_658 (fun r0 τ h => ?_)
  refine gl_aload_n (j := 2) C dL_law_661 rfl ?_
  refine gl_mi C [] (mq_X7_unhear C.2.2.2.1 μ _ h) gL_law_X7_unhear rfl rfl dq_X7_unhear ⟨rfl, rfl, by decide, by decide⟩ rfl rfl (Nat.le_of_ble_eq_true rfl) dL_law_662 (fun r1 ν h => ?_)
  refine gl_icmp_eq (tgt := 1000) C dL_law_665 (by decide) (fun _ => ?_) (fun q => absurd h.1 q)
  exact hnext _ _ h.2
set_option maxRecDepth 100000 in
set_option maxHeartbeats 4000000 in
theorem gl_c_who {p : Program} {l : Launch} {e : Env} {s : State} {m : MethodId} {below : List Frame} {meth : Method} {c : Code} {D : va_G} {cyI cyZ cyS : ClassId} {ad bd : Nat → Nat} {b L tt : Nat} {xs : Nat → Int32} {Rel : gq_M → gq_M → Prop} {σ μ : gq_M} {x3 : Int32} (C : gl_C p s m meth c D cyI cyZ cyS ad bd b L tt xs) (hsim : gl_S_who Rel σ μ) (i1 : vp_in (x3 + 1) L) (i2 : vp_in (x3 + 2) L) (i3 : vp_in (x3 + 3) L) (i4 : vp_in (x3 + 4) L) (hnext : ∀ τ ν, Rel τ ν → gl_G p l e s m below meth c D cyI cyZ cyS ad bd b τ ν 1000 [(0, .ref b), (1, .ref (ad 0)), (2, .ref (bd 0)), (3, .int x3)] []) : gl_G p l e s m below meth c D cyI cyZ cyS ad bd b σ μ 670 [(0, .ref b), (1, .ref (ad 0)), (2, .ref (bd 0)), (3, .int x3)] [] := by
  refine gl_aload_n (j := 1) C dL_law_670 rfl ?_
  refine gl_aload_n (j := 0) C dL_law_671 rfl ?_
  refine gl_iload_n (j := 3) C dL_law_672 rfl ?_
  refine gl_iconst (v := 1) C dL_law_673 (by decide) ?_
  refine gl_iadd C dL_law_674 ?_
  refine gl_sld C i1 dL_law_675 ?_
  have h := hsim (xs (x3 + 1).toNatClampNeg)
  refine gl_ci C [.int (xs (x3 + 1).toNatClampNeg)] (mq_X6_who C.2.2.1 (xs (x3 + 1).toNatClampNeg) σ _ h) gL_law_X6_who rfl rfl dq_X6_who ⟨rfl, rfl, by decide, by decide⟩ rfl rfl (Nat.le_of_ble_eq_true rfl) dL_law_676 (fun r0 τ h => ?_)
  refine gl_aload_n (j := 2) C dL_law_679 rfl ?_
  refine gl_aload_n (j := 0) C dL_law_680 rfl ?_
  refine gl_iload_n (j := 3) C dL_law_681 rfl ?_
  refine gl_iconst (v := 1) C dL_law_682 (by decide) ?_
  refine gl_iadd C dL_law_683 ?_
  refine gl_sld C i1 dL_law_684 ?_
  refine gl_mi C [.int (xs (x3 + 1).toNatClampNeg)] (mq_X7_who C.2.2.2.1 (xs (x3 + 1).toNatClampNeg) μ _ h) gL_law_X7_who rfl rfl dq_X7_who ⟨rfl, rfl, by decide, by decide⟩ rfl rfl (Nat.le_of_ble_eq_true rfl) dL_law_685 (fun r1 ν h => ?_)
  refine gl_icmp_eq (tgt := 1000) C dL_law_688 (by decide) (fun _ => ?_) (fun q => absurd h.1 q)
  exact hnext _ _ h.2
set_option maxRecDepth 100000 in
set_option maxHeartbeats 4000000 in
theorem gl_c_share {p : Program} {l : Launch} {e : Env} {s : State} {m : MethodId} {below : List Frame} {meth : Method} {c : Code} {D : va_G} {cyI cyZ cyS : ClassId} {ad bd : Nat → Nat} {b L tt : Nat} {xs : Nat → Int32} {Rel : gq_M → gq_M → Prop} {σ μ : gq_M} {x3 : Int32} (C : gl_C p s m meth c D cyI cyZ cyS ad bd b L tt xs) (hsim : gl_S_share Rel σ μ) (i1 : vp_in (x3 + 1) L) (i2 : vp_in (x3 + 2) L) (i3 : vp_in (x3 + 3) L) (i4 : vp_in (x3 + 4) L) (hnext : ∀ τ ν, Rel τ ν → gl_G p l e s m below meth c D cyI cyZ cyS ad bd b τ ν 1000 [(0, .ref b), (1, .ref (ad 0)), (2, .ref (bd 0)), (3, .int x3)] []) : gl_G p l e s m below meth c D cyI cyZ cyS ad bd b σ μ 693 [(0, .ref b), (1, .ref (ad 0)), (2, .ref (bd 0)), (3, .int x3)] [] := by
  refine gl_aload_n (j := 1) C dL_law_693 rfl ?_
  refine gl_aload_n (j := 0) C dL_law_694 rfl ?_
  refine gl_iload_n (j := 3) C dL_law_695 rfl ?_
  refine gl_iconst (v := 1) C dL_law_696 (by decide) ?_
  refine gl_iadd C dL_law_697 ?_
  refine gl_sld C i1 dL_law_698 ?_
  refine gl_aload_n (j := 0) C dL_law_699 rfl ?_
  refine gl_iload_n (j := 3) C dL_law_700 rfl ?_
  refine gl_iconst (v := 2) C dL_law_701 (by decide) ?_
  refine gl_iadd C dL_law_702 ?_
  refine gl_sld C i2 dL_law_703 ?_
  refine gl_if_eq (tgt := 711) C dL_law_704 (by decide) (fun c704 => ?_) (fun c704 => ?_)
  · refine gl_iconst (v := 0) C dL_law_711 (by decide) ?_
    have h := hsim (xs (x3 + 1).toNatClampNeg) 0 (Or.inl rfl)
    refine gl_ci C [.int (xs (x3 + 1).toNatClampNeg), .int 0] (mq_X6_share C.2.2.1 (xs (x3 + 1).toNatClampNeg) 0 σ _ h) gL_law_X6_share rfl rfl dq_X6_share ⟨rfl, rfl, by decide, by decide⟩ rfl rfl (Nat.le_of_ble_eq_true rfl) dL_law_712 (fun r0 τ h => ?_)
    refine gl_aload_n (j := 2) C dL_law_715 rfl ?_
    refine gl_aload_n (j := 0) C dL_law_716 rfl ?_
    refine gl_iload_n (j := 3) C dL_law_717 rfl ?_
    refine gl_iconst (v := 1) C dL_law_718 (by decide) ?_
    refine gl_iadd C dL_law_719 ?_
    refine gl_sld C i1 dL_law_720 ?_
    refine gl_aload_n (j := 0) C dL_law_721 rfl ?_
    refine gl_iload_n (j := 3) C dL_law_722 rfl ?_
    refine gl_iconst (v := 2) C dL_law_723 (by decide) ?_
    refine gl_iadd C dL_law_724 ?_
    refine gl_sld C i2 dL_law_725 ?_
    refine gl_if_eq (tgt := 733) C dL_law_726 (by decide) (fun _ => ?_) (fun q => absurd c704 q)
    refine gl_iconst (v := 0) C dL_law_733 (by decide) ?_
    refine gl_mi C [.int (xs (x3 + 1).toNatClampNeg), .int 0] (mq_X7_share C.2.2.2.1 (xs (x3 + 1).toNatClampNeg) 0 μ _ h) gL_law_X7_share rfl rfl dq_X7_share ⟨rfl, rfl, by decide, by decide⟩ rfl rfl (Nat.le_of_ble_eq_true rfl) dL_law_734 (fun r1 ν h => ?_)
    refine gl_icmp_eq (tgt := 1000) C dL_law_737 (by decide) (fun _ => ?_) (fun q => absurd h.1 q)
    exact hnext _ _ h.2
  · refine gl_iconst (v := 1) C dL_law_707 (by decide) ?_
    refine gl_goto (tgt := 712) C dL_law_708 (by decide) ?_
    have h := hsim (xs (x3 + 1).toNatClampNeg) 1 (Or.inr rfl)
    refine gl_ci C [.int (xs (x3 + 1).toNatClampNeg), .int 1] (mq_X6_share C.2.2.1 (xs (x3 + 1).toNatClampNeg) 1 σ _ h) gL_law_X6_share rfl rfl dq_X6_share ⟨rfl, rfl, by decide, by decide⟩ rfl rfl (Nat.le_of_ble_eq_true rfl) dL_law_712 (fun r0 τ h => ?_)
    refine gl_aload_n (j := 2) C dL_law_715 rfl ?_
    refine gl_aload_n (j := 0) C dL_law_716 rfl ?_
    refine gl_iload_n (j := 3) C dL_law_717 rfl ?_
    refine gl_iconst (v := 1) C dL_law_718 (by decide) ?_
    refine gl_iadd C dL_law_719 ?_
    refine gl_sld C i1 dL_law_720 ?_
    refine gl_aload_n (j := 0) C dL_law_721 rfl ?_
    refine gl_iload_n (j := 3) C dL_law_722 rfl ?_
    refine gl_iconst (v := 2) C dL_law_723 (by decide) ?_
    refine gl_iadd C dL_law_724 ?_
    refine gl_sld C i2 dL_law_725 ?_
    refine gl_if_eq (tgt := 733) C dL_law_726 (by decide) (fun q => absurd q c704) (fun _ => ?_)
    refine gl_iconst (v := 1) C dL_law_729 (by decide) ?_
    refine gl_goto (tgt := 734) C dL_law_730 (by decide) ?_
    refine gl_mi C [.int (xs (x3 + 1).toNatClampNeg), .int 1] (mq_X7_share C.2.2.2.1 (xs (x3 + 1).toNatClampNeg) 1 μ _ h) gL_law_X7_share rfl rfl dq_X7_share ⟨rfl, rfl, by decide, by decide⟩ rfl rfl (Nat.le_of_ble_eq_true rfl) dL_law_734 (fun r1 ν h => ?_)
    refine gl_icmp_eq (tgt := 1000) C dL_law_737 (by decide) (fun _ => ?_) (fun q => absurd h.1 q)
    exact hnext _ _ h.2
set_option maxRecDepth 100000 in
set_option maxHeartbeats 4000000 in
theorem gl_c_rests {p : Program} {l : Launch} {e : Env} {s : State} {m : MethodId} {below : List Frame} {meth : Method} {c : Code} {D : va_G} {cyI cyZ cyS : ClassId} {ad bd : Nat → Nat} {b L tt : Nat} {xs : Nat → Int32} {Rel : gq_M → gq_M → Prop} {σ μ : gq_M} {x3 : Int32} (C : gl_C p s m meth c D cyI cyZ cyS ad bd b L tt xs) (hsim : gl_S_rests Rel σ μ) (i1 : vp_in (x3 + 1) L) (i2 : vp_in (x3 + 2) L) (i3 : vp_in (x3 + 3) L) (i4 : vp_in (x3 + 4) L) (hnext : ∀ τ ν, Rel τ ν → gl_G p l e s m below meth c D cyI cyZ cyS ad bd b τ ν 1000 [(0, .ref b), (1, .ref (ad 0)), (2, .ref (bd 0)), (3, .int x3)] []) : gl_G p l e s m below meth c D cyI cyZ cyS ad bd b σ μ 742 [(0, .ref b), (1, .ref (ad 0)), (2, .ref (bd 0)), (3, .int x3)] [] := by
  refine gl_aload_n (j := 1) C dL_law_742 rfl ?_
  refine gl_aload_n (j := 0) C dL_law_743 rfl ?_
  refine gl_iload_n (j := 3) C dL_law_744 rfl ?_
  refine gl_iconst (v := 1) C dL_law_745 (by decide) ?_
  refine gl_iadd C dL_law_746 ?_
  refine gl_sld C i1 dL_law_747 ?_
  refine gl_aload_n (j := 0) C dL_law_748 rfl ?_
  refine gl_iload_n (j := 3) C dL_law_749 rfl ?_
  refine gl_iconst (v := 2) C dL_law_750 (by decide) ?_
  refine gl_iadd C dL_law_751 ?_
  refine gl_sld C i2 dL_law_752 ?_
  refine gl_aload_n (j := 0) C dL_law_753 rfl ?_
  refine gl_iload_n (j := 3) C dL_law_754 rfl ?_
  refine gl_iconst (v := 3) C dL_law_755 (by decide) ?_
  refine gl_iadd C dL_law_756 ?_
  refine gl_sld C i3 dL_law_757 ?_
  have h := hsim (xs (x3 + 1).toNatClampNeg) (xs (x3 + 2).toNatClampNeg) (xs (x3 + 3).toNatClampNeg)
  refine gl_ci C [.int (xs (x3 + 1).toNatClampNeg), .int (xs (x3 + 2).toNatClampNeg), .int (xs (x3 + 3).toNatClampNeg)] (mq_X6_rests C.2.2.1 (xs (x3 + 1).toNatClampNeg) (xs (x3 + 2).toNatClampNeg) (xs (x3 + 3).toNatClampNeg) σ _ h) gL_law_X6_rests rfl rfl dq_X6_rests ⟨rfl, rfl, by decide, by decide⟩ rfl rfl (Nat.le_of_ble_eq_true rfl) dL_law_758 (fun r0 τ h => ?_)
  refine gl_aload_n (j := 2) C dL_law_761 rfl ?_
  refine gl_aload_n (j := 0) C dL_law_762 rfl ?_
  refine gl_iload_n (j := 3) C dL_law_763 rfl ?_
  refine gl_iconst (v := 1) C dL_law_764 (by decide) ?_
  refine gl_iadd C dL_law_765 ?_
  refine gl_sld C i1 dL_law_766 ?_
  refine gl_aload_n (j := 0) C dL_law_767 rfl ?_
  refine gl_iload_n (j := 3) C dL_law_768 rfl ?_
  refine gl_iconst (v := 2) C dL_law_769 (by decide) ?_
  refine gl_iadd C dL_law_770 ?_
  refine gl_sld C i2 dL_law_771 ?_
  refine gl_aload_n (j := 0) C dL_law_772 rfl ?_
  refine gl_iload_n (j := 3) C dL_law_773 rfl ?_
  refine gl_iconst (v := 3) C dL_law_774 (by decide) ?_
  refine gl_iadd C dL_law_775 ?_
  refine gl_sld C i3 dL_law_776 ?_
  refine gl_mi C [.int (xs (x3 + 1).toNatClampNeg), .int (xs (x3 + 2).toNatClampNeg), .int (xs (x3 + 3).toNatClampNeg)] (mq_X7_rests C.2.2.2.1 (xs (x3 + 1).toNatClampNeg) (xs (x3 + 2).toNatClampNeg) (xs (x3 + 3).toNatClampNeg) μ _ h) gL_law_X7_rests rfl rfl dq_X7_rests ⟨rfl, rfl, by decide, by decide⟩ rfl rfl (Nat.le_of_ble_eq_true rfl) dL_law_777 (fun r1 ν h => ?_)
  refine gl_icmp_eq (tgt := 1000) C dL_law_780 (by decide) (fun _ => ?_) (fun q => absurd h.1 q)
  exact hnext _ _ h.2
set_option maxRecDepth 100000 in
set_option maxHeartbeats 4000000 in
theorem gl_c_icy {p : Program} {l : Launch} {e : Env} {s : State} {m : MethodId} {below : List Frame} {meth : Method} {c : Code} {D : va_G} {cyI cyZ cyS : ClassId} {ad bd : Nat → Nat} {b L tt : Nat} {xs : Nat → Int32} {Rel : gq_M → gq_M → Prop} {σ μ : gq_M} {x3 : Int32} (C : gl_C p s m meth c D cyI cyZ cyS ad bd b L tt xs) (hsim : gl_S_icy Rel σ μ) (i1 : vp_in (x3 + 1) L) (i2 : vp_in (x3 + 2) L) (i3 : vp_in (x3 + 3) L) (i4 : vp_in (x3 + 4) L) (hnext : ∀ τ ν, Rel τ ν → gl_G p l e s m below meth c D cyI cyZ cyS ad bd b τ ν 1000 [(0, .ref b), (1, .ref (ad 0)), (2, .ref (bd 0)), (3, .int x3)] []) : gl_G p l e s m below meth c D cyI cyZ cyS ad bd b σ μ 785 [(0, .ref b), (1, .ref (ad 0)), (2, .ref (bd 0)), (3, .int x3)] [] := by
  refine gl_aload_n (j := 1) C dL_law_785 rfl ?_
  refine gl_aload_n (j := 0) C dL_law_786 rfl ?_
  refine gl_iload_n (j := 3) C dL_law_787 rfl ?_
  refine gl_iconst (v := 1) C dL_law_788 (by decide) ?_
  refine gl_iadd C dL_law_789 ?_
  refine gl_sld C i1 dL_law_790 ?_
  refine gl_aload_n (j := 0) C dL_law_791 rfl ?_
  refine gl_iload_n (j := 3) C dL_law_792 rfl ?_
  refine gl_iconst (v := 2) C dL_law_793 (by decide) ?_
  refine gl_iadd C dL_law_794 ?_
  refine gl_sld C i2 dL_law_795 ?_
  refine gl_aload_n (j := 0) C dL_law_796 rfl ?_
  refine gl_iload_n (j := 3) C dL_law_797 rfl ?_
  refine gl_iconst (v := 3) C dL_law_798 (by decide) ?_
  refine gl_iadd C dL_law_799 ?_
  refine gl_sld C i3 dL_law_800 ?_
  refine gl_aload_n (j := 0) C dL_law_801 rfl ?_
  refine gl_iload_n (j := 3) C dL_law_802 rfl ?_
  refine gl_iconst (v := 4) C dL_law_803 (by decide) ?_
  refine gl_iadd C dL_law_804 ?_
  refine gl_sld C i4 dL_law_805 ?_
  refine gl_if_eq (tgt := 813) C dL_law_806 (by decide) (fun c806 => ?_) (fun c806 => ?_)
  · refine gl_iconst (v := 0) C dL_law_813 (by decide) ?_
    have h := hsim (xs (x3 + 1).toNatClampNeg) (xs (x3 + 2).toNatClampNeg) (xs (x3 + 3).toNatClampNeg) 0 (Or.inl rfl)
    refine gl_ci C [.int (xs (x3 + 1).toNatClampNeg), .int (xs (x3 + 2).toNatClampNeg), .int (xs (x3 + 3).toNatClampNeg), .int 0] (mq_X6_icy C.2.2.1 (xs (x3 + 1).toNatClampNeg) (xs (x3 + 2).toNatClampNeg) (xs (x3 + 3).toNatClampNeg) 0 σ _ h) gL_law_X6_icy rfl rfl dq_X6_icy ⟨rfl, rfl, by decide, by decide⟩ rfl rfl (Nat.le_of_ble_eq_true rfl) dL_law_814 (fun r0 τ h => ?_)
    refine gl_aload_n (j := 2) C dL_law_817 rfl ?_
    refine gl_aload_n (j := 0) C dL_law_818 rfl ?_
    refine gl_iload_n (j := 3) C dL_law_819 rfl ?_
    refine gl_iconst (v := 1) C dL_law_820 (by decide) ?_
    refine gl_iadd C dL_law_821 ?_
    refine gl_sld C i1 dL_law_822 ?_
    refine gl_aload_n (j := 0) C dL_law_823 rfl ?_
    refine gl_iload_n (j := 3) C dL_law_824 rfl ?_
    refine gl_iconst (v := 2) C dL_law_825 (by decide) ?_
    refine gl_iadd C dL_law_826 ?_
    refine gl_sld C i2 dL_law_827 ?_
    refine gl_aload_n (j := 0) C dL_law_828 rfl ?_
    refine gl_iload_n (j := 3) C dL_law_829 rfl ?_
    refine gl_iconst (v := 3) C dL_law_830 (by decide) ?_
    refine gl_iadd C dL_law_831 ?_
    refine gl_sld C i3 dL_law_832 ?_
    refine gl_aload_n (j := 0) C dL_law_833 rfl ?_
    refine gl_iload_n (j := 3) C dL_law_834 rfl ?_
    refine gl_iconst (v := 4) C dL_law_835 (by decide) ?_
    refine gl_iadd C dL_law_836 ?_
    refine gl_sld C i4 dL_law_837 ?_
    refine gl_if_eq (tgt := 845) C dL_law_838 (by decide) (fun _ => ?_) (fun q => absurd c806 q)
    refine gl_iconst (v := 0) C dL_law_845 (by decide) ?_
    refine gl_mi C [.int (xs (x3 + 1).toNatClampNeg), .int (xs (x3 + 2).toNatClampNeg), .int (xs (x3 + 3).toNatClampNeg), .int 0] (mq_X7_icy C.2.2.2.1 (xs (x3 + 1).toNatClampNeg) (xs (x3 + 2).toNatClampNeg) (xs (x3 + 3).toNatClampNeg) 0 μ _ h) gL_law_X7_icy rfl rfl dq_X7_icy ⟨rfl, rfl, by decide, by decide⟩ rfl rfl (Nat.le_of_ble_eq_true rfl) dL_law_846 (fun r1 ν h => ?_)
    refine gl_icmp_eq (tgt := 1000) C dL_law_849 (by decide) (fun _ => ?_) (fun q => absurd h.1 q)
    exact hnext _ _ h.2
  · refine gl_iconst (v := 1) C dL_law_809 (by decide) ?_
    refine gl_goto (tgt := 814) C dL_law_810 (by decide) ?_
    have h := hsim (xs (x3 + 1).toNatClampNeg) (xs (x3 + 2).toNatClampNeg) (xs (x3 + 3).toNatClampNeg) 1 (Or.inr rfl)
    refine gl_ci C [.int (xs (x3 + 1).toNatClampNeg), .int (xs (x3 + 2).toNatClampNeg), .int (xs (x3 + 3).toNatClampNeg), .int 1] (mq_X6_icy C.2.2.1 (xs (x3 + 1).toNatClampNeg) (xs (x3 + 2).toNatClampNeg) (xs (x3 + 3).toNatClampNeg) 1 σ _ h) gL_law_X6_icy rfl rfl dq_X6_icy ⟨rfl, rfl, by decide, by decide⟩ rfl rfl (Nat.le_of_ble_eq_true rfl) dL_law_814 (fun r0 τ h => ?_)
    refine gl_aload_n (j := 2) C dL_law_817 rfl ?_
    refine gl_aload_n (j := 0) C dL_law_818 rfl ?_
    refine gl_iload_n (j := 3) C dL_law_819 rfl ?_
    refine gl_iconst (v := 1) C dL_law_820 (by decide) ?_
    refine gl_iadd C dL_law_821 ?_
    refine gl_sld C i1 dL_law_822 ?_
    refine gl_aload_n (j := 0) C dL_law_823 rfl ?_
    refine gl_iload_n (j := 3) C dL_law_824 rfl ?_
    refine gl_iconst (v := 2) C dL_law_825 (by decide) ?_
    refine gl_iadd C dL_law_826 ?_
    refine gl_sld C i2 dL_law_827 ?_
    refine gl_aload_n (j := 0) C dL_law_828 rfl ?_
    refine gl_iload_n (j := 3) C dL_law_829 rfl ?_
    refine gl_iconst (v := 3) C dL_law_830 (by decide) ?_
    refine gl_iadd C dL_law_831 ?_
    refine gl_sld C i3 dL_law_832 ?_
    refine gl_aload_n (j := 0) C dL_law_833 rfl ?_
    refine gl_iload_n (j := 3) C dL_law_834 rfl ?_
    refine gl_iconst (v := 4) C dL_law_835 (by decide) ?_
    refine gl_iadd C dL_law_836 ?_
    refine gl_sld C i4 dL_law_837 ?_
    refine gl_if_eq (tgt := 845) C dL_law_838 (by decide) (fun q => absurd q c806) (fun _ => ?_)
    refine gl_iconst (v := 1) C dL_law_841 (by decide) ?_
    refine gl_goto (tgt := 846) C dL_law_842 (by decide) ?_
    refine gl_mi C [.int (xs (x3 + 1).toNatClampNeg), .int (xs (x3 + 2).toNatClampNeg), .int (xs (x3 + 3).toNatClampNeg), .int 1] (mq_X7_icy C.2.2.2.1 (xs (x3 + 1).toNatClampNeg) (xs (x3 + 2).toNatClampNeg) (xs (x3 + 3).toNatClampNeg) 1 μ _ h) gL_law_X7_icy rfl rfl dq_X7_icy ⟨rfl, rfl, by decide, by decide⟩ rfl rfl (Nat.le_of_ble_eq_true rfl) dL_law_846 (fun r1 ν h => ?_)
    refine gl_icmp_eq (tgt := 1000) C dL_law_849 (by decide) (fun _ => ?_) (fun q => absurd h.1 q)
    exact hnext _ _ h.2
set_option maxRecDepth 100000 in
set_option maxHeartbeats 4000000 in
theorem gl_c_seed {p : Program} {l : Launch} {e : Env} {s : State} {m : MethodId} {below : List Frame} {meth : Method} {c : Code} {D : va_G} {cyI cyZ cyS : ClassId} {ad bd : Nat → Nat} {b L tt : Nat} {xs : Nat → Int32} {Rel : gq_M → gq_M → Prop} {σ μ : gq_M} {x3 : Int32} (C : gl_C p s m meth c D cyI cyZ cyS ad bd b L tt xs) (hsim : gl_S_seed Rel σ μ) (i1 : vp_in (x3 + 1) L) (i2 : vp_in (x3 + 2) L) (i3 : vp_in (x3 + 3) L) (i4 : vp_in (x3 + 4) L) (hnext : ∀ τ ν, Rel τ ν → gl_G p l e s m below meth c D cyI cyZ cyS ad bd b τ ν 1000 [(0, .ref b), (1, .ref (ad 0)), (2, .ref (bd 0)), (3, .int x3)] []) : gl_G p l e s m below meth c D cyI cyZ cyS ad bd b σ μ 854 [(0, .ref b), (1, .ref (ad 0)), (2, .ref (bd 0)), (3, .int x3)] [] := by
  refine gl_aload_n (j := 1) C dL_law_854 rfl ?_
  refine gl_aload_n (j := 0) C dL_law_855 rfl ?_
  refine gl_iload_n (j := 3) C dL_law_856 rfl ?_
  refine gl_iconst (v := 1) C dL_law_857 (by decide) ?_
  refine gl_iadd C dL_law_858 ?_
  refine gl_sld C i1 dL_law_859 ?_
  refine gl_i2l C dL_law_860 ?_
  refine gl_bipush (v := 32) C dL_law_861 (by decide) ?_
  refine gl_lshl C dL_law_863 ?_
  refine gl_aload_n (j := 0) C dL_law_864 rfl ?_
  refine gl_iload_n (j := 3) C dL_law_865 rfl ?_
  refine gl_iconst (v := 2) C dL_law_866 (by decide) ?_
  refine gl_iadd C dL_law_867 ?_
  refine gl_sld C i2 dL_law_868 ?_
  refine gl_i2l C dL_law_869 ?_
  refine gl_ldc2 (v := 4294967295) C (by decide +kernel) dL_law_870 ?_
  refine gl_land C dL_law_873 ?_
  refine gl_lor C dL_law_874 ?_
  have h := hsim (((xs (x3 + 1).toNatClampNeg).toInt64 <<< ((32 : Int32).toInt64 &&& 63)) ||| ((xs (x3 + 2).toNatClampNeg).toInt64 &&& 4294967295))
  refine gl_cl C [.long (((xs (x3 + 1).toNatClampNeg).toInt64 <<< ((32 : Int32).toInt64 &&& 63)) ||| ((xs (x3 + 2).toNatClampNeg).toInt64 &&& 4294967295))] (mq_X6_seed C.2.2.1 (((xs (x3 + 1).toNatClampNeg).toInt64 <<< ((32 : Int32).toInt64 &&& 63)) ||| ((xs (x3 + 2).toNatClampNeg).toInt64 &&& 4294967295)) σ _ h) gL_law_X6_seed rfl rfl dq_X6_seed ⟨rfl, rfl, by decide, by decide⟩ rfl rfl (Nat.le_of_ble_eq_true rfl) dL_law_875 (fun r0 τ h => ?_)
  refine gl_aload_n (j := 2) C dL_law_878 rfl ?_
  refine gl_aload_n (j := 0) C dL_law_879 rfl ?_
  refine gl_iload_n (j := 3) C dL_law_880 rfl ?_
  refine gl_iconst (v := 1) C dL_law_881 (by decide) ?_
  refine gl_iadd C dL_law_882 ?_
  refine gl_sld C i1 dL_law_883 ?_
  refine gl_i2l C dL_law_884 ?_
  refine gl_bipush (v := 32) C dL_law_885 (by decide) ?_
  refine gl_lshl C dL_law_887 ?_
  refine gl_aload_n (j := 0) C dL_law_888 rfl ?_
  refine gl_iload_n (j := 3) C dL_law_889 rfl ?_
  refine gl_iconst (v := 2) C dL_law_890 (by decide) ?_
  refine gl_iadd C dL_law_891 ?_
  refine gl_sld C i2 dL_law_892 ?_
  refine gl_i2l C dL_law_893 ?_
  refine gl_ldc2 (v := 4294967295) C (by decide +kernel) dL_law_894 ?_
  refine gl_land C dL_law_897 ?_
  refine gl_lor C dL_law_898 ?_
  refine gl_ml C [.long (((xs (x3 + 1).toNatClampNeg).toInt64 <<< ((32 : Int32).toInt64 &&& 63)) ||| ((xs (x3 + 2).toNatClampNeg).toInt64 &&& 4294967295))] (mq_X7_seed C.2.2.2.1 (((xs (x3 + 1).toNatClampNeg).toInt64 <<< ((32 : Int32).toInt64 &&& 63)) ||| ((xs (x3 + 2).toNatClampNeg).toInt64 &&& 4294967295)) μ _ h) gL_law_X7_seed rfl rfl dq_X7_seed ⟨rfl, rfl, by decide, by decide⟩ rfl rfl (Nat.le_of_ble_eq_true rfl) dL_law_899 (fun r1 ν h => ?_)
  refine gl_lcmp C dL_law_902 ?_
  rw [show lg_cmp r0 r1 = 0 by rw [h.1]; simp [lg_cmp]]
  refine gl_if_eq (tgt := 1000) C dL_law_903 (by decide) (fun _ => ?_) (fun q => absurd rfl q)
  exact hnext _ _ h.2
set_option maxRecDepth 100000 in
set_option maxHeartbeats 4000000 in
theorem gl_c_summers {p : Program} {l : Launch} {e : Env} {s : State} {m : MethodId} {below : List Frame} {meth : Method} {c : Code} {D : va_G} {cyI cyZ cyS : ClassId} {ad bd : Nat → Nat} {b L tt : Nat} {xs : Nat → Int32} {Rel : gq_M → gq_M → Prop} {σ μ : gq_M} {x3 : Int32} (C : gl_C p s m meth c D cyI cyZ cyS ad bd b L tt xs) (hsim : gl_S_summers Rel σ μ) (i1 : vp_in (x3 + 1) L) (i2 : vp_in (x3 + 2) L) (i3 : vp_in (x3 + 3) L) (i4 : vp_in (x3 + 4) L) (hnext : ∀ τ ν, Rel τ ν → gl_G p l e s m below meth c D cyI cyZ cyS ad bd b τ ν 1000 [(0, .ref b), (1, .ref (ad 0)), (2, .ref (bd 0)), (3, .int x3)] []) : gl_G p l e s m below meth c D cyI cyZ cyS ad bd b σ μ 908 [(0, .ref b), (1, .ref (ad 0)), (2, .ref (bd 0)), (3, .int x3)] [] := by
  refine gl_aload_n (j := 1) C dL_law_908 rfl ?_
  refine gl_aload_n (j := 0) C dL_law_909 rfl ?_
  refine gl_iload_n (j := 3) C dL_law_910 rfl ?_
  refine gl_iconst (v := 1) C dL_law_911 (by decide) ?_
  refine gl_iadd C dL_law_912 ?_
  refine gl_sld C i1 dL_law_913 ?_
  have h := hsim (xs (x3 + 1).toNatClampNeg)
  refine gl_ci C [.int (xs (x3 + 1).toNatClampNeg)] (mq_X6_summers C.2.2.1 (xs (x3 + 1).toNatClampNeg) σ _ h) gL_law_X6_summers rfl rfl dq_X6_summers ⟨rfl, rfl, by decide, by decide⟩ rfl rfl (Nat.le_of_ble_eq_true rfl) dL_law_914 (fun r0 τ h => ?_)
  refine gl_aload_n (j := 2) C dL_law_917 rfl ?_
  refine gl_aload_n (j := 0) C dL_law_918 rfl ?_
  refine gl_iload_n (j := 3) C dL_law_919 rfl ?_
  refine gl_iconst (v := 1) C dL_law_920 (by decide) ?_
  refine gl_iadd C dL_law_921 ?_
  refine gl_sld C i1 dL_law_922 ?_
  refine gl_mi C [.int (xs (x3 + 1).toNatClampNeg)] (mq_X7_summers C.2.2.2.1 (xs (x3 + 1).toNatClampNeg) μ _ h) gL_law_X7_summers rfl rfl dq_X7_summers ⟨rfl, rfl, by decide, by decide⟩ rfl rfl (Nat.le_of_ble_eq_true rfl) dL_law_923 (fun r1 ν h => ?_)
  refine gl_icmp_eq (tgt := 1000) C dL_law_926 (by decide) (fun _ => ?_) (fun q => absurd h.1 q)
  exact hnext _ _ h.2
set_option maxRecDepth 100000 in
set_option maxHeartbeats 4000000 in
theorem gl_c_keep {p : Program} {l : Launch} {e : Env} {s : State} {m : MethodId} {below : List Frame} {meth : Method} {c : Code} {D : va_G} {cyI cyZ cyS : ClassId} {ad bd : Nat → Nat} {b L tt : Nat} {xs : Nat → Int32} {Rel : gq_M → gq_M → Prop} {σ μ : gq_M} {x3 : Int32} (C : gl_C p s m meth c D cyI cyZ cyS ad bd b L tt xs) (hsim : gl_S_keep Rel σ μ) (i1 : vp_in (x3 + 1) L) (i2 : vp_in (x3 + 2) L) (i3 : vp_in (x3 + 3) L) (i4 : vp_in (x3 + 4) L) (hnext : ∀ τ ν, Rel τ ν → gl_G p l e s m below meth c D cyI cyZ cyS ad bd b τ ν 1000 [(0, .ref b), (1, .ref (ad 0)), (2, .ref (bd 0)), (3, .int x3)] []) : gl_G p l e s m below meth c D cyI cyZ cyS ad bd b σ μ 931 [(0, .ref b), (1, .ref (ad 0)), (2, .ref (bd 0)), (3, .int x3)] [] := by
  refine gl_aload_n (j := 1) C dL_law_931 rfl ?_
  refine gl_aload_n (j := 0) C dL_law_932 rfl ?_
  refine gl_iload_n (j := 3) C dL_law_933 rfl ?_
  refine gl_iconst (v := 1) C dL_law_934 (by decide) ?_
  refine gl_iadd C dL_law_935 ?_
  refine gl_sld C i1 dL_law_936 ?_
  have h := hsim (xs (x3 + 1).toNatClampNeg)
  refine gl_ci C [.int (xs (x3 + 1).toNatClampNeg)] (mq_X6_keep C.2.2.1 (xs (x3 + 1).toNatClampNeg) σ _ h) gL_law_X6_keep rfl rfl dq_X6_keep ⟨rfl, rfl, by decide, by decide⟩ rfl rfl (Nat.le_of_ble_eq_true rfl) dL_law_937 (fun r0 τ h => ?_)
  refine gl_aload_n (j := 2) C dL_law_940 rfl ?_
  refine gl_aload_n (j := 0) C dL_law_941 rfl ?_
  refine gl_iload_n (j := 3) C dL_law_942 rfl ?_
  refine gl_iconst (v := 1) C dL_law_943 (by decide) ?_
  refine gl_iadd C dL_law_944 ?_
  refine gl_sld C i1 dL_law_945 ?_
  refine gl_mi C [.int (xs (x3 + 1).toNatClampNeg)] (mq_X7_keep C.2.2.2.1 (xs (x3 + 1).toNatClampNeg) μ _ h) gL_law_X7_keep rfl rfl dq_X7_keep ⟨rfl, rfl, by decide, by decide⟩ rfl rfl (Nat.le_of_ble_eq_true rfl) dL_law_946 (fun r1 ν h => ?_)
  refine gl_icmp_eq (tgt := 1000) C dL_law_949 (by decide) (fun _ => ?_) (fun q => absurd h.1 q)
  exact hnext _ _ h.2
set_option maxRecDepth 100000 in
set_option maxHeartbeats 4000000 in
theorem gl_c_again {p : Program} {l : Launch} {e : Env} {s : State} {m : MethodId} {below : List Frame} {meth : Method} {c : Code} {D : va_G} {cyI cyZ cyS : ClassId} {ad bd : Nat → Nat} {b L tt : Nat} {xs : Nat → Int32} {Rel : gq_M → gq_M → Prop} {σ μ : gq_M} {x3 : Int32} (C : gl_C p s m meth c D cyI cyZ cyS ad bd b L tt xs) (hsim : gl_S_again Rel σ μ) (i1 : vp_in (x3 + 1) L) (i2 : vp_in (x3 + 2) L) (i3 : vp_in (x3 + 3) L) (i4 : vp_in (x3 + 4) L) (hnext : ∀ τ ν, Rel τ ν → gl_G p l e s m below meth c D cyI cyZ cyS ad bd b τ ν 1000 [(0, .ref b), (1, .ref (ad 0)), (2, .ref (bd 0)), (3, .int x3)] []) : gl_G p l e s m below meth c D cyI cyZ cyS ad bd b σ μ 954 [(0, .ref b), (1, .ref (ad 0)), (2, .ref (bd 0)), (3, .int x3)] [] := by
  refine gl_aload_n (j := 1) C dL_law_954 rfl ?_
  refine gl_aload_n (j := 0) C dL_law_955 rfl ?_
  refine gl_iload_n (j := 3) C dL_law_956 rfl ?_
  refine gl_iconst (v := 1) C dL_law_957 (by decide) ?_
  refine gl_iadd C dL_law_958 ?_
  refine gl_sld C i1 dL_law_959 ?_
  have h := hsim (xs (x3 + 1).toNatClampNeg)
  refine gl_ci C [.int (xs (x3 + 1).toNatClampNeg)] (mq_X6_again C.2.2.1 (xs (x3 + 1).toNatClampNeg) σ _ h) gL_law_X6_again rfl rfl dq_X6_again ⟨rfl, rfl, by decide, by decide⟩ rfl rfl (Nat.le_of_ble_eq_true rfl) dL_law_960 (fun r0 τ h => ?_)
  refine gl_aload_n (j := 2) C dL_law_963 rfl ?_
  refine gl_aload_n (j := 0) C dL_law_964 rfl ?_
  refine gl_iload_n (j := 3) C dL_law_965 rfl ?_
  refine gl_iconst (v := 1) C dL_law_966 (by decide) ?_
  refine gl_iadd C dL_law_967 ?_
  refine gl_sld C i1 dL_law_968 ?_
  refine gl_mi C [.int (xs (x3 + 1).toNatClampNeg)] (mq_X7_again C.2.2.2.1 (xs (x3 + 1).toNatClampNeg) μ _ h) gL_law_X7_again rfl rfl dq_X7_again ⟨rfl, rfl, by decide, by decide⟩ rfl rfl (Nat.le_of_ble_eq_true rfl) dL_law_969 (fun r1 ν h => ?_)
  refine gl_icmp_eq (tgt := 1000) C dL_law_972 (by decide) (fun _ => ?_) (fun q => absurd h.1 q)
  exact hnext _ _ h.2
set_option maxRecDepth 100000 in
set_option maxHeartbeats 4000000 in
theorem gl_c_count {p : Program} {l : Launch} {e : Env} {s : State} {m : MethodId} {below : List Frame} {meth : Method} {c : Code} {D : va_G} {cyI cyZ cyS : ClassId} {ad bd : Nat → Nat} {b L tt : Nat} {xs : Nat → Int32} {Rel : gq_M → gq_M → Prop} {σ μ : gq_M} {x3 : Int32} (C : gl_C p s m meth c D cyI cyZ cyS ad bd b L tt xs) (hsim : gl_S_count Rel σ μ) (i1 : vp_in (x3 + 1) L) (i2 : vp_in (x3 + 2) L) (i3 : vp_in (x3 + 3) L) (i4 : vp_in (x3 + 4) L) (hnext : ∀ τ ν, Rel τ ν → gl_G p l e s m below meth c D cyI cyZ cyS ad bd b τ ν 1000 [(0, .ref b), (1, .ref (ad 0)), (2, .ref (bd 0)), (3, .int x3)] []) : gl_G p l e s m below meth c D cyI cyZ cyS ad bd b σ μ 977 [(0, .ref b), (1, .ref (ad 0)), (2, .ref (bd 0)), (3, .int x3)] [] := by
  refine gl_aload_n (j := 1) C dL_law_977 rfl ?_
  refine gl_aload_n (j := 0) C dL_law_978 rfl ?_
  refine gl_iload_n (j := 3) C dL_law_979 rfl ?_
  refine gl_iconst (v := 1) C dL_law_980 (by decide) ?_
  refine gl_iadd C dL_law_981 ?_
  refine gl_sld C i1 dL_law_982 ?_
  have h := hsim (xs (x3 + 1).toNatClampNeg)
  refine gl_ci C [.int (xs (x3 + 1).toNatClampNeg)] (mq_X6_count C.2.2.1 (xs (x3 + 1).toNatClampNeg) σ _ h) gL_law_X6_count rfl rfl dq_X6_count ⟨rfl, rfl, by decide, by decide⟩ rfl rfl (Nat.le_of_ble_eq_true rfl) dL_law_983 (fun r0 τ h => ?_)
  refine gl_aload_n (j := 2) C dL_law_986 rfl ?_
  refine gl_aload_n (j := 0) C dL_law_987 rfl ?_
  refine gl_iload_n (j := 3) C dL_law_988 rfl ?_
  refine gl_iconst (v := 1) C dL_law_989 (by decide) ?_
  refine gl_iadd C dL_law_990 ?_
  refine gl_sld C i1 dL_law_991 ?_
  refine gl_mi C [.int (xs (x3 + 1).toNatClampNeg)] (mq_X7_count C.2.2.2.1 (xs (x3 + 1).toNatClampNeg) μ _ h) gL_law_X7_count rfl rfl dq_X7_count ⟨rfl, rfl, by decide, by decide⟩ rfl rfl (Nat.le_of_ble_eq_true rfl) dL_law_992 (fun r1 ν h => ?_)
  refine gl_icmp_eq (tgt := 1000) C dL_law_995 (by decide) (fun _ => ?_) (fun q => absurd h.1 q)
  exact hnext _ _ h.2
