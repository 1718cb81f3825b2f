/-! ===== the law's loop, and its start ===== -/
theorem gl_cond {i L : Nat} (hi : i < 1000) (hL : L < 1000) : (nI L - 5 < nI i) ↔ L < i + 5 := by
  rw [show (5 : Int32) = nI 5 from rfl, Int32.lt_iff_toInt_lt, pk_sub_toInt (by omega) (by omega), nI_toInt (by omega)]
  omega
theorem gl_inb {i L k : Nat} {x : Int32} (hx : x = nI k) (h : i + k < L) (hL : L < 1000) : vp_in (nI i + x) L := by
  rw [hx, nI_add]
  exact vp_in_nI h (by omega)
theorem gl_exit {p : Program} {l : Launch} {e : Env} {s : State} {m : MethodId} {below : List Frame} {meth : Method} {c : Code} {D : va_G} {cyI cyZ cyS : ClassId} {ad bd : Nat → Nat} {b L tt : Nat} {xs : Nat → Int32} {σ μ : gq_M} {x3 : Int32} (C : gl_C p s m meth c D cyI cyZ cyS ad bd b L tt xs) : gl_G p l e s m below meth c D cyI cyZ cyS ad bd b σ μ 1006 [(0, .ref b), (1, .ref (ad 0)), (2, .ref (bd 0)), (3, .int x3)] [] := by
  refine gl_iconst (v := 1) C dL_law_1006 (by decide) ?_
  intro H locs ls hP hM hS h
  refine va_forget (fun q hq => hS.2.2 q hq) ?_
  exact lw_ret C.1.1 C.1.2.1 C.2.2.2.2.2.2.2.2.2.1 C.2.2.2.2.2.2.2.2.2.2.1 dL_law_1007
set_option maxRecDepth 100000 in
set_option maxHeartbeats 4000000 in
theorem gl_body {p : Program} {l : Launch} {e : Env} {s : State} {m : MethodId} {below : List Frame} {meth : Method} {c : Code} {D : va_G} {cyI cyZ cyS : ClassId} {ad bd : Nat → Nat} {b L tt : Nat} {xs : Nat → Int32} {Rel : gq_M → gq_M → Prop} {σ μ : gq_M} {x3 : Int32} (C : gl_C p s m meth c D cyI cyZ cyS ad bd b L tt xs) (hS : gl_Sims Rel) (hR : Rel σ μ) (i0 : vp_in x3 L) (i1 : vp_in (x3 + 1) L) (i2 : vp_in (x3 + 2) L) (i3 : vp_in (x3 + 3) L) (i4 : vp_in (x3 + 4) L) (hnext : ∀ τ ν, Rel τ ν → gl_G p l e s m below meth c D cyI cyZ cyS ad bd b τ ν 1000 [(0, .ref b), (1, .ref (ad 0)), (2, .ref (bd 0)), (3, .int x3)] []) : gl_G p l e s m below meth c D cyI cyZ cyS ad bd b σ μ 26 [(0, .ref b), (1, .ref (ad 0)), (2, .ref (bd 0)), (3, .int x3)] [] := by
  have hs := hS tt σ μ hR
  refine gl_aload_n (j := 0) C dL_law_26 rfl ?_
  refine gl_iload_n (j := 3) C dL_law_27 rfl ?_
  refine gl_sld C i0 dL_law_28 ?_
  refine gl_bipush (v := 31) C dL_law_29 (by decide) ?_
  refine gl_iand C dL_law_31 ?_
  by_cases q0 : (xs x3.toNatClampNeg &&& 31) = 0
  · refine gl_tin (tgt := 164) C 0 dL_law_32 (by rw [q0]; decide) (by decide) (by decide) rfl (by decide) ?_
    exact gl_c_write C (hs.1) i1 i2 i3 i4 hnext
  by_cases q1 : (xs x3.toNatClampNeg &&& 31) = 1
  · refine gl_tin (tgt := 187) C 1 dL_law_32 (by rw [q1]; decide) (by decide) (by decide) rfl (by decide) ?_
    exact gl_c_wipe C (hs.2.1) i1 i2 i3 i4 hnext
  by_cases q2 : (xs x3.toNatClampNeg &&& 31) = 2
  · refine gl_tin (tgt := 200) C 2 dL_law_32 (by rw [q2]; decide) (by decide) (by decide) rfl (by decide) ?_
    exact gl_c_fault C (hs.2.2.1) i1 i2 i3 i4 hnext
  by_cases q3 : (xs x3.toNatClampNeg &&& 31) = 3
  · refine gl_tin (tgt := 213) C 3 dL_law_32 (by rw [q3]; decide) (by decide) (by decide) rfl (by decide) ?_
    exact gl_c_road C (hs.2.2.2.1) i1 i2 i3 i4 hnext
  by_cases q4 : (xs x3.toNatClampNeg &&& 31) = 4
  · refine gl_tin (tgt := 226) C 4 dL_law_32 (by rw [q4]; decide) (by decide) (by decide) rfl (by decide) ?_
    exact gl_c_pleat C (hs.2.2.2.2.1) i1 i2 i3 i4 hnext
  by_cases q5 : (xs x3.toNatClampNeg &&& 31) = 5
  · refine gl_tin (tgt := 259) C 5 dL_law_32 (by rw [q5]; decide) (by decide) (by decide) rfl (by decide) ?_
    exact gl_c_traveller C (hs.2.2.2.2.2.1) i1 i2 i3 i4 hnext
  by_cases q6 : (xs x3.toNatClampNeg &&& 31) = 6
  · refine gl_tin (tgt := 292) C 6 dL_law_32 (by rw [q6]; decide) (by decide) (by decide) rfl (by decide) ?_
    exact gl_c_step C (hs.2.2.2.2.2.2.1) i1 i2 i3 i4 hnext
  by_cases q7 : (xs x3.toNatClampNeg &&& 31) = 7
  · refine gl_tin (tgt := 341) C 7 dL_law_32 (by rw [q7]; decide) (by decide) (by decide) rfl (by decide) ?_
    exact gl_c_rest C (hs.2.2.2.2.2.2.2.1) i1 i2 i3 i4 hnext
  by_cases q8 : (xs x3.toNatClampNeg &&& 31) = 8
  · refine gl_tin (tgt := 364) C 8 dL_law_32 (by rw [q8]; decide) (by decide) (by decide) rfl (by decide) ?_
    exact gl_c_grease C (hs.2.2.2.2.2.2.2.2.1) i1 i2 i3 i4 hnext
  by_cases q9 : (xs x3.toNatClampNeg &&& 31) = 9
  · refine gl_tin (tgt := 387) C 9 dL_law_32 (by rw [q9]; decide) (by decide) (by decide) rfl (by decide) ?_
    exact gl_c_freeze C (hs.2.2.2.2.2.2.2.2.2.1) i1 i2 i3 i4 hnext
  by_cases q10 : (xs x3.toNatClampNeg &&& 31) = 10
  · refine gl_tin (tgt := 400) C 10 dL_law_32 (by rw [q10]; decide) (by decide) (by decide) rfl (by decide) ?_
    exact gl_c_thaw C (hs.2.2.2.2.2.2.2.2.2.2.1) i1 i2 i3 i4 hnext
  by_cases q11 : (xs x3.toNatClampNeg &&& 31) = 11
  · refine gl_tin (tgt := 413) C 11 dL_law_32 (by rw [q11]; decide) (by decide) (by decide) rfl (by decide) ?_
    exact gl_c_undo C (hs.2.2.2.2.2.2.2.2.2.2.2.1) i1 i2 i3 i4 hnext
  by_cases q12 : (xs x3.toNatClampNeg &&& 31) = 12
  · refine gl_tin (tgt := 426) C 12 dL_law_32 (by rw [q12]; decide) (by decide) (by decide) rfl (by decide) ?_
    exact gl_c_reach C (hs.2.2.2.2.2.2.2.2.2.2.2.2.1) i1 i2 i3 i4 hnext
  by_cases q13 : (xs x3.toNatClampNeg &&& 31) = 13
  · refine gl_tin (tgt := 449) C 13 dL_law_32 (by rw [q13]; decide) (by decide) (by decide) rfl (by decide) ?_
    exact gl_c_fewest C (hs.2.2.2.2.2.2.2.2.2.2.2.2.2.1) i1 i2 i3 i4 hnext
  by_cases q14 : (xs x3.toNatClampNeg &&& 31) = 14
  · refine gl_tin (tgt := 482) C 14 dL_law_32 (by rw [q14]; decide) (by decide) (by decide) rfl (by decide) ?_
    exact gl_c_wants C (hs.2.2.2.2.2.2.2.2.2.2.2.2.2.2.1) i1 i2 i3 i4 hnext
  by_cases q15 : (xs x3.toNatClampNeg &&& 31) = 15
  · refine gl_tin (tgt := 515) C 15 dL_law_32 (by rw [q15]; decide) (by decide) (by decide) rfl (by decide) ?_
    exact gl_c_shutIn C (hs.2.2.2.2.2.2.2.2.2.2.2.2.2.2.2.1) i1 i2 i3 i4 hnext
  by_cases q16 : (xs x3.toNatClampNeg &&& 31) = 16
  · refine gl_tin (tgt := 528) C 16 dL_law_32 (by rw [q16]; decide) (by decide) (by decide) rfl (by decide) ?_
    exact gl_c_meet C (hs.2.2.2.2.2.2.2.2.2.2.2.2.2.2.2.2.1) i1 i2 i3 i4 hnext
  by_cases q17 : (xs x3.toNatClampNeg &&& 31) = 17
  · refine gl_tin (tgt := 561) C 17 dL_law_32 (by rw [q17]; decide) (by decide) (by decide) rfl (by decide) ?_
    exact gl_c_judge C (hs.2.2.2.2.2.2.2.2.2.2.2.2.2.2.2.2.2.1) i1 i2 i3 i4 hnext
  by_cases q18 : (xs x3.toNatClampNeg &&& 31) = 18
  · refine gl_tin (tgt := 624) C 18 dL_law_32 (by rw [q18]; decide) (by decide) (by decide) rfl (by decide) ?_
    exact gl_c_hear C (hs.2.2.2.2.2.2.2.2.2.2.2.2.2.2.2.2.2.2.1) i1 i2 i3 i4 hnext
  by_cases q19 : (xs x3.toNatClampNeg &&& 31) = 19
  · refine gl_tin (tgt := 657) C 19 dL_law_32 (by rw [q19]; decide) (by decide) (by decide) rfl (by decide) ?_
    exact gl_c_unhear C (hs.2.2.2.2.2.2.2.2.2.2.2.2.2.2.2.2.2.2.2.1) i1 i2 i3 i4 hnext
  by_cases q20 : (xs x3.toNatClampNeg &&& 31) = 20
  · refine gl_tin (tgt := 670) C 20 dL_law_32 (by rw [q20]; decide) (by decide) (by decide) rfl (by decide) ?_
    exact gl_c_who C (hs.2.2.2.2.2.2.2.2.2.2.2.2.2.2.2.2.2.2.2.2.1) i1 i2 i3 i4 hnext
  by_cases q21 : (xs x3.toNatClampNeg &&& 31) = 21
  · refine gl_tin (tgt := 693) C 21 dL_law_32 (by rw [q21]; decide) (by decide) (by decide) rfl (by decide) ?_
    exact gl_c_share C (hs.2.2.2.2.2.2.2.2.2.2.2.2.2.2.2.2.2.2.2.2.2.1) i1 i2 i3 i4 hnext
  by_cases q22 : (xs x3.toNatClampNeg &&& 31) = 22
  · refine gl_tin (tgt := 742) C 22 dL_law_32 (by rw [q22]; decide) (by decide) (by decide) rfl (by decide) ?_
    exact gl_c_rests C (hs.2.2.2.2.2.2.2.2.2.2.2.2.2.2.2.2.2.2.2.2.2.2.1) i1 i2 i3 i4 hnext
  by_cases q23 : (xs x3.toNatClampNeg &&& 31) = 23
  · refine gl_tin (tgt := 785) C 23 dL_law_32 (by rw [q23]; decide) (by decide) (by decide) rfl (by decide) ?_
    exact gl_c_icy C (hs.2.2.2.2.2.2.2.2.2.2.2.2.2.2.2.2.2.2.2.2.2.2.2.1) i1 i2 i3 i4 hnext
  by_cases q24 : (xs x3.toNatClampNeg &&& 31) = 24
  · refine gl_tin (tgt := 854) C 24 dL_law_32 (by rw [q24]; decide) (by decide) (by decide) rfl (by decide) ?_
    exact gl_c_seed C (hs.2.2.2.2.2.2.2.2.2.2.2.2.2.2.2.2.2.2.2.2.2.2.2.2.1) i1 i2 i3 i4 hnext
  by_cases q25 : (xs x3.toNatClampNeg &&& 31) = 25
  · refine gl_tin (tgt := 908) C 25 dL_law_32 (by rw [q25]; decide) (by decide) (by decide) rfl (by decide) ?_
    exact gl_c_summers C (hs.2.2.2.2.2.2.2.2.2.2.2.2.2.2.2.2.2.2.2.2.2.2.2.2.2.1) i1 i2 i3 i4 hnext
  by_cases q26 : (xs x3.toNatClampNeg &&& 31) = 26
  · refine gl_tin (tgt := 931) C 26 dL_law_32 (by rw [q26]; decide) (by decide) (by decide) rfl (by decide) ?_
    exact gl_c_keep C (hs.2.2.2.2.2.2.2.2.2.2.2.2.2.2.2.2.2.2.2.2.2.2.2.2.2.2.1) i1 i2 i3 i4 hnext
  by_cases q27 : (xs x3.toNatClampNeg &&& 31) = 27
  · refine gl_tin (tgt := 954) C 27 dL_law_32 (by rw [q27]; decide) (by decide) (by decide) rfl (by decide) ?_
    exact gl_c_again C (hs.2.2.2.2.2.2.2.2.2.2.2.2.2.2.2.2.2.2.2.2.2.2.2.2.2.2.2.1) i1 i2 i3 i4 hnext
  by_cases q28 : (xs x3.toNatClampNeg &&& 31) = 28
  · refine gl_tin (tgt := 977) C 28 dL_law_32 (by rw [q28]; decide) (by decide) (by decide) rfl (by decide) ?_
    exact gl_c_count C (hs.2.2.2.2.2.2.2.2.2.2.2.2.2.2.2.2.2.2.2.2.2.2.2.2.2.2.2.2) i1 i2 i3 i4 hnext
  refine gl_tout (tgt := 1000) C dL_law_32 (by have b0 := lv_neT (k := 0) (a := 0) q0 (by decide); have b1 := lv_neT (k := 1) (a := 1) q1 (by decide); have b2 := lv_neT (k := 2) (a := 2) q2 (by decide); have b3 := lv_neT (k := 3) (a := 3) q3 (by decide); have b4 := lv_neT (k := 4) (a := 4) q4 (by decide); have b5 := lv_neT (k := 5) (a := 5) q5 (by decide); have b6 := lv_neT (k := 6) (a := 6) q6 (by decide); have b7 := lv_neT (k := 7) (a := 7) q7 (by decide); have b8 := lv_neT (k := 8) (a := 8) q8 (by decide); have b9 := lv_neT (k := 9) (a := 9) q9 (by decide); have b10 := lv_neT (k := 10) (a := 10) q10 (by decide); have b11 := lv_neT (k := 11) (a := 11) q11 (by decide); have b12 := lv_neT (k := 12) (a := 12) q12 (by decide); have b13 := lv_neT (k := 13) (a := 13) q13 (by decide); have b14 := lv_neT (k := 14) (a := 14) q14 (by decide); have b15 := lv_neT (k := 15) (a := 15) q15 (by decide); have b16 := lv_neT (k := 16) (a := 16) q16 (by decide); have b17 := lv_neT (k := 17) (a := 17) q17 (by decide); have b18 := lv_neT (k := 18) (a := 18) q18 (by decide); have b19 := lv_neT (k := 19) (a := 19) q19 (by decide); have b20 := lv_neT (k := 20) (a := 20) q20 (by decide); have b21 := lv_neT (k := 21) (a := 21) q21 (by decide); have b22 := lv_neT (k := 22) (a := 22) q22 (by decide); have b23 := lv_neT (k := 23) (a := 23) q23 (by decide); have b24 := lv_neT (k := 24) (a := 24) q24 (by decide); have b25 := lv_neT (k := 25) (a := 25) q25 (by decide); have b26 := lv_neT (k := 26) (a := 26) q26 (by decide); have b27 := lv_neT (k := 27) (a := 27) q27 (by decide); have b28 := lv_neT (k := 28) (a := 28) q28 (by decide); omega) (by decide) ?_
  exact hnext _ _ hR
set_option maxRecDepth 100000 in
set_option maxHeartbeats 4000000 in
theorem gl_loop {p : Program} {l : Launch} {e : Env} {s : State} {m : MethodId} {below : List Frame} {meth : Method} {c : Code} {D : va_G} {cyI cyZ cyS : ClassId} {ad bd : Nat → Nat} {b L tt : Nat} {xs : Nat → Int32} {Rel : gq_M → gq_M → Prop} (C : gl_C p s m meth c D cyI cyZ cyS ad bd b L tt xs) (hS : gl_Sims Rel) (hL : L ≤ 320) : ∀ (n i : Nat) (x3 : Int32) (σ μ : gq_M), L < i + n → i < 400 → x3 = nI i → Rel σ μ → gl_G p l e s m below meth c D cyI cyZ cyS ad bd b σ μ 18 [(0, .ref b), (1, .ref (ad 0)), (2, .ref (bd 0)), (3, .int x3)] [] := by
  intro n
  induction n with
  | zero =>
    intro i x3 σ μ h1 h2 h3 hR
    refine gl_iload_n (j := 3) C dL_law_18 rfl ?_
    refine gl_aload_n (j := 0) C dL_law_19 rfl ?_
    refine gl_slen C dL_law_20 ?_
    refine gl_iconst (v := 5) C dL_law_21 (by decide) ?_
    refine gl_isub C dL_law_22 ?_
    refine gl_icmp_gt (tgt := 1006) C dL_law_23 (by decide) (fun _ => gl_exit C) (fun q => absurd ?_ q)
    rw [h3]
    exact (gl_cond (by omega) (by omega)).mpr (by omega)
  | succ n ih =>
    intro i x3 σ μ h1 h2 h3 hR
    refine gl_iload_n (j := 3) C dL_law_18 rfl ?_
    refine gl_aload_n (j := 0) C dL_law_19 rfl ?_
    refine gl_slen C dL_law_20 ?_
    refine gl_iconst (v := 5) C dL_law_21 (by decide) ?_
    refine gl_isub C dL_law_22 ?_
    refine gl_icmp_gt (tgt := 1006) C dL_law_23 (by decide) (fun _ => gl_exit C) (fun q => ?_)
    have hlt : i + 5 ≤ L := by
      rcases Nat.lt_or_ge L (i + 5) with z | z
      · exact absurd (by rw [h3]; exact (gl_cond (by omega) (by omega)).mpr z) q
      · exact z
    refine gl_body C hS hR (by rw [h3]; exact vp_in_nI (by omega) (by omega)) (by rw [h3]; exact gl_inb (k := 1) rfl (by omega) (by omega)) (by rw [h3]; exact gl_inb (k := 2) rfl (by omega) (by omega)) (by rw [h3]; exact gl_inb (k := 3) rfl (by omega) (by omega)) (by rw [h3]; exact gl_inb (k := 4) rfl (by omega) (by omega)) (fun τ ν hR2 => ?_)
    obtain ⟨y, hy⟩ : ∃ y : Int32, y = x3 + 5 := ⟨_, rfl⟩
    refine gl_iinc (j := 3) (v := y) (Ls' := [(0, .ref b), (1, .ref (ad 0)), (2, .ref (bd 0)), (3, .int y)]) C [1, 2, 3, 0] dL_law_1000 rfl (by rw [hy]; rfl) (by decide) rfl ?_
    refine gl_goto (tgt := 18) C dL_law_1003 (by decide) ?_
    exact ih (i + 5) y τ ν (by omega) (by omega) (by rw [hy, h3, show (5 : Int32) = nI 5 from rfl, nI_add]) hR2
theorem gl_apOf {N : Nat} {ad : Nat → Nat} {cs : gq_S} {σ : gq_M} {A : Nat → Prop} (hD : va_D A (gq_W N ad cs σ)) : gq_ap N ad := fun i j hi hj he => hD.1 i j _ _ (gq_W_at hi) (gq_W_at hj) he
theorem gl_preX {s : State} {H : Heap} {D : va_G} {tys : List (ClassId × FieldType)} {ws : va_W} {A : Nat → Prop} {As : List Value} (hP : va_P D vwCl ws H) (hK : va_K D vwCl tys s) (hD : va_D A ws) (hO : gk_X s) : PreS s H (va_Pc As (fun U => gk_P D tys H.size ws U ∧ gk_X U)) As :=
  ⟨fun a U g mk q => ⟨q.1, ⟨q.2.1.1, q.2.1.2.1, va_K.moved (u := U) (U := U.calling g mk a) (Vm.Alike.refl U.vm) q.2.1.2.2.1, q.2.1.2.2.2⟩, va_AO.moved (Vm.Alike.refl U.vm) q.2.2.1, va_Nw.same rfl (rfl : U.vm = (U.calling g mk a).vm) q.2.2.2.1, va_Nw.same rfl (rfl : U.vm = (U.calling g mk a).vm) q.2.2.2.2⟩, fun U hU hW => ⟨rfl, ⟨by rw [hU], by rw [hU]; exact hP, va_K.moved hW.alike hK, hD.weaken (fun _ _ _ _ => trivial)⟩, va_AO.moved hW.alike hO.1, va_Nw.warmM hW hO.2.1, va_Nw.warmM hW hO.2.2⟩⟩
theorem gl_one {q1 sz : Nat} {e : va_E} {q : Nat} (h : va_A [(q1, e)] sz q) : q = q1 ∨ sz ≤ q := by
  rcases h with ⟨k, e2, hk⟩ | h
  · have h1 : k < 1 := (List.getElem?_eq_some_iff.mp hk).1
    obtain rfl : k = 0 := by omega
    cases hk
    exact Or.inl rfl
  · exact Or.inr h
theorem gl_split {D : va_G} {N : Nat} {ad : Nat → Nat} {cs : gq_S} {σ : gq_M} {A : Nat → Prop} {q1 : Nat} {e : va_E} {H : Heap} (hP : va_P D vwCl (gq_W N ad cs σ ++ [(q1, e)]) H) (hD : va_D A (gq_W N ad cs σ ++ [(q1, e)])) : va_P D vwCl (gq_W N ad cs σ) H ∧ va_P D vwCl [(q1, e)] H ∧ va_D A [(q1, e)] ∧ ∀ i, i < N → ad i ≠ q1 := by
  have hlen : (gq_W N ad cs σ).length = N := by simp [gq_W]
  have hq : (gq_W N ad cs σ ++ [(q1, e)])[N]? = some (q1, e) := by
    rw [List.getElem?_append_right (by rw [hlen]; exact Nat.le_refl _), hlen, Nat.sub_self]
    rfl
  have hle : ∀ (k : Nat) (q : Nat × va_E), (gq_W N ad cs σ)[k]? = some q → (gq_W N ad cs σ ++ [(q1, e)])[k]? = some q := fun k q h => by
    rw [List.getElem?_append_left (List.getElem?_eq_some_iff.mp h).1]; exact h
  refine ⟨fun k q h => hP k q (hle k q h), fun k q h => ?_, ⟨fun i j p q h1 h2 _ => ?_, fun k q h => ?_⟩, fun i hi he => ?_⟩
  · have h1 : k < 1 := (List.getElem?_eq_some_iff.mp h).1
    obtain rfl : k = 0 := by omega
    cases h
    exact hP N _ hq
  · have hi : i < 1 := (List.getElem?_eq_some_iff.mp h1).1
    have hj : j < 1 := (List.getElem?_eq_some_iff.mp h2).1
    omega
  · have h1 : k < 1 := (List.getElem?_eq_some_iff.mp h).1
    obtain rfl : k = 0 := by omega
    cases h
    exact hD.2 N _ hq
  · have h1 := hD.1 i N _ _ (hle i _ (gq_W_at hi)) hq he
    omega
theorem gl_arr {args : Array Value} {s : State} {ty : FieldType} (h : (Cond.arrayClass ty).before args s = true) : ∃ cA : ClassId, ArrOfT s cA ty ∧ s.vm.findClass ("[" ++ ty.toString) = some cA := by
  obtain ⟨cA, kA, comp, h1, h2, h3⟩ := Cond.arrayClass_spec h
  exact ⟨cA, fun n z => ⟨fun k h => (by cases h), kA, h2, comp, h3⟩, h1⟩
theorem gl_arrO {args : Array Value} {s : State} {Cn : String} (h : (Cond.arrayOver (.object Cn)).before args s = true) : ∃ cA : ClassId, ArrOfT s cA (.object Cn) ∧ va_RA s cA (.object Cn) := by
  obtain ⟨comp, c, k, h1, h2, h3, h4, h5⟩ := Cond.arrayOver_spec h
  exact ⟨c, fun n z => ⟨fun k h => (by cases h), k, h3, comp, h4⟩, k, comp, h3, h4, h1, h5⟩
set_option maxRecDepth 100000 in
set_option maxHeartbeats 8000000 in
/-- THE LAW, from its entry, over a relation that every call keeps -/
theorem gl_start {p : Program} {e : Env} {s : State} {m : MethodId} {below : List Frame} {meth : Method} {c : Code} (l : Launch) {b L : Nat} {xs : Nat → Int32} (hL : L ≤ 320) (C0 : lw_At p s m meth c b L xs) {Rel : gq_M → gq_M → Prop} (hR0 : Rel (fun _ _ => 0, 0) (fun _ _ => 0, 0)) (hSim : gl_Sims Rel) : W p l e room_1 s m #[Value.ref b] below meth c s.heap [] 0 0 (lw_Z below #[Value.ref b] s) (entryFrame m ([Value.ref b] : List Value).toArray 4) := by
  obtain ⟨hx, hb, hr, hml, hown, hts0, hX, hbl, hlocks, hgv⟩ := id C0
  have hts : ∀ w ∈ wsL_law, w.before #[Value.ref b] s = true := fun w h => hts0 w (wsL_law_in w h)
  have hown : s.vm.findClass RL = some m.cls := hown
  have hA : ∀ q : Nat, s.heap.size ≤ q → (fun q : Nat => s.heap.size ≤ q) q := fun _ h => h
  have hflat := flat_of_before _ hgv
  obtain ⟨tt, htt, hTT⟩ := va_Tof (s := s) (args := #[Value.ref b]) (tm := .static "PleatRoads" "THOUSANDS" "[J") (ty := .long) (N := 5) (f := fun j => .long (gt_th j)) (A := fun q => s.heap.size ≤ q) (by decide) (hflat _ (by decide +kernel)) (va_eqt (z := Int32.ofNat 5) (hflat _ (by decide +kernel))) (fun j hj => by
    rcases (show j = 0 ∨ j = 1 ∨ j = 2 ∨ j = 3 ∨ j = 4 by omega) with rfl | rfl | rfl | rfl | rfl
    · exact va_eqtl (z := 1) (hflat _ (by decide +kernel))
    · exact va_eqtl (z := 1000) (hflat _ (by decide +kernel))
    · exact va_eqtl (z := 1000000) (hflat _ (by decide +kernel))
    · exact va_eqtl (z := 1000000000) (hflat _ (by decide +kernel))
    · exact va_eqtl (z := 1000000000000) (hflat _ (by decide +kernel))) (fun a h => Nat.not_le.mpr h)
  have hZZ := va_Zref (A := fun q => s.heap.size ≤ q) (hts0 (.laysStatic "PleatRoads" "THOUSANDS" "[J") (by decide +kernel)) (hts0 (.initialized "PleatRoads") (by decide +kernel)) htt (fun a h => Nat.not_le.mpr h)
  have hTh : gq_Th tt (fun q => s.heap.size ≤ q) s := ⟨hZZ, hTT⟩
  obtain ⟨c0, iS0, hKn0⟩ := u_known (C := RX0) (T := TX0) (N := 3) (n := 3) hts0 inX0 (hts0 (.instantiable RX0 3) (by decide +kernel))
  obtain ⟨c1, iS1, hKn1⟩ := u_known (C := RX1) (T := TX1) (N := 4) (n := 4) hts0 inX1 (hts0 (.instantiable RX1 4) (by decide +kernel))
  obtain ⟨c2, iS2, hKn2⟩ := u_known (C := RX2) (T := TX2) (N := 7) (n := 7) hts0 inX2 (hts0 (.instantiable RX2 7) (by decide +kernel))
  obtain ⟨c3, iS3, hKn3⟩ := u_known (C := RX3) (T := TX3) (N := 2) (n := 2) hts0 inX3 (hts0 (.instantiable RX3 2) (by decide +kernel))
  obtain ⟨c4, iS4, hKn4⟩ := u_known (C := RX4) (T := TX4) (N := 7) (n := 7) hts0 inX4 (hts0 (.instantiable RX4 7) (by decide +kernel))
  obtain ⟨c5, iS5, hKn5⟩ := u_known (C := RX5) (T := TX5) (N := 10) (n := 10) hts0 inX5 (hts0 (.instantiable RX5 10) (by decide +kernel))
  obtain ⟨c6, iS6, hKn6⟩ := u_known (C := RX6) (T := TX6) (N := 13) (n := 13) hts0 inX6 (hts0 (.instantiable RX6 13) (by decide +kernel))
  obtain ⟨c7, iS7, hKn7⟩ := u_known (C := RX7) (T := TX7) (N := 30) (n := 30) hts0 inX7 (hts0 (.instantiable RX7 30) (by decide +kernel))
  obtain ⟨dC, dI, hKc⟩ : ∃ (dC : Nat → ClassId) (dI : Nat → Nat → Nat), ∀ (k : Nat) (q : vw_C), vwCl[k]? = some q → u_Kn s q.1 q.2.1 q.2.2 (dC k) (dI k) := by
    refine ⟨fun k => match k with | 0 => c0 | 1 => c1 | 2 => c2 | 3 => c3 | 4 => c4 | 5 => c5 | 6 => c6 | _ => c7, fun k => match k with | 0 => iS0 | 1 => iS1 | 2 => iS2 | 3 => iS3 | 4 => iS4 | 5 => iS5 | 6 => iS6 | _ => iS7, ?_⟩
    intro k q hq
    match k, hq with
    | 0, hq => cases hq; exact hKn0
    | 1, hq => cases hq; exact hKn1
    | 2, hq => cases hq; exact hKn2
    | 3, hq => cases hq; exact hKn3
    | 4, hq => cases hq; exact hKn4
    | 5, hq => cases hq; exact hKn5
    | 6, hq => cases hq; exact hKn6
    | 7, hq => cases hq; exact hKn7
    | k + 8, hq => simp [vwCl] at hq
  obtain ⟨cyI, hI1, hI2⟩ := gl_arr (hts0 (.arrayClass .int) (by decide +kernel))
  obtain ⟨cyZ, hZ1, hZ2⟩ := gl_arr (hts0 (.arrayClass .boolean) (by decide +kernel))
  obtain ⟨cyS, hO1, hO2⟩ := gl_arrO (hts0 (.arrayOver (.object "PleatRoads$Standing")) (by decide +kernel))
  have hK : va_K (dC, dI) vwCl (gc_T cyI cyZ cyS) s := by
    refine ⟨hKc, fun k q h => ?_⟩
    match k, h with
    | 0, h => cases h; exact ⟨hI1, hI2⟩
    | 1, h => cases h; exact ⟨hZ1, hZ2⟩
    | 2, h => cases h; exact ⟨hO1, hO2⟩
    | k + 3, h => simp [gc_T] at h
  have hS : va_S (fun q : Nat => s.heap.size ≤ q) s.heap s.heap [] := va_S.rf
  have hP : va_P (dC, dI) vwCl [] s.heap := fun k q h => by simp at h
  have hD : va_D (fun q : Nat => s.heap.size ≤ q) [] := ⟨fun i j p q h => by simp at h, fun k q h => by simp at h⟩
  have hl := lv_entry ([.ref b]) (n := 4) (Nat.le_of_ble_eq_true rfl)
  rw [lg_entry_eq]
  generalize (lg_sl ([.ref b]) ++ List.replicate (4 - (lg_sl ([.ref b])).length) Slot.unset).toArray = ls at hl ⊢
  have hl : lv_has ls 4 [(0, .ref b)] := hl
  refine va_new (ci := 6) (fs := [.null, .null, .null, .null, .null, .null, .null, .null, .null, .null, .null, .null, .long 0]) (C := RX6) (T := TX6) (N := 13) hx hb hts0 inX6 tyX6 tyX6_ok hown (hts0 (.classLink RL 7 RX6) (by decide +kernel)) (hts0 (.instantiable RX6 13) (by decide +kernel)) (hts0 (.initialized RX6) (by decide +kernel)) hK hP hD hS hA rfl (fun j hj => by rcases (show j = 0 ∨ j = 1 ∨ j = 2 ∨ j = 3 ∨ j = 4 ∨ j = 5 ∨ j = 6 ∨ j = 7 ∨ j = 8 ∨ j = 9 ∨ j = 10 ∨ j = 11 ∨ j = 12 by omega) with rfl | rfl | rfl | rfl | rfl | rfl | rfl | rfl | rfl | rfl | rfl | rfl | rfl <;> rfl) (Nat.le_of_ble_eq_true rfl) (Nat.le_of_ble_eq_true rfl) dL_law_0 (fun q0 H hP hD hS => ?_)
  have hP : va_P (dC, dI) vwCl [(q0, .inr (6, [.null, .null, .null, .null, .null, .null, .null, .null, .null, .null, .null, .null, .long 0]))] H := hP
  have hD : va_D (fun q : Nat => s.heap.size ≤ q) [(q0, .inr (6, [.null, .null, .null, .null, .null, .null, .null, .null, .null, .null, .null, .null, .long 0]))] := hD
  refine W.widen (k := 1) (n := 13) (Nat.le_of_ble_eq_true rfl) (Nat.le_of_ble_eq_true rfl) ?_
  refine lv_dup hx hb dL_law_3 rfl ?_
  have hFc := va_free (wc := [(q0, .inr (6, [.null, .null, .null, .null, .null, .null, .null, .null, .null, .null, .null, .null, .long 0]))]) hD hS hA [0] rfl
  have hXX : gk_X s := ⟨va_AO.of (hts0 (.arrayOver (.object RX4)) (by decide +kernel)), va_Nw.of rfl (hts0 (.methodLinkNest RX6 11 yX3_init RX6) (by decide +kernel)), va_Nw.of rfl (hts0 (.methodLinkNest RX6 18 yX2_init RX6) (by decide +kernel))⟩
  refine va_callv (va_runI (As := []) (rest := [.ref q0]) ⟨hx, hb, hml, hown, hts⟩ (kq_X6_init l dC dI cyI cyZ cyS q0 H.size) (cwI 0 hts gL_law_X6_init rfl rfl rfl (hts0 (.initialized RX6) (by decide +kernel)) (hts0 (.methodLink RL 9 yX6_init) (by decide +kernel)) (hts0 (.instanceMethod yX6_init) (by decide +kernel)) rfl (by decide +kernel) ⟨Nat.le_of_ble_eq_true rfl, Nat.le_of_ble_eq_true rfl⟩) (gl_preX hP hK hD hXX) rfl rfl hl.1 rfl (lv_room (Nat.le_of_ble_eq_true rfl)) dL_law_4 ⟨Nat.le_of_ble_eq_true rfl, Nat.le_of_ble_eq_true rfl⟩) hS (fun q _ h => hFc q h) hFc (fun ad t H1 locs ht hvm hw hB hz1 hk1 hS => ?_)
  obtain ⟨had, hP1, hD1⟩ := hB
  rw [ht] at hP1
  have hApC : gq_ap 84 ad := gl_apOf hD1
  have hInC : ∀ i, i < 84 → s.heap.size ≤ ad i := fun i hi => hFc _ (hD1.2 i _ (gq_W_at hi))
  subst had
  generalize H1 = H at hP1 hS ⊢
  refine W.widen (k := 84) (n := 938) (Nat.le_of_ble_eq_true rfl) (Nat.le_of_ble_eq_true rfl) ?_
  refine lv_astore_n (lv' := [(1, .ref (ad 0)), (0, .ref b)]) hx hb dL_law_7 rfl hl (by decide) rfl (fun ls hl => ?_)
  have hDw : va_D (fun q : Nat => s.heap.size ≤ q) (gq_W 84 ad (gc_S cyI cyZ cyS ad) (fun _ _ => 0, 0)) := ⟨hD1.1, fun k q h => by
    obtain ⟨h1, h2⟩ := gq_W_in h
    rw [h2]
    exact hInC k h1⟩
  refine va_new (ci := 7) (fs := [.int 0, .int 0, .null, .null, .null, .null, .null, .null, .null, .int 0, .int 0, .null, .int 0, .int 0, .int 0, .int 0, .int 0, .int 0, .null, .null, .null, .int 0, .int 0, .int 0, .null, .null, .null, .long 0, .null, .null]) (C := RX7) (T := TX7) (N := 30) hx hb hts0 inX7 tyX7 tyX7_ok hown (hts0 (.classLink RL 10 RX7) (by decide +kernel)) (hts0 (.instantiable RX7 30) (by decide +kernel)) (hts0 (.initialized RX7) (by decide +kernel)) hK hP1 hDw hS hA rfl (fun j hj => by rcases (show j = 0 ∨ j = 1 ∨ j = 2 ∨ j = 3 ∨ j = 4 ∨ j = 5 ∨ j = 6 ∨ j = 7 ∨ j = 8 ∨ j = 9 ∨ j = 10 ∨ j = 11 ∨ j = 12 ∨ j = 13 ∨ j = 14 ∨ j = 15 ∨ j = 16 ∨ j = 17 ∨ j = 18 ∨ j = 19 ∨ j = 20 ∨ j = 21 ∨ j = 22 ∨ j = 23 ∨ j = 24 ∨ j = 25 ∨ j = 26 ∨ j = 27 ∨ j = 28 ∨ j = 29 by omega) with rfl | rfl | rfl | rfl | rfl | rfl | rfl | rfl | rfl | rfl | rfl | rfl | rfl | rfl | rfl | rfl | rfl | rfl | rfl | rfl | rfl | rfl | rfl | rfl | rfl | rfl | rfl | rfl | rfl | rfl <;> rfl) (Nat.le_of_ble_eq_true rfl) (Nat.le_of_ble_eq_true rfl) dL_law_8 (fun q1 H2 hP2 hD2 hS => ?_)
  obtain ⟨hPk, hPq, hDq, hne⟩ := gl_split hP2 hD2
  have hltk : ∀ i, i < 84 → ad i < H2.size := fun i hi => (hPk i _ (gq_W_at hi)).lt
  have hq1 : s.heap.size ≤ q1 := hDq.2 0 _ rfl
  have hsz2 : s.heap.size ≤ H2.size := hS.1
  refine W.widen (k := 85) (n := 968) (Nat.le_of_ble_eq_true rfl) (Nat.le_of_ble_eq_true rfl) ?_
  refine lv_dup hx hb dL_law_11 rfl ?_
  have hFm : ∀ q, va_A [(q1, .inr (7, [.int 0, .int 0, .null, .null, .null, .null, .null, .null, .null, .int 0, .int 0, .null, .int 0, .int 0, .int 0, .int 0, .int 0, .int 0, .null, .null, .null, .int 0, .int 0, .int 0, .null, .null, .null, .long 0, .null, .null]))] H2.size q → s.heap.size ≤ q := fun q h => by
    rcases gl_one h with h | h
    · rw [h]; exact hq1
    · exact Nat.le_trans hsz2 h
  refine va_callv (va_runI (As := []) (rest := [.ref q1]) ⟨hx, hb, hml, hown, hts⟩ (kq_X7_init l dC dI cyI cyZ cyS q1 H2.size) (cwI 0 hts gL_law_X7_init rfl rfl rfl (hts0 (.initialized RX7) (by decide +kernel)) (hts0 (.methodLink RL 12 yX7_init) (by decide +kernel)) (hts0 (.instanceMethod yX7_init) (by decide +kernel)) rfl (by decide +kernel) ⟨Nat.le_of_ble_eq_true rfl, Nat.le_of_ble_eq_true rfl⟩) (gk_preS hPq hK hDq) rfl rfl hl.1 rfl (lv_room (Nat.le_of_ble_eq_true rfl)) dL_law_12 ⟨Nat.le_of_ble_eq_true rfl, Nat.le_of_ble_eq_true rfl⟩) hS (fun q _ h => hFm q h) hFm (fun bd t H3 locs ht hvm hw hB hz3 hk3 hS => ?_)
  obtain ⟨hbd, hP3, hD3⟩ := hB
  rw [ht] at hP3
  have hApM : gq_ap 17 bd := gl_apOf hD3
  have hInA : ∀ i, i < 17 → bd i = q1 ∨ H2.size ≤ bd i := fun i hi => gl_one (hD3.2 i _ (gq_W_at hi))
  have hInM : ∀ i, i < 17 → s.heap.size ≤ bd i := fun i hi => hFm _ (hD3.2 i _ (gq_W_at hi))
  have hPk3 : va_P (dC, dI) vwCl (gq_W 84 ad (gc_S cyI cyZ cyS ad) (fun _ _ => 0, 0)) H3 := hPk.kept (fun k q hq => hk3 q.1 ((hPk k q hq).lt) (fun z => by
    obtain ⟨h1, h2⟩ := gq_W_in hq
    rw [h2] at z
    rcases gl_one z with h | h
    · exact hne k h1 h
    · have h3 := hltk k h1
      omega))
  subst hbd
  refine W.widen (k := 101) (n := 3776) (Nat.le_of_ble_eq_true rfl) (Nat.le_of_ble_eq_true rfl) ?_
  refine lv_astore_n (lv' := [(2, .ref (bd 0)), (1, .ref (ad 0)), (0, .ref b)]) hx hb dL_law_15 rfl hl (by decide) rfl (fun ls hl => ?_)
  refine lv_iconst (v := 0) hx hb dL_law_16 (by decide) ?_
  refine lv_istore_n (lv' := [(3, .int 0), (2, .ref (bd 0)), (1, .ref (ad 0)), (0, .ref b)]) hx hb dL_law_17 rfl hl (by decide) rfl (fun ls hl => ?_)
  have hl := lv_sub (l' := [(0, .ref b), (1, .ref (ad 0)), (2, .ref (bd 0)), (3, .int 0)]) hl [3, 2, 1, 0] rfl
  refine W.widen (k := 600000) (n := 7302250) (Nat.le_of_ble_eq_true rfl) (Nat.le_of_ble_eq_true rfl) ?_
  have C : gl_C p s m meth c (dC, dI) cyI cyZ cyS ad bd b L tt xs := ⟨⟨hx, hb, hml, hown, hts⟩, hK, hApC, hApM, hInC, hInM, fun i j hi hj he => by
    rcases hInA j hj with h | h
    · exact hne i hi (he.trans h)
    · have h3 := hltk i hi
      omega, hX, hbl, hr, hlocks, hTh⟩
  exact gl_loop C hSim hL (L + 1) 0 0 _ _ (by omega) (by omega) nI_0.symm hR0 H3 locs ls hPk3 hP3 hS hl
