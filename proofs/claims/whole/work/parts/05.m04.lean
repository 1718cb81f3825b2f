/-! ===== walks of X7_goFrom, X7_spread, X7_reachOn, X7_reachNow, X7_reach, X7_fewest, X7_wants (by wip/gen) ===== -/
abbrev rq_X7_goFrom : Room := { frames := 3, cells := 0, slots := 0, locals := 69 }
theorem dq_X7_goFrom : gq_dsc yX7_goFrom 4 := by unfold gq_dsc; decide +kernel
theorem iq_X7_goFrom_X7 : ∀ w ∈ u_ws RX7 TX7 30, w ∈ wsX7_goFrom := by decide +kernel
theorem fq_X7_goFrom_19 : Cond.fieldLink RX7 19 (TX7 5).1 (TX7 5).2.1 (TX7 5).2.2.1 ∈ wsX7_goFrom := by decide +kernel
theorem fq_X7_goFrom_164 : Cond.fieldLink RX7 164 (TX7 22).1 (TX7 22).2.1 (TX7 22).2.2.1 ∈ wsX7_goFrom := by decide +kernel
theorem fq_X7_goFrom_22 : Cond.fieldLink RX7 22 (TX7 6).1 (TX7 6).2.1 (TX7 6).2.2.1 ∈ wsX7_goFrom := by decide +kernel
theorem fq_X7_goFrom_13 : Cond.fieldLink RX7 13 (TX7 3).1 (TX7 3).2.1 (TX7 3).2.2.1 ∈ wsX7_goFrom := by decide +kernel
theorem fq_X7_goFrom_37 : Cond.fieldLink RX7 37 (TX7 19).1 (TX7 19).2.1 (TX7 19).2.2.1 ∈ wsX7_goFrom := by decide +kernel
theorem fq_X7_goFrom_16 : Cond.fieldLink RX7 16 (TX7 4).1 (TX7 4).2.1 (TX7 4).2.2.1 ∈ wsX7_goFrom := by decide +kernel
def wq_X7_goFrom_b141 (Q : gq_M → Prop) (x3 : Int32) (s1 : Int32) (s2 : Int32) (s3 : Int32) (σ : gq_M) : Prop := vp_in x3 1210 ∧ wq_X7_meetState s1 s2 s3 ((σ.1 10 x3.toNatClampNeg) + 1) σ (fun σ15 => Q σ15)
set_option maxRecDepth 100000 in
set_option maxHeartbeats 4000000 in
theorem tq_X7_goFrom_b141 {p : Program} {l : Launch} {e : Env} {s : State} {m : MethodId} {args : Array Value} {below : List Frame} {meth : Method} {c : Code} {D : va_G} {cyI cyZ : ClassId} {ad : Nat → Nat} {Q : gq_M → Prop} (C : gq_C p s m args meth c cX7_goFrom 9 RX7 wsX7_goFrom D (gm_T cyI cyZ) 17 ad none) (x3 : Int32) (s1 : Int32) (s2 : Int32) (s3 : Int32) (σ : gq_M) (h : wq_X7_goFrom_b141 Q x3 s1 s2 s3 σ) : gq_G p l e rq_X7_goFrom s m args below meth c (gq_Rv below args s D (gm_T cyI cyZ) 17 ad (gm_S cyI cyZ ad) Q) D 17 ad (gm_S cyI cyZ ad) 9 σ 141 [(0, .ref (ad 0)), (3, .int x3)] [.int s3, .int s2, .int s1, .ref (ad 0)] := by
  unfold wq_X7_goFrom_b141 at h
  refine gq_aload_n (j := 0) C dX7_goFrom_141 rfl ?_
  refine gq_get (v := .ref (ad 10)) (i := 0) C gms_0 rfl iq_X7_goFrom_X7 19 (by decide) fq_X7_goFrom_37 rfl dX7_goFrom_142 ?_
  refine gq_iload_n (j := 1) C dX7_goFrom_145 rfl ?_
  refine gq_iald (i := 10) (j := x3.toNatClampNeg) C gms_10 0 rfl rfl h.1 dX7_goFrom_146 ?_
  have h := h.2
  refine gq_iconst (v := 1) C dX7_goFrom_147 (by decide) ?_
  refine gq_iadd C dX7_goFrom_148 ?_
  refine gq_vv (i := 0) C gms_0 rfl [.int s1, .int s2, .int s3, .int ((σ.1 10 x3.toNatClampNeg) + 1)] (mq_X7_meetState C.2.2.1 s1 s2 s3 ((σ.1 10 x3.toNatClampNeg) + 1) σ _ h) gX7_goFrom_X7_meetState rfl rfl dq_X7_meetState ⟨rfl, rfl, by decide, by decide⟩ rfl rfl (Nat.le_of_ble_eq_true rfl) dX7_goFrom_149 (fun σ15 h => ?_)
  exact gq_vret C h dX7_goFrom_152
def wq_X7_goFrom_b123 (Q : gq_M → Prop) (x2 : Int32) (x3 : Int32) (x7 : Int32) (s1 : Int32) (s2 : Int32) (σ : gq_M) : Prop := vp_in x2 5 ∧ ((¬ (σ.1 4 x2.toNatClampNeg) = 3 → wq_X7_goFrom_b141 Q x3 s1 s2 0 σ) ∧ ((σ.1 4 x2.toNatClampNeg) = 3 → wq_X7_goFrom_b141 Q x3 s1 s2 (x7 + 1) σ))
set_option maxRecDepth 100000 in
set_option maxHeartbeats 4000000 in
theorem tq_X7_goFrom_b123 {p : Program} {l : Launch} {e : Env} {s : State} {m : MethodId} {args : Array Value} {below : List Frame} {meth : Method} {c : Code} {D : va_G} {cyI cyZ : ClassId} {ad : Nat → Nat} {Q : gq_M → Prop} (C : gq_C p s m args meth c cX7_goFrom 9 RX7 wsX7_goFrom D (gm_T cyI cyZ) 17 ad none) (x2 : Int32) (x3 : Int32) (x7 : Int32) (s1 : Int32) (s2 : Int32) (σ : gq_M) (h : wq_X7_goFrom_b123 Q x2 x3 x7 s1 s2 σ) : gq_G p l e rq_X7_goFrom s m args below meth c (gq_Rv below args s D (gm_T cyI cyZ) 17 ad (gm_S cyI cyZ ad) Q) D 17 ad (gm_S cyI cyZ ad) 9 σ 123 [(0, .ref (ad 0)), (2, .int x2), (3, .int x3), (7, .int x7)] [.int s2, .int s1, .ref (ad 0)] := by
  unfold wq_X7_goFrom_b123 at h
  refine gq_aload_n (j := 0) C dX7_goFrom_123 rfl ?_
  refine gq_get (v := .ref (ad 4)) (i := 0) C gms_0 rfl iq_X7_goFrom_X7 5 (by decide) fq_X7_goFrom_19 rfl dX7_goFrom_124 ?_
  refine gq_iload_n (j := 1) C dX7_goFrom_127 rfl ?_
  refine gq_iald (i := 4) (j := x2.toNatClampNeg) C gms_4 0 rfl rfl h.1 dX7_goFrom_128 ?_
  have h := h.2
  refine gq_iconst (v := 3) C dX7_goFrom_129 (by decide) ?_
  refine gq_icmp_ne (tgt := 140) C dX7_goFrom_130 (by decide) (fun c13 => ?_) (fun c13 => ?_)
  · have h := h.1 c13
    refine gq_iconst (v := 0) C dX7_goFrom_140 (by decide) ?_
    refine gq_sub [0, 2] rfl ?_
    exact tq_X7_goFrom_b141 C _ _ _ _ _ h
  · have h := h.2 c13
    refine gq_iload (j := 3) C dX7_goFrom_133 rfl ?_
    refine gq_iconst (v := 1) C dX7_goFrom_135 (by decide) ?_
    refine gq_iadd C dX7_goFrom_136 ?_
    refine gq_goto (tgt := 141) C dX7_goFrom_137 (by decide) ?_
    refine gq_sub [0, 2] rfl ?_
    exact tq_X7_goFrom_b141 C _ _ _ _ _ h
def wq_X7_goFrom_b98 (Q : gq_M → Prop) (x2 : Int32) (x3 : Int32) (x6 : Int32) (x7 : Int32) (x8 : Int32) (s1 : Int32) (σ : gq_M) : Prop := vp_in x7 10 ∧ ((¬ (σ.1 2 x7.toNatClampNeg) = 3 → wq_X7_goFrom_b123 Q x2 x3 x7 s1 (x6 - x8) σ) ∧ ((σ.1 2 x7.toNatClampNeg) = 3 → vp_in x2 5 ∧ wq_X7_goFrom_b123 Q x2 x3 x7 s1 (σ.1 3 x2.toNatClampNeg) σ))
set_option maxRecDepth 100000 in
set_option maxHeartbeats 4000000 in
theorem tq_X7_goFrom_b98 {p : Program} {l : Launch} {e : Env} {s : State} {m : MethodId} {args : Array Value} {below : List Frame} {meth : Method} {c : Code} {D : va_G} {cyI cyZ : ClassId} {ad : Nat → Nat} {Q : gq_M → Prop} (C : gq_C p s m args meth c cX7_goFrom 9 RX7 wsX7_goFrom D (gm_T cyI cyZ) 17 ad none) (x2 : Int32) (x3 : Int32) (x6 : Int32) (x7 : Int32) (x8 : Int32) (s1 : Int32) (σ : gq_M) (h : wq_X7_goFrom_b98 Q x2 x3 x6 x7 x8 s1 σ) : gq_G p l e rq_X7_goFrom s m args below meth c (gq_Rv below args s D (gm_T cyI cyZ) 17 ad (gm_S cyI cyZ ad) Q) D 17 ad (gm_S cyI cyZ ad) 9 σ 98 [(0, .ref (ad 0)), (2, .int x2), (3, .int x3), (6, .int x6), (7, .int x7), (8, .int x8)] [.int s1, .ref (ad 0)] := by
  unfold wq_X7_goFrom_b98 at h
  refine gq_aload_n (j := 0) C dX7_goFrom_98 rfl ?_
  refine gq_get (v := .ref (ad 2)) (i := 0) C gms_0 rfl iq_X7_goFrom_X7 3 (by decide) fq_X7_goFrom_13 rfl dX7_goFrom_99 ?_
  refine gq_iload (j := 4) C dX7_goFrom_102 rfl ?_
  refine gq_iald (i := 2) (j := x7.toNatClampNeg) C gms_2 0 rfl rfl h.1 dX7_goFrom_104 ?_
  have h := h.2
  refine gq_iconst (v := 3) C dX7_goFrom_105 (by decide) ?_
  refine gq_icmp_ne (tgt := 118) C dX7_goFrom_106 (by decide) (fun c12 => ?_) (fun c12 => ?_)
  · have h := h.1 c12
    refine gq_iload (j := 3) C dX7_goFrom_118 rfl ?_
    refine gq_iload (j := 5) C dX7_goFrom_120 rfl ?_
    refine gq_isub C dX7_goFrom_122 ?_
    refine gq_sub [0, 1, 2, 4] rfl ?_
    exact tq_X7_goFrom_b123 C _ _ _ _ _ _ h
  · have h := h.2 c12
    refine gq_aload_n (j := 0) C dX7_goFrom_109 rfl ?_
    refine gq_get (v := .ref (ad 3)) (i := 0) C gms_0 rfl iq_X7_goFrom_X7 4 (by decide) fq_X7_goFrom_16 rfl dX7_goFrom_110 ?_
    refine gq_iload_n (j := 1) C dX7_goFrom_113 rfl ?_
    refine gq_iald (i := 3) (j := x2.toNatClampNeg) C gms_3 0 rfl rfl h.1 dX7_goFrom_114 ?_
    have h := h.2
    refine gq_goto (tgt := 123) C dX7_goFrom_115 (by decide) ?_
    refine gq_sub [0, 1, 2, 4] rfl ?_
    exact tq_X7_goFrom_b123 C _ _ _ _ _ _ h
def wq_X7_goFrom_b72 (Q : gq_M → Prop) (x2 : Int32) (x3 : Int32) (x4 : Int32) (x5 : Int32) (x6 : Int32) (x7 : Int32) (s0 : Int32) (σ : gq_M) : Prop := ((x6 < s0 → Q σ) ∧ (¬ x6 < s0 → ((x4 = 0 → wq_X7_goFrom_b98 Q x2 x3 x6 x7 s0 (x5 - 1) σ) ∧ (¬ x4 = 0 → wq_X7_goFrom_b98 Q x2 x3 x6 x7 s0 (x5 + 1) σ))))
set_option maxRecDepth 100000 in
set_option maxHeartbeats 4000000 in
theorem tq_X7_goFrom_b72 {p : Program} {l : Launch} {e : Env} {s : State} {m : MethodId} {args : Array Value} {below : List Frame} {meth : Method} {c : Code} {D : va_G} {cyI cyZ : ClassId} {ad : Nat → Nat} {Q : gq_M → Prop} (C : gq_C p s m args meth c cX7_goFrom 9 RX7 wsX7_goFrom D (gm_T cyI cyZ) 17 ad none) (x2 : Int32) (x3 : Int32) (x4 : Int32) (x5 : Int32) (x6 : Int32) (x7 : Int32) (s0 : Int32) (σ : gq_M) (h : wq_X7_goFrom_b72 Q x2 x3 x4 x5 x6 x7 s0 σ) : gq_G p l e rq_X7_goFrom s m args below meth c (gq_Rv below args s D (gm_T cyI cyZ) 17 ad (gm_S cyI cyZ ad) Q) D 17 ad (gm_S cyI cyZ ad) 9 σ 72 [(0, .ref (ad 0)), (2, .int x2), (3, .int x3), (4, .int x4), (5, .int x5), (6, .int x6), (7, .int x7)] [.int s0] := by
  unfold wq_X7_goFrom_b72 at h
  refine gq_istore (L' := [(0, .ref (ad 0)), (2, .int x2), (3, .int x3), (4, .int x4), (5, .int x5), (6, .int x6), (7, .int x7), (8, .int s0)]) C [1, 2, 3, 4, 5, 6, 7, 0] dX7_goFrom_72 (by decide) rfl ?_
  refine gq_iload (j := 7) C dX7_goFrom_74 rfl ?_
  refine gq_iload (j := 5) C dX7_goFrom_76 rfl ?_
  refine gq_icmp_gt (tgt := 152) C dX7_goFrom_78 (by decide) (fun c10 => ?_) (fun c10 => ?_)
  · have h := h.1 c10
    exact gq_vret C h dX7_goFrom_152
  · have h := h.2 c10
    refine gq_aload_n (j := 0) C dX7_goFrom_81 rfl ?_
    refine gq_iload (j := 3) C dX7_goFrom_82 rfl ?_
    refine gq_if_eq (tgt := 94) C dX7_goFrom_84 (by decide) (fun c11 => ?_) (fun c11 => ?_)
    · have h := h.1 c11
      refine gq_iload (j := 4) C dX7_goFrom_94 rfl ?_
      refine gq_iconst (v := 1) C dX7_goFrom_96 (by decide) ?_
      refine gq_isub C dX7_goFrom_97 ?_
      refine gq_sub [0, 1, 2, 5, 6, 7] rfl ?_
      exact tq_X7_goFrom_b98 C _ _ _ _ _ _ _ h
    · have h := h.2 c11
      refine gq_iload (j := 4) C dX7_goFrom_87 rfl ?_
      refine gq_iconst (v := 1) C dX7_goFrom_89 (by decide) ?_
      refine gq_iadd C dX7_goFrom_90 ?_
      refine gq_goto (tgt := 98) C dX7_goFrom_91 (by decide) ?_
      refine gq_sub [0, 1, 2, 5, 6, 7] rfl ?_
      exact tq_X7_goFrom_b98 C _ _ _ _ _ _ _ h
def wq_X7_goFrom (a1 : Int32) (a2 : Int32) (a3 : Int32) (a4 : Int32) (σ : gq_M) (Q : gq_M → Prop) : Prop := ∀ v1, v1 = (a3 / 110) → ∀ v2, v2 = ((a3 / 11) - (a3 / 11) / 10 * 10) → wq_X7_pleatOf v1 a4 σ (fun r3 σ4 => ((¬ r3 = (-9) → vp_in a2 5 ∧ vp_in ((14 * a1) + 12) 28 ∧ wq_X7_costs r3 (a3 - a3 / 11 * 11) (σ4.1 0 22) (σ4.1 5 (((14 * a1) + 12)).toNatClampNeg) σ4 (fun r6 σ7 => wq_X7_pays (σ4.1 4 a2.toNatClampNeg) r6 σ7 (fun r8 σ9 => wq_X7_goFrom_b72 Q a2 a3 a4 v1 v2 r3 r8 σ9))) ∧ (r3 = (-9) → wq_X7_goFrom_b72 Q a2 a3 a4 v1 v2 r3 10 σ4)))
set_option maxRecDepth 100000 in
set_option maxHeartbeats 4000000 in
theorem tq_X7_goFrom {p : Program} {l : Launch} {e : Env} {s : State} {m : MethodId} {args : Array Value} {below : List Frame} {meth : Method} {c : Code} {D : va_G} {cyI cyZ : ClassId} {ad : Nat → Nat} {Q : gq_M → Prop} (C : gq_C p s m args meth c cX7_goFrom 9 RX7 wsX7_goFrom D (gm_T cyI cyZ) 17 ad none) (a1 : Int32) (a2 : Int32) (a3 : Int32) (a4 : Int32) (σ : gq_M) (h : wq_X7_goFrom a1 a2 a3 a4 σ Q) : gq_G p l e rq_X7_goFrom s m args below meth c (gq_Rv below args s D (gm_T cyI cyZ) 17 ad (gm_S cyI cyZ ad) Q) D 17 ad (gm_S cyI cyZ ad) 9 σ 0 [(0, .ref (ad 0)), (1, .int a1), (2, .int a2), (3, .int a3), (4, .int a4)] [] := by
  unfold wq_X7_goFrom at h
  refine gq_iload_n (j := 3) C dX7_goFrom_0 rfl ?_
  refine gq_bipush (v := 110) C dX7_goFrom_1 (by decide) ?_
  refine gq_idiv C dX7_goFrom_3 (by decide) ?_
  refine gq_topi (fun v1 qv1 => ?_)
  have h := h v1 qv1
  refine gq_istore (L' := [(0, .ref (ad 0)), (1, .int a1), (2, .int a2), (3, .int a3), (4, .int a4), (5, .int v1)]) C [1, 2, 3, 4, 5, 0] dX7_goFrom_4 (by decide) rfl ?_
  refine gq_iload_n (j := 3) C dX7_goFrom_6 rfl ?_
  refine gq_bipush (v := 11) C dX7_goFrom_7 (by decide) ?_
  refine gq_idiv C dX7_goFrom_9 (by decide) ?_
  refine gq_bipush (v := 10) C dX7_goFrom_10 (by decide) ?_
  refine gq_irem C dX7_goFrom_12 (by decide) ?_
  refine gq_topi (fun v2 qv2 => ?_)
  have h := h v2 qv2
  refine gq_istore (L' := [(0, .ref (ad 0)), (1, .int a1), (2, .int a2), (3, .int a3), (4, .int a4), (5, .int v1), (6, .int v2)]) C [1, 2, 3, 4, 5, 6, 0] dX7_goFrom_13 (by decide) rfl ?_
  refine gq_aload_n (j := 0) C dX7_goFrom_15 rfl ?_
  refine gq_iload (j := 5) C dX7_goFrom_16 rfl ?_
  refine gq_iload (j := 4) C dX7_goFrom_18 rfl ?_
  refine gq_vi (i := 0) C gms_0 rfl [.int v1, .int a4] (mq_X7_pleatOf C.2.2.1 v1 a4 σ _ h) gX7_goFrom_X7_pleatOf rfl rfl dq_X7_pleatOf ⟨rfl, rfl, by decide, by decide⟩ rfl rfl (Nat.le_of_ble_eq_true rfl) dX7_goFrom_20 (fun r3 σ4 h => ?_)
  refine gq_istore (L' := [(0, .ref (ad 0)), (1, .int a1), (2, .int a2), (3, .int a3), (4, .int a4), (5, .int v1), (6, .int v2), (7, .int r3)]) C [1, 2, 3, 4, 5, 6, 7, 0] dX7_goFrom_23 (by decide) rfl ?_
  refine gq_iload (j := 7) C dX7_goFrom_25 rfl ?_
  refine gq_bipush (v := (-9)) C dX7_goFrom_27 (by decide) ?_
  refine gq_icmp_ne (tgt := 37) C dX7_goFrom_29 (by decide) (fun c5 => ?_) (fun c5 => ?_)
  · have h := h.1 c5
    refine gq_aload_n (j := 0) C dX7_goFrom_37 rfl ?_
    refine gq_get (v := .ref (ad 4)) (i := 0) C gms_0 rfl iq_X7_goFrom_X7 5 (by decide) fq_X7_goFrom_19 rfl dX7_goFrom_38 ?_
    refine gq_iload_n (j := 2) C dX7_goFrom_41 rfl ?_
    refine gq_iald (i := 4) (j := a2.toNatClampNeg) C gms_4 0 rfl rfl h.1 dX7_goFrom_42 ?_
    have h := h.2
    refine gq_aload_n (j := 0) C dX7_goFrom_43 rfl ?_
    refine gq_iload (j := 7) C dX7_goFrom_44 rfl ?_
    refine gq_iload_n (j := 3) C dX7_goFrom_46 rfl ?_
    refine gq_bipush (v := 11) C dX7_goFrom_47 (by decide) ?_
    refine gq_irem C dX7_goFrom_49 (by decide) ?_
    refine gq_aload_n (j := 0) C dX7_goFrom_50 rfl ?_
    refine gq_get (v := .int (σ4.1 0 22)) (i := 0) C gms_0 rfl iq_X7_goFrom_X7 22 (by decide) fq_X7_goFrom_164 rfl dX7_goFrom_51 ?_
    refine gq_aload_n (j := 0) C dX7_goFrom_54 rfl ?_
    refine gq_get (v := .ref (ad 5)) (i := 0) C gms_0 rfl iq_X7_goFrom_X7 6 (by decide) fq_X7_goFrom_22 rfl dX7_goFrom_55 ?_
    refine gq_bipush (v := 14) C dX7_goFrom_58 (by decide) ?_
    refine gq_iload_n (j := 1) C dX7_goFrom_60 rfl ?_
    refine gq_imul C dX7_goFrom_61 ?_
    refine gq_bipush (v := 12) C dX7_goFrom_62 (by decide) ?_
    refine gq_iadd C dX7_goFrom_64 ?_
    refine gq_iald (i := 5) (j := (((14 * a1) + 12)).toNatClampNeg) C gms_5 0 rfl rfl h.1 dX7_goFrom_65 ?_
    have h := h.2
    refine gq_vi (i := 0) C gms_0 rfl [.int r3, .int (a3 - a3 / 11 * 11), .int (σ4.1 0 22), .int (σ4.1 5 (((14 * a1) + 12)).toNatClampNeg)] (mq_X7_costs C.2.2.1 r3 (a3 - a3 / 11 * 11) (σ4.1 0 22) (σ4.1 5 (((14 * a1) + 12)).toNatClampNeg) σ4 _ h) gX7_goFrom_X7_costs rfl rfl dq_X7_costs ⟨rfl, rfl, by decide, by decide⟩ rfl rfl (Nat.le_of_ble_eq_true rfl) dX7_goFrom_66 (fun r6 σ7 h => ?_)
    refine gq_si C [.int (σ4.1 4 a2.toNatClampNeg), .int r6] (mq_X7_pays C.2.2.1 (σ4.1 4 a2.toNatClampNeg) r6 σ7 _ h) gX7_goFrom_X7_pays rfl dq_X7_pays ⟨rfl, rfl, by decide, by decide⟩ rfl rfl (Nat.le_of_ble_eq_true rfl) dX7_goFrom_69 (fun r8 σ9 h => ?_)
    refine gq_sub [0, 2, 3, 4, 5, 6, 7] rfl ?_
    exact tq_X7_goFrom_b72 C _ _ _ _ _ _ _ _ h
  · have h := h.2 c5
    refine gq_bipush (v := 10) C dX7_goFrom_32 (by decide) ?_
    refine gq_goto (tgt := 72) C dX7_goFrom_34 (by decide) ?_
    refine gq_sub [0, 2, 3, 4, 5, 6, 7] rfl ?_
    exact tq_X7_goFrom_b72 C _ _ _ _ _ _ _ _ h
theorem mq_X7_goFrom {l : Launch} {D : va_G} {cyI cyZ : ClassId} {ad : Nat → Nat} (hap : gq_ap 17 ad) (a1 : Int32) (a2 : Int32) (a3 : Int32) (a4 : Int32) (σ : gq_M) (Q : gq_M → Prop) (h : wq_X7_goFrom a1 a2 a3 a4 σ Q) : Met l yX7_goFrom wsX7_goFrom rq_X7_goFrom (va_Pc [.ref (ad 0), .int a1, .int a2, .int a3, .int a4] (gq_P D (gm_T cyI cyZ) 17 ad (gm_S cyI cyZ ad) σ)) (va_Qv Q (gq_P D (gm_T cyI cyZ) 17 ad (gm_S cyI cyZ ad)) (gq_A 17 ad)) 0 0 (gq_A 17 ad) :=
  gq_met hap (by decide) rfl rfl (Nat.le_of_ble_eq_true rfl) (fun _ _ _ _ _ _ _ C => tq_X7_goFrom C a1 a2 a3 a4 σ h)
abbrev rq_X7_spread : Room := { frames := 4, cells := 0, slots := 0, locals := 97 }
theorem dq_X7_spread : gq_dsc yX7_spread 4 := by unfold gq_dsc; decide +kernel
theorem iq_X7_spread_X7 : ∀ w ∈ u_ws RX7 TX7 30, w ∈ wsX7_spread := by decide +kernel
theorem fq_X7_spread_37 : Cond.fieldLink RX7 37 (TX7 19).1 (TX7 19).2.1 (TX7 19).2.2.1 ∈ wsX7_spread := by decide +kernel
theorem fq_X7_spread_161 : Cond.fieldLink RX7 161 (TX7 21).1 (TX7 21).2.1 (TX7 21).2.2.1 ∈ wsX7_spread := by decide +kernel
theorem fq_X7_spread_164 : Cond.fieldLink RX7 164 (TX7 22).1 (TX7 22).2.1 (TX7 22).2.2.1 ∈ wsX7_spread := by decide +kernel
theorem fq_X7_spread_22 : Cond.fieldLink RX7 22 (TX7 6).1 (TX7 6).2.1 (TX7 6).2.2.1 ∈ wsX7_spread := by decide +kernel
theorem fq_X7_spread_40 : Cond.fieldLink RX7 40 (TX7 20).1 (TX7 20).2.1 (TX7 20).2.2.1 ∈ wsX7_spread := by decide +kernel
def wq_X7_spread_l9 (Q : gq_M → Prop) (K32 : Int32 → Int32 → Int32 → Int32 → Int32 → gq_M → Prop) : Nat → Int32 → Int32 → Int32 → Int32 → Int32 → Int32 → gq_M → Prop
  | 0, _, _, _, _, _, _, _ => False
  | n + 1, x1, x2, x3, x4, x5, x6, σ => ((1210 ≤ x6 → K32 x1 x2 x3 x4 x5 σ) ∧ (¬ 1210 ≤ x6 → vp_in x6 1210 ∧ ∀ v3, v3 = (x6 + 1) → wq_X7_spread_l9 Q K32 n x1 x2 x3 x4 x5 v3 (gq_put σ 10 x6.toNatClampNeg (-9))))
set_option maxRecDepth 100000 in
set_option maxHeartbeats 4000000 in
theorem tq_X7_spread_l9 {p : Program} {l : Launch} {e : Env} {s : State} {m : MethodId} {args : Array Value} {below : List Frame} {meth : Method} {c : Code} {D : va_G} {cyI cyZ : ClassId} {ad : Nat → Nat} {Q : gq_M → Prop} {K32 : Int32 → Int32 → Int32 → Int32 → Int32 → gq_M → Prop} (C : gq_C p s m args meth c cX7_spread 8 RX7 wsX7_spread D (gm_T cyI cyZ) 17 ad none) (hK32 : ∀ (y1 : Int32) (y2 : Int32) (y3 : Int32) (y4 : Int32) (y5 : Int32) (τ : gq_M), K32 y1 y2 y3 y4 y5 τ → gq_G p l e rq_X7_spread s m args below meth c (gq_Rv below args s D (gm_T cyI cyZ) 17 ad (gm_S cyI cyZ ad) Q) D 17 ad (gm_S cyI cyZ ad) 8 τ 32 [(0, .ref (ad 0)), (1, .int y1), (2, .int y2), (3, .int y3), (4, .int y4), (5, .int y5)] []) : ∀ (n : Nat) (x1 : Int32) (x2 : Int32) (x3 : Int32) (x4 : Int32) (x5 : Int32) (x6 : Int32) (σ : gq_M), wq_X7_spread_l9 Q K32 n x1 x2 x3 x4 x5 x6 σ → gq_G p l e rq_X7_spread s m args below meth c (gq_Rv below args s D (gm_T cyI cyZ) 17 ad (gm_S cyI cyZ ad) Q) D 17 ad (gm_S cyI cyZ ad) 8 σ 9 [(0, .ref (ad 0)), (1, .int x1), (2, .int x2), (3, .int x3), (4, .int x4), (5, .int x5), (6, .int x6)] [] := by
  intro n
  induction n with
  | zero =>
    intro x1 x2 x3 x4 x5 x6 σ h
    exact absurd h (fun q => q)
  | succ n ih =>
    intro x1 x2 x3 x4 x5 x6 σ h
    unfold wq_X7_spread_l9 at h
    refine gq_iload (j := 6) C dX7_spread_9 rfl ?_
    refine gq_sipush (v := 1210) C dX7_spread_11 (by decide) ?_
    refine gq_icmp_ge (tgt := 32) C dX7_spread_14 (by decide) (fun c2 => ?_) (fun c2 => ?_)
    · have h := h.1 c2
      refine gq_sub [0, 1, 2, 3, 4, 5] rfl ?_
      exact hK32 _ _ _ _ _ _ h
    · have h := h.2 c2
      refine gq_aload_n (j := 0) C dX7_spread_17 rfl ?_
      refine gq_get (v := .ref (ad 10)) (i := 0) C gms_0 rfl iq_X7_spread_X7 19 (by decide) fq_X7_spread_37 rfl dX7_spread_18 ?_
      refine gq_iload (j := 6) C dX7_spread_21 rfl ?_
      refine gq_bipush (v := (-9)) C dX7_spread_23 (by decide) ?_
      refine gq_iast (i := 10) (j := x6.toNatClampNeg) C gms_10 0 rfl rfl h.1 dX7_spread_25 ?_
      have h := h.2
      obtain ⟨v3, qv3⟩ : ∃ y : Int32, y = (x6 + 1) := ⟨_, rfl⟩
      have h := h v3 qv3
      refine gq_iinc (j := 6) (v := v3) (L' := [(0, .ref (ad 0)), (1, .int x1), (2, .int x2), (3, .int x3), (4, .int x4), (5, .int x5), (6, .int v3)]) C [1, 2, 3, 4, 5, 6, 0] dX7_spread_26 rfl (by rw [qv3]; rfl) (by decide) rfl ?_
      refine gq_goto (tgt := 9) C dX7_spread_29 (by decide) ?_
      exact ih _ _ _ _ _ _ _ h
def wq_X7_spread_b153 (Q : gq_M → Prop) (K81 : Int32 → Int32 → Int32 → Int32 → gq_M → Prop) (x1 : Int32) (x2 : Int32) (x3 : Int32) (x6 : Int32) (σ : gq_M) : Prop := ∀ v19, v19 = (x6 + 1) → K81 x1 x2 x3 v19 σ
set_option maxRecDepth 100000 in
set_option maxHeartbeats 4000000 in
theorem tq_X7_spread_b153 {p : Program} {l : Launch} {e : Env} {s : State} {m : MethodId} {args : Array Value} {below : List Frame} {meth : Method} {c : Code} {D : va_G} {cyI cyZ : ClassId} {ad : Nat → Nat} {Q : gq_M → Prop} {K81 : Int32 → Int32 → Int32 → Int32 → gq_M → Prop} (C : gq_C p s m args meth c cX7_spread 8 RX7 wsX7_spread D (gm_T cyI cyZ) 17 ad none) (hK81 : ∀ (y1 : Int32) (y2 : Int32) (y3 : Int32) (y6 : Int32) (τ : gq_M), K81 y1 y2 y3 y6 τ → gq_G p l e rq_X7_spread s m args below meth c (gq_Rv below args s D (gm_T cyI cyZ) 17 ad (gm_S cyI cyZ ad) Q) D 17 ad (gm_S cyI cyZ ad) 8 τ 81 [(0, .ref (ad 0)), (1, .int y1), (2, .int y2), (3, .int y3), (6, .int y6)] []) (x1 : Int32) (x2 : Int32) (x3 : Int32) (x6 : Int32) (σ : gq_M) (h : wq_X7_spread_b153 Q K81 x1 x2 x3 x6 σ) : gq_G p l e rq_X7_spread s m args below meth c (gq_Rv below args s D (gm_T cyI cyZ) 17 ad (gm_S cyI cyZ ad) Q) D 17 ad (gm_S cyI cyZ ad) 8 σ 153 [(0, .ref (ad 0)), (1, .int x1), (2, .int x2), (3, .int x3), (6, .int x6)] [] := by
  unfold wq_X7_spread_b153 at h
  obtain ⟨v19, qv19⟩ : ∃ y : Int32, y = (x6 + 1) := ⟨_, rfl⟩
  have h := h v19 qv19
  refine gq_iinc (j := 4) (v := v19) (L' := [(0, .ref (ad 0)), (1, .int x1), (2, .int x2), (3, .int x3), (6, .int v19)]) C [1, 2, 3, 4, 0] dX7_spread_153 rfl (by rw [qv19]; rfl) (by decide) rfl ?_
  refine gq_goto (tgt := 81) C dX7_spread_156 (by decide) ?_
  exact hK81 _ _ _ _ _ h
def wq_X7_spread_l81 (Q : gq_M → Prop) (K159 : gq_M → Prop) : Nat → Int32 → Int32 → Int32 → Int32 → gq_M → Prop
  | 0, _, _, _, _, _ => False
  | n + 1, x1, x2, x3, x6, σ => (((σ.1 0 21) ≤ x6 → K159 σ) ∧ (¬ (σ.1 0 21) ≤ x6 → vp_in x6 1210 ∧ ∀ v13, v13 = (σ.1 11 x6.toNatClampNeg) → wq_X7_goFrom x1 x2 v13 0 σ (fun σ15 => wq_X7_goFrom x1 x2 v13 1 σ15 (fun σ17 => ((x3 = 0 → wq_X7_spread_b153 Q (wq_X7_spread_l81 Q K159 n) x1 x2 x3 x6 σ17) ∧ (¬ x3 = 0 → wq_X7_rested x2 ((v13 / 11) - (v13 / 11) / 10 * 10) σ17 (fun r20 σ21 => vp_in v13 1210 ∧ wq_X7_meetState (v13 / 110) r20 0 ((σ21.1 10 v13.toNatClampNeg) + 1) σ21 (fun σ23 => wq_X7_spread_b153 Q (wq_X7_spread_l81 Q K159 n) x1 x2 x3 x6 σ23))))))))
set_option maxRecDepth 100000 in
set_option maxHeartbeats 4000000 in
theorem tq_X7_spread_l81 {p : Program} {l : Launch} {e : Env} {s : State} {m : MethodId} {args : Array Value} {below : List Frame} {meth : Method} {c : Code} {D : va_G} {cyI cyZ : ClassId} {ad : Nat → Nat} {Q : gq_M → Prop} {K159 : gq_M → Prop} (C : gq_C p s m args meth c cX7_spread 8 RX7 wsX7_spread D (gm_T cyI cyZ) 17 ad none) (hK159 : ∀ (τ : gq_M), K159 τ → gq_G p l e rq_X7_spread s m args below meth c (gq_Rv below args s D (gm_T cyI cyZ) 17 ad (gm_S cyI cyZ ad) Q) D 17 ad (gm_S cyI cyZ ad) 8 τ 159 [(0, .ref (ad 0))] []) : ∀ (n : Nat) (x1 : Int32) (x2 : Int32) (x3 : Int32) (x6 : Int32) (σ : gq_M), wq_X7_spread_l81 Q K159 n x1 x2 x3 x6 σ → gq_G p l e rq_X7_spread s m args below meth c (gq_Rv below args s D (gm_T cyI cyZ) 17 ad (gm_S cyI cyZ ad) Q) D 17 ad (gm_S cyI cyZ ad) 8 σ 81 [(0, .ref (ad 0)), (1, .int x1), (2, .int x2), (3, .int x3), (6, .int x6)] [] := by
  intro n
  induction n with
  | zero =>
    intro x1 x2 x3 x6 σ h
    exact absurd h (fun q => q)
  | succ n ih =>
    intro x1 x2 x3 x6 σ h
    unfold wq_X7_spread_l81 at h
    refine gq_iload (j := 4) C dX7_spread_81 rfl ?_
    refine gq_aload_n (j := 0) C dX7_spread_83 rfl ?_
    refine gq_get (v := .int (σ.1 0 21)) (i := 0) C gms_0 rfl iq_X7_spread_X7 21 (by decide) fq_X7_spread_161 rfl dX7_spread_84 ?_
    refine gq_icmp_ge (tgt := 159) C dX7_spread_87 (by decide) (fun c12 => ?_) (fun c12 => ?_)
    · have h := h.1 c12
      refine gq_sub [0] rfl ?_
      exact hK159  _ h
    · have h := h.2 c12
      refine gq_aload_n (j := 0) C dX7_spread_90 rfl ?_
      refine gq_get (v := .ref (ad 11)) (i := 0) C gms_0 rfl iq_X7_spread_X7 20 (by decide) fq_X7_spread_40 rfl dX7_spread_91 ?_
      refine gq_iload (j := 4) C dX7_spread_94 rfl ?_
      refine gq_iald (i := 11) (j := x6.toNatClampNeg) C gms_11 0 rfl rfl h.1 dX7_spread_96 ?_
      have h := h.2
      refine gq_topi (fun v13 qv13 => ?_)
      have h := h v13 qv13
      refine gq_istore (L' := [(0, .ref (ad 0)), (1, .int x1), (2, .int x2), (3, .int x3), (6, .int x6), (7, .int v13)]) C [1, 2, 3, 4, 5, 0] dX7_spread_97 (by decide) rfl ?_
      refine gq_aload_n (j := 0) C dX7_spread_99 rfl ?_
      refine gq_iload_n (j := 1) C dX7_spread_100 rfl ?_
      refine gq_iload_n (j := 2) C dX7_spread_101 rfl ?_
      refine gq_iload (j := 5) C dX7_spread_102 rfl ?_
      refine gq_iconst (v := 0) C dX7_spread_104 (by decide) ?_
      refine gq_vv (i := 0) C gms_0 rfl [.int x1, .int x2, .int v13, .int 0] (mq_X7_goFrom C.2.2.1 x1 x2 v13 0 σ _ h) gX7_spread_X7_goFrom rfl rfl dq_X7_goFrom ⟨rfl, rfl, by decide, by decide⟩ rfl rfl (Nat.le_of_ble_eq_true rfl) dX7_spread_105 (fun σ15 h => ?_)
      refine gq_aload_n (j := 0) C dX7_spread_108 rfl ?_
      refine gq_iload_n (j := 1) C dX7_spread_109 rfl ?_
      refine gq_iload_n (j := 2) C dX7_spread_110 rfl ?_
      refine gq_iload (j := 5) C dX7_spread_111 rfl ?_
      refine gq_iconst (v := 1) C dX7_spread_113 (by decide) ?_
      refine gq_vv (i := 0) C gms_0 rfl [.int x1, .int x2, .int v13, .int 1] (mq_X7_goFrom C.2.2.1 x1 x2 v13 1 σ15 _ h) gX7_spread_X7_goFrom rfl rfl dq_X7_goFrom ⟨rfl, rfl, by decide, by decide⟩ rfl rfl (Nat.le_of_ble_eq_true rfl) dX7_spread_114 (fun σ17 h => ?_)
      refine gq_iload_n (j := 3) C dX7_spread_117 rfl ?_
      refine gq_if_eq (tgt := 153) C dX7_spread_118 (by decide) (fun c18 => ?_) (fun c18 => ?_)
      · have h := h.1 c18
        refine gq_sub [0, 1, 2, 3, 4] rfl ?_
        exact tq_X7_spread_b153 C (ih) _ _ _ _ _ h
      · have h := h.2 c18
        refine gq_aload_n (j := 0) C dX7_spread_121 rfl ?_
        refine gq_iload (j := 5) C dX7_spread_122 rfl ?_
        refine gq_bipush (v := 110) C dX7_spread_124 (by decide) ?_
        refine gq_idiv C dX7_spread_126 (by decide) ?_
        refine gq_aload_n (j := 0) C dX7_spread_127 rfl ?_
        refine gq_iload_n (j := 2) C dX7_spread_128 rfl ?_
        refine gq_iload (j := 5) C dX7_spread_129 rfl ?_
        refine gq_bipush (v := 11) C dX7_spread_131 (by decide) ?_
        refine gq_idiv C dX7_spread_133 (by decide) ?_
        refine gq_bipush (v := 10) C dX7_spread_134 (by decide) ?_
        refine gq_irem C dX7_spread_136 (by decide) ?_
        refine gq_vi (i := 0) C gms_0 rfl [.int x2, .int ((v13 / 11) - (v13 / 11) / 10 * 10)] (mq_X7_rested C.2.2.1 x2 ((v13 / 11) - (v13 / 11) / 10 * 10) σ17 _ h) gX7_spread_X7_rested rfl rfl dq_X7_rested ⟨rfl, rfl, by decide, by decide⟩ rfl rfl (Nat.le_of_ble_eq_true rfl) dX7_spread_137 (fun r20 σ21 h => ?_)
        refine gq_iconst (v := 0) C dX7_spread_140 (by decide) ?_
        refine gq_aload_n (j := 0) C dX7_spread_141 rfl ?_
        refine gq_get (v := .ref (ad 10)) (i := 0) C gms_0 rfl iq_X7_spread_X7 19 (by decide) fq_X7_spread_37 rfl dX7_spread_142 ?_
        refine gq_iload (j := 5) C dX7_spread_145 rfl ?_
        refine gq_iald (i := 10) (j := v13.toNatClampNeg) C gms_10 0 rfl rfl h.1 dX7_spread_147 ?_
        have h := h.2
        refine gq_iconst (v := 1) C dX7_spread_148 (by decide) ?_
        refine gq_iadd C dX7_spread_149 ?_
        refine gq_vv (i := 0) C gms_0 rfl [.int (v13 / 110), .int r20, .int 0, .int ((σ21.1 10 v13.toNatClampNeg) + 1)] (mq_X7_meetState C.2.2.1 (v13 / 110) r20 0 ((σ21.1 10 v13.toNatClampNeg) + 1) σ21 _ h) gX7_spread_X7_meetState rfl rfl dq_X7_meetState ⟨rfl, rfl, by decide, by decide⟩ rfl rfl (Nat.le_of_ble_eq_true rfl) dX7_spread_150 (fun σ23 h => ?_)
        refine gq_sub [0, 1, 2, 3, 4] rfl ?_
        exact tq_X7_spread_b153 C (ih) _ _ _ _ _ h
def wq_X7_spread (a1 : Int32) (a2 : Int32) (a3 : Int32) (a4 : Int32) (σ : gq_M) (Q : gq_M → Prop) : Prop := ∀ v1, v1 = (14 * a1) → (∃ n26, wq_X7_spread_l9 Q (fun e4 e5 e6 e7 e8 σ9 => vp_in (e8 + e5) 28 ∧ vp_in ((e8 + 5) + e5) 28 ∧ vp_in (e8 + 11) 28 ∧ wq_X7_meetState ((gq_put (gq_put σ9 0 21 0) 0 22 e7).1 5 ((e8 + e5)).toNatClampNeg) ((gq_put (gq_put σ9 0 21 0) 0 22 e7).1 5 (((e8 + 5) + e5)).toNatClampNeg) ((gq_put (gq_put σ9 0 21 0) 0 22 e7).1 5 ((e8 + 11)).toNatClampNeg) 0 (gq_put (gq_put σ9 0 21 0) 0 22 e7) (fun σ11 => (∃ n25, wq_X7_spread_l81 Q (fun σ24 => Q σ24) n25 e4 e5 e6 0 σ11))) n26 a1 a2 a3 a4 v1 0 σ)
set_option maxRecDepth 100000 in
set_option maxHeartbeats 4000000 in
theorem tq_X7_spread {p : Program} {l : Launch} {e : Env} {s : State} {m : MethodId} {args : Array Value} {below : List Frame} {meth : Method} {c : Code} {D : va_G} {cyI cyZ : ClassId} {ad : Nat → Nat} {Q : gq_M → Prop} (C : gq_C p s m args meth c cX7_spread 8 RX7 wsX7_spread D (gm_T cyI cyZ) 17 ad none) (a1 : Int32) (a2 : Int32) (a3 : Int32) (a4 : Int32) (σ : gq_M) (h : wq_X7_spread a1 a2 a3 a4 σ Q) : gq_G p l e rq_X7_spread s m args below meth c (gq_Rv below args s D (gm_T cyI cyZ) 17 ad (gm_S cyI cyZ ad) Q) D 17 ad (gm_S cyI cyZ ad) 8 σ 0 [(0, .ref (ad 0)), (1, .int a1), (2, .int a2), (3, .int a3), (4, .int a4)] [] := by
  unfold wq_X7_spread at h
  refine gq_bipush (v := 14) C dX7_spread_0 (by decide) ?_
  refine gq_iload_n (j := 1) C dX7_spread_2 rfl ?_
  refine gq_imul C dX7_spread_3 ?_
  refine gq_topi (fun v1 qv1 => ?_)
  have h := h v1 qv1
  refine gq_istore (L' := [(0, .ref (ad 0)), (1, .int a1), (2, .int a2), (3, .int a3), (4, .int a4), (5, .int v1)]) C [1, 2, 3, 4, 5, 0] dX7_spread_4 (by decide) rfl ?_
  refine gq_iconst (v := 0) C dX7_spread_6 (by decide) ?_
  refine gq_istore (L' := [(0, .ref (ad 0)), (1, .int a1), (2, .int a2), (3, .int a3), (4, .int a4), (5, .int v1), (6, .int 0)]) C [1, 2, 3, 4, 5, 6, 0] dX7_spread_7 (by decide) rfl ?_
  obtain ⟨n26, h⟩ := h
  refine tq_X7_spread_l9 C (fun e4 e5 e6 e7 e8 σ9 h => ?_) n26 _ _ _ _ _ _ _ h
  refine gq_aload_n (j := 0) C dX7_spread_32 rfl ?_
  refine gq_iconst (v := 0) C dX7_spread_33 (by decide) ?_
  refine gq_puti (i := 0) C gms_0 rfl iq_X7_spread_X7 tyX7 tyX7_ok nmX7 21 (by decide) fq_X7_spread_161 rfl rfl rfl (fun _ _ => Nat.le_of_ble_eq_true rfl) gs_X7_21 dX7_spread_34 ?_
  refine gq_aload_n (j := 0) C dX7_spread_37 rfl ?_
  refine gq_iload (j := 4) C dX7_spread_38 rfl ?_
  refine gq_puti (i := 0) C gms_0 rfl iq_X7_spread_X7 tyX7 tyX7_ok nmX7 22 (by decide) fq_X7_spread_164 rfl rfl rfl (fun _ _ => Nat.le_of_ble_eq_true rfl) gs_X7_22 dX7_spread_40 ?_
  refine gq_aload_n (j := 0) C dX7_spread_43 rfl ?_
  refine gq_aload_n (j := 0) C dX7_spread_44 rfl ?_
  refine gq_get (v := .ref (ad 5)) (i := 0) C gms_0 rfl iq_X7_spread_X7 6 (by decide) fq_X7_spread_22 rfl dX7_spread_45 ?_
  refine gq_iload (j := 5) C dX7_spread_48 rfl ?_
  refine gq_iload_n (j := 2) C dX7_spread_50 rfl ?_
  refine gq_iadd C dX7_spread_51 ?_
  refine gq_iald (i := 5) (j := ((e8 + e5)).toNatClampNeg) C gms_5 0 rfl rfl h.1 dX7_spread_52 ?_
  have h := h.2
  refine gq_aload_n (j := 0) C dX7_spread_53 rfl ?_
  refine gq_get (v := .ref (ad 5)) (i := 0) C gms_0 rfl iq_X7_spread_X7 6 (by decide) fq_X7_spread_22 rfl dX7_spread_54 ?_
  refine gq_iload (j := 5) C dX7_spread_57 rfl ?_
  refine gq_iconst (v := 5) C dX7_spread_59 (by decide) ?_
  refine gq_iadd C dX7_spread_60 ?_
  refine gq_iload_n (j := 2) C dX7_spread_61 rfl ?_
  refine gq_iadd C dX7_spread_62 ?_
  refine gq_iald (i := 5) (j := (((e8 + 5) + e5)).toNatClampNeg) C gms_5 0 rfl rfl h.1 dX7_spread_63 ?_
  have h := h.2
  refine gq_aload_n (j := 0) C dX7_spread_64 rfl ?_
  refine gq_get (v := .ref (ad 5)) (i := 0) C gms_0 rfl iq_X7_spread_X7 6 (by decide) fq_X7_spread_22 rfl dX7_spread_65 ?_
  refine gq_iload (j := 5) C dX7_spread_68 rfl ?_
  refine gq_bipush (v := 11) C dX7_spread_70 (by decide) ?_
  refine gq_iadd C dX7_spread_72 ?_
  refine gq_iald (i := 5) (j := ((e8 + 11)).toNatClampNeg) C gms_5 0 rfl rfl h.1 dX7_spread_73 ?_
  have h := h.2
  refine gq_iconst (v := 0) C dX7_spread_74 (by decide) ?_
  refine gq_vv (i := 0) C gms_0 rfl [.int ((gq_put (gq_put σ9 0 21 0) 0 22 e7).1 5 ((e8 + e5)).toNatClampNeg), .int ((gq_put (gq_put σ9 0 21 0) 0 22 e7).1 5 (((e8 + 5) + e5)).toNatClampNeg), .int ((gq_put (gq_put σ9 0 21 0) 0 22 e7).1 5 ((e8 + 11)).toNatClampNeg), .int 0] (mq_X7_meetState C.2.2.1 ((gq_put (gq_put σ9 0 21 0) 0 22 e7).1 5 ((e8 + e5)).toNatClampNeg) ((gq_put (gq_put σ9 0 21 0) 0 22 e7).1 5 (((e8 + 5) + e5)).toNatClampNeg) ((gq_put (gq_put σ9 0 21 0) 0 22 e7).1 5 ((e8 + 11)).toNatClampNeg) 0 (gq_put (gq_put σ9 0 21 0) 0 22 e7) _ h) gX7_spread_X7_meetState rfl rfl dq_X7_meetState ⟨rfl, rfl, by decide, by decide⟩ rfl rfl (Nat.le_of_ble_eq_true rfl) dX7_spread_75 (fun σ11 h => ?_)
  refine gq_iconst (v := 0) C dX7_spread_78 (by decide) ?_
  refine gq_istore (L' := [(0, .ref (ad 0)), (1, .int e4), (2, .int e5), (3, .int e6), (4, .int e7), (5, .int e8), (6, .int 0)]) C [1, 2, 3, 4, 5, 6, 0] dX7_spread_79 (by decide) rfl ?_
  obtain ⟨n25, h⟩ := h
  refine gq_sub [0, 1, 2, 3, 6] rfl ?_
  refine tq_X7_spread_l81 C (fun σ24 h => ?_) n25 _ _ _ _ _ h
  exact gq_vret C h dX7_spread_159
theorem mq_X7_spread {l : Launch} {D : va_G} {cyI cyZ : ClassId} {ad : Nat → Nat} (hap : gq_ap 17 ad) (a1 : Int32) (a2 : Int32) (a3 : Int32) (a4 : Int32) (σ : gq_M) (Q : gq_M → Prop) (h : wq_X7_spread a1 a2 a3 a4 σ Q) : Met l yX7_spread wsX7_spread rq_X7_spread (va_Pc [.ref (ad 0), .int a1, .int a2, .int a3, .int a4] (gq_P D (gm_T cyI cyZ) 17 ad (gm_S cyI cyZ ad) σ)) (va_Qv Q (gq_P D (gm_T cyI cyZ) 17 ad (gm_S cyI cyZ ad)) (gq_A 17 ad)) 0 0 (gq_A 17 ad) :=
  gq_met hap (by decide) rfl rfl (Nat.le_of_ble_eq_true rfl) (fun _ _ _ _ _ _ _ C => tq_X7_spread C a1 a2 a3 a4 σ h)
abbrev rq_X7_reachOn : Room := { frames := 5, cells := 0, slots := 0, locals := 124 }
theorem dq_X7_reachOn : gq_dsc yX7_reachOn 3 := by unfold gq_dsc; decide +kernel
theorem iq_X7_reachOn_X7 : ∀ w ∈ u_ws RX7 TX7 30, w ∈ wsX7_reachOn := by decide +kernel
theorem fq_X7_reachOn_161 : Cond.fieldLink RX7 161 (TX7 21).1 (TX7 21).2.1 (TX7 21).2.2.1 ∈ wsX7_reachOn := by decide +kernel
theorem fq_X7_reachOn_40 : Cond.fieldLink RX7 40 (TX7 20).1 (TX7 20).2.1 (TX7 20).2.2.1 ∈ wsX7_reachOn := by decide +kernel
def wq_X7_reachOn_l14 (Q : Int32 → gq_M → Prop) (K46 : Int32 → gq_M → Prop) : Nat → Int32 → Int32 → gq_M → Prop
  | 0, _, _, _ => False
  | n + 1, x4, x5, σ => (((σ.1 0 21) ≤ x5 → K46 x4 σ) ∧ (¬ (σ.1 0 21) ≤ x5 → vp_in x5 1210 ∧ ∀ v4, v4 = (x4 ||| ((1 : Int32) <<< (((σ.1 11 x5.toNatClampNeg) / 110) &&& 31))) → ∀ v5, v5 = (x5 + 1) → wq_X7_reachOn_l14 Q K46 n v4 v5 σ))
set_option maxRecDepth 100000 in
set_option maxHeartbeats 4000000 in
theorem tq_X7_reachOn_l14 {p : Program} {l : Launch} {e : Env} {s : State} {m : MethodId} {args : Array Value} {below : List Frame} {meth : Method} {c : Code} {D : va_G} {cyI cyZ : ClassId} {ad : Nat → Nat} {Q : Int32 → gq_M → Prop} {K46 : Int32 → gq_M → Prop} (C : gq_C p s m args meth c cX7_reachOn 6 RX7 wsX7_reachOn D (gm_T cyI cyZ) 17 ad (some .int)) (hK46 : ∀ (y4 : Int32) (τ : gq_M), K46 y4 τ → gq_G p l e rq_X7_reachOn s m args below meth c (gq_Ri below args s D (gm_T cyI cyZ) 17 ad (gm_S cyI cyZ ad) Q) D 17 ad (gm_S cyI cyZ ad) 6 τ 46 [(0, .ref (ad 0)), (4, .int y4)] []) : ∀ (n : Nat) (x4 : Int32) (x5 : Int32) (σ : gq_M), wq_X7_reachOn_l14 Q K46 n x4 x5 σ → gq_G p l e rq_X7_reachOn s m args below meth c (gq_Ri below args s D (gm_T cyI cyZ) 17 ad (gm_S cyI cyZ ad) Q) D 17 ad (gm_S cyI cyZ ad) 6 σ 14 [(0, .ref (ad 0)), (4, .int x4), (5, .int x5)] [] := by
  intro n
  induction n with
  | zero =>
    intro x4 x5 σ h
    exact absurd h (fun q => q)
  | succ n ih =>
    intro x4 x5 σ h
    unfold wq_X7_reachOn_l14 at h
    refine gq_iload (j := 2) C dX7_reachOn_14 rfl ?_
    refine gq_aload_n (j := 0) C dX7_reachOn_16 rfl ?_
    refine gq_get (v := .int (σ.1 0 21)) (i := 0) C gms_0 rfl iq_X7_reachOn_X7 21 (by decide) fq_X7_reachOn_161 rfl dX7_reachOn_17 ?_
    refine gq_icmp_ge (tgt := 46) C dX7_reachOn_20 (by decide) (fun c3 => ?_) (fun c3 => ?_)
    · have h := h.1 c3
      refine gq_sub [0, 1] rfl ?_
      exact hK46 _ _ h
    · have h := h.2 c3
      refine gq_iload (j := 1) C dX7_reachOn_23 rfl ?_
      refine gq_iconst (v := 1) C dX7_reachOn_25 (by decide) ?_
      refine gq_aload_n (j := 0) C dX7_reachOn_26 rfl ?_
      refine gq_get (v := .ref (ad 11)) (i := 0) C gms_0 rfl iq_X7_reachOn_X7 20 (by decide) fq_X7_reachOn_40 rfl dX7_reachOn_27 ?_
      refine gq_iload (j := 2) C dX7_reachOn_30 rfl ?_
      refine gq_iald (i := 11) (j := x5.toNatClampNeg) C gms_11 0 rfl rfl h.1 dX7_reachOn_32 ?_
      have h := h.2
      refine gq_bipush (v := 110) C dX7_reachOn_33 (by decide) ?_
      refine gq_idiv C dX7_reachOn_35 (by decide) ?_
      refine gq_ishl C dX7_reachOn_36 ?_
      refine gq_ior C dX7_reachOn_37 ?_
      refine gq_topi (fun v4 qv4 => ?_)
      have h := h v4 qv4
      refine gq_istore (L' := [(0, .ref (ad 0)), (4, .int v4), (5, .int x5)]) C [1, 0, 2] dX7_reachOn_38 (by decide) rfl ?_
      obtain ⟨v5, qv5⟩ : ∃ y : Int32, y = (x5 + 1) := ⟨_, rfl⟩
      have h := h v5 qv5
      refine gq_iinc (j := 2) (v := v5) (L' := [(0, .ref (ad 0)), (4, .int v4), (5, .int v5)]) C [1, 2, 0] dX7_reachOn_40 rfl (by rw [qv5]; rfl) (by decide) rfl ?_
      refine gq_goto (tgt := 14) C dX7_reachOn_43 (by decide) ?_
      exact ih _ _ _ h
def wq_X7_reachOn (a1 : Int32) (a2 : Int32) (a3 : Int32) (σ : gq_M) (Q : Int32 → gq_M → Prop) : Prop := wq_X7_spread a1 a2 0 a3 σ (fun σ2 => (∃ n8, wq_X7_reachOn_l14 Q (fun e6 σ7 => Q e6 σ7) n8 0 0 σ2))
set_option maxRecDepth 100000 in
set_option maxHeartbeats 4000000 in
theorem tq_X7_reachOn {p : Program} {l : Launch} {e : Env} {s : State} {m : MethodId} {args : Array Value} {below : List Frame} {meth : Method} {c : Code} {D : va_G} {cyI cyZ : ClassId} {ad : Nat → Nat} {Q : Int32 → gq_M → Prop} (C : gq_C p s m args meth c cX7_reachOn 6 RX7 wsX7_reachOn D (gm_T cyI cyZ) 17 ad (some .int)) (a1 : Int32) (a2 : Int32) (a3 : Int32) (σ : gq_M) (h : wq_X7_reachOn a1 a2 a3 σ Q) : gq_G p l e rq_X7_reachOn s m args below meth c (gq_Ri below args s D (gm_T cyI cyZ) 17 ad (gm_S cyI cyZ ad) Q) D 17 ad (gm_S cyI cyZ ad) 6 σ 0 [(0, .ref (ad 0)), (1, .int a1), (2, .int a2), (3, .int a3)] [] := by
  unfold wq_X7_reachOn at h
  refine gq_aload_n (j := 0) C dX7_reachOn_0 rfl ?_
  refine gq_iload_n (j := 1) C dX7_reachOn_1 rfl ?_
  refine gq_iload_n (j := 2) C dX7_reachOn_2 rfl ?_
  refine gq_iconst (v := 0) C dX7_reachOn_3 (by decide) ?_
  refine gq_iload_n (j := 3) C dX7_reachOn_4 rfl ?_
  refine gq_vv (i := 0) C gms_0 rfl [.int a1, .int a2, .int 0, .int a3] (mq_X7_spread C.2.2.1 a1 a2 0 a3 σ _ h) gX7_reachOn_X7_spread rfl rfl dq_X7_spread ⟨rfl, rfl, by decide, by decide⟩ rfl rfl (Nat.le_of_ble_eq_true rfl) dX7_reachOn_5 (fun σ2 h => ?_)
  refine gq_iconst (v := 0) C dX7_reachOn_8 (by decide) ?_
  refine gq_istore (L' := [(0, .ref (ad 0)), (1, .int a1), (2, .int a2), (3, .int a3), (4, .int 0)]) C [1, 2, 3, 4, 0] dX7_reachOn_9 (by decide) rfl ?_
  refine gq_iconst (v := 0) C dX7_reachOn_11 (by decide) ?_
  refine gq_istore (L' := [(0, .ref (ad 0)), (1, .int a1), (2, .int a2), (3, .int a3), (4, .int 0), (5, .int 0)]) C [1, 2, 3, 4, 5, 0] dX7_reachOn_12 (by decide) rfl ?_
  obtain ⟨n8, h⟩ := h
  refine gq_sub [0, 4, 5] rfl ?_
  refine tq_X7_reachOn_l14 C (fun e6 σ7 h => ?_) n8 _ _ _ h
  refine gq_iload (j := 1) C dX7_reachOn_46 rfl ?_
  exact gq_iret C h dX7_reachOn_48
theorem mq_X7_reachOn {l : Launch} {D : va_G} {cyI cyZ : ClassId} {ad : Nat → Nat} (hap : gq_ap 17 ad) (a1 : Int32) (a2 : Int32) (a3 : Int32) (σ : gq_M) (Q : Int32 → gq_M → Prop) (h : wq_X7_reachOn a1 a2 a3 σ Q) : Met l yX7_reachOn wsX7_reachOn rq_X7_reachOn (va_Pc [.ref (ad 0), .int a1, .int a2, .int a3] (gq_P D (gm_T cyI cyZ) 17 ad (gm_S cyI cyZ ad) σ)) (va_Qi Q (gq_P D (gm_T cyI cyZ) 17 ad (gm_S cyI cyZ ad)) (gq_A 17 ad)) 0 0 (gq_A 17 ad) :=
  gq_met hap (by decide) rfl rfl (Nat.le_of_ble_eq_true rfl) (fun _ _ _ _ _ _ _ C => tq_X7_reachOn C a1 a2 a3 σ h)
abbrev rq_X7_reachNow : Room := { frames := 6, cells := 0, slots := 0, locals := 149 }
theorem dq_X7_reachNow : gq_dsc yX7_reachNow 1 := by unfold gq_dsc; decide +kernel
theorem iq_X7_reachNow_X7 : ∀ w ∈ u_ws RX7 TX7 30, w ∈ wsX7_reachNow := by decide +kernel
theorem fq_X7_reachNow_22 : Cond.fieldLink RX7 22 (TX7 6).1 (TX7 6).2.1 (TX7 6).2.2.1 ∈ wsX7_reachNow := by decide +kernel
def wq_X7_reachNow (a1 : Int32) (σ : gq_M) (Q : Int32 → gq_M → Prop) : Prop := wq_X7_reachOn 0 a1 (σ.1 5 10) σ (fun r1 σ2 => Q r1 σ2)
set_option maxRecDepth 100000 in
set_option maxHeartbeats 4000000 in
theorem tq_X7_reachNow {p : Program} {l : Launch} {e : Env} {s : State} {m : MethodId} {args : Array Value} {below : List Frame} {meth : Method} {c : Code} {D : va_G} {cyI cyZ : ClassId} {ad : Nat → Nat} {Q : Int32 → gq_M → Prop} (C : gq_C p s m args meth c cX7_reachNow 2 RX7 wsX7_reachNow D (gm_T cyI cyZ) 17 ad (some .int)) (a1 : Int32) (σ : gq_M) (h : wq_X7_reachNow a1 σ Q) : gq_G p l e rq_X7_reachNow s m args below meth c (gq_Ri below args s D (gm_T cyI cyZ) 17 ad (gm_S cyI cyZ ad) Q) D 17 ad (gm_S cyI cyZ ad) 2 σ 0 [(0, .ref (ad 0)), (1, .int a1)] [] := by
  unfold wq_X7_reachNow at h
  refine gq_aload_n (j := 0) C dX7_reachNow_0 rfl ?_
  refine gq_iconst (v := 0) C dX7_reachNow_1 (by decide) ?_
  refine gq_iload_n (j := 1) C dX7_reachNow_2 rfl ?_
  refine gq_aload_n (j := 0) C dX7_reachNow_3 rfl ?_
  refine gq_get (v := .ref (ad 5)) (i := 0) C gms_0 rfl iq_X7_reachNow_X7 6 (by decide) fq_X7_reachNow_22 rfl dX7_reachNow_4 ?_
  refine gq_bipush (v := 10) C dX7_reachNow_7 (by decide) ?_
  refine gq_iald (i := 5) (j := 10) C gms_5 0 rfl (by decide) (vp_in_iff.mpr ⟨by decide, by decide⟩) dX7_reachNow_9 ?_
  refine gq_vi (i := 0) C gms_0 rfl [.int 0, .int a1, .int (σ.1 5 10)] (mq_X7_reachOn C.2.2.1 0 a1 (σ.1 5 10) σ _ h) gX7_reachNow_X7_reachOn rfl rfl dq_X7_reachOn ⟨rfl, rfl, by decide, by decide⟩ rfl rfl (Nat.le_of_ble_eq_true rfl) dX7_reachNow_10 (fun r1 σ2 h => ?_)
  exact gq_iret C h dX7_reachNow_13
theorem mq_X7_reachNow {l : Launch} {D : va_G} {cyI cyZ : ClassId} {ad : Nat → Nat} (hap : gq_ap 17 ad) (a1 : Int32) (σ : gq_M) (Q : Int32 → gq_M → Prop) (h : wq_X7_reachNow a1 σ Q) : Met l yX7_reachNow wsX7_reachNow rq_X7_reachNow (va_Pc [.ref (ad 0), .int a1] (gq_P D (gm_T cyI cyZ) 17 ad (gm_S cyI cyZ ad) σ)) (va_Qi Q (gq_P D (gm_T cyI cyZ) 17 ad (gm_S cyI cyZ ad)) (gq_A 17 ad)) 0 0 (gq_A 17 ad) :=
  gq_met hap (by decide) rfl rfl (Nat.le_of_ble_eq_true rfl) (fun _ _ _ _ _ _ _ C => tq_X7_reachNow C a1 σ h)
abbrev rq_X7_reach : Room := { frames := 7, cells := 0, slots := 0, locals := 170 }
theorem dq_X7_reach : gq_dsc yX7_reach 1 := by unfold gq_dsc; decide +kernel
def wq_X7_reach (a1 : Int32) (σ : gq_M) (Q : Int32 → gq_M → Prop) : Prop := wq_X7_isTraveller a1 σ (fun r1 σ2 => ((r1 = 0 → Q (-1) σ2) ∧ (¬ r1 = 0 → wq_X7_reachNow a1 σ2 (fun r4 σ5 => Q r4 σ5))))
set_option maxRecDepth 100000 in
set_option maxHeartbeats 4000000 in
theorem tq_X7_reach {p : Program} {l : Launch} {e : Env} {s : State} {m : MethodId} {args : Array Value} {below : List Frame} {meth : Method} {c : Code} {D : va_G} {cyI cyZ : ClassId} {ad : Nat → Nat} {Q : Int32 → gq_M → Prop} (C : gq_C p s m args meth c cX7_reach 2 RX7 wsX7_reach D (gm_T cyI cyZ) 17 ad (some .int)) (a1 : Int32) (σ : gq_M) (h : wq_X7_reach a1 σ Q) : gq_G p l e rq_X7_reach s m args below meth c (gq_Ri below args s D (gm_T cyI cyZ) 17 ad (gm_S cyI cyZ ad) Q) D 17 ad (gm_S cyI cyZ ad) 2 σ 0 [(0, .ref (ad 0)), (1, .int a1)] [] := by
  unfold wq_X7_reach at h
  refine gq_aload_n (j := 0) C dX7_reach_0 rfl ?_
  refine gq_iload_n (j := 1) C dX7_reach_1 rfl ?_
  refine gq_vi (i := 0) C gms_0 rfl [.int a1] (mq_X7_isTraveller C.2.2.1 a1 σ _ h) gX7_reach_X7_isTraveller rfl rfl dq_X7_isTraveller ⟨rfl, rfl, by decide, by decide⟩ rfl rfl (Nat.le_of_ble_eq_true rfl) dX7_reach_2 (fun r1 σ2 h => ?_)
  refine gq_if_eq (tgt := 16) C dX7_reach_5 (by decide) (fun c3 => ?_) (fun c3 => ?_)
  · have h := h.1 c3
    refine gq_iconst (v := (-1)) C dX7_reach_16 (by decide) ?_
    exact gq_iret C h dX7_reach_17
  · have h := h.2 c3
    refine gq_aload_n (j := 0) C dX7_reach_8 rfl ?_
    refine gq_iload_n (j := 1) C dX7_reach_9 rfl ?_
    refine gq_vi (i := 0) C gms_0 rfl [.int a1] (mq_X7_reachNow C.2.2.1 a1 σ2 _ h) gX7_reach_X7_reachNow rfl rfl dq_X7_reachNow ⟨rfl, rfl, by decide, by decide⟩ rfl rfl (Nat.le_of_ble_eq_true rfl) dX7_reach_10 (fun r4 σ5 h => ?_)
    refine gq_goto (tgt := 17) C dX7_reach_13 (by decide) ?_
    exact gq_iret C h dX7_reach_17
theorem mq_X7_reach {l : Launch} {D : va_G} {cyI cyZ : ClassId} {ad : Nat → Nat} (hap : gq_ap 17 ad) (a1 : Int32) (σ : gq_M) (Q : Int32 → gq_M → Prop) (h : wq_X7_reach a1 σ Q) : Met l yX7_reach wsX7_reach rq_X7_reach (va_Pc [.ref (ad 0), .int a1] (gq_P D (gm_T cyI cyZ) 17 ad (gm_S cyI cyZ ad) σ)) (va_Qi Q (gq_P D (gm_T cyI cyZ) 17 ad (gm_S cyI cyZ ad)) (gq_A 17 ad)) 0 0 (gq_A 17 ad) :=
  gq_met hap (by decide) rfl rfl (Nat.le_of_ble_eq_true rfl) (fun _ _ _ _ _ _ _ C => tq_X7_reach C a1 σ h)
abbrev rq_X7_fewest : Room := { frames := 5, cells := 0, slots := 0, locals := 124 }
theorem dq_X7_fewest : gq_dsc yX7_fewest 2 := by unfold gq_dsc; decide +kernel
theorem iq_X7_fewest_X7 : ∀ w ∈ u_ws RX7 TX7 30, w ∈ wsX7_fewest := by decide +kernel
theorem fq_X7_fewest_22 : Cond.fieldLink RX7 22 (TX7 6).1 (TX7 6).2.1 (TX7 6).2.2.1 ∈ wsX7_fewest := by decide +kernel
theorem fq_X7_fewest_161 : Cond.fieldLink RX7 161 (TX7 21).1 (TX7 21).2.1 (TX7 21).2.2.1 ∈ wsX7_fewest := by decide +kernel
theorem fq_X7_fewest_40 : Cond.fieldLink RX7 40 (TX7 20).1 (TX7 20).2.1 (TX7 20).2.2.1 ∈ wsX7_fewest := by decide +kernel
theorem fq_X7_fewest_37 : Cond.fieldLink RX7 37 (TX7 19).1 (TX7 19).2.1 (TX7 19).2.2.1 ∈ wsX7_fewest := by decide +kernel
def wq_X7_fewest_l34 (Q : Int32 → gq_M → Prop) (K94 : gq_M → Prop) : Nat → Int32 → Int32 → gq_M → Prop
  | 0, _, _, _ => False
  | n + 1, x2, x3, σ => (((σ.1 0 21) ≤ x3 → K94 σ) ∧ (¬ (σ.1 0 21) ≤ x3 → vp_in x3 1210 ∧ ((¬ ((σ.1 11 x3.toNatClampNeg) / 110) = x2 → ∀ v11, v11 = (x3 + 1) → wq_X7_fewest_l34 Q K94 n x2 v11 σ) ∧ (((σ.1 11 x3.toNatClampNeg) / 110) = x2 → vp_in x3 1210 ∧ vp_in (σ.1 11 x3.toNatClampNeg) 1210 ∧ (((σ.1 10 ((σ.1 11 x3.toNatClampNeg)).toNatClampNeg) ≤ 30 → vp_in x3 1210 ∧ vp_in (σ.1 11 x3.toNatClampNeg) 1210 ∧ Q (σ.1 10 ((σ.1 11 x3.toNatClampNeg)).toNatClampNeg) σ) ∧ (¬ (σ.1 10 ((σ.1 11 x3.toNatClampNeg)).toNatClampNeg) ≤ 30 → Q (-9) σ))))))
set_option maxRecDepth 100000 in
set_option maxHeartbeats 4000000 in
theorem tq_X7_fewest_l34 {p : Program} {l : Launch} {e : Env} {s : State} {m : MethodId} {args : Array Value} {below : List Frame} {meth : Method} {c : Code} {D : va_G} {cyI cyZ : ClassId} {ad : Nat → Nat} {Q : Int32 → gq_M → Prop} {K94 : gq_M → Prop} (C : gq_C p s m args meth c cX7_fewest 4 RX7 wsX7_fewest D (gm_T cyI cyZ) 17 ad (some .int)) (hK94 : ∀ (τ : gq_M), K94 τ → gq_G p l e rq_X7_fewest s m args below meth c (gq_Ri below args s D (gm_T cyI cyZ) 17 ad (gm_S cyI cyZ ad) Q) D 17 ad (gm_S cyI cyZ ad) 4 τ 94 [(0, .ref (ad 0))] []) : ∀ (n : Nat) (x2 : Int32) (x3 : Int32) (σ : gq_M), wq_X7_fewest_l34 Q K94 n x2 x3 σ → gq_G p l e rq_X7_fewest s m args below meth c (gq_Ri below args s D (gm_T cyI cyZ) 17 ad (gm_S cyI cyZ ad) Q) D 17 ad (gm_S cyI cyZ ad) 4 σ 34 [(0, .ref (ad 0)), (2, .int x2), (3, .int x3)] [] := by
  intro n
  induction n with
  | zero =>
    intro x2 x3 σ h
    exact absurd h (fun q => q)
  | succ n ih =>
    intro x2 x3 σ h
    unfold wq_X7_fewest_l34 at h
    refine gq_iload_n (j := 2) C dX7_fewest_34 rfl ?_
    refine gq_aload_n (j := 0) C dX7_fewest_35 rfl ?_
    refine gq_get (v := .int (σ.1 0 21)) (i := 0) C gms_0 rfl iq_X7_fewest_X7 21 (by decide) fq_X7_fewest_161 rfl dX7_fewest_36 ?_
    refine gq_icmp_ge (tgt := 94) C dX7_fewest_39 (by decide) (fun c9 => ?_) (fun c9 => ?_)
    · have h := h.1 c9
      refine gq_sub [0] rfl ?_
      exact hK94  _ h
    · have h := h.2 c9
      refine gq_aload_n (j := 0) C dX7_fewest_42 rfl ?_
      refine gq_get (v := .ref (ad 11)) (i := 0) C gms_0 rfl iq_X7_fewest_X7 20 (by decide) fq_X7_fewest_40 rfl dX7_fewest_43 ?_
      refine gq_iload_n (j := 2) C dX7_fewest_46 rfl ?_
      refine gq_iald (i := 11) (j := x3.toNatClampNeg) C gms_11 0 rfl rfl h.1 dX7_fewest_47 ?_
      have h := h.2
      refine gq_bipush (v := 110) C dX7_fewest_48 (by decide) ?_
      refine gq_idiv C dX7_fewest_50 (by decide) ?_
      refine gq_iload_n (j := 1) C dX7_fewest_51 rfl ?_
      refine gq_icmp_ne (tgt := 88) C dX7_fewest_52 (by decide) (fun c10 => ?_) (fun c10 => ?_)
      · have h := h.1 c10
        obtain ⟨v11, qv11⟩ : ∃ y : Int32, y = (x3 + 1) := ⟨_, rfl⟩
        have h := h v11 qv11
        refine gq_iinc (j := 2) (v := v11) (L' := [(0, .ref (ad 0)), (2, .int x2), (3, .int v11)]) C [1, 2, 0] dX7_fewest_88 rfl (by rw [qv11]; rfl) (by decide) rfl ?_
        refine gq_goto (tgt := 34) C dX7_fewest_91 (by decide) ?_
        exact ih _ _ _ h
      · have h := h.2 c10
        refine gq_aload_n (j := 0) C dX7_fewest_55 rfl ?_
        refine gq_get (v := .ref (ad 10)) (i := 0) C gms_0 rfl iq_X7_fewest_X7 19 (by decide) fq_X7_fewest_37 rfl dX7_fewest_56 ?_
        refine gq_aload_n (j := 0) C dX7_fewest_59 rfl ?_
        refine gq_get (v := .ref (ad 11)) (i := 0) C gms_0 rfl iq_X7_fewest_X7 20 (by decide) fq_X7_fewest_40 rfl dX7_fewest_60 ?_
        refine gq_iload_n (j := 2) C dX7_fewest_63 rfl ?_
        refine gq_iald (i := 11) (j := x3.toNatClampNeg) C gms_11 0 rfl rfl h.1 dX7_fewest_64 ?_
        have h := h.2
        refine gq_iald (i := 10) (j := ((σ.1 11 x3.toNatClampNeg)).toNatClampNeg) C gms_10 0 rfl rfl h.1 dX7_fewest_65 ?_
        have h := h.2
        refine gq_bipush (v := 30) C dX7_fewest_66 (by decide) ?_
        refine gq_icmp_le (tgt := 76) C dX7_fewest_68 (by decide) (fun c12 => ?_) (fun c12 => ?_)
        · have h := h.1 c12
          refine gq_aload_n (j := 0) C dX7_fewest_76 rfl ?_
          refine gq_get (v := .ref (ad 10)) (i := 0) C gms_0 rfl iq_X7_fewest_X7 19 (by decide) fq_X7_fewest_37 rfl dX7_fewest_77 ?_
          refine gq_aload_n (j := 0) C dX7_fewest_80 rfl ?_
          refine gq_get (v := .ref (ad 11)) (i := 0) C gms_0 rfl iq_X7_fewest_X7 20 (by decide) fq_X7_fewest_40 rfl dX7_fewest_81 ?_
          refine gq_iload_n (j := 2) C dX7_fewest_84 rfl ?_
          refine gq_iald (i := 11) (j := x3.toNatClampNeg) C gms_11 0 rfl rfl h.1 dX7_fewest_85 ?_
          have h := h.2
          refine gq_iald (i := 10) (j := ((σ.1 11 x3.toNatClampNeg)).toNatClampNeg) C gms_10 0 rfl rfl h.1 dX7_fewest_86 ?_
          have h := h.2
          exact gq_iret C h dX7_fewest_87
        · have h := h.2 c12
          refine gq_bipush (v := (-9)) C dX7_fewest_71 (by decide) ?_
          refine gq_goto (tgt := 87) C dX7_fewest_73 (by decide) ?_
          exact gq_iret C h dX7_fewest_87
def wq_X7_fewest (a1 : Int32) (a2 : Int32) (σ : gq_M) (Q : Int32 → gq_M → Prop) : Prop := wq_X7_isTraveller a1 σ (fun r1 σ2 => ((r1 = 0 → Q (-1) σ2) ∧ (¬ r1 = 0 → wq_X7_isPlace a2 σ2 (fun r4 σ5 => ((¬ r4 = 0 → wq_X7_spread 0 a1 1 (σ5.1 5 10) σ5 (fun σ8 => (∃ n14, wq_X7_fewest_l34 Q (fun σ13 => Q (-9) σ13) n14 a2 0 σ8))) ∧ (r4 = 0 → Q (-1) σ5))))))
set_option maxRecDepth 100000 in
set_option maxHeartbeats 4000000 in
theorem tq_X7_fewest {p : Program} {l : Launch} {e : Env} {s : State} {m : MethodId} {args : Array Value} {below : List Frame} {meth : Method} {c : Code} {D : va_G} {cyI cyZ : ClassId} {ad : Nat → Nat} {Q : Int32 → gq_M → Prop} (C : gq_C p s m args meth c cX7_fewest 4 RX7 wsX7_fewest D (gm_T cyI cyZ) 17 ad (some .int)) (a1 : Int32) (a2 : Int32) (σ : gq_M) (h : wq_X7_fewest a1 a2 σ Q) : gq_G p l e rq_X7_fewest s m args below meth c (gq_Ri below args s D (gm_T cyI cyZ) 17 ad (gm_S cyI cyZ ad) Q) D 17 ad (gm_S cyI cyZ ad) 4 σ 0 [(0, .ref (ad 0)), (1, .int a1), (2, .int a2)] [] := by
  unfold wq_X7_fewest at h
  refine gq_aload_n (j := 0) C dX7_fewest_0 rfl ?_
  refine gq_iload_n (j := 1) C dX7_fewest_1 rfl ?_
  refine gq_vi (i := 0) C gms_0 rfl [.int a1] (mq_X7_isTraveller C.2.2.1 a1 σ _ h) gX7_fewest_X7_isTraveller rfl rfl dq_X7_isTraveller ⟨rfl, rfl, by decide, by decide⟩ rfl rfl (Nat.le_of_ble_eq_true rfl) dX7_fewest_2 (fun r1 σ2 h => ?_)
  refine gq_if_eq (tgt := 16) C dX7_fewest_5 (by decide) (fun c3 => ?_) (fun c3 => ?_)
  · have h := h.1 c3
    refine gq_iconst (v := (-1)) C dX7_fewest_16 (by decide) ?_
    exact gq_iret C h dX7_fewest_17
  · have h := h.2 c3
    refine gq_aload_n (j := 0) C dX7_fewest_8 rfl ?_
    refine gq_iload_n (j := 2) C dX7_fewest_9 rfl ?_
    refine gq_vi (i := 0) C gms_0 rfl [.int a2] (mq_X7_isPlace C.2.2.1 a2 σ2 _ h) gX7_fewest_X7_isPlace rfl rfl dq_X7_isPlace ⟨rfl, rfl, by decide, by decide⟩ rfl rfl (Nat.le_of_ble_eq_true rfl) dX7_fewest_10 (fun r4 σ5 h => ?_)
    refine gq_if_ne (tgt := 18) C dX7_fewest_13 (by decide) (fun c6 => ?_) (fun c6 => ?_)
    · have h := h.1 c6
      refine gq_aload_n (j := 0) C dX7_fewest_18 rfl ?_
      refine gq_iconst (v := 0) C dX7_fewest_19 (by decide) ?_
      refine gq_iload_n (j := 1) C dX7_fewest_20 rfl ?_
      refine gq_iconst (v := 1) C dX7_fewest_21 (by decide) ?_
      refine gq_aload_n (j := 0) C dX7_fewest_22 rfl ?_
      refine gq_get (v := .ref (ad 5)) (i := 0) C gms_0 rfl iq_X7_fewest_X7 6 (by decide) fq_X7_fewest_22 rfl dX7_fewest_23 ?_
      refine gq_bipush (v := 10) C dX7_fewest_26 (by decide) ?_
      refine gq_iald (i := 5) (j := 10) C gms_5 0 rfl (by decide) (vp_in_iff.mpr ⟨by decide, by decide⟩) dX7_fewest_28 ?_
      refine gq_vv (i := 0) C gms_0 rfl [.int 0, .int a1, .int 1, .int (σ5.1 5 10)] (mq_X7_spread C.2.2.1 0 a1 1 (σ5.1 5 10) σ5 _ h) gX7_fewest_X7_spread rfl rfl dq_X7_spread ⟨rfl, rfl, by decide, by decide⟩ rfl rfl (Nat.le_of_ble_eq_true rfl) dX7_fewest_29 (fun σ8 h => ?_)
      refine gq_iconst (v := 0) C dX7_fewest_32 (by decide) ?_
      refine gq_istore_n (L' := [(0, .ref (ad 0)), (1, .int a1), (2, .int a2), (3, .int 0)]) C [1, 2, 3, 0] dX7_fewest_33 (by decide) rfl ?_
      obtain ⟨n14, h⟩ := h
      refine gq_sub [0, 2, 3] rfl ?_
      refine tq_X7_fewest_l34 C (fun σ13 h => ?_) n14 _ _ _ h
      refine gq_bipush (v := (-9)) C dX7_fewest_94 (by decide) ?_
      exact gq_iret C h dX7_fewest_96
    · have h := h.2 c6
      refine gq_iconst (v := (-1)) C dX7_fewest_16 (by decide) ?_
      exact gq_iret C h dX7_fewest_17
theorem mq_X7_fewest {l : Launch} {D : va_G} {cyI cyZ : ClassId} {ad : Nat → Nat} (hap : gq_ap 17 ad) (a1 : Int32) (a2 : Int32) (σ : gq_M) (Q : Int32 → gq_M → Prop) (h : wq_X7_fewest a1 a2 σ Q) : Met l yX7_fewest wsX7_fewest rq_X7_fewest (va_Pc [.ref (ad 0), .int a1, .int a2] (gq_P D (gm_T cyI cyZ) 17 ad (gm_S cyI cyZ ad) σ)) (va_Qi Q (gq_P D (gm_T cyI cyZ) 17 ad (gm_S cyI cyZ ad)) (gq_A 17 ad)) 0 0 (gq_A 17 ad) :=
  gq_met hap (by decide) rfl rfl (Nat.le_of_ble_eq_true rfl) (fun _ _ _ _ _ _ _ C => tq_X7_fewest C a1 a2 σ h)
abbrev rq_X7_wants : Room := { frames := 6, cells := 0, slots := 0, locals := 149 }
theorem dq_X7_wants : gq_dsc yX7_wants 2 := by unfold gq_dsc; decide +kernel
theorem iq_X7_wants_X7 : ∀ w ∈ u_ws RX7 TX7 30, w ∈ wsX7_wants := by decide +kernel
theorem fq_X7_wants_93 : Cond.fieldLink RX7 93 (TX7 0).1 (TX7 0).2.1 (TX7 0).2.2.1 ∈ wsX7_wants := by decide +kernel
theorem fq_X7_wants_22 : Cond.fieldLink RX7 22 (TX7 6).1 (TX7 6).2.1 (TX7 6).2.2.1 ∈ wsX7_wants := by decide +kernel
def wq_X7_wants_b107 (Q : Int32 → gq_M → Prop) (K24 : Int32 → Int32 → Int32 → Int32 → gq_M → Prop) (x1 : Int32) (x2 : Int32) (x4 : Int32) (s0 : Int32) (σ : gq_M) : Prop := ∀ v10, v10 = (x4 + 1) → K24 x1 x2 s0 v10 σ
set_option maxRecDepth 100000 in
set_option maxHeartbeats 4000000 in
theorem tq_X7_wants_b107 {p : Program} {l : Launch} {e : Env} {s : State} {m : MethodId} {args : Array Value} {below : List Frame} {meth : Method} {c : Code} {D : va_G} {cyI cyZ : ClassId} {ad : Nat → Nat} {Q : Int32 → gq_M → Prop} {K24 : Int32 → Int32 → Int32 → Int32 → gq_M → Prop} (C : gq_C p s m args meth c cX7_wants 6 RX7 wsX7_wants D (gm_T cyI cyZ) 17 ad (some .int)) (hK24 : ∀ (y1 : Int32) (y2 : Int32) (y3 : Int32) (y4 : Int32) (τ : gq_M), K24 y1 y2 y3 y4 τ → gq_G p l e rq_X7_wants s m args below meth c (gq_Ri below args s D (gm_T cyI cyZ) 17 ad (gm_S cyI cyZ ad) Q) D 17 ad (gm_S cyI cyZ ad) 6 τ 24 [(0, .ref (ad 0)), (1, .int y1), (2, .int y2), (3, .int y3), (4, .int y4)] []) (x1 : Int32) (x2 : Int32) (x4 : Int32) (s0 : Int32) (σ : gq_M) (h : wq_X7_wants_b107 Q K24 x1 x2 x4 s0 σ) : gq_G p l e rq_X7_wants s m args below meth c (gq_Ri below args s D (gm_T cyI cyZ) 17 ad (gm_S cyI cyZ ad) Q) D 17 ad (gm_S cyI cyZ ad) 6 σ 107 [(0, .ref (ad 0)), (1, .int x1), (2, .int x2), (4, .int x4)] [.int s0] := by
  unfold wq_X7_wants_b107 at h
  refine gq_istore_n (L' := [(0, .ref (ad 0)), (1, .int x1), (2, .int x2), (3, .int s0), (4, .int x4)]) C [1, 2, 3, 0, 4] dX7_wants_107 (by decide) rfl ?_
  obtain ⟨v10, qv10⟩ : ∃ y : Int32, y = (x4 + 1) := ⟨_, rfl⟩
  have h := h v10 qv10
  refine gq_iinc (j := 4) (v := v10) (L' := [(0, .ref (ad 0)), (1, .int x1), (2, .int x2), (3, .int s0), (4, .int v10)]) C [1, 2, 3, 4, 0] dX7_wants_108 rfl (by rw [qv10]; rfl) (by decide) rfl ?_
  refine gq_goto (tgt := 24) C dX7_wants_111 (by decide) ?_
  exact hK24 _ _ _ _ _ h
def wq_X7_wants_b71 (Q : Int32 → gq_M → Prop) (K24 : Int32 → Int32 → Int32 → Int32 → gq_M → Prop) (x1 : Int32) (x2 : Int32) (x3 : Int32) (x4 : Int32) (s0 : Int32) (σ : gq_M) : Prop := ((s0 = 0 → wq_X7_wants_b107 Q (K24) x1 x2 x4 x3 σ) ∧ (¬ s0 = 0 → wq_X7_reachOn 0 x1 ((σ.1 5 10) ||| x4) σ (fun r11 σ12 => wq_X7_has r11 x2 σ12 (fun r13 σ14 => ((r13 = 0 → wq_X7_wants_b107 Q (K24) x1 x2 x4 x3 σ14) ∧ (¬ r13 = 0 → wq_X7_wants_b107 Q (K24) x1 x2 x4 x4 σ14))))))
set_option maxRecDepth 100000 in
set_option maxHeartbeats 4000000 in
theorem tq_X7_wants_b71 {p : Program} {l : Launch} {e : Env} {s : State} {m : MethodId} {args : Array Value} {below : List Frame} {meth : Method} {c : Code} {D : va_G} {cyI cyZ : ClassId} {ad : Nat → Nat} {Q : Int32 → gq_M → Prop} {K24 : Int32 → Int32 → Int32 → Int32 → gq_M → Prop} (C : gq_C p s m args meth c cX7_wants 6 RX7 wsX7_wants D (gm_T cyI cyZ) 17 ad (some .int)) (hK24 : ∀ (y1 : Int32) (y2 : Int32) (y3 : Int32) (y4 : Int32) (τ : gq_M), K24 y1 y2 y3 y4 τ → gq_G p l e rq_X7_wants s m args below meth c (gq_Ri below args s D (gm_T cyI cyZ) 17 ad (gm_S cyI cyZ ad) Q) D 17 ad (gm_S cyI cyZ ad) 6 τ 24 [(0, .ref (ad 0)), (1, .int y1), (2, .int y2), (3, .int y3), (4, .int y4)] []) (x1 : Int32) (x2 : Int32) (x3 : Int32) (x4 : Int32) (s0 : Int32) (σ : gq_M) (h : wq_X7_wants_b71 Q K24 x1 x2 x3 x4 s0 σ) : gq_G p l e rq_X7_wants s m args below meth c (gq_Ri below args s D (gm_T cyI cyZ) 17 ad (gm_S cyI cyZ ad) Q) D 17 ad (gm_S cyI cyZ ad) 6 σ 71 [(0, .ref (ad 0)), (1, .int x1), (2, .int x2), (3, .int x3), (4, .int x4)] [.int s0] := by
  unfold wq_X7_wants_b71 at h
  refine gq_istore (L' := [(0, .ref (ad 0)), (1, .int x1), (2, .int x2), (3, .int x3), (4, .int x4), (5, .int s0)]) C [1, 2, 3, 4, 5, 0] dX7_wants_71 (by decide) rfl ?_
  refine gq_iload (j := 5) C dX7_wants_73 rfl ?_
  refine gq_if_eq (tgt := 106) C dX7_wants_75 (by decide) (fun c9 => ?_) (fun c9 => ?_)
  · have h := h.1 c9
    refine gq_iload_n (j := 3) C dX7_wants_106 rfl ?_
    refine gq_sub [0, 1, 2, 4] rfl ?_
    exact tq_X7_wants_b107 C (hK24) _ _ _ _ _ h
  · have h := h.2 c9
    refine gq_aload_n (j := 0) C dX7_wants_78 rfl ?_
    refine gq_iconst (v := 0) C dX7_wants_79 (by decide) ?_
    refine gq_iload_n (j := 1) C dX7_wants_80 rfl ?_
    refine gq_aload_n (j := 0) C dX7_wants_81 rfl ?_
    refine gq_get (v := .ref (ad 5)) (i := 0) C gms_0 rfl iq_X7_wants_X7 6 (by decide) fq_X7_wants_22 rfl dX7_wants_82 ?_
    refine gq_bipush (v := 10) C dX7_wants_85 (by decide) ?_
    refine gq_iald (i := 5) (j := 10) C gms_5 0 rfl (by decide) (vp_in_iff.mpr ⟨by decide, by decide⟩) dX7_wants_87 ?_
    refine gq_iload (j := 4) C dX7_wants_88 rfl ?_
    refine gq_ior C dX7_wants_90 ?_
    refine gq_vi (i := 0) C gms_0 rfl [.int 0, .int x1, .int ((σ.1 5 10) ||| x4)] (mq_X7_reachOn C.2.2.1 0 x1 ((σ.1 5 10) ||| x4) σ _ h) gX7_wants_X7_reachOn rfl rfl dq_X7_reachOn ⟨rfl, rfl, by decide, by decide⟩ rfl rfl (Nat.le_of_ble_eq_true rfl) dX7_wants_91 (fun r11 σ12 h => ?_)
    refine gq_iload_n (j := 2) C dX7_wants_94 rfl ?_
    refine gq_si C [.int r11, .int x2] (mq_X7_has C.2.2.1 r11 x2 σ12 _ h) gX7_wants_X7_has rfl dq_X7_has ⟨rfl, rfl, by decide, by decide⟩ rfl rfl (Nat.le_of_ble_eq_true rfl) dX7_wants_95 (fun r13 σ14 h => ?_)
    refine gq_if_eq (tgt := 106) C dX7_wants_98 (by decide) (fun c15 => ?_) (fun c15 => ?_)
    · have h := h.1 c15
      refine gq_iload_n (j := 3) C dX7_wants_106 rfl ?_
      refine gq_sub [0, 1, 2, 4] rfl ?_
      exact tq_X7_wants_b107 C (hK24) _ _ _ _ _ h
    · have h := h.2 c15
      refine gq_iload (j := 4) C dX7_wants_101 rfl ?_
      refine gq_goto (tgt := 107) C dX7_wants_103 (by decide) ?_
      refine gq_sub [0, 1, 2, 4] rfl ?_
      exact tq_X7_wants_b107 C (hK24) _ _ _ _ _ h
def wq_X7_wants_l24 (Q : Int32 → gq_M → Prop) (K114 : Int32 → gq_M → Prop) : Nat → Int32 → Int32 → Int32 → Int32 → gq_M → Prop
  | 0, _, _, _, _, _ => False
  | n + 1, x1, x2, x3, x4, σ => ((((1 : Int32) <<< ((σ.1 0 0) &&& 31)) ≤ x4 → K114 x3 σ) ∧ (¬ ((1 : Int32) <<< ((σ.1 0 0) &&& 31)) ≤ x4 → ((¬ (x4 &&& (σ.1 5 10)) = 0 → wq_X7_wants_b71 Q (wq_X7_wants_l24 Q K114 n) x1 x2 x3 x4 0 σ) ∧ ((x4 &&& (σ.1 5 10)) = 0 → ((x3 = (-9) → wq_X7_wants_b71 Q (wq_X7_wants_l24 Q K114 n) x1 x2 x3 x4 1 σ) ∧ (¬ x3 = (-9) → wq_X7_ones x4 σ (fun r17 σ18 => wq_X7_ones x3 σ18 (fun r19 σ20 => ((r19 ≤ r17 → wq_X7_wants_b71 Q (wq_X7_wants_l24 Q K114 n) x1 x2 x3 x4 0 σ20) ∧ (¬ r19 ≤ r17 → wq_X7_wants_b71 Q (wq_X7_wants_l24 Q K114 n) x1 x2 x3 x4 1 σ20))))))))))
set_option maxRecDepth 100000 in
set_option maxHeartbeats 4000000 in
theorem tq_X7_wants_l24 {p : Program} {l : Launch} {e : Env} {s : State} {m : MethodId} {args : Array Value} {below : List Frame} {meth : Method} {c : Code} {D : va_G} {cyI cyZ : ClassId} {ad : Nat → Nat} {Q : Int32 → gq_M → Prop} {K114 : Int32 → gq_M → Prop} (C : gq_C p s m args meth c cX7_wants 6 RX7 wsX7_wants D (gm_T cyI cyZ) 17 ad (some .int)) (hK114 : ∀ (y3 : Int32) (τ : gq_M), K114 y3 τ → gq_G p l e rq_X7_wants s m args below meth c (gq_Ri below args s D (gm_T cyI cyZ) 17 ad (gm_S cyI cyZ ad) Q) D 17 ad (gm_S cyI cyZ ad) 6 τ 114 [(0, .ref (ad 0)), (3, .int y3)] []) : ∀ (n : Nat) (x1 : Int32) (x2 : Int32) (x3 : Int32) (x4 : Int32) (σ : gq_M), wq_X7_wants_l24 Q K114 n x1 x2 x3 x4 σ → gq_G p l e rq_X7_wants s m args below meth c (gq_Ri below args s D (gm_T cyI cyZ) 17 ad (gm_S cyI cyZ ad) Q) D 17 ad (gm_S cyI cyZ ad) 6 σ 24 [(0, .ref (ad 0)), (1, .int x1), (2, .int x2), (3, .int x3), (4, .int x4)] [] := by
  intro n
  induction n with
  | zero =>
    intro x1 x2 x3 x4 σ h
    exact absurd h (fun q => q)
  | succ n ih =>
    intro x1 x2 x3 x4 σ h
    unfold wq_X7_wants_l24 at h
    refine gq_iload (j := 4) C dX7_wants_24 rfl ?_
    refine gq_iconst (v := 1) C dX7_wants_26 (by decide) ?_
    refine gq_aload_n (j := 0) C dX7_wants_27 rfl ?_
    refine gq_get (v := .int (σ.1 0 0)) (i := 0) C gms_0 rfl iq_X7_wants_X7 0 (by decide) fq_X7_wants_93 rfl dX7_wants_28 ?_
    refine gq_ishl C dX7_wants_31 ?_
    refine gq_icmp_ge (tgt := 114) C dX7_wants_32 (by decide) (fun c7 => ?_) (fun c7 => ?_)
    · have h := h.1 c7
      refine gq_sub [0, 3] rfl ?_
      exact hK114 _ _ h
    · have h := h.2 c7
      refine gq_iload (j := 4) C dX7_wants_35 rfl ?_
      refine gq_aload_n (j := 0) C dX7_wants_37 rfl ?_
      refine gq_get (v := .ref (ad 5)) (i := 0) C gms_0 rfl iq_X7_wants_X7 6 (by decide) fq_X7_wants_22 rfl dX7_wants_38 ?_
      refine gq_bipush (v := 10) C dX7_wants_41 (by decide) ?_
      refine gq_iald (i := 5) (j := 10) C gms_5 0 rfl (by decide) (vp_in_iff.mpr ⟨by decide, by decide⟩) dX7_wants_43 ?_
      refine gq_iand C dX7_wants_44 ?_
      refine gq_if_ne (tgt := 70) C dX7_wants_45 (by decide) (fun c8 => ?_) (fun c8 => ?_)
      · have h := h.1 c8
        refine gq_iconst (v := 0) C dX7_wants_70 (by decide) ?_
        exact tq_X7_wants_b71 C (ih) _ _ _ _ _ _ h
      · have h := h.2 c8
        refine gq_iload_n (j := 3) C dX7_wants_48 rfl ?_
        refine gq_bipush (v := (-9)) C dX7_wants_49 (by decide) ?_
        refine gq_icmp_eq (tgt := 66) C dX7_wants_51 (by decide) (fun c16 => ?_) (fun c16 => ?_)
        · have h := h.1 c16
          refine gq_iconst (v := 1) C dX7_wants_66 (by decide) ?_
          refine gq_goto (tgt := 71) C dX7_wants_67 (by decide) ?_
          exact tq_X7_wants_b71 C (ih) _ _ _ _ _ _ h
        · have h := h.2 c16
          refine gq_iload (j := 4) C dX7_wants_54 rfl ?_
          refine gq_si C [.int x4] (mq_X7_ones C.2.2.1 x4 σ _ h) gX7_wants_X7_ones rfl dq_X7_ones ⟨rfl, rfl, by decide, by decide⟩ rfl rfl (Nat.le_of_ble_eq_true rfl) dX7_wants_56 (fun r17 σ18 h => ?_)
          refine gq_iload_n (j := 3) C dX7_wants_59 rfl ?_
          refine gq_si C [.int x3] (mq_X7_ones C.2.2.1 x3 σ18 _ h) gX7_wants_X7_ones rfl dq_X7_ones ⟨rfl, rfl, by decide, by decide⟩ rfl rfl (Nat.le_of_ble_eq_true rfl) dX7_wants_60 (fun r19 σ20 h => ?_)
          refine gq_icmp_ge (tgt := 70) C dX7_wants_63 (by decide) (fun c21 => ?_) (fun c21 => ?_)
          · have h := h.1 c21
            refine gq_iconst (v := 0) C dX7_wants_70 (by decide) ?_
            exact tq_X7_wants_b71 C (ih) _ _ _ _ _ _ h
          · have h := h.2 c21
            refine gq_iconst (v := 1) C dX7_wants_66 (by decide) ?_
            refine gq_goto (tgt := 71) C dX7_wants_67 (by decide) ?_
            exact tq_X7_wants_b71 C (ih) _ _ _ _ _ _ h
def wq_X7_wants (a1 : Int32) (a2 : Int32) (σ : gq_M) (Q : Int32 → gq_M → Prop) : Prop := wq_X7_isTraveller a1 σ (fun r1 σ2 => ((r1 = 0 → Q (-1) σ2) ∧ (¬ r1 = 0 → wq_X7_isPlace a2 σ2 (fun r4 σ5 => ((¬ r4 = 0 → (∃ n24, wq_X7_wants_l24 Q (fun e22 σ23 => Q e22 σ23) n24 a1 a2 (-9) 0 σ5)) ∧ (r4 = 0 → Q (-1) σ5))))))
set_option maxRecDepth 100000 in
set_option maxHeartbeats 4000000 in
theorem tq_X7_wants {p : Program} {l : Launch} {e : Env} {s : State} {m : MethodId} {args : Array Value} {below : List Frame} {meth : Method} {c : Code} {D : va_G} {cyI cyZ : ClassId} {ad : Nat → Nat} {Q : Int32 → gq_M → Prop} (C : gq_C p s m args meth c cX7_wants 6 RX7 wsX7_wants D (gm_T cyI cyZ) 17 ad (some .int)) (a1 : Int32) (a2 : Int32) (σ : gq_M) (h : wq_X7_wants a1 a2 σ Q) : gq_G p l e rq_X7_wants s m args below meth c (gq_Ri below args s D (gm_T cyI cyZ) 17 ad (gm_S cyI cyZ ad) Q) D 17 ad (gm_S cyI cyZ ad) 6 σ 0 [(0, .ref (ad 0)), (1, .int a1), (2, .int a2)] [] := by
  unfold wq_X7_wants at h
  refine gq_aload_n (j := 0) C dX7_wants_0 rfl ?_
  refine gq_iload_n (j := 1) C dX7_wants_1 rfl ?_
  refine gq_vi (i := 0) C gms_0 rfl [.int a1] (mq_X7_isTraveller C.2.2.1 a1 σ _ h) gX7_wants_X7_isTraveller rfl rfl dq_X7_isTraveller ⟨rfl, rfl, by decide, by decide⟩ rfl rfl (Nat.le_of_ble_eq_true rfl) dX7_wants_2 (fun r1 σ2 h => ?_)
  refine gq_if_eq (tgt := 16) C dX7_wants_5 (by decide) (fun c3 => ?_) (fun c3 => ?_)
  · have h := h.1 c3
    refine gq_iconst (v := (-1)) C dX7_wants_16 (by decide) ?_
    exact gq_iret C h dX7_wants_17
  · have h := h.2 c3
    refine gq_aload_n (j := 0) C dX7_wants_8 rfl ?_
    refine gq_iload_n (j := 2) C dX7_wants_9 rfl ?_
    refine gq_vi (i := 0) C gms_0 rfl [.int a2] (mq_X7_isPlace C.2.2.1 a2 σ2 _ h) gX7_wants_X7_isPlace rfl rfl dq_X7_isPlace ⟨rfl, rfl, by decide, by decide⟩ rfl rfl (Nat.le_of_ble_eq_true rfl) dX7_wants_10 (fun r4 σ5 h => ?_)
    refine gq_if_ne (tgt := 18) C dX7_wants_13 (by decide) (fun c6 => ?_) (fun c6 => ?_)
    · have h := h.1 c6
      refine gq_bipush (v := (-9)) C dX7_wants_18 (by decide) ?_
      refine gq_istore_n (L' := [(0, .ref (ad 0)), (1, .int a1), (2, .int a2), (3, .int (-9))]) C [1, 2, 3, 0] dX7_wants_20 (by decide) rfl ?_
      refine gq_iconst (v := 0) C dX7_wants_21 (by decide) ?_
      refine gq_istore (L' := [(0, .ref (ad 0)), (1, .int a1), (2, .int a2), (3, .int (-9)), (4, .int 0)]) C [1, 2, 3, 4, 0] dX7_wants_22 (by decide) rfl ?_
      obtain ⟨n24, h⟩ := h
      refine tq_X7_wants_l24 C (fun e22 σ23 h => ?_) n24 _ _ _ _ _ h
      refine gq_iload_n (j := 1) C dX7_wants_114 rfl ?_
      exact gq_iret C h dX7_wants_115
    · have h := h.2 c6
      refine gq_iconst (v := (-1)) C dX7_wants_16 (by decide) ?_
      exact gq_iret C h dX7_wants_17
theorem mq_X7_wants {l : Launch} {D : va_G} {cyI cyZ : ClassId} {ad : Nat → Nat} (hap : gq_ap 17 ad) (a1 : Int32) (a2 : Int32) (σ : gq_M) (Q : Int32 → gq_M → Prop) (h : wq_X7_wants a1 a2 σ Q) : Met l yX7_wants wsX7_wants rq_X7_wants (va_Pc [.ref (ad 0), .int a1, .int a2] (gq_P D (gm_T cyI cyZ) 17 ad (gm_S cyI cyZ ad) σ)) (va_Qi Q (gq_P D (gm_T cyI cyZ) 17 ad (gm_S cyI cyZ ad)) (gq_A 17 ad)) 0 0 (gq_A 17 ad) :=
  gq_met hap (by decide) rfl rfl (Nat.le_of_ble_eq_true rfl) (fun _ _ _ _ _ _ _ C => tq_X7_wants C a1 a2 σ h)
