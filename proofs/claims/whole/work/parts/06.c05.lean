/-! ===== walks of X5_windBeyond, X5_nodeBeyond, X5_enqueueBeyond, X5_places, X5_raise, X5_stepOnce, X5_moveOnce, X5_movesTo, X6_write, X6_wipe, X6_fault (by wip/gen) ===== -/
abbrev rq_X5_windBeyond : Room := { frames := 0, cells := 0, slots := 0, locals := 0 }
theorem dq_X5_windBeyond : gq_dsc yX5_windBeyond 2 := by unfold gq_dsc; decide +kernel
theorem iq_X5_windBeyond_X5 : ∀ w ∈ u_ws RX5 TX5 10, w ∈ wsX5_windBeyond := by decide +kernel
theorem fq_X5_windBeyond_27 : Cond.fieldLink RX5 27 (TX5 0).1 (TX5 0).2.1 (TX5 0).2.2.1 ∈ wsX5_windBeyond := by decide +kernel
theorem iq_X5_windBeyond_X2 : ∀ w ∈ u_ws RX2 TX2 7, w ∈ wsX5_windBeyond := by decide +kernel
theorem fq_X5_windBeyond_36 : Cond.fieldLink RX5 36 (TX2 5).1 (TX2 5).2.1 (TX2 5).2.2.1 ∈ wsX5_windBeyond := by decide +kernel
theorem fq_X5_windBeyond_11 : Cond.fieldLink RX5 11 (TX5 1).1 (TX5 1).2.1 (TX5 1).2.2.1 ∈ wsX5_windBeyond := by decide +kernel
theorem fq_X5_windBeyond_21 : Cond.fieldLink RX5 21 (TX5 4).1 (TX5 4).2.1 (TX5 4).2.2.1 ∈ wsX5_windBeyond := by decide +kernel
theorem fq_X5_windBeyond_86 : Cond.fieldLink RX5 86 (TX2 1).1 (TX2 1).2.1 (TX2 1).2.2.1 ∈ wsX5_windBeyond := by decide +kernel
theorem fq_X5_windBeyond_56 : Cond.fieldLink RX5 56 (TX5 6).1 (TX5 6).2.1 (TX5 6).2.2.1 ∈ wsX5_windBeyond := by decide +kernel
theorem fq_X5_windBeyond_24 : Cond.fieldLink RX5 24 (TX5 5).1 (TX5 5).2.1 (TX5 5).2.2.1 ∈ wsX5_windBeyond := by decide +kernel
def wq_X5_windBeyond_b86 (Q : Int32 → gq_M → Prop) (x4 : Int32) (s0 : Int32) (s1 : Int32) (σ : gq_M) : Prop := ∀ v8, v8 = (s0 - s1) → ((v8 < 0 → Q v8 σ) ∧ (¬ v8 < 0 → vp_in x4 10 ∧ ((¬ (σ.1 11 x4.toNatClampNeg) = 3 → Q v8 σ) ∧ ((σ.1 11 x4.toNatClampNeg) = 3 → Q (σ.1 18 6) σ))))
set_option maxRecDepth 100000 in
set_option maxHeartbeats 4000000 in
theorem tq_X5_windBeyond_b86 {p : Program} {l : Launch} {e : Env} {s : State} {m : MethodId} {args : Array Value} {below : List Frame} {meth : Method} {c : Code} {D : va_G} {cyI cyZ cyS : ClassId} {ad : Nat → Nat} {Q : Int32 → gq_M → Prop} (C : gq_C p s m args meth c cX5_windBeyond 7 RX5 wsX5_windBeyond D (gc_T cyI cyZ cyS) 84 ad (some .int)) (x4 : Int32) (s0 : Int32) (s1 : Int32) (σ : gq_M) (h : wq_X5_windBeyond_b86 Q x4 s0 s1 σ) : gq_G p l e rq_X5_windBeyond s m args below meth c (gq_Ri below args s D (gc_T cyI cyZ cyS) 84 ad (gc_S cyI cyZ cyS ad) Q) D 84 ad (gc_S cyI cyZ cyS ad) 7 σ 86 [(0, .ref (ad 18)), (4, .int x4)] [.int s1, .int s0] := by
  unfold wq_X5_windBeyond_b86 at h
  refine gq_isub C dX5_windBeyond_86 ?_
  refine gq_topi (fun v8 qv8 => ?_)
  have h := h v8 qv8
  refine gq_istore (L' := [(0, .ref (ad 18)), (4, .int x4), (6, .int v8)]) C [1, 2, 0] dX5_windBeyond_87 (by decide) rfl ?_
  refine gq_iload (j := 2) C dX5_windBeyond_89 rfl ?_
  refine gq_if_lt (tgt := 115) C dX5_windBeyond_91 (by decide) (fun c9 => ?_) (fun c9 => ?_)
  · have h := h.1 c9
    refine gq_iload (j := 2) C dX5_windBeyond_115 rfl ?_
    exact gq_iret C h dX5_windBeyond_117
  · have h := h.2 c9
    refine gq_aload_n (j := 0) C dX5_windBeyond_94 rfl ?_
    refine gq_get (v := .ref (ad 9)) (i := 18) C gcs_18 rfl iq_X5_windBeyond_X5 0 (by decide) fq_X5_windBeyond_27 rfl dX5_windBeyond_95 ?_
    refine gq_get (v := .ref (ad 11)) (i := 9) C (gcs_X2 gr_9) rfl iq_X5_windBeyond_X2 1 (by decide) fq_X5_windBeyond_86 rfl dX5_windBeyond_98 ?_
    refine gq_iload (j := 1) C dX5_windBeyond_101 rfl ?_
    refine gq_iald (i := 11) (j := x4.toNatClampNeg) C (gcs_X2_2 gr_9) 0 rfl rfl h.1 dX5_windBeyond_103 ?_
    have h := h.2
    refine gq_iconst (v := 3) C dX5_windBeyond_104 (by decide) ?_
    refine gq_icmp_ne (tgt := 115) C dX5_windBeyond_105 (by decide) (fun c10 => ?_) (fun c10 => ?_)
    · have h := h.1 c10
      refine gq_iload (j := 2) C dX5_windBeyond_115 rfl ?_
      exact gq_iret C h dX5_windBeyond_117
    · have h := h.2 c10
      refine gq_aload_n (j := 0) C dX5_windBeyond_108 rfl ?_
      refine gq_get (v := .int (σ.1 18 6)) (i := 18) C gcs_18 rfl iq_X5_windBeyond_X5 6 (by decide) fq_X5_windBeyond_56 rfl dX5_windBeyond_109 ?_
      refine gq_goto (tgt := 117) C dX5_windBeyond_112 (by decide) ?_
      exact gq_iret C h dX5_windBeyond_117
def wq_X5_windBeyond_b56 (Q : Int32 → gq_M → Prop) (x1 : Int32) (x4 : Int32) (s0 : Int32) (σ : gq_M) : Prop := vp_in x1 33 ∧ ((s0 = 0 → vp_in x4 10 ∧ wq_X5_windBeyond_b86 Q x4 (σ.1 19 x1.toNatClampNeg) (σ.1 22 x4.toNatClampNeg) σ) ∧ (¬ s0 = 0 → vp_in x4 10 ∧ wq_X5_windBeyond_b86 Q x4 (σ.1 19 x1.toNatClampNeg) (σ.1 23 x4.toNatClampNeg) σ))
set_option maxRecDepth 100000 in
set_option maxHeartbeats 4000000 in
theorem tq_X5_windBeyond_b56 {p : Program} {l : Launch} {e : Env} {s : State} {m : MethodId} {args : Array Value} {below : List Frame} {meth : Method} {c : Code} {D : va_G} {cyI cyZ cyS : ClassId} {ad : Nat → Nat} {Q : Int32 → gq_M → Prop} (C : gq_C p s m args meth c cX5_windBeyond 7 RX5 wsX5_windBeyond D (gc_T cyI cyZ cyS) 84 ad (some .int)) (x1 : Int32) (x4 : Int32) (s0 : Int32) (σ : gq_M) (h : wq_X5_windBeyond_b56 Q x1 x4 s0 σ) : gq_G p l e rq_X5_windBeyond s m args below meth c (gq_Ri below args s D (gc_T cyI cyZ cyS) 84 ad (gc_S cyI cyZ cyS ad) Q) D 84 ad (gc_S cyI cyZ cyS ad) 7 σ 56 [(0, .ref (ad 18)), (1, .int x1), (4, .int x4)] [.int s0] := by
  unfold wq_X5_windBeyond_b56 at h
  refine gq_istore (L' := [(0, .ref (ad 18)), (1, .int x1), (4, .int x4), (5, .int s0)]) C [1, 2, 3, 0] dX5_windBeyond_56 (by decide) rfl ?_
  refine gq_aload_n (j := 0) C dX5_windBeyond_58 rfl ?_
  refine gq_get (v := .ref (ad 19)) (i := 18) C gcs_18 rfl iq_X5_windBeyond_X5 1 (by decide) fq_X5_windBeyond_11 rfl dX5_windBeyond_59 ?_
  refine gq_iload_n (j := 1) C dX5_windBeyond_62 rfl ?_
  refine gq_iald (i := 19) (j := x1.toNatClampNeg) C gcs_19 0 rfl rfl h.1 dX5_windBeyond_63 ?_
  have h := h.2
  refine gq_iload (j := 3) C dX5_windBeyond_64 rfl ?_
  refine gq_if_eq (tgt := 79) C dX5_windBeyond_66 (by decide) (fun c7 => ?_) (fun c7 => ?_)
  · have h := h.1 c7
    refine gq_aload_n (j := 0) C dX5_windBeyond_79 rfl ?_
    refine gq_get (v := .ref (ad 22)) (i := 18) C gcs_18 rfl iq_X5_windBeyond_X5 4 (by decide) fq_X5_windBeyond_21 rfl dX5_windBeyond_80 ?_
    refine gq_iload (j := 2) C dX5_windBeyond_83 rfl ?_
    refine gq_iald (i := 22) (j := x4.toNatClampNeg) C gcs_22 0 rfl rfl h.1 dX5_windBeyond_85 ?_
    have h := h.2
    refine gq_sub [0, 2] rfl ?_
    exact tq_X5_windBeyond_b86 C _ _ _ _ h
  · have h := h.2 c7
    refine gq_aload_n (j := 0) C dX5_windBeyond_69 rfl ?_
    refine gq_get (v := .ref (ad 23)) (i := 18) C gcs_18 rfl iq_X5_windBeyond_X5 5 (by decide) fq_X5_windBeyond_24 rfl dX5_windBeyond_70 ?_
    refine gq_iload (j := 2) C dX5_windBeyond_73 rfl ?_
    refine gq_iald (i := 23) (j := x4.toNatClampNeg) C gcs_23 0 rfl rfl h.1 dX5_windBeyond_75 ?_
    have h := h.2
    refine gq_goto (tgt := 86) C dX5_windBeyond_76 (by decide) ?_
    refine gq_sub [0, 2] rfl ?_
    exact tq_X5_windBeyond_b86 C _ _ _ _ h
def wq_X5_windBeyond_b48 (Q : Int32 → gq_M → Prop) (x1 : Int32) (x4 : Int32) (s0 : Int32) (s1 : Int32) (σ : gq_M) : Prop := ((¬ s0 = s1 → wq_X5_windBeyond_b56 Q x1 x4 0 σ) ∧ (s0 = s1 → wq_X5_windBeyond_b56 Q x1 x4 1 σ))
set_option maxRecDepth 100000 in
set_option maxHeartbeats 4000000 in
theorem tq_X5_windBeyond_b48 {p : Program} {l : Launch} {e : Env} {s : State} {m : MethodId} {args : Array Value} {below : List Frame} {meth : Method} {c : Code} {D : va_G} {cyI cyZ cyS : ClassId} {ad : Nat → Nat} {Q : Int32 → gq_M → Prop} (C : gq_C p s m args meth c cX5_windBeyond 7 RX5 wsX5_windBeyond D (gc_T cyI cyZ cyS) 84 ad (some .int)) (x1 : Int32) (x4 : Int32) (s0 : Int32) (s1 : Int32) (σ : gq_M) (h : wq_X5_windBeyond_b48 Q x1 x4 s0 s1 σ) : gq_G p l e rq_X5_windBeyond s m args below meth c (gq_Ri below args s D (gc_T cyI cyZ cyS) 84 ad (gc_S cyI cyZ cyS ad) Q) D 84 ad (gc_S cyI cyZ cyS ad) 7 σ 48 [(0, .ref (ad 18)), (1, .int x1), (4, .int x4)] [.int s1, .int s0] := by
  unfold wq_X5_windBeyond_b48 at h
  refine gq_icmp_ne (tgt := 55) C dX5_windBeyond_48 (by decide) (fun c6 => ?_) (fun c6 => ?_)
  · have h := h.1 c6
    refine gq_iconst (v := 0) C dX5_windBeyond_55 (by decide) ?_
    exact tq_X5_windBeyond_b56 C _ _ _ _ h
  · have h := h.2 c6
    refine gq_iconst (v := 1) C dX5_windBeyond_51 (by decide) ?_
    refine gq_goto (tgt := 56) C dX5_windBeyond_52 (by decide) ?_
    exact tq_X5_windBeyond_b56 C _ _ _ _ h
def wq_X5_windBeyond_b15 (Q : Int32 → gq_M → Prop) (x1 : Int32) (x2 : Int32) (s0 : Int32) (σ : gq_M) : Prop := ((s0 < 0 → Q (-1) σ) ∧ (¬ s0 < 0 → ((s0 < (σ.1 9 5) → ((x2 = 0 → wq_X5_windBeyond_b48 Q x1 s0 (x1 - x1 / 3 * 3) 1 σ) ∧ (¬ x2 = 0 → wq_X5_windBeyond_b48 Q x1 s0 (x1 - x1 / 3 * 3) 2 σ))) ∧ (¬ s0 < (σ.1 9 5) → Q (-1) σ))))
set_option maxRecDepth 100000 in
set_option maxHeartbeats 4000000 in
theorem tq_X5_windBeyond_b15 {p : Program} {l : Launch} {e : Env} {s : State} {m : MethodId} {args : Array Value} {below : List Frame} {meth : Method} {c : Code} {D : va_G} {cyI cyZ cyS : ClassId} {ad : Nat → Nat} {Q : Int32 → gq_M → Prop} (C : gq_C p s m args meth c cX5_windBeyond 7 RX5 wsX5_windBeyond D (gc_T cyI cyZ cyS) 84 ad (some .int)) (x1 : Int32) (x2 : Int32) (s0 : Int32) (σ : gq_M) (h : wq_X5_windBeyond_b15 Q x1 x2 s0 σ) : gq_G p l e rq_X5_windBeyond s m args below meth c (gq_Ri below args s D (gc_T cyI cyZ cyS) 84 ad (gc_S cyI cyZ cyS ad) Q) D 84 ad (gc_S cyI cyZ cyS ad) 7 σ 15 [(0, .ref (ad 18)), (1, .int x1), (2, .int x2)] [.int s0] := by
  unfold wq_X5_windBeyond_b15 at h
  refine gq_istore (L' := [(0, .ref (ad 18)), (1, .int x1), (2, .int x2), (4, .int s0)]) C [1, 2, 3, 0] dX5_windBeyond_15 (by decide) rfl ?_
  refine gq_iload (j := 3) C dX5_windBeyond_17 rfl ?_
  refine gq_if_lt (tgt := 34) C dX5_windBeyond_19 (by decide) (fun c3 => ?_) (fun c3 => ?_)
  · have h := h.1 c3
    refine gq_iconst (v := (-1)) C dX5_windBeyond_34 (by decide) ?_
    exact gq_iret C h dX5_windBeyond_35
  · have h := h.2 c3
    refine gq_iload (j := 3) C dX5_windBeyond_22 rfl ?_
    refine gq_aload_n (j := 0) C dX5_windBeyond_24 rfl ?_
    refine gq_get (v := .ref (ad 9)) (i := 18) C gcs_18 rfl iq_X5_windBeyond_X5 0 (by decide) fq_X5_windBeyond_27 rfl dX5_windBeyond_25 ?_
    refine gq_get (v := .int (σ.1 9 5)) (i := 9) C (gcs_X2 gr_9) rfl iq_X5_windBeyond_X2 5 (by decide) fq_X5_windBeyond_36 rfl dX5_windBeyond_28 ?_
    refine gq_icmp_lt (tgt := 36) C dX5_windBeyond_31 (by decide) (fun c4 => ?_) (fun c4 => ?_)
    · have h := h.1 c4
      refine gq_iload_n (j := 1) C dX5_windBeyond_36 rfl ?_
      refine gq_iconst (v := 3) C dX5_windBeyond_37 (by decide) ?_
      refine gq_irem C dX5_windBeyond_38 (by decide) ?_
      refine gq_iload_n (j := 2) C dX5_windBeyond_39 rfl ?_
      refine gq_if_eq (tgt := 47) C dX5_windBeyond_40 (by decide) (fun c5 => ?_) (fun c5 => ?_)
      · have h := h.1 c5
        refine gq_iconst (v := 1) C dX5_windBeyond_47 (by decide) ?_
        refine gq_sub [0, 1, 3] rfl ?_
        exact tq_X5_windBeyond_b48 C _ _ _ _ _ h
      · have h := h.2 c5
        refine gq_iconst (v := 2) C dX5_windBeyond_43 (by decide) ?_
        refine gq_goto (tgt := 48) C dX5_windBeyond_44 (by decide) ?_
        refine gq_sub [0, 1, 3] rfl ?_
        exact tq_X5_windBeyond_b48 C _ _ _ _ _ h
    · have h := h.2 c4
      refine gq_iconst (v := (-1)) C dX5_windBeyond_34 (by decide) ?_
      exact gq_iret C h dX5_windBeyond_35
def wq_X5_windBeyond (a1 : Int32) (a2 : Int32) (σ : gq_M) (Q : Int32 → gq_M → Prop) : Prop := ∀ v1, v1 = (a1 / 3) → ((a2 = 0 → wq_X5_windBeyond_b15 Q a1 a2 (v1 - 1) σ) ∧ (¬ a2 = 0 → wq_X5_windBeyond_b15 Q a1 a2 v1 σ))
set_option maxRecDepth 100000 in
set_option maxHeartbeats 4000000 in
theorem tq_X5_windBeyond {p : Program} {l : Launch} {e : Env} {s : State} {m : MethodId} {args : Array Value} {below : List Frame} {meth : Method} {c : Code} {D : va_G} {cyI cyZ cyS : ClassId} {ad : Nat → Nat} {Q : Int32 → gq_M → Prop} (C : gq_C p s m args meth c cX5_windBeyond 7 RX5 wsX5_windBeyond D (gc_T cyI cyZ cyS) 84 ad (some .int)) (a1 : Int32) (a2 : Int32) (σ : gq_M) (h : wq_X5_windBeyond a1 a2 σ Q) : gq_G p l e rq_X5_windBeyond s m args below meth c (gq_Ri below args s D (gc_T cyI cyZ cyS) 84 ad (gc_S cyI cyZ cyS ad) Q) D 84 ad (gc_S cyI cyZ cyS ad) 7 σ 0 [(0, .ref (ad 18)), (1, .int a1), (2, .int a2)] [] := by
  unfold wq_X5_windBeyond at h
  refine gq_iload_n (j := 1) C dX5_windBeyond_0 rfl ?_
  refine gq_iconst (v := 3) C dX5_windBeyond_1 (by decide) ?_
  refine gq_idiv C dX5_windBeyond_2 (by decide) ?_
  refine gq_topi (fun v1 qv1 => ?_)
  have h := h v1 qv1
  refine gq_istore_n (L' := [(0, .ref (ad 18)), (1, .int a1), (2, .int a2), (3, .int v1)]) C [1, 2, 3, 0] dX5_windBeyond_3 (by decide) rfl ?_
  refine gq_iload_n (j := 2) C dX5_windBeyond_4 rfl ?_
  refine gq_if_eq (tgt := 12) C dX5_windBeyond_5 (by decide) (fun c2 => ?_) (fun c2 => ?_)
  · have h := h.1 c2
    refine gq_iload_n (j := 3) C dX5_windBeyond_12 rfl ?_
    refine gq_iconst (v := 1) C dX5_windBeyond_13 (by decide) ?_
    refine gq_isub C dX5_windBeyond_14 ?_
    refine gq_sub [0, 1, 2] rfl ?_
    exact tq_X5_windBeyond_b15 C _ _ _ _ h
  · have h := h.2 c2
    refine gq_iload_n (j := 3) C dX5_windBeyond_8 rfl ?_
    refine gq_goto (tgt := 15) C dX5_windBeyond_9 (by decide) ?_
    refine gq_sub [0, 1, 2] rfl ?_
    exact tq_X5_windBeyond_b15 C _ _ _ _ h
theorem mq_X5_windBeyond {l : Launch} {D : va_G} {cyI cyZ cyS : ClassId} {ad : Nat → Nat} (hap : gq_ap 84 ad) (a1 : Int32) (a2 : Int32) (σ : gq_M) (Q : Int32 → gq_M → Prop) (h : wq_X5_windBeyond a1 a2 σ Q) : Met l yX5_windBeyond wsX5_windBeyond rq_X5_windBeyond (va_Pc [.ref (ad 18), .int a1, .int a2] (gq_P D (gc_T cyI cyZ cyS) 84 ad (gc_S cyI cyZ cyS ad) σ)) (va_Qi Q (gq_P D (gc_T cyI cyZ cyS) 84 ad (gc_S cyI cyZ cyS ad)) (gq_A 84 ad)) 0 0 (gq_A 84 ad) :=
  gq_met hap (by decide) rfl rfl (Nat.le_of_ble_eq_true rfl) (fun _ _ _ _ _ _ _ C => tq_X5_windBeyond C a1 a2 σ h)
abbrev rq_X5_nodeBeyond : Room := { frames := 0, cells := 0, slots := 0, locals := 0 }
theorem dq_X5_nodeBeyond : gq_dsc yX5_nodeBeyond 2 := by unfold gq_dsc; decide +kernel
theorem iq_X5_nodeBeyond_X5 : ∀ w ∈ u_ws RX5 TX5 10, w ∈ wsX5_nodeBeyond := by decide +kernel
theorem fq_X5_nodeBeyond_58 : Cond.fieldLink RX5 58 (TX5 7).1 (TX5 7).2.1 (TX5 7).2.2.1 ∈ wsX5_nodeBeyond := by decide +kernel
def wq_X5_nodeBeyond_b23 (Q : Int32 → gq_M → Prop) (x3 : Int32) (s0 : Int32) (σ : gq_M) : Prop := (((σ.1 18 7) = 0 → Q ((x3 * 3) + 0) σ) ∧ (¬ (σ.1 18 7) = 0 → Q ((x3 * 3) + s0) σ))
set_option maxRecDepth 100000 in
set_option maxHeartbeats 4000000 in
theorem tq_X5_nodeBeyond_b23 {p : Program} {l : Launch} {e : Env} {s : State} {m : MethodId} {args : Array Value} {below : List Frame} {meth : Method} {c : Code} {D : va_G} {cyI cyZ cyS : ClassId} {ad : Nat → Nat} {Q : Int32 → gq_M → Prop} (C : gq_C p s m args meth c cX5_nodeBeyond 5 RX5 wsX5_nodeBeyond D (gc_T cyI cyZ cyS) 84 ad (some .int)) (x3 : Int32) (s0 : Int32) (σ : gq_M) (h : wq_X5_nodeBeyond_b23 Q x3 s0 σ) : gq_G p l e rq_X5_nodeBeyond s m args below meth c (gq_Ri below args s D (gc_T cyI cyZ cyS) 84 ad (gc_S cyI cyZ cyS ad) Q) D 84 ad (gc_S cyI cyZ cyS ad) 5 σ 23 [(0, .ref (ad 18)), (3, .int x3)] [.int s0] := by
  unfold wq_X5_nodeBeyond_b23 at h
  refine gq_istore (L' := [(0, .ref (ad 18)), (3, .int x3), (4, .int s0)]) C [1, 2, 0] dX5_nodeBeyond_23 (by decide) rfl ?_
  refine gq_iload_n (j := 1) C dX5_nodeBeyond_25 rfl ?_
  refine gq_iconst (v := 3) C dX5_nodeBeyond_26 (by decide) ?_
  refine gq_imul C dX5_nodeBeyond_27 ?_
  refine gq_aload_n (j := 0) C dX5_nodeBeyond_28 rfl ?_
  refine gq_get (v := .int (σ.1 18 7)) (i := 18) C gcs_18 rfl iq_X5_nodeBeyond_X5 7 (by decide) fq_X5_nodeBeyond_58 rfl dX5_nodeBeyond_29 ?_
  refine gq_if_eq (tgt := 40) C dX5_nodeBeyond_32 (by decide) (fun c4 => ?_) (fun c4 => ?_)
  · have h := h.1 c4
    refine gq_iconst (v := 0) C dX5_nodeBeyond_40 (by decide) ?_
    refine gq_iadd C dX5_nodeBeyond_41 ?_
    exact gq_iret C h dX5_nodeBeyond_42
  · have h := h.2 c4
    refine gq_iload (j := 2) C dX5_nodeBeyond_35 rfl ?_
    refine gq_goto (tgt := 41) C dX5_nodeBeyond_37 (by decide) ?_
    refine gq_iadd C dX5_nodeBeyond_41 ?_
    exact gq_iret C h dX5_nodeBeyond_42
def wq_X5_nodeBeyond_b12 (Q : Int32 → gq_M → Prop) (x2 : Int32) (s0 : Int32) (s1 : Int32) (σ : gq_M) : Prop := ∀ v2, v2 = (s0 + s1) → ((x2 = 0 → wq_X5_nodeBeyond_b23 Q v2 2 σ) ∧ (¬ x2 = 0 → wq_X5_nodeBeyond_b23 Q v2 1 σ))
set_option maxRecDepth 100000 in
set_option maxHeartbeats 4000000 in
theorem tq_X5_nodeBeyond_b12 {p : Program} {l : Launch} {e : Env} {s : State} {m : MethodId} {args : Array Value} {below : List Frame} {meth : Method} {c : Code} {D : va_G} {cyI cyZ cyS : ClassId} {ad : Nat → Nat} {Q : Int32 → gq_M → Prop} (C : gq_C p s m args meth c cX5_nodeBeyond 5 RX5 wsX5_nodeBeyond D (gc_T cyI cyZ cyS) 84 ad (some .int)) (x2 : Int32) (s0 : Int32) (s1 : Int32) (σ : gq_M) (h : wq_X5_nodeBeyond_b12 Q x2 s0 s1 σ) : gq_G p l e rq_X5_nodeBeyond s m args below meth c (gq_Ri below args s D (gc_T cyI cyZ cyS) 84 ad (gc_S cyI cyZ cyS ad) Q) D 84 ad (gc_S cyI cyZ cyS ad) 5 σ 12 [(0, .ref (ad 18)), (2, .int x2)] [.int s1, .int s0] := by
  unfold wq_X5_nodeBeyond_b12 at h
  refine gq_iadd C dX5_nodeBeyond_12 ?_
  refine gq_topi (fun v2 qv2 => ?_)
  have h := h v2 qv2
  refine gq_istore_n (L' := [(0, .ref (ad 18)), (2, .int x2), (3, .int v2)]) C [1, 2, 0] dX5_nodeBeyond_13 (by decide) rfl ?_
  refine gq_iload_n (j := 1) C dX5_nodeBeyond_14 rfl ?_
  refine gq_if_eq (tgt := 22) C dX5_nodeBeyond_15 (by decide) (fun c3 => ?_) (fun c3 => ?_)
  · have h := h.1 c3
    refine gq_iconst (v := 2) C dX5_nodeBeyond_22 (by decide) ?_
    refine gq_sub [0, 2] rfl ?_
    exact tq_X5_nodeBeyond_b23 C _ _ _ h
  · have h := h.2 c3
    refine gq_iconst (v := 1) C dX5_nodeBeyond_18 (by decide) ?_
    refine gq_goto (tgt := 23) C dX5_nodeBeyond_19 (by decide) ?_
    refine gq_sub [0, 2] rfl ?_
    exact tq_X5_nodeBeyond_b23 C _ _ _ h
def wq_X5_nodeBeyond (a1 : Int32) (a2 : Int32) (σ : gq_M) (Q : Int32 → gq_M → Prop) : Prop := ((a2 = 0 → wq_X5_nodeBeyond_b12 Q a2 (a1 / 3) (-1) σ) ∧ (¬ a2 = 0 → wq_X5_nodeBeyond_b12 Q a2 (a1 / 3) 1 σ))
set_option maxRecDepth 100000 in
set_option maxHeartbeats 4000000 in
theorem tq_X5_nodeBeyond {p : Program} {l : Launch} {e : Env} {s : State} {m : MethodId} {args : Array Value} {below : List Frame} {meth : Method} {c : Code} {D : va_G} {cyI cyZ cyS : ClassId} {ad : Nat → Nat} {Q : Int32 → gq_M → Prop} (C : gq_C p s m args meth c cX5_nodeBeyond 5 RX5 wsX5_nodeBeyond D (gc_T cyI cyZ cyS) 84 ad (some .int)) (a1 : Int32) (a2 : Int32) (σ : gq_M) (h : wq_X5_nodeBeyond a1 a2 σ Q) : gq_G p l e rq_X5_nodeBeyond s m args below meth c (gq_Ri below args s D (gc_T cyI cyZ cyS) 84 ad (gc_S cyI cyZ cyS ad) Q) D 84 ad (gc_S cyI cyZ cyS ad) 5 σ 0 [(0, .ref (ad 18)), (1, .int a1), (2, .int a2)] [] := by
  unfold wq_X5_nodeBeyond at h
  refine gq_iload_n (j := 1) C dX5_nodeBeyond_0 rfl ?_
  refine gq_iconst (v := 3) C dX5_nodeBeyond_1 (by decide) ?_
  refine gq_idiv C dX5_nodeBeyond_2 (by decide) ?_
  refine gq_iload_n (j := 2) C dX5_nodeBeyond_3 rfl ?_
  refine gq_if_eq (tgt := 11) C dX5_nodeBeyond_4 (by decide) (fun c1 => ?_) (fun c1 => ?_)
  · have h := h.1 c1
    refine gq_iconst (v := (-1)) C dX5_nodeBeyond_11 (by decide) ?_
    refine gq_sub [0, 2] rfl ?_
    exact tq_X5_nodeBeyond_b12 C _ _ _ _ h
  · have h := h.2 c1
    refine gq_iconst (v := 1) C dX5_nodeBeyond_7 (by decide) ?_
    refine gq_goto (tgt := 12) C dX5_nodeBeyond_8 (by decide) ?_
    refine gq_sub [0, 2] rfl ?_
    exact tq_X5_nodeBeyond_b12 C _ _ _ _ h
theorem mq_X5_nodeBeyond {l : Launch} {D : va_G} {cyI cyZ cyS : ClassId} {ad : Nat → Nat} (hap : gq_ap 84 ad) (a1 : Int32) (a2 : Int32) (σ : gq_M) (Q : Int32 → gq_M → Prop) (h : wq_X5_nodeBeyond a1 a2 σ Q) : Met l yX5_nodeBeyond wsX5_nodeBeyond rq_X5_nodeBeyond (va_Pc [.ref (ad 18), .int a1, .int a2] (gq_P D (gc_T cyI cyZ cyS) 84 ad (gc_S cyI cyZ cyS ad) σ)) (va_Qi Q (gq_P D (gc_T cyI cyZ cyS) 84 ad (gc_S cyI cyZ cyS ad)) (gq_A 84 ad)) 0 0 (gq_A 84 ad) :=
  gq_met hap (by decide) rfl rfl (Nat.le_of_ble_eq_true rfl) (fun _ _ _ _ _ _ _ C => tq_X5_nodeBeyond C a1 a2 σ h)
abbrev rq_X5_enqueueBeyond : Room := { frames := 1, cells := 0, slots := 0, locals := 26 }
theorem dq_X5_enqueueBeyond : gq_dsc yX5_enqueueBeyond 3 := by unfold gq_dsc; decide +kernel
theorem iq_X5_enqueueBeyond_X5 : ∀ w ∈ u_ws RX5 TX5 10, w ∈ wsX5_enqueueBeyond := by decide +kernel
theorem fq_X5_enqueueBeyond_18 : Cond.fieldLink RX5 18 (TX5 3).1 (TX5 3).2.1 (TX5 3).2.2.1 ∈ wsX5_enqueueBeyond := by decide +kernel
theorem fq_X5_enqueueBeyond_11 : Cond.fieldLink RX5 11 (TX5 1).1 (TX5 1).2.1 (TX5 1).2.2.1 ∈ wsX5_enqueueBeyond := by decide +kernel
def wq_X5_enqueueBeyond (a1 : Int32) (a2 : Int32) (a3 : Int32) (σ : gq_M) (Q : Int32 → gq_M → Prop) : Prop := wq_X5_windBeyond a1 a2 σ (fun r1 σ2 => ((r1 < 0 → Q a3 σ2) ∧ (¬ r1 < 0 → ((a3 < 330 → wq_X5_nodeBeyond a1 a2 σ2 (fun r5 σ6 => vp_in r5 33 ∧ (((σ6.1 19 r5.toNatClampNeg) < r1 → vp_in r5 33 ∧ vp_in a3 330 ∧ Q (a3 + 1) (gq_put (gq_put σ6 19 r5.toNatClampNeg r1) 21 a3.toNatClampNeg r5)) ∧ (¬ (σ6.1 19 r5.toNatClampNeg) < r1 → Q a3 σ6)))) ∧ (¬ a3 < 330 → Q a3 σ2)))))
set_option maxRecDepth 100000 in
set_option maxHeartbeats 4000000 in
theorem tq_X5_enqueueBeyond {p : Program} {l : Launch} {e : Env} {s : State} {m : MethodId} {args : Array Value} {below : List Frame} {meth : Method} {c : Code} {D : va_G} {cyI cyZ cyS : ClassId} {ad : Nat → Nat} {Q : Int32 → gq_M → Prop} (C : gq_C p s m args meth c cX5_enqueueBeyond 6 RX5 wsX5_enqueueBeyond D (gc_T cyI cyZ cyS) 84 ad (some .int)) (a1 : Int32) (a2 : Int32) (a3 : Int32) (σ : gq_M) (h : wq_X5_enqueueBeyond a1 a2 a3 σ Q) : gq_G p l e rq_X5_enqueueBeyond s m args below meth c (gq_Ri below args s D (gc_T cyI cyZ cyS) 84 ad (gc_S cyI cyZ cyS ad) Q) D 84 ad (gc_S cyI cyZ cyS ad) 6 σ 0 [(0, .ref (ad 18)), (1, .int a1), (2, .int a2), (3, .int a3)] [] := by
  unfold wq_X5_enqueueBeyond at h
  refine gq_aload_n (j := 0) C dX5_enqueueBeyond_0 rfl ?_
  refine gq_iload_n (j := 1) C dX5_enqueueBeyond_1 rfl ?_
  refine gq_iload_n (j := 2) C dX5_enqueueBeyond_2 rfl ?_
  refine gq_vi (i := 18) C gcs_18 rfl [.int a1, .int a2] (mq_X5_windBeyond C.2.2.1 a1 a2 σ _ h) gX5_enqueueBeyond_X5_windBeyond rfl rfl dq_X5_windBeyond ⟨rfl, rfl, by decide, by decide⟩ rfl rfl (Nat.le_of_ble_eq_true rfl) dX5_enqueueBeyond_3 (fun r1 σ2 h => ?_)
  refine gq_istore (L' := [(0, .ref (ad 18)), (1, .int a1), (2, .int a2), (3, .int a3), (4, .int r1)]) C [1, 2, 3, 4, 0] dX5_enqueueBeyond_6 (by decide) rfl ?_
  refine gq_iload (j := 4) C dX5_enqueueBeyond_8 rfl ?_
  refine gq_if_lt (tgt := 22) C dX5_enqueueBeyond_10 (by decide) (fun c3 => ?_) (fun c3 => ?_)
  · have h := h.1 c3
    refine gq_iload_n (j := 3) C dX5_enqueueBeyond_22 rfl ?_
    exact gq_iret C h dX5_enqueueBeyond_23
  · have h := h.2 c3
    refine gq_iload_n (j := 3) C dX5_enqueueBeyond_13 rfl ?_
    refine gq_aload_n (j := 0) C dX5_enqueueBeyond_14 rfl ?_
    refine gq_get (v := .ref (ad 21)) (i := 18) C gcs_18 rfl iq_X5_enqueueBeyond_X5 3 (by decide) fq_X5_enqueueBeyond_18 rfl dX5_enqueueBeyond_15 ?_
    refine gq_alen (i := 21) (v := 330) C gcs_21 0 rfl rfl dX5_enqueueBeyond_18 ?_
    refine gq_icmp_lt (tgt := 24) C dX5_enqueueBeyond_19 (by decide) (fun c4 => ?_) (fun c4 => ?_)
    · have h := h.1 c4
      refine gq_aload_n (j := 0) C dX5_enqueueBeyond_24 rfl ?_
      refine gq_iload_n (j := 1) C dX5_enqueueBeyond_25 rfl ?_
      refine gq_iload_n (j := 2) C dX5_enqueueBeyond_26 rfl ?_
      refine gq_vi (i := 18) C gcs_18 rfl [.int a1, .int a2] (mq_X5_nodeBeyond C.2.2.1 a1 a2 σ2 _ h) gX5_enqueueBeyond_X5_nodeBeyond rfl rfl dq_X5_nodeBeyond ⟨rfl, rfl, by decide, by decide⟩ rfl rfl (Nat.le_of_ble_eq_true rfl) dX5_enqueueBeyond_27 (fun r5 σ6 h => ?_)
      refine gq_istore (L' := [(0, .ref (ad 18)), (1, .int a1), (2, .int a2), (3, .int a3), (4, .int r1), (5, .int r5)]) C [1, 2, 3, 4, 5, 0] dX5_enqueueBeyond_30 (by decide) rfl ?_
      refine gq_iload (j := 4) C dX5_enqueueBeyond_32 rfl ?_
      refine gq_aload_n (j := 0) C dX5_enqueueBeyond_34 rfl ?_
      refine gq_get (v := .ref (ad 19)) (i := 18) C gcs_18 rfl iq_X5_enqueueBeyond_X5 1 (by decide) fq_X5_enqueueBeyond_11 rfl dX5_enqueueBeyond_35 ?_
      refine gq_iload (j := 5) C dX5_enqueueBeyond_38 rfl ?_
      refine gq_iald (i := 19) (j := r5.toNatClampNeg) C gcs_19 0 rfl rfl h.1 dX5_enqueueBeyond_40 ?_
      have h := h.2
      refine gq_icmp_gt (tgt := 46) C dX5_enqueueBeyond_41 (by decide) (fun c7 => ?_) (fun c7 => ?_)
      · have h := h.1 c7
        refine gq_aload_n (j := 0) C dX5_enqueueBeyond_46 rfl ?_
        refine gq_get (v := .ref (ad 19)) (i := 18) C gcs_18 rfl iq_X5_enqueueBeyond_X5 1 (by decide) fq_X5_enqueueBeyond_11 rfl dX5_enqueueBeyond_47 ?_
        refine gq_iload (j := 5) C dX5_enqueueBeyond_50 rfl ?_
        refine gq_iload (j := 4) C dX5_enqueueBeyond_52 rfl ?_
        refine gq_iast (i := 19) (j := r5.toNatClampNeg) C gcs_19 0 rfl rfl h.1 dX5_enqueueBeyond_54 ?_
        have h := h.2
        refine gq_aload_n (j := 0) C dX5_enqueueBeyond_55 rfl ?_
        refine gq_get (v := .ref (ad 21)) (i := 18) C gcs_18 rfl iq_X5_enqueueBeyond_X5 3 (by decide) fq_X5_enqueueBeyond_18 rfl dX5_enqueueBeyond_56 ?_
        refine gq_iload_n (j := 3) C dX5_enqueueBeyond_59 rfl ?_
        refine gq_iload (j := 5) C dX5_enqueueBeyond_60 rfl ?_
        refine gq_iast (i := 21) (j := a3.toNatClampNeg) C gcs_21 0 rfl rfl h.1 dX5_enqueueBeyond_62 ?_
        have h := h.2
        refine gq_iload_n (j := 3) C dX5_enqueueBeyond_63 rfl ?_
        refine gq_iconst (v := 1) C dX5_enqueueBeyond_64 (by decide) ?_
        refine gq_iadd C dX5_enqueueBeyond_65 ?_
        exact gq_iret C h dX5_enqueueBeyond_66
      · have h := h.2 c7
        refine gq_iload_n (j := 3) C dX5_enqueueBeyond_44 rfl ?_
        exact gq_iret C h dX5_enqueueBeyond_45
    · have h := h.2 c4
      refine gq_iload_n (j := 3) C dX5_enqueueBeyond_22 rfl ?_
      exact gq_iret C h dX5_enqueueBeyond_23
theorem mq_X5_enqueueBeyond {l : Launch} {D : va_G} {cyI cyZ cyS : ClassId} {ad : Nat → Nat} (hap : gq_ap 84 ad) (a1 : Int32) (a2 : Int32) (a3 : Int32) (σ : gq_M) (Q : Int32 → gq_M → Prop) (h : wq_X5_enqueueBeyond a1 a2 a3 σ Q) : Met l yX5_enqueueBeyond wsX5_enqueueBeyond rq_X5_enqueueBeyond (va_Pc [.ref (ad 18), .int a1, .int a2, .int a3] (gq_P D (gc_T cyI cyZ cyS) 84 ad (gc_S cyI cyZ cyS ad) σ)) (va_Qi Q (gq_P D (gc_T cyI cyZ cyS) 84 ad (gc_S cyI cyZ cyS ad)) (gq_A 84 ad)) 0 0 (gq_A 84 ad) :=
  gq_met hap (by decide) rfl rfl (Nat.le_of_ble_eq_true rfl) (fun _ _ _ _ _ _ _ C => tq_X5_enqueueBeyond C a1 a2 a3 σ h)
abbrev rq_X5_places : Room := { frames := 2, cells := 0, slots := 0, locals := 51 }
theorem dq_X5_places : gq_dsc yX5_places 0 := by unfold gq_dsc; decide +kernel
theorem iq_X5_places_X5 : ∀ w ∈ u_ws RX5 TX5 10, w ∈ wsX5_places := by decide +kernel
theorem fq_X5_places_18 : Cond.fieldLink RX5 18 (TX5 3).1 (TX5 3).2.1 (TX5 3).2.2.1 ∈ wsX5_places := by decide +kernel
theorem fq_X5_places_77 : Cond.fieldLink RX5 77 (TX5 8).1 (TX5 8).2.1 (TX5 8).2.2.1 ∈ wsX5_places := by decide +kernel
def wq_X5_places_l20 (Q : Int32 → gq_M → Prop) (K79 : Int32 → gq_M → Prop) : Nat → Int32 → Int32 → Int32 → gq_M → Prop
  | 0, _, _, _, _ => False
  | n + 1, x1, x2, x3, σ => ((x2 ≤ x3 → K79 x1 σ) ∧ (¬ x2 ≤ x3 → ((330 ≤ x3 → K79 x1 σ) ∧ (¬ 330 ≤ x3 → vp_in x3 330 ∧ ∀ v5, v5 = (x1 ||| ((1 : Int32) <<< (((σ.1 21 x3.toNatClampNeg) / 3) &&& 31))) → vp_in x3 330 ∧ wq_X5_enqueueBeyond (σ.1 21 x3.toNatClampNeg) 1 x2 σ (fun r6 σ7 => vp_in x3 330 ∧ wq_X5_enqueueBeyond (σ7.1 21 x3.toNatClampNeg) 0 r6 σ7 (fun r8 σ9 => ∀ v10, v10 = (x3 + 1) → wq_X5_places_l20 Q K79 n v5 r8 v10 σ9))))))
set_option maxRecDepth 100000 in
set_option maxHeartbeats 4000000 in
theorem tq_X5_places_l20 {p : Program} {l : Launch} {e : Env} {s : State} {m : MethodId} {args : Array Value} {below : List Frame} {meth : Method} {c : Code} {D : va_G} {cyI cyZ cyS : ClassId} {ad : Nat → Nat} {Q : Int32 → gq_M → Prop} {K79 : Int32 → gq_M → Prop} (C : gq_C p s m args meth c cX5_places 4 RX5 wsX5_places D (gc_T cyI cyZ cyS) 84 ad (some .int)) (hK79 : ∀ (y1 : Int32) (τ : gq_M), K79 y1 τ → gq_G p l e rq_X5_places s m args below meth c (gq_Ri below args s D (gc_T cyI cyZ cyS) 84 ad (gc_S cyI cyZ cyS ad) Q) D 84 ad (gc_S cyI cyZ cyS ad) 4 τ 79 [(0, .ref (ad 18)), (1, .int y1)] []) : ∀ (n : Nat) (x1 : Int32) (x2 : Int32) (x3 : Int32) (σ : gq_M), wq_X5_places_l20 Q K79 n x1 x2 x3 σ → gq_G p l e rq_X5_places s m args below meth c (gq_Ri below args s D (gc_T cyI cyZ cyS) 84 ad (gc_S cyI cyZ cyS ad) Q) D 84 ad (gc_S cyI cyZ cyS ad) 4 σ 20 [(0, .ref (ad 18)), (1, .int x1), (2, .int x2), (3, .int x3)] [] := by
  intro n
  induction n with
  | zero =>
    intro x1 x2 x3 σ h
    exact absurd h (fun q => q)
  | succ n ih =>
    intro x1 x2 x3 σ h
    unfold wq_X5_places_l20 at h
    refine gq_iload_n (j := 3) C dX5_places_20 rfl ?_
    refine gq_iload_n (j := 2) C dX5_places_21 rfl ?_
    refine gq_icmp_ge (tgt := 79) C dX5_places_22 (by decide) (fun c3 => ?_) (fun c3 => ?_)
    · have h := h.1 c3
      refine gq_sub [0, 1] rfl ?_
      exact hK79 _ _ h
    · have h := h.2 c3
      refine gq_iload_n (j := 3) C dX5_places_25 rfl ?_
      refine gq_aload_n (j := 0) C dX5_places_26 rfl ?_
      refine gq_get (v := .ref (ad 21)) (i := 18) C gcs_18 rfl iq_X5_places_X5 3 (by decide) fq_X5_places_18 rfl dX5_places_27 ?_
      refine gq_alen (i := 21) (v := 330) C gcs_21 0 rfl rfl dX5_places_30 ?_
      refine gq_icmp_ge (tgt := 79) C dX5_places_31 (by decide) (fun c4 => ?_) (fun c4 => ?_)
      · have h := h.1 c4
        refine gq_sub [0, 1] rfl ?_
        exact hK79 _ _ h
      · have h := h.2 c4
        refine gq_iload_n (j := 1) C dX5_places_34 rfl ?_
        refine gq_iconst (v := 1) C dX5_places_35 (by decide) ?_
        refine gq_aload_n (j := 0) C dX5_places_36 rfl ?_
        refine gq_get (v := .ref (ad 21)) (i := 18) C gcs_18 rfl iq_X5_places_X5 3 (by decide) fq_X5_places_18 rfl dX5_places_37 ?_
        refine gq_iload_n (j := 3) C dX5_places_40 rfl ?_
        refine gq_iald (i := 21) (j := x3.toNatClampNeg) C gcs_21 0 rfl rfl h.1 dX5_places_41 ?_
        have h := h.2
        refine gq_iconst (v := 3) C dX5_places_42 (by decide) ?_
        refine gq_idiv C dX5_places_43 (by decide) ?_
        refine gq_ishl C dX5_places_44 ?_
        refine gq_ior C dX5_places_45 ?_
        refine gq_topi (fun v5 qv5 => ?_)
        have h := h v5 qv5
        refine gq_istore_n (L' := [(0, .ref (ad 18)), (1, .int v5), (2, .int x2), (3, .int x3)]) C [1, 0, 2, 3] dX5_places_46 (by decide) rfl ?_
        refine gq_aload_n (j := 0) C dX5_places_47 rfl ?_
        refine gq_aload_n (j := 0) C dX5_places_48 rfl ?_
        refine gq_get (v := .ref (ad 21)) (i := 18) C gcs_18 rfl iq_X5_places_X5 3 (by decide) fq_X5_places_18 rfl dX5_places_49 ?_
        refine gq_iload_n (j := 3) C dX5_places_52 rfl ?_
        refine gq_iald (i := 21) (j := x3.toNatClampNeg) C gcs_21 0 rfl rfl h.1 dX5_places_53 ?_
        have h := h.2
        refine gq_iconst (v := 1) C dX5_places_54 (by decide) ?_
        refine gq_iload_n (j := 2) C dX5_places_55 rfl ?_
        refine gq_vi (i := 18) C gcs_18 rfl [.int (σ.1 21 x3.toNatClampNeg), .int 1, .int x2] (mq_X5_enqueueBeyond C.2.2.1 (σ.1 21 x3.toNatClampNeg) 1 x2 σ _ h) gX5_places_X5_enqueueBeyond rfl rfl dq_X5_enqueueBeyond ⟨rfl, rfl, by decide, by decide⟩ rfl rfl (Nat.le_of_ble_eq_true rfl) dX5_places_56 (fun r6 σ7 h => ?_)
        refine gq_istore_n (L' := [(0, .ref (ad 18)), (1, .int v5), (2, .int r6), (3, .int x3)]) C [1, 2, 0, 3] dX5_places_59 (by decide) rfl ?_
        refine gq_aload_n (j := 0) C dX5_places_60 rfl ?_
        refine gq_aload_n (j := 0) C dX5_places_61 rfl ?_
        refine gq_get (v := .ref (ad 21)) (i := 18) C gcs_18 rfl iq_X5_places_X5 3 (by decide) fq_X5_places_18 rfl dX5_places_62 ?_
        refine gq_iload_n (j := 3) C dX5_places_65 rfl ?_
        refine gq_iald (i := 21) (j := x3.toNatClampNeg) C gcs_21 0 rfl rfl h.1 dX5_places_66 ?_
        have h := h.2
        refine gq_iconst (v := 0) C dX5_places_67 (by decide) ?_
        refine gq_iload_n (j := 2) C dX5_places_68 rfl ?_
        refine gq_vi (i := 18) C gcs_18 rfl [.int (σ7.1 21 x3.toNatClampNeg), .int 0, .int r6] (mq_X5_enqueueBeyond C.2.2.1 (σ7.1 21 x3.toNatClampNeg) 0 r6 σ7 _ h) gX5_places_X5_enqueueBeyond rfl rfl dq_X5_enqueueBeyond ⟨rfl, rfl, by decide, by decide⟩ rfl rfl (Nat.le_of_ble_eq_true rfl) dX5_places_69 (fun r8 σ9 h => ?_)
        refine gq_istore_n (L' := [(0, .ref (ad 18)), (1, .int v5), (2, .int r8), (3, .int x3)]) C [1, 2, 0, 3] dX5_places_72 (by decide) rfl ?_
        obtain ⟨v10, qv10⟩ : ∃ y : Int32, y = (x3 + 1) := ⟨_, rfl⟩
        have h := h v10 qv10
        refine gq_iinc (j := 3) (v := v10) (L' := [(0, .ref (ad 18)), (1, .int v5), (2, .int r8), (3, .int v10)]) C [1, 2, 3, 0] dX5_places_73 rfl (by rw [qv10]; rfl) (by decide) rfl ?_
        refine gq_goto (tgt := 20) C dX5_places_76 (by decide) ?_
        exact ih _ _ _ _ h
def wq_X5_places (σ : gq_M) (Q : Int32 → gq_M → Prop) : Prop := wq_X5_beginAt σ (fun σ2 => (∃ n13, wq_X5_places_l20 Q (fun e11 σ12 => Q e11 σ12) n13 0 1 0 (gq_put σ2 21 0 (σ2.1 18 8))))
set_option maxRecDepth 100000 in
set_option maxHeartbeats 4000000 in
theorem tq_X5_places {p : Program} {l : Launch} {e : Env} {s : State} {m : MethodId} {args : Array Value} {below : List Frame} {meth : Method} {c : Code} {D : va_G} {cyI cyZ cyS : ClassId} {ad : Nat → Nat} {Q : Int32 → gq_M → Prop} (C : gq_C p s m args meth c cX5_places 4 RX5 wsX5_places D (gc_T cyI cyZ cyS) 84 ad (some .int)) (σ : gq_M) (h : wq_X5_places σ Q) : gq_G p l e rq_X5_places s m args below meth c (gq_Ri below args s D (gc_T cyI cyZ cyS) 84 ad (gc_S cyI cyZ cyS ad) Q) D 84 ad (gc_S cyI cyZ cyS ad) 4 σ 0 [(0, .ref (ad 18))] [] := by
  unfold wq_X5_places at h
  refine gq_aload_n (j := 0) C dX5_places_0 rfl ?_
  refine gq_vv (i := 18) C gcs_18 rfl [] (mq_X5_beginAt C.2.2.1 σ _ h) gX5_places_X5_beginAt rfl rfl dq_X5_beginAt ⟨rfl, rfl, by decide, by decide⟩ rfl rfl (Nat.le_of_ble_eq_true rfl) dX5_places_1 (fun σ2 h => ?_)
  refine gq_iconst (v := 0) C dX5_places_4 (by decide) ?_
  refine gq_istore_n (L' := [(0, .ref (ad 18)), (1, .int 0)]) C [1, 0] dX5_places_5 (by decide) rfl ?_
  refine gq_iconst (v := 1) C dX5_places_6 (by decide) ?_
  refine gq_istore_n (L' := [(0, .ref (ad 18)), (1, .int 0), (2, .int 1)]) C [1, 2, 0] dX5_places_7 (by decide) rfl ?_
  refine gq_aload_n (j := 0) C dX5_places_8 rfl ?_
  refine gq_get (v := .ref (ad 21)) (i := 18) C gcs_18 rfl iq_X5_places_X5 3 (by decide) fq_X5_places_18 rfl dX5_places_9 ?_
  refine gq_iconst (v := 0) C dX5_places_12 (by decide) ?_
  refine gq_aload_n (j := 0) C dX5_places_13 rfl ?_
  refine gq_get (v := .int (σ2.1 18 8)) (i := 18) C gcs_18 rfl iq_X5_places_X5 8 (by decide) fq_X5_places_77 rfl dX5_places_14 ?_
  refine gq_iast (i := 21) (j := 0) C gcs_21 0 rfl (by decide) (vp_in_iff.mpr ⟨by decide, by decide⟩) dX5_places_17 ?_
  refine gq_iconst (v := 0) C dX5_places_18 (by decide) ?_
  refine gq_istore_n (L' := [(0, .ref (ad 18)), (1, .int 0), (2, .int 1), (3, .int 0)]) C [1, 2, 3, 0] dX5_places_19 (by decide) rfl ?_
  obtain ⟨n13, h⟩ := h
  refine tq_X5_places_l20 C (fun e11 σ12 h => ?_) n13 _ _ _ _ h
  refine gq_iload_n (j := 1) C dX5_places_79 rfl ?_
  exact gq_iret C h dX5_places_80
theorem mq_X5_places {l : Launch} {D : va_G} {cyI cyZ cyS : ClassId} {ad : Nat → Nat} (hap : gq_ap 84 ad) (σ : gq_M) (Q : Int32 → gq_M → Prop) (h : wq_X5_places σ Q) : Met l yX5_places wsX5_places rq_X5_places (va_Pc [.ref (ad 18)] (gq_P D (gc_T cyI cyZ cyS) 84 ad (gc_S cyI cyZ cyS ad) σ)) (va_Qi Q (gq_P D (gc_T cyI cyZ cyS) 84 ad (gc_S cyI cyZ cyS ad)) (gq_A 84 ad)) 0 0 (gq_A 84 ad) :=
  gq_met hap (by decide) rfl rfl (Nat.le_of_ble_eq_true rfl) (fun _ _ _ _ _ _ _ C => tq_X5_places C σ h)
abbrev rq_X5_raise : Room := { frames := 1, cells := 0, slots := 0, locals := 21 }
theorem dq_X5_raise : gq_dsc yX5_raise 2 := by unfold gq_dsc; decide +kernel
theorem iq_X5_raise_X5 : ∀ w ∈ u_ws RX5 TX5 10, w ∈ wsX5_raise := by decide +kernel
theorem fq_X5_raise_15 : Cond.fieldLink RX5 15 (TX5 2).1 (TX5 2).2.1 (TX5 2).2.2.1 ∈ wsX5_raise := by decide +kernel
def wq_X5_raise (a1 : Int32) (a2 : Int32) (σ : gq_M) (Q : gq_M → Prop) : Prop := vp_in a1 33 ∧ vp_in a1 33 ∧ Q (gq_put σ 20 a1.toNatClampNeg (if (σ.1 20 a1.toNatClampNeg) < a2 then a2 else (σ.1 20 a1.toNatClampNeg)))
set_option maxRecDepth 100000 in
set_option maxHeartbeats 4000000 in
theorem tq_X5_raise {p : Program} {l : Launch} {e : Env} {s : State} {m : MethodId} {args : Array Value} {below : List Frame} {meth : Method} {c : Code} {D : va_G} {cyI cyZ cyS : ClassId} {ad : Nat → Nat} {Q : gq_M → Prop} (C : gq_C p s m args meth c cX5_raise 3 RX5 wsX5_raise D (gc_T cyI cyZ cyS) 84 ad none) (a1 : Int32) (a2 : Int32) (σ : gq_M) (h : wq_X5_raise a1 a2 σ Q) : gq_G p l e rq_X5_raise s m args below meth c (gq_Rv below args s D (gc_T cyI cyZ cyS) 84 ad (gc_S cyI cyZ cyS ad) Q) D 84 ad (gc_S cyI cyZ cyS ad) 3 σ 0 [(0, .ref (ad 18)), (1, .int a1), (2, .int a2)] [] := by
  unfold wq_X5_raise at h
  refine gq_aload_n (j := 0) C dX5_raise_0 rfl ?_
  refine gq_get (v := .ref (ad 20)) (i := 18) C gcs_18 rfl iq_X5_raise_X5 2 (by decide) fq_X5_raise_15 rfl dX5_raise_1 ?_
  refine gq_iload_n (j := 1) C dX5_raise_4 rfl ?_
  refine gq_aload_n (j := 0) C dX5_raise_5 rfl ?_
  refine gq_get (v := .ref (ad 20)) (i := 18) C gcs_18 rfl iq_X5_raise_X5 2 (by decide) fq_X5_raise_15 rfl dX5_raise_6 ?_
  refine gq_iload_n (j := 1) C dX5_raise_9 rfl ?_
  refine gq_iald (i := 20) (j := a1.toNatClampNeg) C gcs_20 0 rfl rfl h.1 dX5_raise_10 ?_
  have h := h.2
  refine gq_iload_n (j := 2) C dX5_raise_11 rfl ?_
  refine gq_mmax C (by decide +kernel) (by decide +kernel) (by decide +kernel) (by decide +kernel) (by decide) (Nat.le_of_ble_eq_true rfl) dX5_raise_12 ?_
  refine gq_iast (i := 20) (j := a1.toNatClampNeg) C gcs_20 0 rfl rfl h.1 dX5_raise_15 ?_
  have h := h.2
  exact gq_vret C h dX5_raise_16
theorem mq_X5_raise {l : Launch} {D : va_G} {cyI cyZ cyS : ClassId} {ad : Nat → Nat} (hap : gq_ap 84 ad) (a1 : Int32) (a2 : Int32) (σ : gq_M) (Q : gq_M → Prop) (h : wq_X5_raise a1 a2 σ Q) : Met l yX5_raise wsX5_raise rq_X5_raise (va_Pc [.ref (ad 18), .int a1, .int a2] (gq_P D (gc_T cyI cyZ cyS) 84 ad (gc_S cyI cyZ cyS ad) σ)) (va_Qv Q (gq_P D (gc_T cyI cyZ cyS) 84 ad (gc_S cyI cyZ cyS ad)) (gq_A 84 ad)) 0 0 (gq_A 84 ad) :=
  gq_met hap (by decide) rfl rfl (Nat.le_of_ble_eq_true rfl) (fun _ _ _ _ _ _ _ C => tq_X5_raise C a1 a2 σ h)
abbrev rq_X5_stepOnce : Room := { frames := 2, cells := 0, slots := 0, locals := 43 }
theorem dq_X5_stepOnce : gq_dsc yX5_stepOnce 2 := by unfold gq_dsc; decide +kernel
def wq_X5_stepOnce (a1 : Int32) (a2 : Int32) (σ : gq_M) (Q : gq_M → Prop) : Prop := wq_X5_windBeyond a1 a2 σ (fun r1 σ2 => ((r1 < 0 → Q σ2) ∧ (¬ r1 < 0 → wq_X5_nodeBeyond a1 a2 σ2 (fun r4 σ5 => wq_X5_raise r4 r1 σ5 (fun σ7 => Q σ7)))))
set_option maxRecDepth 100000 in
set_option maxHeartbeats 4000000 in
theorem tq_X5_stepOnce {p : Program} {l : Launch} {e : Env} {s : State} {m : MethodId} {args : Array Value} {below : List Frame} {meth : Method} {c : Code} {D : va_G} {cyI cyZ cyS : ClassId} {ad : Nat → Nat} {Q : gq_M → Prop} (C : gq_C p s m args meth c cX5_stepOnce 4 RX5 wsX5_stepOnce D (gc_T cyI cyZ cyS) 84 ad none) (a1 : Int32) (a2 : Int32) (σ : gq_M) (h : wq_X5_stepOnce a1 a2 σ Q) : gq_G p l e rq_X5_stepOnce s m args below meth c (gq_Rv below args s D (gc_T cyI cyZ cyS) 84 ad (gc_S cyI cyZ cyS ad) Q) D 84 ad (gc_S cyI cyZ cyS ad) 4 σ 0 [(0, .ref (ad 18)), (1, .int a1), (2, .int a2)] [] := by
  unfold wq_X5_stepOnce at h
  refine gq_aload_n (j := 0) C dX5_stepOnce_0 rfl ?_
  refine gq_iload_n (j := 1) C dX5_stepOnce_1 rfl ?_
  refine gq_iload_n (j := 2) C dX5_stepOnce_2 rfl ?_
  refine gq_vi (i := 18) C gcs_18 rfl [.int a1, .int a2] (mq_X5_windBeyond C.2.2.1 a1 a2 σ _ h) gX5_stepOnce_X5_windBeyond rfl rfl dq_X5_windBeyond ⟨rfl, rfl, by decide, by decide⟩ rfl rfl (Nat.le_of_ble_eq_true rfl) dX5_stepOnce_3 (fun r1 σ2 h => ?_)
  refine gq_istore_n (L' := [(0, .ref (ad 18)), (1, .int a1), (2, .int a2), (3, .int r1)]) C [1, 2, 3, 0] dX5_stepOnce_6 (by decide) rfl ?_
  refine gq_iload_n (j := 3) C dX5_stepOnce_7 rfl ?_
  refine gq_if_lt (tgt := 22) C dX5_stepOnce_8 (by decide) (fun c3 => ?_) (fun c3 => ?_)
  · have h := h.1 c3
    exact gq_vret C h dX5_stepOnce_22
  · have h := h.2 c3
    refine gq_aload_n (j := 0) C dX5_stepOnce_11 rfl ?_
    refine gq_aload_n (j := 0) C dX5_stepOnce_12 rfl ?_
    refine gq_iload_n (j := 1) C dX5_stepOnce_13 rfl ?_
    refine gq_iload_n (j := 2) C dX5_stepOnce_14 rfl ?_
    refine gq_vi (i := 18) C gcs_18 rfl [.int a1, .int a2] (mq_X5_nodeBeyond C.2.2.1 a1 a2 σ2 _ h) gX5_stepOnce_X5_nodeBeyond rfl rfl dq_X5_nodeBeyond ⟨rfl, rfl, by decide, by decide⟩ rfl rfl (Nat.le_of_ble_eq_true rfl) dX5_stepOnce_15 (fun r4 σ5 h => ?_)
    refine gq_iload_n (j := 3) C dX5_stepOnce_18 rfl ?_
    refine gq_vv (i := 18) C gcs_18 rfl [.int r4, .int r1] (mq_X5_raise C.2.2.1 r4 r1 σ5 _ h) gX5_stepOnce_X5_raise rfl rfl dq_X5_raise ⟨rfl, rfl, by decide, by decide⟩ rfl rfl (Nat.le_of_ble_eq_true rfl) dX5_stepOnce_19 (fun σ7 h => ?_)
    exact gq_vret C h dX5_stepOnce_22
theorem mq_X5_stepOnce {l : Launch} {D : va_G} {cyI cyZ cyS : ClassId} {ad : Nat → Nat} (hap : gq_ap 84 ad) (a1 : Int32) (a2 : Int32) (σ : gq_M) (Q : gq_M → Prop) (h : wq_X5_stepOnce a1 a2 σ Q) : Met l yX5_stepOnce wsX5_stepOnce rq_X5_stepOnce (va_Pc [.ref (ad 18), .int a1, .int a2] (gq_P D (gc_T cyI cyZ cyS) 84 ad (gc_S cyI cyZ cyS ad) σ)) (va_Qv Q (gq_P D (gc_T cyI cyZ cyS) 84 ad (gc_S cyI cyZ cyS ad)) (gq_A 84 ad)) 0 0 (gq_A 84 ad) :=
  gq_met hap (by decide) rfl rfl (Nat.le_of_ble_eq_true rfl) (fun _ _ _ _ _ _ _ C => tq_X5_stepOnce C a1 a2 σ h)
abbrev rq_X5_moveOnce : Room := { frames := 3, cells := 0, slots := 0, locals := 66 }
theorem dq_X5_moveOnce : gq_dsc yX5_moveOnce 0 := by unfold gq_dsc; decide +kernel
theorem iq_X5_moveOnce_X5 : ∀ w ∈ u_ws RX5 TX5 10, w ∈ wsX5_moveOnce := by decide +kernel
theorem fq_X5_moveOnce_15 : Cond.fieldLink RX5 15 (TX5 2).1 (TX5 2).2.1 (TX5 2).2.2.1 ∈ wsX5_moveOnce := by decide +kernel
theorem fq_X5_moveOnce_11 : Cond.fieldLink RX5 11 (TX5 1).1 (TX5 1).2.1 (TX5 1).2.2.1 ∈ wsX5_moveOnce := by decide +kernel
theorem fq_X5_moveOnce_56 : Cond.fieldLink RX5 56 (TX5 6).1 (TX5 6).2.1 (TX5 6).2.2.1 ∈ wsX5_moveOnce := by decide +kernel
def wq_X5_moveOnce_b61 (Q : gq_M → Prop) (K10 : Int32 → gq_M → Prop) (x1 : Int32) (σ : gq_M) : Prop := ∀ v5, v5 = (x1 + 1) → K10 v5 σ
set_option maxRecDepth 100000 in
set_option maxHeartbeats 4000000 in
theorem tq_X5_moveOnce_b61 {p : Program} {l : Launch} {e : Env} {s : State} {m : MethodId} {args : Array Value} {below : List Frame} {meth : Method} {c : Code} {D : va_G} {cyI cyZ cyS : ClassId} {ad : Nat → Nat} {Q : gq_M → Prop} {K10 : Int32 → gq_M → Prop} (C : gq_C p s m args meth c cX5_moveOnce 2 RX5 wsX5_moveOnce D (gc_T cyI cyZ cyS) 84 ad none) (hK10 : ∀ (y1 : Int32) (τ : gq_M), K10 y1 τ → gq_G p l e rq_X5_moveOnce s m args below meth c (gq_Rv below args s D (gc_T cyI cyZ cyS) 84 ad (gc_S cyI cyZ cyS ad) Q) D 84 ad (gc_S cyI cyZ cyS ad) 2 τ 10 [(0, .ref (ad 18)), (1, .int y1)] []) (x1 : Int32) (σ : gq_M) (h : wq_X5_moveOnce_b61 Q K10 x1 σ) : gq_G p l e rq_X5_moveOnce s m args below meth c (gq_Rv below args s D (gc_T cyI cyZ cyS) 84 ad (gc_S cyI cyZ cyS ad) Q) D 84 ad (gc_S cyI cyZ cyS ad) 2 σ 61 [(0, .ref (ad 18)), (1, .int x1)] [] := by
  unfold wq_X5_moveOnce_b61 at h
  obtain ⟨v5, qv5⟩ : ∃ y : Int32, y = (x1 + 1) := ⟨_, rfl⟩
  have h := h v5 qv5
  refine gq_iinc (j := 1) (v := v5) (L' := [(0, .ref (ad 18)), (1, .int v5)]) C [1, 0] dX5_moveOnce_61 rfl (by rw [qv5]; rfl) (by decide) rfl ?_
  refine gq_goto (tgt := 10) C dX5_moveOnce_64 (by decide) ?_
  exact hK10 _ _ h
def wq_X5_moveOnce_l10 (Q : gq_M → Prop) (K67 : gq_M → Prop) : Nat → Int32 → gq_M → Prop
  | 0, _, _ => False
  | n + 1, x1, σ => ((33 ≤ x1 → K67 σ) ∧ (¬ 33 ≤ x1 → vp_in x1 33 ∧ (((σ.1 19 x1.toNatClampNeg) < 0 → wq_X5_moveOnce_b61 Q (wq_X5_moveOnce_l10 Q K67 n) x1 σ) ∧ (¬ (σ.1 19 x1.toNatClampNeg) < 0 → wq_X5_stepOnce x1 1 σ (fun σ7 => wq_X5_stepOnce x1 0 σ7 (fun σ9 => vp_in x1 33 ∧ wq_X2_windRested (σ9.1 19 x1.toNatClampNeg) (σ9.1 18 6) σ9 (fun r10 σ11 => wq_X5_raise ((x1 - (x1 - x1 / 3 * 3)) + 0) r10 σ11 (fun σ13 => wq_X5_moveOnce_b61 Q (wq_X5_moveOnce_l10 Q K67 n) x1 σ13))))))))
set_option maxRecDepth 100000 in
set_option maxHeartbeats 4000000 in
theorem tq_X5_moveOnce_l10 {p : Program} {l : Launch} {e : Env} {s : State} {m : MethodId} {args : Array Value} {below : List Frame} {meth : Method} {c : Code} {D : va_G} {cyI cyZ cyS : ClassId} {ad : Nat → Nat} {Q : gq_M → Prop} {K67 : gq_M → Prop} (C : gq_C p s m args meth c cX5_moveOnce 2 RX5 wsX5_moveOnce D (gc_T cyI cyZ cyS) 84 ad none) (hK67 : ∀ (τ : gq_M), K67 τ → gq_G p l e rq_X5_moveOnce s m args below meth c (gq_Rv below args s D (gc_T cyI cyZ cyS) 84 ad (gc_S cyI cyZ cyS ad) Q) D 84 ad (gc_S cyI cyZ cyS ad) 2 τ 67 [(0, .ref (ad 18))] []) : ∀ (n : Nat) (x1 : Int32) (σ : gq_M), wq_X5_moveOnce_l10 Q K67 n x1 σ → gq_G p l e rq_X5_moveOnce s m args below meth c (gq_Rv below args s D (gc_T cyI cyZ cyS) 84 ad (gc_S cyI cyZ cyS ad) Q) D 84 ad (gc_S cyI cyZ cyS ad) 2 σ 10 [(0, .ref (ad 18)), (1, .int x1)] [] := by
  intro n
  induction n with
  | zero =>
    intro x1 σ h
    exact absurd h (fun q => q)
  | succ n ih =>
    intro x1 σ h
    unfold wq_X5_moveOnce_l10 at h
    refine gq_iload_n (j := 1) C dX5_moveOnce_10 rfl ?_
    refine gq_bipush (v := 33) C dX5_moveOnce_11 (by decide) ?_
    refine gq_icmp_ge (tgt := 67) C dX5_moveOnce_13 (by decide) (fun c3 => ?_) (fun c3 => ?_)
    · have h := h.1 c3
      refine gq_sub [0] rfl ?_
      exact hK67  _ h
    · have h := h.2 c3
      refine gq_aload_n (j := 0) C dX5_moveOnce_16 rfl ?_
      refine gq_get (v := .ref (ad 19)) (i := 18) C gcs_18 rfl iq_X5_moveOnce_X5 1 (by decide) fq_X5_moveOnce_11 rfl dX5_moveOnce_17 ?_
      refine gq_iload_n (j := 1) C dX5_moveOnce_20 rfl ?_
      refine gq_iald (i := 19) (j := x1.toNatClampNeg) C gcs_19 0 rfl rfl h.1 dX5_moveOnce_21 ?_
      have h := h.2
      refine gq_if_lt (tgt := 61) C dX5_moveOnce_22 (by decide) (fun c4 => ?_) (fun c4 => ?_)
      · have h := h.1 c4
        exact tq_X5_moveOnce_b61 C (ih) _ _ h
      · have h := h.2 c4
        refine gq_aload_n (j := 0) C dX5_moveOnce_25 rfl ?_
        refine gq_iload_n (j := 1) C dX5_moveOnce_26 rfl ?_
        refine gq_iconst (v := 1) C dX5_moveOnce_27 (by decide) ?_
        refine gq_vv (i := 18) C gcs_18 rfl [.int x1, .int 1] (mq_X5_stepOnce C.2.2.1 x1 1 σ _ h) gX5_moveOnce_X5_stepOnce rfl rfl dq_X5_stepOnce ⟨rfl, rfl, by decide, by decide⟩ rfl rfl (Nat.le_of_ble_eq_true rfl) dX5_moveOnce_28 (fun σ7 h => ?_)
        refine gq_aload_n (j := 0) C dX5_moveOnce_31 rfl ?_
        refine gq_iload_n (j := 1) C dX5_moveOnce_32 rfl ?_
        refine gq_iconst (v := 0) C dX5_moveOnce_33 (by decide) ?_
        refine gq_vv (i := 18) C gcs_18 rfl [.int x1, .int 0] (mq_X5_stepOnce C.2.2.1 x1 0 σ7 _ h) gX5_moveOnce_X5_stepOnce rfl rfl dq_X5_stepOnce ⟨rfl, rfl, by decide, by decide⟩ rfl rfl (Nat.le_of_ble_eq_true rfl) dX5_moveOnce_34 (fun σ9 h => ?_)
        refine gq_aload_n (j := 0) C dX5_moveOnce_37 rfl ?_
        refine gq_iload_n (j := 1) C dX5_moveOnce_38 rfl ?_
        refine gq_iload_n (j := 1) C dX5_moveOnce_39 rfl ?_
        refine gq_iconst (v := 3) C dX5_moveOnce_40 (by decide) ?_
        refine gq_irem C dX5_moveOnce_41 (by decide) ?_
        refine gq_isub C dX5_moveOnce_42 ?_
        refine gq_iconst (v := 0) C dX5_moveOnce_43 (by decide) ?_
        refine gq_iadd C dX5_moveOnce_44 ?_
        refine gq_aload_n (j := 0) C dX5_moveOnce_45 rfl ?_
        refine gq_get (v := .ref (ad 19)) (i := 18) C gcs_18 rfl iq_X5_moveOnce_X5 1 (by decide) fq_X5_moveOnce_11 rfl dX5_moveOnce_46 ?_
        refine gq_iload_n (j := 1) C dX5_moveOnce_49 rfl ?_
        refine gq_iald (i := 19) (j := x1.toNatClampNeg) C gcs_19 0 rfl rfl h.1 dX5_moveOnce_50 ?_
        have h := h.2
        refine gq_aload_n (j := 0) C dX5_moveOnce_51 rfl ?_
        refine gq_get (v := .int (σ9.1 18 6)) (i := 18) C gcs_18 rfl iq_X5_moveOnce_X5 6 (by decide) fq_X5_moveOnce_56 rfl dX5_moveOnce_52 ?_
        refine gq_si C [.int (σ9.1 19 x1.toNatClampNeg), .int (σ9.1 18 6)] (mq_X2_windRested C.2.2.1 (σ9.1 19 x1.toNatClampNeg) (σ9.1 18 6) σ9 _ h) gX5_moveOnce_X2_windRested rfl dq_X2_windRested ⟨rfl, rfl, by decide, by decide⟩ rfl rfl (Nat.le_of_ble_eq_true rfl) dX5_moveOnce_55 (fun r10 σ11 h => ?_)
        refine gq_vv (i := 18) C gcs_18 rfl [.int ((x1 - (x1 - x1 / 3 * 3)) + 0), .int r10] (mq_X5_raise C.2.2.1 ((x1 - (x1 - x1 / 3 * 3)) + 0) r10 σ11 _ h) gX5_moveOnce_X5_raise rfl rfl dq_X5_raise ⟨rfl, rfl, by decide, by decide⟩ rfl rfl (Nat.le_of_ble_eq_true rfl) dX5_moveOnce_58 (fun σ13 h => ?_)
        exact tq_X5_moveOnce_b61 C (ih) _ _ h
def wq_X5_moveOnce (σ : gq_M) (Q : gq_M → Prop) : Prop := wq_J7_fill_53178 20 (-1) σ (fun σ2 => (∃ n15, wq_X5_moveOnce_l10 Q (fun σ14 => Q (gq_up σ14 19 (va_cpy (σ14.1 20) (σ14.1 19) (0 : Int32).toNatClampNeg (0 : Int32).toNatClampNeg (33 : Int32).toNatClampNeg))) n15 0 σ2))
set_option maxRecDepth 100000 in
set_option maxHeartbeats 4000000 in
theorem tq_X5_moveOnce {p : Program} {l : Launch} {e : Env} {s : State} {m : MethodId} {args : Array Value} {below : List Frame} {meth : Method} {c : Code} {D : va_G} {cyI cyZ cyS : ClassId} {ad : Nat → Nat} {Q : gq_M → Prop} (C : gq_C p s m args meth c cX5_moveOnce 2 RX5 wsX5_moveOnce D (gc_T cyI cyZ cyS) 84 ad none) (σ : gq_M) (h : wq_X5_moveOnce σ Q) : gq_G p l e rq_X5_moveOnce s m args below meth c (gq_Rv below args s D (gc_T cyI cyZ cyS) 84 ad (gc_S cyI cyZ cyS ad) Q) D 84 ad (gc_S cyI cyZ cyS ad) 2 σ 0 [(0, .ref (ad 18))] [] := by
  unfold wq_X5_moveOnce at h
  refine gq_aload_n (j := 0) C dX5_moveOnce_0 rfl ?_
  refine gq_get (v := .ref (ad 20)) (i := 18) C gcs_18 rfl iq_X5_moveOnce_X5 2 (by decide) fq_X5_moveOnce_15 rfl dX5_moveOnce_1 ?_
  refine gq_iconst (v := (-1)) C dX5_moveOnce_4 (by decide) ?_
  refine gq_sv C [.ref (ad 20), .int (-1)] (mq_J7_fill_53178 C.2.2.1 gi_20 (-1) σ _ h) gX5_moveOnce_J7_fill_53178 rfl dq_J7_fill_53178 ⟨rfl, rfl, by decide, by decide⟩ rfl rfl (Nat.le_of_ble_eq_true rfl) dX5_moveOnce_5 (fun σ2 h => ?_)
  refine gq_iconst (v := 0) C dX5_moveOnce_8 (by decide) ?_
  refine gq_istore_n (L' := [(0, .ref (ad 18)), (1, .int 0)]) C [1, 0] dX5_moveOnce_9 (by decide) rfl ?_
  obtain ⟨n15, h⟩ := h
  refine tq_X5_moveOnce_l10 C (fun σ14 h => ?_) n15 _ _ h
  refine gq_aload_n (j := 0) C dX5_moveOnce_67 rfl ?_
  refine gq_get (v := .ref (ad 20)) (i := 18) C gcs_18 rfl iq_X5_moveOnce_X5 2 (by decide) fq_X5_moveOnce_15 rfl dX5_moveOnce_68 ?_
  refine gq_iconst (v := 0) C dX5_moveOnce_71 (by decide) ?_
  refine gq_aload_n (j := 0) C dX5_moveOnce_72 rfl ?_
  refine gq_get (v := .ref (ad 19)) (i := 18) C gcs_18 rfl iq_X5_moveOnce_X5 1 (by decide) fq_X5_moveOnce_11 rfl dX5_moveOnce_73 ?_
  refine gq_iconst (v := 0) C dX5_moveOnce_76 (by decide) ?_
  refine gq_bipush (v := 33) C dX5_moveOnce_77 (by decide) ?_
  refine gq_copy (i := 20) (j := 19) C gcs_20 gcs_19 0 0 rfl rfl (by decide +kernel) (by decide +kernel) (by decide +kernel) (by decide +kernel) (by decide) (by decide) (by decide) (by decide) (by decide) (by decide) (Nat.le_of_ble_eq_true rfl) dX5_moveOnce_79 ?_
  exact gq_vret C h dX5_moveOnce_82
theorem mq_X5_moveOnce {l : Launch} {D : va_G} {cyI cyZ cyS : ClassId} {ad : Nat → Nat} (hap : gq_ap 84 ad) (σ : gq_M) (Q : gq_M → Prop) (h : wq_X5_moveOnce σ Q) : Met l yX5_moveOnce wsX5_moveOnce rq_X5_moveOnce (va_Pc [.ref (ad 18)] (gq_P D (gc_T cyI cyZ cyS) 84 ad (gc_S cyI cyZ cyS ad) σ)) (va_Qv Q (gq_P D (gc_T cyI cyZ cyS) 84 ad (gc_S cyI cyZ cyS ad)) (gq_A 84 ad)) 0 0 (gq_A 84 ad) :=
  gq_met hap (by decide) rfl rfl (Nat.le_of_ble_eq_true rfl) (fun _ _ _ _ _ _ _ C => tq_X5_moveOnce C σ h)
abbrev rq_X5_movesTo : Room := { frames := 4, cells := 0, slots := 0, locals := 87 }
theorem dq_X5_movesTo : gq_dsc yX5_movesTo 1 := by unfold gq_dsc; decide +kernel
theorem iq_X5_movesTo_X5 : ∀ w ∈ u_ws RX5 TX5 10, w ∈ wsX5_movesTo := by decide +kernel
theorem fq_X5_movesTo_11 : Cond.fieldLink RX5 11 (TX5 1).1 (TX5 1).2.1 (TX5 1).2.2.1 ∈ wsX5_movesTo := by decide +kernel
def wq_X5_movesTo_l14 (Q : Int32 → gq_M → Prop) (K40 : Int32 → Int32 → gq_M → Prop) : Nat → Int32 → Int32 → Int32 → gq_M → Prop
  | 0, _, _, _, _ => False
  | n + 1, x1, x2, x3, σ => ((3 ≤ x3 → K40 x1 x2 σ) ∧ (¬ 3 ≤ x3 → vp_in ((x1 * 3) + x3) 33 ∧ (((σ.1 19 (((x1 * 3) + x3)).toNatClampNeg) < 0 → ∀ v6, v6 = (x3 + 1) → wq_X5_movesTo_l14 Q K40 n x1 x2 v6 σ) ∧ (¬ (σ.1 19 (((x1 * 3) + x3)).toNatClampNeg) < 0 → Q x2 σ))))
set_option maxRecDepth 100000 in
set_option maxHeartbeats 4000000 in
theorem tq_X5_movesTo_l14 {p : Program} {l : Launch} {e : Env} {s : State} {m : MethodId} {args : Array Value} {below : List Frame} {meth : Method} {c : Code} {D : va_G} {cyI cyZ cyS : ClassId} {ad : Nat → Nat} {Q : Int32 → gq_M → Prop} {K40 : Int32 → Int32 → gq_M → Prop} (C : gq_C p s m args meth c cX5_movesTo 4 RX5 wsX5_movesTo D (gc_T cyI cyZ cyS) 84 ad (some .int)) (hK40 : ∀ (y1 : Int32) (y2 : Int32) (τ : gq_M), K40 y1 y2 τ → gq_G p l e rq_X5_movesTo s m args below meth c (gq_Ri below args s D (gc_T cyI cyZ cyS) 84 ad (gc_S cyI cyZ cyS ad) Q) D 84 ad (gc_S cyI cyZ cyS ad) 4 τ 40 [(0, .ref (ad 18)), (1, .int y1), (2, .int y2)] []) : ∀ (n : Nat) (x1 : Int32) (x2 : Int32) (x3 : Int32) (σ : gq_M), wq_X5_movesTo_l14 Q K40 n x1 x2 x3 σ → gq_G p l e rq_X5_movesTo s m args below meth c (gq_Ri below args s D (gc_T cyI cyZ cyS) 84 ad (gc_S cyI cyZ cyS ad) Q) D 84 ad (gc_S cyI cyZ cyS ad) 4 σ 14 [(0, .ref (ad 18)), (1, .int x1), (2, .int x2), (3, .int x3)] [] := by
  intro n
  induction n with
  | zero =>
    intro x1 x2 x3 σ h
    exact absurd h (fun q => q)
  | succ n ih =>
    intro x1 x2 x3 σ h
    unfold wq_X5_movesTo_l14 at h
    refine gq_iload_n (j := 3) C dX5_movesTo_14 rfl ?_
    refine gq_iconst (v := 3) C dX5_movesTo_15 (by decide) ?_
    refine gq_icmp_ge (tgt := 40) C dX5_movesTo_16 (by decide) (fun c4 => ?_) (fun c4 => ?_)
    · have h := h.1 c4
      refine gq_sub [0, 1, 2] rfl ?_
      exact hK40 _ _ _ h
    · have h := h.2 c4
      refine gq_aload_n (j := 0) C dX5_movesTo_19 rfl ?_
      refine gq_get (v := .ref (ad 19)) (i := 18) C gcs_18 rfl iq_X5_movesTo_X5 1 (by decide) fq_X5_movesTo_11 rfl dX5_movesTo_20 ?_
      refine gq_iload_n (j := 1) C dX5_movesTo_23 rfl ?_
      refine gq_iconst (v := 3) C dX5_movesTo_24 (by decide) ?_
      refine gq_imul C dX5_movesTo_25 ?_
      refine gq_iload_n (j := 3) C dX5_movesTo_26 rfl ?_
      refine gq_iadd C dX5_movesTo_27 ?_
      refine gq_iald (i := 19) (j := (((x1 * 3) + x3)).toNatClampNeg) C gcs_19 0 rfl rfl h.1 dX5_movesTo_28 ?_
      have h := h.2
      refine gq_if_lt (tgt := 34) C dX5_movesTo_29 (by decide) (fun c5 => ?_) (fun c5 => ?_)
      · have h := h.1 c5
        obtain ⟨v6, qv6⟩ : ∃ y : Int32, y = (x3 + 1) := ⟨_, rfl⟩
        have h := h v6 qv6
        refine gq_iinc (j := 3) (v := v6) (L' := [(0, .ref (ad 18)), (1, .int x1), (2, .int x2), (3, .int v6)]) C [1, 2, 3, 0] dX5_movesTo_34 rfl (by rw [qv6]; rfl) (by decide) rfl ?_
        refine gq_goto (tgt := 14) C dX5_movesTo_37 (by decide) ?_
        exact ih _ _ _ _ h
      · have h := h.2 c5
        refine gq_iload_n (j := 2) C dX5_movesTo_32 rfl ?_
        exact gq_iret C h dX5_movesTo_33
def wq_X5_movesTo_l6 (Q : Int32 → gq_M → Prop) (K50 : gq_M → Prop) : Nat → Int32 → Int32 → gq_M → Prop
  | 0, _, _, _ => False
  | n + 1, x1, x2, σ => ((30 < x2 → K50 σ) ∧ (¬ 30 < x2 → (∃ n13, wq_X5_movesTo_l14 Q (fun e7 e8 σ9 => wq_X5_moveOnce σ9 (fun σ11 => ∀ v12, v12 = (e8 + 1) → wq_X5_movesTo_l6 Q K50 n e7 v12 σ11)) n13 x1 x2 0 σ)))
set_option maxRecDepth 100000 in
set_option maxHeartbeats 4000000 in
theorem tq_X5_movesTo_l6 {p : Program} {l : Launch} {e : Env} {s : State} {m : MethodId} {args : Array Value} {below : List Frame} {meth : Method} {c : Code} {D : va_G} {cyI cyZ cyS : ClassId} {ad : Nat → Nat} {Q : Int32 → gq_M → Prop} {K50 : gq_M → Prop} (C : gq_C p s m args meth c cX5_movesTo 4 RX5 wsX5_movesTo D (gc_T cyI cyZ cyS) 84 ad (some .int)) (hK50 : ∀ (τ : gq_M), K50 τ → gq_G p l e rq_X5_movesTo s m args below meth c (gq_Ri below args s D (gc_T cyI cyZ cyS) 84 ad (gc_S cyI cyZ cyS ad) Q) D 84 ad (gc_S cyI cyZ cyS ad) 4 τ 50 [(0, .ref (ad 18))] []) : ∀ (n : Nat) (x1 : Int32) (x2 : Int32) (σ : gq_M), wq_X5_movesTo_l6 Q K50 n x1 x2 σ → gq_G p l e rq_X5_movesTo s m args below meth c (gq_Ri below args s D (gc_T cyI cyZ cyS) 84 ad (gc_S cyI cyZ cyS ad) Q) D 84 ad (gc_S cyI cyZ cyS ad) 4 σ 6 [(0, .ref (ad 18)), (1, .int x1), (2, .int x2)] [] := by
  intro n
  induction n with
  | zero =>
    intro x1 x2 σ h
    exact absurd h (fun q => q)
  | succ n ih =>
    intro x1 x2 σ h
    unfold wq_X5_movesTo_l6 at h
    refine gq_iload_n (j := 2) C dX5_movesTo_6 rfl ?_
    refine gq_bipush (v := 30) C dX5_movesTo_7 (by decide) ?_
    refine gq_icmp_gt (tgt := 50) C dX5_movesTo_9 (by decide) (fun c3 => ?_) (fun c3 => ?_)
    · have h := h.1 c3
      refine gq_sub [0] rfl ?_
      exact hK50  _ h
    · have h := h.2 c3
      refine gq_iconst (v := 0) C dX5_movesTo_12 (by decide) ?_
      refine gq_istore_n (L' := [(0, .ref (ad 18)), (1, .int x1), (2, .int x2), (3, .int 0)]) C [1, 2, 3, 0] dX5_movesTo_13 (by decide) rfl ?_
      obtain ⟨n13, h⟩ := h
      refine tq_X5_movesTo_l14 C (fun e7 e8 σ9 h => ?_) n13 _ _ _ _ h
      refine gq_aload_n (j := 0) C dX5_movesTo_40 rfl ?_
      refine gq_vv (i := 18) C gcs_18 rfl [] (mq_X5_moveOnce C.2.2.1 σ9 _ h) gX5_movesTo_X5_moveOnce rfl rfl dq_X5_moveOnce ⟨rfl, rfl, by decide, by decide⟩ rfl rfl (Nat.le_of_ble_eq_true rfl) dX5_movesTo_41 (fun σ11 h => ?_)
      obtain ⟨v12, qv12⟩ : ∃ y : Int32, y = (e8 + 1) := ⟨_, rfl⟩
      have h := h v12 qv12
      refine gq_iinc (j := 2) (v := v12) (L' := [(0, .ref (ad 18)), (1, .int e7), (2, .int v12)]) C [1, 2, 0] dX5_movesTo_44 rfl (by rw [qv12]; rfl) (by decide) rfl ?_
      refine gq_goto (tgt := 6) C dX5_movesTo_47 (by decide) ?_
      exact ih _ _ _ h
def wq_X5_movesTo (a1 : Int32) (σ : gq_M) (Q : Int32 → gq_M → Prop) : Prop := wq_X5_beginAt σ (fun σ2 => (∃ n15, wq_X5_movesTo_l6 Q (fun σ14 => Q (-9) σ14) n15 a1 0 σ2))
set_option maxRecDepth 100000 in
set_option maxHeartbeats 4000000 in
theorem tq_X5_movesTo {p : Program} {l : Launch} {e : Env} {s : State} {m : MethodId} {args : Array Value} {below : List Frame} {meth : Method} {c : Code} {D : va_G} {cyI cyZ cyS : ClassId} {ad : Nat → Nat} {Q : Int32 → gq_M → Prop} (C : gq_C p s m args meth c cX5_movesTo 4 RX5 wsX5_movesTo D (gc_T cyI cyZ cyS) 84 ad (some .int)) (a1 : Int32) (σ : gq_M) (h : wq_X5_movesTo a1 σ Q) : gq_G p l e rq_X5_movesTo s m args below meth c (gq_Ri below args s D (gc_T cyI cyZ cyS) 84 ad (gc_S cyI cyZ cyS ad) Q) D 84 ad (gc_S cyI cyZ cyS ad) 4 σ 0 [(0, .ref (ad 18)), (1, .int a1)] [] := by
  unfold wq_X5_movesTo at h
  refine gq_aload_n (j := 0) C dX5_movesTo_0 rfl ?_
  refine gq_vv (i := 18) C gcs_18 rfl [] (mq_X5_beginAt C.2.2.1 σ _ h) gX5_movesTo_X5_beginAt rfl rfl dq_X5_beginAt ⟨rfl, rfl, by decide, by decide⟩ rfl rfl (Nat.le_of_ble_eq_true rfl) dX5_movesTo_1 (fun σ2 h => ?_)
  refine gq_iconst (v := 0) C dX5_movesTo_4 (by decide) ?_
  refine gq_istore_n (L' := [(0, .ref (ad 18)), (1, .int a1), (2, .int 0)]) C [1, 2, 0] dX5_movesTo_5 (by decide) rfl ?_
  obtain ⟨n15, h⟩ := h
  refine tq_X5_movesTo_l6 C (fun σ14 h => ?_) n15 _ _ _ h
  refine gq_bipush (v := (-9)) C dX5_movesTo_50 (by decide) ?_
  exact gq_iret C h dX5_movesTo_52
theorem mq_X5_movesTo {l : Launch} {D : va_G} {cyI cyZ cyS : ClassId} {ad : Nat → Nat} (hap : gq_ap 84 ad) (a1 : Int32) (σ : gq_M) (Q : Int32 → gq_M → Prop) (h : wq_X5_movesTo a1 σ Q) : Met l yX5_movesTo wsX5_movesTo rq_X5_movesTo (va_Pc [.ref (ad 18), .int a1] (gq_P D (gc_T cyI cyZ cyS) 84 ad (gc_S cyI cyZ cyS ad) σ)) (va_Qi Q (gq_P D (gc_T cyI cyZ cyS) 84 ad (gc_S cyI cyZ cyS ad)) (gq_A 84 ad)) 0 0 (gq_A 84 ad) :=
  gq_met hap (by decide) rfl rfl (Nat.le_of_ble_eq_true rfl) (fun _ _ _ _ _ _ _ C => tq_X5_movesTo C a1 σ h)
abbrev rq_X6_write : Room := { frames := 1, cells := 0, slots := 0, locals := 21 }
theorem dq_X6_write : gq_dsc yX6_write 1 := by unfold gq_dsc; decide +kernel
theorem iq_X6_write_X6 : ∀ w ∈ u_ws RX6 TX6 13, w ∈ wsX6_write := by decide +kernel
theorem fq_X6_write_12 : Cond.fieldLink RX6 12 (TX6 0).1 (TX6 0).2.1 (TX6 0).2.2.1 ∈ wsX6_write := by decide +kernel
def wq_X6_write (a1 : Int32) (σ : gq_M) (Q : Int32 → gq_M → Prop) : Prop := ((a1 < 0 → Q (-2) σ) ∧ (¬ a1 < 0 → ((a1 ≤ 255 → wq_X3_append a1 σ (fun r3 σ4 => Q r3 σ4)) ∧ (¬ a1 ≤ 255 → Q (-2) σ))))
set_option maxRecDepth 100000 in
set_option maxHeartbeats 4000000 in
theorem tq_X6_write {p : Program} {l : Launch} {e : Env} {s : State} {m : MethodId} {args : Array Value} {below : List Frame} {meth : Method} {c : Code} {D : va_G} {cyI cyZ cyS : ClassId} {ad : Nat → Nat} {Q : Int32 → gq_M → Prop} (C : gq_C p s m args meth c cX6_write 2 RX6 wsX6_write D (gc_T cyI cyZ cyS) 84 ad (some .int)) (a1 : Int32) (σ : gq_M) (h : wq_X6_write a1 σ Q) : gq_G p l e rq_X6_write s m args below meth c (gq_Ri below args s D (gc_T cyI cyZ cyS) 84 ad (gc_S cyI cyZ cyS ad) Q) D 84 ad (gc_S cyI cyZ cyS ad) 2 σ 0 [(0, .ref (ad 0)), (1, .int a1)] [] := by
  unfold wq_X6_write at h
  refine gq_iload_n (j := 1) C dX6_write_0 rfl ?_
  refine gq_if_lt (tgt := 11) C dX6_write_1 (by decide) (fun c1 => ?_) (fun c1 => ?_)
  · have h := h.1 c1
    refine gq_bipush (v := (-2)) C dX6_write_11 (by decide) ?_
    exact gq_iret C h dX6_write_13
  · have h := h.2 c1
    refine gq_iload_n (j := 1) C dX6_write_4 rfl ?_
    refine gq_sipush (v := 255) C dX6_write_5 (by decide) ?_
    refine gq_icmp_le (tgt := 14) C dX6_write_8 (by decide) (fun c2 => ?_) (fun c2 => ?_)
    · have h := h.1 c2
      refine gq_aload_n (j := 0) C dX6_write_14 rfl ?_
      refine gq_get (v := .ref (ad 1)) (i := 0) C gcs_0 rfl iq_X6_write_X6 0 (by decide) fq_X6_write_12 rfl dX6_write_15 ?_
      refine gq_iload_n (j := 1) C dX6_write_18 rfl ?_
      refine gq_vi (i := 1) C gcs_1 rfl [.int a1] (mq_X3_append C.2.2.1 a1 σ _ h) gX6_write_X3_append rfl rfl dq_X3_append ⟨rfl, rfl, by decide, by decide⟩ rfl rfl (Nat.le_of_ble_eq_true rfl) dX6_write_19 (fun r3 σ4 h => ?_)
      exact gq_iret C h dX6_write_22
    · have h := h.2 c2
      refine gq_bipush (v := (-2)) C dX6_write_11 (by decide) ?_
      exact gq_iret C h dX6_write_13
theorem mq_X6_write {l : Launch} {D : va_G} {cyI cyZ cyS : ClassId} {ad : Nat → Nat} (hap : gq_ap 84 ad) (a1 : Int32) (σ : gq_M) (Q : Int32 → gq_M → Prop) (h : wq_X6_write a1 σ Q) : Met l yX6_write wsX6_write rq_X6_write (va_Pc [.ref (ad 0), .int a1] (gq_P D (gc_T cyI cyZ cyS) 84 ad (gc_S cyI cyZ cyS ad) σ)) (va_Qi Q (gq_P D (gc_T cyI cyZ cyS) 84 ad (gc_S cyI cyZ cyS ad)) (gq_A 84 ad)) 0 0 (gq_A 84 ad) :=
  gq_met hap (by decide) rfl rfl (Nat.le_of_ble_eq_true rfl) (fun _ _ _ _ _ _ _ C => tq_X6_write C a1 σ h)
abbrev rq_X6_wipe : Room := { frames := 0, cells := 0, slots := 0, locals := 0 }
theorem dq_X6_wipe : gq_dsc yX6_wipe 0 := by unfold gq_dsc; decide +kernel
theorem iq_X6_wipe_X6 : ∀ w ∈ u_ws RX6 TX6 13, w ∈ wsX6_wipe := by decide +kernel
theorem fq_X6_wipe_12 : Cond.fieldLink RX6 12 (TX6 0).1 (TX6 0).2.1 (TX6 0).2.2.1 ∈ wsX6_wipe := by decide +kernel
theorem iq_X6_wipe_X3 : ∀ w ∈ u_ws RX3 TX3 2, w ∈ wsX6_wipe := by decide +kernel
theorem fq_X6_wipe_78 : Cond.fieldLink RX6 78 (TX3 1).1 (TX3 1).2.1 (TX3 1).2.2.1 ∈ wsX6_wipe := by decide +kernel
def wq_X6_wipe (σ : gq_M) (Q : Int32 → gq_M → Prop) : Prop := ∀ v1, v1 = (σ.1 1 1) → Q v1 (gq_put σ 1 1 0)
set_option maxRecDepth 100000 in
set_option maxHeartbeats 4000000 in
theorem tq_X6_wipe {p : Program} {l : Launch} {e : Env} {s : State} {m : MethodId} {args : Array Value} {below : List Frame} {meth : Method} {c : Code} {D : va_G} {cyI cyZ cyS : ClassId} {ad : Nat → Nat} {Q : Int32 → gq_M → Prop} (C : gq_C p s m args meth c cX6_wipe 2 RX6 wsX6_wipe D (gc_T cyI cyZ cyS) 84 ad (some .int)) (σ : gq_M) (h : wq_X6_wipe σ Q) : gq_G p l e rq_X6_wipe s m args below meth c (gq_Ri below args s D (gc_T cyI cyZ cyS) 84 ad (gc_S cyI cyZ cyS ad) Q) D 84 ad (gc_S cyI cyZ cyS ad) 2 σ 0 [(0, .ref (ad 0))] [] := by
  unfold wq_X6_wipe at h
  refine gq_aload_n (j := 0) C dX6_wipe_0 rfl ?_
  refine gq_get (v := .ref (ad 1)) (i := 0) C gcs_0 rfl iq_X6_wipe_X6 0 (by decide) fq_X6_wipe_12 rfl dX6_wipe_1 ?_
  refine gq_get (v := .int (σ.1 1 1)) (i := 1) C gcs_1 rfl iq_X6_wipe_X3 1 (by decide) fq_X6_wipe_78 rfl dX6_wipe_4 ?_
  refine gq_topi (fun v1 qv1 => ?_)
  have h := h v1 qv1
  refine gq_istore_n (L' := [(0, .ref (ad 0)), (1, .int v1)]) C [1, 0] dX6_wipe_7 (by decide) rfl ?_
  refine gq_aload_n (j := 0) C dX6_wipe_8 rfl ?_
  refine gq_get (v := .ref (ad 1)) (i := 0) C gcs_0 rfl iq_X6_wipe_X6 0 (by decide) fq_X6_wipe_12 rfl dX6_wipe_9 ?_
  refine gq_iconst (v := 0) C dX6_wipe_12 (by decide) ?_
  refine gq_puti (i := 1) C gcs_1 rfl iq_X6_wipe_X3 tyX3 tyX3_ok nmX3 1 (by decide) fq_X6_wipe_78 rfl rfl rfl (fun _ _ => Nat.le_of_ble_eq_true rfl) gs_X3_1 dX6_wipe_13 ?_
  refine gq_iload_n (j := 1) C dX6_wipe_16 rfl ?_
  exact gq_iret C h dX6_wipe_17
theorem mq_X6_wipe {l : Launch} {D : va_G} {cyI cyZ cyS : ClassId} {ad : Nat → Nat} (hap : gq_ap 84 ad) (σ : gq_M) (Q : Int32 → gq_M → Prop) (h : wq_X6_wipe σ Q) : Met l yX6_wipe wsX6_wipe rq_X6_wipe (va_Pc [.ref (ad 0)] (gq_P D (gc_T cyI cyZ cyS) 84 ad (gc_S cyI cyZ cyS ad) σ)) (va_Qi Q (gq_P D (gc_T cyI cyZ cyS) 84 ad (gc_S cyI cyZ cyS ad)) (gq_A 84 ad)) 0 0 (gq_A 84 ad) :=
  gq_met hap (by decide) rfl rfl (Nat.le_of_ble_eq_true rfl) (fun _ _ _ _ _ _ _ C => tq_X6_wipe C σ h)
abbrev rq_X6_fault : Room := { frames := 5, cells := 0, slots := 0, locals := 113 }
theorem dq_X6_fault : gq_dsc yX6_fault 0 := by unfold gq_dsc; decide +kernel
theorem iq_X6_fault_X6 : ∀ w ∈ u_ws RX6 TX6 13, w ∈ wsX6_fault := by decide +kernel
theorem fq_X6_fault_12 : Cond.fieldLink RX6 12 (TX6 0).1 (TX6 0).2.1 (TX6 0).2.2.1 ∈ wsX6_fault := by decide +kernel
theorem fq_X6_fault_19 : Cond.fieldLink RX6 19 (TX6 1).1 (TX6 1).2.1 (TX6 1).2.2.1 ∈ wsX6_fault := by decide +kernel
def wq_X6_fault (σ : gq_M) (Q : Int32 → gq_M → Prop) : Prop := wq_X3_readInto 3 σ (fun r1 σ2 => Q r1 σ2)
set_option maxRecDepth 100000 in
set_option maxHeartbeats 4000000 in
theorem tq_X6_fault {p : Program} {l : Launch} {e : Env} {s : State} {m : MethodId} {args : Array Value} {below : List Frame} {meth : Method} {c : Code} {D : va_G} {cyI cyZ cyS : ClassId} {ad : Nat → Nat} {Q : Int32 → gq_M → Prop} (C : gq_C p s m args meth c cX6_fault 1 RX6 wsX6_fault D (gc_T cyI cyZ cyS) 84 ad (some .int)) (σ : gq_M) (h : wq_X6_fault σ Q) : gq_G p l e rq_X6_fault s m args below meth c (gq_Ri below args s D (gc_T cyI cyZ cyS) 84 ad (gc_S cyI cyZ cyS ad) Q) D 84 ad (gc_S cyI cyZ cyS ad) 1 σ 0 [(0, .ref (ad 0))] [] := by
  unfold wq_X6_fault at h
  refine gq_aload_n (j := 0) C dX6_fault_0 rfl ?_
  refine gq_get (v := .ref (ad 1)) (i := 0) C gcs_0 rfl iq_X6_fault_X6 0 (by decide) fq_X6_fault_12 rfl dX6_fault_1 ?_
  refine gq_aload_n (j := 0) C dX6_fault_4 rfl ?_
  refine gq_get (v := .ref (ad 3)) (i := 0) C gcs_0 rfl iq_X6_fault_X6 1 (by decide) fq_X6_fault_19 rfl dX6_fault_5 ?_
  refine gq_vi (i := 1) C gcs_1 rfl [.ref (ad 3)] (mq_X3_readInto C.2.2.1 gr_3 σ _ h) gX6_fault_X3_readInto rfl rfl dq_X3_readInto ⟨rfl, rfl, by decide, by decide⟩ rfl rfl (Nat.le_of_ble_eq_true rfl) dX6_fault_8 (fun r1 σ2 h => ?_)
  exact gq_iret C h dX6_fault_11
theorem mq_X6_fault {l : Launch} {D : va_G} {cyI cyZ cyS : ClassId} {ad : Nat → Nat} (hap : gq_ap 84 ad) (σ : gq_M) (Q : Int32 → gq_M → Prop) (h : wq_X6_fault σ Q) : Met l yX6_fault wsX6_fault rq_X6_fault (va_Pc [.ref (ad 0)] (gq_P D (gc_T cyI cyZ cyS) 84 ad (gc_S cyI cyZ cyS ad) σ)) (va_Qi Q (gq_P D (gc_T cyI cyZ cyS) 84 ad (gc_S cyI cyZ cyS ad)) (gq_A 84 ad)) 0 0 (gq_A 84 ad) :=
  gq_met hap (by decide) rfl rfl (Nat.le_of_ble_eq_true rfl) (fun _ _ _ _ _ _ _ C => tq_X6_fault C σ h)
