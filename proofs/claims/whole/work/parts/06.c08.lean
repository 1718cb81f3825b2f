/-! ===== walks of X6_tryPair, X6_isAtRest, X6_pairsAtRest, X6_firstPairAtRest, X6_rests, X6_power, X6_icy, X6_seed (by wip/gen) ===== -/
abbrev rq_X6_tryPair : Room := { frames := 5, cells := 0, slots := 0, locals := 119 }
theorem dq_X6_tryPair : gq_dsc yX6_tryPair 3 := by unfold gq_dsc; decide +kernel
theorem iq_X6_tryPair_X6 : ∀ w ∈ u_ws RX6 TX6 13, w ∈ wsX6_tryPair := by decide +kernel
theorem fq_X6_tryPair_35 : Cond.fieldLink RX6 35 (TX6 4).1 (TX6 4).2.1 (TX6 4).2.2.1 ∈ wsX6_tryPair := by decide +kernel
theorem fq_X6_tryPair_31 : Cond.fieldLink RX6 31 (TX6 3).1 (TX6 3).2.1 (TX6 3).2.2.1 ∈ wsX6_tryPair := by decide +kernel
theorem fq_X6_tryPair_67 : Cond.fieldLink RX6 67 (TX6 10).1 (TX6 10).2.1 (TX6 10).2.2.1 ∈ wsX6_tryPair := by decide +kernel
theorem fq_X6_tryPair_71 : Cond.fieldLink RX6 71 (TX6 11).1 (TX6 11).2.1 (TX6 11).2.2.1 ∈ wsX6_tryPair := by decide +kernel
def wq_X6_tryPair_b129 (Q : gq_M → Prop) (x1 : Int32) (x2 : Int32) (s1 : Int32) (s2 : Int32) (σ : gq_M) : Prop := wq_X6_gainOfPlaces x2 x1 σ (fun r11 σ12 => vp_in s1 9 ∧ Q (gq_put σ12 29 s1.toNatClampNeg (s2 + r11)))
set_option maxRecDepth 100000 in
set_option maxHeartbeats 4000000 in
theorem tq_X6_tryPair_b129 {p : Program} {l : Launch} {e : Env} {s : State} {m : MethodId} {args : Array Value} {below : List Frame} {meth : Method} {c : Code} {D : va_G} {cyI cyZ cyS : ClassId} {ad : Nat → Nat} {Q : gq_M → Prop} (C : gq_C p s m args meth c cX6_tryPair 8 RX6 wsX6_tryPair D (gc_T cyI cyZ cyS) 84 ad none) (x1 : Int32) (x2 : Int32) (s1 : Int32) (s2 : Int32) (σ : gq_M) (h : wq_X6_tryPair_b129 Q x1 x2 s1 s2 σ) : gq_G p l e rq_X6_tryPair s m args below meth c (gq_Rv below args s D (gc_T cyI cyZ cyS) 84 ad (gc_S cyI cyZ cyS ad) Q) D 84 ad (gc_S cyI cyZ cyS ad) 8 σ 129 [(0, .ref (ad 0)), (1, .int x1), (2, .int x2)] [.int s2, .int s1, .ref (ad 29)] := by
  unfold wq_X6_tryPair_b129 at h
  refine gq_aload_n (j := 0) C dX6_tryPair_129 rfl ?_
  refine gq_iload_n (j := 2) C dX6_tryPair_130 rfl ?_
  refine gq_iload_n (j := 1) C dX6_tryPair_131 rfl ?_
  refine gq_vi (i := 0) C gcs_0 rfl [.int x2, .int x1] (mq_X6_gainOfPlaces C.2.2.1 x2 x1 σ _ h) gX6_tryPair_X6_gainOfPlaces rfl rfl dq_X6_gainOfPlaces ⟨rfl, rfl, by decide, by decide⟩ rfl rfl (Nat.le_of_ble_eq_true rfl) dX6_tryPair_132 (fun r11 σ12 h => ?_)
  refine gq_iadd C dX6_tryPair_135 ?_
  refine gq_iast (i := 29) (j := s1.toNatClampNeg) C gcs_29 0 rfl rfl h.1 dX6_tryPair_136 ?_
  have h := h.2
  exact gq_vret C h dX6_tryPair_137
def wq_X6_tryPair_b106 (Q : gq_M → Prop) (x1 : Int32) (x2 : Int32) (x3 : Int32) (x7 : Int32) (s1 : Int32) (s2 : Int32) (σ : gq_M) : Prop := wq_X6_gainOfPlaces x1 x2 σ (fun r8 σ9 => vp_in s1 9 ∧ ((x7 = 0 → wq_X6_tryPair_b129 Q x1 x2 x3 0 (gq_put σ9 28 s1.toNatClampNeg (s2 + r8))) ∧ (¬ x7 = 0 → wq_X6_tryPair_b129 Q x1 x2 x3 1 (gq_put σ9 28 s1.toNatClampNeg (s2 + r8)))))
set_option maxRecDepth 100000 in
set_option maxHeartbeats 4000000 in
theorem tq_X6_tryPair_b106 {p : Program} {l : Launch} {e : Env} {s : State} {m : MethodId} {args : Array Value} {below : List Frame} {meth : Method} {c : Code} {D : va_G} {cyI cyZ cyS : ClassId} {ad : Nat → Nat} {Q : gq_M → Prop} (C : gq_C p s m args meth c cX6_tryPair 8 RX6 wsX6_tryPair D (gc_T cyI cyZ cyS) 84 ad none) (x1 : Int32) (x2 : Int32) (x3 : Int32) (x7 : Int32) (s1 : Int32) (s2 : Int32) (σ : gq_M) (h : wq_X6_tryPair_b106 Q x1 x2 x3 x7 s1 s2 σ) : gq_G p l e rq_X6_tryPair s m args below meth c (gq_Rv below args s D (gc_T cyI cyZ cyS) 84 ad (gc_S cyI cyZ cyS ad) Q) D 84 ad (gc_S cyI cyZ cyS ad) 8 σ 106 [(0, .ref (ad 0)), (1, .int x1), (2, .int x2), (3, .int x3), (7, .int x7)] [.int s2, .int s1, .ref (ad 28)] := by
  unfold wq_X6_tryPair_b106 at h
  refine gq_aload_n (j := 0) C dX6_tryPair_106 rfl ?_
  refine gq_iload_n (j := 1) C dX6_tryPair_107 rfl ?_
  refine gq_iload_n (j := 2) C dX6_tryPair_108 rfl ?_
  refine gq_vi (i := 0) C gcs_0 rfl [.int x1, .int x2] (mq_X6_gainOfPlaces C.2.2.1 x1 x2 σ _ h) gX6_tryPair_X6_gainOfPlaces rfl rfl dq_X6_gainOfPlaces ⟨rfl, rfl, by decide, by decide⟩ rfl rfl (Nat.le_of_ble_eq_true rfl) dX6_tryPair_109 (fun r8 σ9 h => ?_)
  refine gq_iadd C dX6_tryPair_112 ?_
  refine gq_iast (i := 28) (j := s1.toNatClampNeg) C gcs_28 0 rfl rfl h.1 dX6_tryPair_113 ?_
  have h := h.2
  refine gq_aload_n (j := 0) C dX6_tryPair_114 rfl ?_
  refine gq_get (v := .ref (ad 29)) (i := 0) C gcs_0 rfl iq_X6_tryPair_X6 11 (by decide) fq_X6_tryPair_71 rfl dX6_tryPair_115 ?_
  refine gq_iload_n (j := 3) C dX6_tryPair_118 rfl ?_
  refine gq_iload (j := 4) C dX6_tryPair_119 rfl ?_
  refine gq_if_eq (tgt := 128) C dX6_tryPair_121 (by decide) (fun c10 => ?_) (fun c10 => ?_)
  · have h := h.1 c10
    refine gq_iconst (v := 0) C dX6_tryPair_128 (by decide) ?_
    refine gq_sub [0, 1, 2] rfl ?_
    exact tq_X6_tryPair_b129 C _ _ _ _ _ h
  · have h := h.2 c10
    refine gq_iconst (v := 1) C dX6_tryPair_124 (by decide) ?_
    refine gq_goto (tgt := 129) C dX6_tryPair_125 (by decide) ?_
    refine gq_sub [0, 1, 2] rfl ?_
    exact tq_X6_tryPair_b129 C _ _ _ _ _ h
def wq_X6_tryPair_b89 (Q : gq_M → Prop) (x1 : Int32) (x2 : Int32) (x3 : Int32) (x6 : Int32) (s0 : Int32) (σ : gq_M) : Prop := ((x6 = 0 → wq_X6_tryPair_b106 Q x1 x2 x3 s0 x3 0 σ) ∧ (¬ x6 = 0 → wq_X6_tryPair_b106 Q x1 x2 x3 s0 x3 1 σ))
set_option maxRecDepth 100000 in
set_option maxHeartbeats 4000000 in
theorem tq_X6_tryPair_b89 {p : Program} {l : Launch} {e : Env} {s : State} {m : MethodId} {args : Array Value} {below : List Frame} {meth : Method} {c : Code} {D : va_G} {cyI cyZ cyS : ClassId} {ad : Nat → Nat} {Q : gq_M → Prop} (C : gq_C p s m args meth c cX6_tryPair 8 RX6 wsX6_tryPair D (gc_T cyI cyZ cyS) 84 ad none) (x1 : Int32) (x2 : Int32) (x3 : Int32) (x6 : Int32) (s0 : Int32) (σ : gq_M) (h : wq_X6_tryPair_b89 Q x1 x2 x3 x6 s0 σ) : gq_G p l e rq_X6_tryPair s m args below meth c (gq_Rv below args s D (gc_T cyI cyZ cyS) 84 ad (gc_S cyI cyZ cyS ad) Q) D 84 ad (gc_S cyI cyZ cyS ad) 8 σ 89 [(0, .ref (ad 0)), (1, .int x1), (2, .int x2), (3, .int x3), (6, .int x6)] [.int s0] := by
  unfold wq_X6_tryPair_b89 at h
  refine gq_istore (L' := [(0, .ref (ad 0)), (1, .int x1), (2, .int x2), (3, .int x3), (6, .int x6), (7, .int s0)]) C [1, 2, 3, 4, 5, 0] dX6_tryPair_89 (by decide) rfl ?_
  refine gq_aload_n (j := 0) C dX6_tryPair_91 rfl ?_
  refine gq_get (v := .ref (ad 28)) (i := 0) C gcs_0 rfl iq_X6_tryPair_X6 10 (by decide) fq_X6_tryPair_67 rfl dX6_tryPair_92 ?_
  refine gq_iload_n (j := 3) C dX6_tryPair_95 rfl ?_
  refine gq_iload (j := 4) C dX6_tryPair_96 rfl ?_
  refine gq_if_eq (tgt := 105) C dX6_tryPair_98 (by decide) (fun c7 => ?_) (fun c7 => ?_)
  · have h := h.1 c7
    refine gq_iconst (v := 0) C dX6_tryPair_105 (by decide) ?_
    refine gq_sub [0, 1, 2, 3, 5] rfl ?_
    exact tq_X6_tryPair_b106 C _ _ _ _ _ _ _ h
  · have h := h.2 c7
    refine gq_iconst (v := 1) C dX6_tryPair_101 (by decide) ?_
    refine gq_goto (tgt := 106) C dX6_tryPair_102 (by decide) ?_
    refine gq_sub [0, 1, 2, 3, 5] rfl ?_
    exact tq_X6_tryPair_b106 C _ _ _ _ _ _ _ h
def wq_X6_tryPair_b78 (Q : gq_M → Prop) (x1 : Int32) (x2 : Int32) (x3 : Int32) (x6 : Int32) (s1 : Int32) (s2 : Int32) (σ : gq_M) : Prop := wq_X4_stepIfItCan 33 s1 s2 σ (fun r14 σ15 => ((r14 = 0 → wq_X6_tryPair_b89 Q x1 x2 x3 x6 0 σ15) ∧ (¬ r14 = 0 → wq_X6_tryPair_b89 Q x1 x2 x3 x6 1 σ15)))
set_option maxRecDepth 100000 in
set_option maxHeartbeats 4000000 in
theorem tq_X6_tryPair_b78 {p : Program} {l : Launch} {e : Env} {s : State} {m : MethodId} {args : Array Value} {below : List Frame} {meth : Method} {c : Code} {D : va_G} {cyI cyZ cyS : ClassId} {ad : Nat → Nat} {Q : gq_M → Prop} (C : gq_C p s m args meth c cX6_tryPair 8 RX6 wsX6_tryPair D (gc_T cyI cyZ cyS) 84 ad none) (x1 : Int32) (x2 : Int32) (x3 : Int32) (x6 : Int32) (s1 : Int32) (s2 : Int32) (σ : gq_M) (h : wq_X6_tryPair_b78 Q x1 x2 x3 x6 s1 s2 σ) : gq_G p l e rq_X6_tryPair s m args below meth c (gq_Rv below args s D (gc_T cyI cyZ cyS) 84 ad (gc_S cyI cyZ cyS ad) Q) D 84 ad (gc_S cyI cyZ cyS ad) 8 σ 78 [(0, .ref (ad 0)), (1, .int x1), (2, .int x2), (3, .int x3), (6, .int x6)] [.int s2, .int s1, .ref (ad 33)] := by
  unfold wq_X6_tryPair_b78 at h
  refine gq_vi (i := 33) C (gcs_X4 gs_33) rfl [.int s1, .int s2] (mq_X4_stepIfItCan C.2.2.1 gs_33 s1 s2 σ _ h) gX6_tryPair_X4_stepIfItCan rfl rfl dq_X4_stepIfItCan ⟨rfl, rfl, by decide, by decide⟩ rfl rfl (Nat.le_of_ble_eq_true rfl) dX6_tryPair_78 (fun r14 σ15 h => ?_)
  refine gq_if_eq (tgt := 88) C dX6_tryPair_81 (by decide) (fun c16 => ?_) (fun c16 => ?_)
  · have h := h.1 c16
    refine gq_iconst (v := 0) C dX6_tryPair_88 (by decide) ?_
    exact tq_X6_tryPair_b89 C _ _ _ _ _ _ h
  · have h := h.2 c16
    refine gq_iconst (v := 1) C dX6_tryPair_84 (by decide) ?_
    refine gq_goto (tgt := 89) C dX6_tryPair_85 (by decide) ?_
    exact tq_X6_tryPair_b89 C _ _ _ _ _ _ h
def wq_X6_tryPair_b54 (Q : gq_M → Prop) (x1 : Int32) (x2 : Int32) (x3 : Int32) (x5 : Int32) (s0 : Int32) (σ : gq_M) : Prop := ((x5 = 2 → wq_X6_tryPair_b89 Q x1 x2 x3 s0 0 σ) ∧ (¬ x5 = 2 → ((¬ x5 = 1 → wq_X6_tryPair_b78 Q x1 x2 x3 s0 x2 0 σ) ∧ (x5 = 1 → wq_X6_tryPair_b78 Q x1 x2 x3 s0 x2 1 σ))))
set_option maxRecDepth 100000 in
set_option maxHeartbeats 4000000 in
theorem tq_X6_tryPair_b54 {p : Program} {l : Launch} {e : Env} {s : State} {m : MethodId} {args : Array Value} {below : List Frame} {meth : Method} {c : Code} {D : va_G} {cyI cyZ cyS : ClassId} {ad : Nat → Nat} {Q : gq_M → Prop} (C : gq_C p s m args meth c cX6_tryPair 8 RX6 wsX6_tryPair D (gc_T cyI cyZ cyS) 84 ad none) (x1 : Int32) (x2 : Int32) (x3 : Int32) (x5 : Int32) (s0 : Int32) (σ : gq_M) (h : wq_X6_tryPair_b54 Q x1 x2 x3 x5 s0 σ) : gq_G p l e rq_X6_tryPair s m args below meth c (gq_Rv below args s D (gc_T cyI cyZ cyS) 84 ad (gc_S cyI cyZ cyS ad) Q) D 84 ad (gc_S cyI cyZ cyS ad) 8 σ 54 [(0, .ref (ad 0)), (1, .int x1), (2, .int x2), (3, .int x3), (5, .int x5)] [.int s0] := by
  unfold wq_X6_tryPair_b54 at h
  refine gq_istore (L' := [(0, .ref (ad 0)), (1, .int x1), (2, .int x2), (3, .int x3), (5, .int x5), (6, .int s0)]) C [1, 2, 3, 4, 5, 0] dX6_tryPair_54 (by decide) rfl ?_
  refine gq_iload (j := 4) C dX6_tryPair_56 rfl ?_
  refine gq_iconst (v := 2) C dX6_tryPair_58 (by decide) ?_
  refine gq_icmp_eq (tgt := 88) C dX6_tryPair_59 (by decide) (fun c6 => ?_) (fun c6 => ?_)
  · have h := h.1 c6
    refine gq_iconst (v := 0) C dX6_tryPair_88 (by decide) ?_
    refine gq_sub [0, 1, 2, 3, 5] rfl ?_
    exact tq_X6_tryPair_b89 C _ _ _ _ _ _ h
  · have h := h.2 c6
    refine gq_aload_n (j := 0) C dX6_tryPair_62 rfl ?_
    refine gq_get (v := .ref (ad 33)) (i := 0) C gcs_0 rfl iq_X6_tryPair_X6 4 (by decide) fq_X6_tryPair_35 rfl dX6_tryPair_63 ?_
    refine gq_iload_n (j := 2) C dX6_tryPair_66 rfl ?_
    refine gq_iload (j := 4) C dX6_tryPair_67 rfl ?_
    refine gq_iconst (v := 1) C dX6_tryPair_69 (by decide) ?_
    refine gq_icmp_ne (tgt := 77) C dX6_tryPair_70 (by decide) (fun c13 => ?_) (fun c13 => ?_)
    · have h := h.1 c13
      refine gq_iconst (v := 0) C dX6_tryPair_77 (by decide) ?_
      refine gq_sub [0, 1, 2, 3, 5] rfl ?_
      exact tq_X6_tryPair_b78 C _ _ _ _ _ _ _ h
    · have h := h.2 c13
      refine gq_iconst (v := 1) C dX6_tryPair_73 (by decide) ?_
      refine gq_goto (tgt := 78) C dX6_tryPair_74 (by decide) ?_
      refine gq_sub [0, 1, 2, 3, 5] rfl ?_
      exact tq_X6_tryPair_b78 C _ _ _ _ _ _ _ h
def wq_X6_tryPair_b43 (Q : gq_M → Prop) (x1 : Int32) (x2 : Int32) (x3 : Int32) (x5 : Int32) (s1 : Int32) (s2 : Int32) (σ : gq_M) : Prop := wq_X4_stepIfItCan 33 s1 s2 σ (fun r18 σ19 => ((r18 = 0 → wq_X6_tryPair_b54 Q x1 x2 x3 x5 0 σ19) ∧ (¬ r18 = 0 → wq_X6_tryPair_b54 Q x1 x2 x3 x5 1 σ19)))
set_option maxRecDepth 100000 in
set_option maxHeartbeats 4000000 in
theorem tq_X6_tryPair_b43 {p : Program} {l : Launch} {e : Env} {s : State} {m : MethodId} {args : Array Value} {below : List Frame} {meth : Method} {c : Code} {D : va_G} {cyI cyZ cyS : ClassId} {ad : Nat → Nat} {Q : gq_M → Prop} (C : gq_C p s m args meth c cX6_tryPair 8 RX6 wsX6_tryPair D (gc_T cyI cyZ cyS) 84 ad none) (x1 : Int32) (x2 : Int32) (x3 : Int32) (x5 : Int32) (s1 : Int32) (s2 : Int32) (σ : gq_M) (h : wq_X6_tryPair_b43 Q x1 x2 x3 x5 s1 s2 σ) : gq_G p l e rq_X6_tryPair s m args below meth c (gq_Rv below args s D (gc_T cyI cyZ cyS) 84 ad (gc_S cyI cyZ cyS ad) Q) D 84 ad (gc_S cyI cyZ cyS ad) 8 σ 43 [(0, .ref (ad 0)), (1, .int x1), (2, .int x2), (3, .int x3), (5, .int x5)] [.int s2, .int s1, .ref (ad 33)] := by
  unfold wq_X6_tryPair_b43 at h
  refine gq_vi (i := 33) C (gcs_X4 gs_33) rfl [.int s1, .int s2] (mq_X4_stepIfItCan C.2.2.1 gs_33 s1 s2 σ _ h) gX6_tryPair_X4_stepIfItCan rfl rfl dq_X4_stepIfItCan ⟨rfl, rfl, by decide, by decide⟩ rfl rfl (Nat.le_of_ble_eq_true rfl) dX6_tryPair_43 (fun r18 σ19 h => ?_)
  refine gq_if_eq (tgt := 53) C dX6_tryPair_46 (by decide) (fun c20 => ?_) (fun c20 => ?_)
  · have h := h.1 c20
    refine gq_iconst (v := 0) C dX6_tryPair_53 (by decide) ?_
    exact tq_X6_tryPair_b54 C _ _ _ _ _ _ h
  · have h := h.2 c20
    refine gq_iconst (v := 1) C dX6_tryPair_49 (by decide) ?_
    refine gq_goto (tgt := 54) C dX6_tryPair_50 (by decide) ?_
    exact tq_X6_tryPair_b54 C _ _ _ _ _ _ h
def wq_X6_tryPair (a1 : Int32) (a2 : Int32) (a3 : Int32) (σ : gq_M) (Q : gq_M → Prop) : Prop := wq_X4_takeFrom 33 30 σ (fun σ2 => ∀ v3, v3 = (a3 / 3) → ∀ v4, v4 = (a3 - a3 / 3 * 3) → ((v3 = 2 → wq_X6_tryPair_b54 Q a1 a2 a3 v4 0 σ2) ∧ (¬ v3 = 2 → ((¬ v3 = 1 → wq_X6_tryPair_b43 Q a1 a2 a3 v4 a1 0 σ2) ∧ (v3 = 1 → wq_X6_tryPair_b43 Q a1 a2 a3 v4 a1 1 σ2)))))
set_option maxRecDepth 100000 in
set_option maxHeartbeats 4000000 in
theorem tq_X6_tryPair {p : Program} {l : Launch} {e : Env} {s : State} {m : MethodId} {args : Array Value} {below : List Frame} {meth : Method} {c : Code} {D : va_G} {cyI cyZ cyS : ClassId} {ad : Nat → Nat} {Q : gq_M → Prop} (C : gq_C p s m args meth c cX6_tryPair 8 RX6 wsX6_tryPair D (gc_T cyI cyZ cyS) 84 ad none) (a1 : Int32) (a2 : Int32) (a3 : Int32) (σ : gq_M) (h : wq_X6_tryPair a1 a2 a3 σ Q) : gq_G p l e rq_X6_tryPair s m args below meth c (gq_Rv below args s D (gc_T cyI cyZ cyS) 84 ad (gc_S cyI cyZ cyS ad) Q) D 84 ad (gc_S cyI cyZ cyS ad) 8 σ 0 [(0, .ref (ad 0)), (1, .int a1), (2, .int a2), (3, .int a3)] [] := by
  unfold wq_X6_tryPair at h
  refine gq_aload_n (j := 0) C dX6_tryPair_0 rfl ?_
  refine gq_get (v := .ref (ad 33)) (i := 0) C gcs_0 rfl iq_X6_tryPair_X6 4 (by decide) fq_X6_tryPair_35 rfl dX6_tryPair_1 ?_
  refine gq_aload_n (j := 0) C dX6_tryPair_4 rfl ?_
  refine gq_get (v := .ref (ad 30)) (i := 0) C gcs_0 rfl iq_X6_tryPair_X6 3 (by decide) fq_X6_tryPair_31 rfl dX6_tryPair_5 ?_
  refine gq_vv (i := 33) C (gcs_X4 gs_33) rfl [.ref (ad 30)] (mq_X4_takeFrom C.2.2.1 gs_33 gs_30 σ _ h) gX6_tryPair_X4_takeFrom rfl rfl dq_X4_takeFrom ⟨rfl, rfl, by decide, by decide⟩ rfl rfl (Nat.le_of_ble_eq_true rfl) dX6_tryPair_8 (fun σ2 h => ?_)
  refine gq_iload_n (j := 3) C dX6_tryPair_11 rfl ?_
  refine gq_iconst (v := 3) C dX6_tryPair_12 (by decide) ?_
  refine gq_idiv C dX6_tryPair_13 (by decide) ?_
  refine gq_topi (fun v3 qv3 => ?_)
  have h := h v3 qv3
  refine gq_istore (L' := [(0, .ref (ad 0)), (1, .int a1), (2, .int a2), (3, .int a3), (4, .int v3)]) C [1, 2, 3, 4, 0] dX6_tryPair_14 (by decide) rfl ?_
  refine gq_iload_n (j := 3) C dX6_tryPair_16 rfl ?_
  refine gq_iconst (v := 3) C dX6_tryPair_17 (by decide) ?_
  refine gq_irem C dX6_tryPair_18 (by decide) ?_
  refine gq_topi (fun v4 qv4 => ?_)
  have h := h v4 qv4
  refine gq_istore (L' := [(0, .ref (ad 0)), (1, .int a1), (2, .int a2), (3, .int a3), (4, .int v3), (5, .int v4)]) C [1, 2, 3, 4, 5, 0] dX6_tryPair_19 (by decide) rfl ?_
  refine gq_iload (j := 4) C dX6_tryPair_21 rfl ?_
  refine gq_iconst (v := 2) C dX6_tryPair_23 (by decide) ?_
  refine gq_icmp_eq (tgt := 53) C dX6_tryPair_24 (by decide) (fun c5 => ?_) (fun c5 => ?_)
  · have h := h.1 c5
    refine gq_iconst (v := 0) C dX6_tryPair_53 (by decide) ?_
    refine gq_sub [0, 1, 2, 3, 5] rfl ?_
    exact tq_X6_tryPair_b54 C _ _ _ _ _ _ h
  · have h := h.2 c5
    refine gq_aload_n (j := 0) C dX6_tryPair_27 rfl ?_
    refine gq_get (v := .ref (ad 33)) (i := 0) C gcs_0 rfl iq_X6_tryPair_X6 4 (by decide) fq_X6_tryPair_35 rfl dX6_tryPair_28 ?_
    refine gq_iload_n (j := 1) C dX6_tryPair_31 rfl ?_
    refine gq_iload (j := 4) C dX6_tryPair_32 rfl ?_
    refine gq_iconst (v := 1) C dX6_tryPair_34 (by decide) ?_
    refine gq_icmp_ne (tgt := 42) C dX6_tryPair_35 (by decide) (fun c17 => ?_) (fun c17 => ?_)
    · have h := h.1 c17
      refine gq_iconst (v := 0) C dX6_tryPair_42 (by decide) ?_
      refine gq_sub [0, 1, 2, 3, 5] rfl ?_
      exact tq_X6_tryPair_b43 C _ _ _ _ _ _ _ h
    · have h := h.2 c17
      refine gq_iconst (v := 1) C dX6_tryPair_38 (by decide) ?_
      refine gq_goto (tgt := 43) C dX6_tryPair_39 (by decide) ?_
      refine gq_sub [0, 1, 2, 3, 5] rfl ?_
      exact tq_X6_tryPair_b43 C _ _ _ _ _ _ _ h
theorem mq_X6_tryPair {l : Launch} {D : va_G} {cyI cyZ cyS : ClassId} {ad : Nat → Nat} (hap : gq_ap 84 ad) (a1 : Int32) (a2 : Int32) (a3 : Int32) (σ : gq_M) (Q : gq_M → Prop) (h : wq_X6_tryPair a1 a2 a3 σ Q) : Met l yX6_tryPair wsX6_tryPair rq_X6_tryPair (va_Pc [.ref (ad 0), .int a1, .int a2, .int a3] (gq_P D (gc_T cyI cyZ cyS) 84 ad (gc_S cyI cyZ cyS ad) σ)) (va_Qv Q (gq_P D (gc_T cyI cyZ cyS) 84 ad (gc_S cyI cyZ cyS ad)) (gq_A 84 ad)) 0 0 (gq_A 84 ad) :=
  gq_met hap (by decide) rfl rfl (Nat.le_of_ble_eq_true rfl) (fun _ _ _ _ _ _ _ C => tq_X6_tryPair C a1 a2 a3 σ h)
abbrev rq_X6_isAtRest : Room := { frames := 0, cells := 0, slots := 0, locals := 0 }
theorem dq_X6_isAtRest : gq_dsc yX6_isAtRest 1 := by unfold gq_dsc; decide +kernel
theorem iq_X6_isAtRest_X6 : ∀ w ∈ u_ws RX6 TX6 13, w ∈ wsX6_isAtRest := by decide +kernel
theorem fq_X6_isAtRest_67 : Cond.fieldLink RX6 67 (TX6 10).1 (TX6 10).2.1 (TX6 10).2.2.1 ∈ wsX6_isAtRest := by decide +kernel
theorem fq_X6_isAtRest_71 : Cond.fieldLink RX6 71 (TX6 11).1 (TX6 11).2.1 (TX6 11).2.2.1 ∈ wsX6_isAtRest := by decide +kernel
def wq_X6_isAtRest_l11 (Q : Int32 → gq_M → Prop) (K65 : gq_M → Prop) : Nat → Int32 → Int32 → Int32 → Int32 → gq_M → Prop
  | 0, _, _, _, _, _ => False
  | n + 1, x1, x2, x3, x4, σ => ((3 ≤ x4 → K65 σ) ∧ (¬ 3 ≤ x4 → vp_in ((x4 * 3) + x3) 9 ∧ vp_in x1 9 ∧ (((σ.1 28 x1.toNatClampNeg) < (σ.1 28 (((x4 * 3) + x3)).toNatClampNeg) → Q 0 σ) ∧ (¬ (σ.1 28 x1.toNatClampNeg) < (σ.1 28 (((x4 * 3) + x3)).toNatClampNeg) → vp_in ((x2 * 3) + x4) 9 ∧ vp_in x1 9 ∧ (((σ.1 29 (((x2 * 3) + x4)).toNatClampNeg) ≤ (σ.1 29 x1.toNatClampNeg) → ∀ v6, v6 = (x4 + 1) → wq_X6_isAtRest_l11 Q K65 n x1 x2 x3 v6 σ) ∧ (¬ (σ.1 29 (((x2 * 3) + x4)).toNatClampNeg) ≤ (σ.1 29 x1.toNatClampNeg) → Q 0 σ))))))
set_option maxRecDepth 100000 in
set_option maxHeartbeats 4000000 in
theorem tq_X6_isAtRest_l11 {p : Program} {l : Launch} {e : Env} {s : State} {m : MethodId} {args : Array Value} {below : List Frame} {meth : Method} {c : Code} {D : va_G} {cyI cyZ cyS : ClassId} {ad : Nat → Nat} {Q : Int32 → gq_M → Prop} {K65 : gq_M → Prop} (C : gq_C p s m args meth c cX6_isAtRest 5 RX6 wsX6_isAtRest D (gc_T cyI cyZ cyS) 84 ad (some .boolean)) (hK65 : ∀ (τ : gq_M), K65 τ → gq_G p l e rq_X6_isAtRest s m args below meth c (gq_Ri below args s D (gc_T cyI cyZ cyS) 84 ad (gc_S cyI cyZ cyS ad) Q) D 84 ad (gc_S cyI cyZ cyS ad) 5 τ 65 [(0, .ref (ad 0))] []) : ∀ (n : Nat) (x1 : Int32) (x2 : Int32) (x3 : Int32) (x4 : Int32) (σ : gq_M), wq_X6_isAtRest_l11 Q K65 n x1 x2 x3 x4 σ → gq_G p l e rq_X6_isAtRest s m args below meth c (gq_Ri below args s D (gc_T cyI cyZ cyS) 84 ad (gc_S cyI cyZ cyS ad) Q) D 84 ad (gc_S cyI cyZ cyS ad) 5 σ 11 [(0, .ref (ad 0)), (1, .int x1), (2, .int x2), (3, .int x3), (4, .int x4)] [] := by
  intro n
  induction n with
  | zero =>
    intro x1 x2 x3 x4 σ h
    exact absurd h (fun q => q)
  | succ n ih =>
    intro x1 x2 x3 x4 σ h
    unfold wq_X6_isAtRest_l11 at h
    refine gq_iload (j := 4) C dX6_isAtRest_11 rfl ?_
    refine gq_iconst (v := 3) C dX6_isAtRest_13 (by decide) ?_
    refine gq_icmp_ge (tgt := 65) C dX6_isAtRest_14 (by decide) (fun c3 => ?_) (fun c3 => ?_)
    · have h := h.1 c3
      refine gq_sub [0] rfl ?_
      exact hK65  _ h
    · have h := h.2 c3
      refine gq_aload_n (j := 0) C dX6_isAtRest_17 rfl ?_
      refine gq_get (v := .ref (ad 28)) (i := 0) C gcs_0 rfl iq_X6_isAtRest_X6 10 (by decide) fq_X6_isAtRest_67 rfl dX6_isAtRest_18 ?_
      refine gq_iload (j := 4) C dX6_isAtRest_21 rfl ?_
      refine gq_iconst (v := 3) C dX6_isAtRest_23 (by decide) ?_
      refine gq_imul C dX6_isAtRest_24 ?_
      refine gq_iload_n (j := 3) C dX6_isAtRest_25 rfl ?_
      refine gq_iadd C dX6_isAtRest_26 ?_
      refine gq_iald (i := 28) (j := (((x4 * 3) + x3)).toNatClampNeg) C gcs_28 0 rfl rfl h.1 dX6_isAtRest_27 ?_
      have h := h.2
      refine gq_aload_n (j := 0) C dX6_isAtRest_28 rfl ?_
      refine gq_get (v := .ref (ad 28)) (i := 0) C gcs_0 rfl iq_X6_isAtRest_X6 10 (by decide) fq_X6_isAtRest_67 rfl dX6_isAtRest_29 ?_
      refine gq_iload_n (j := 1) C dX6_isAtRest_32 rfl ?_
      refine gq_iald (i := 28) (j := x1.toNatClampNeg) C gcs_28 0 rfl rfl h.1 dX6_isAtRest_33 ?_
      have h := h.2
      refine gq_icmp_gt (tgt := 57) C dX6_isAtRest_34 (by decide) (fun c4 => ?_) (fun c4 => ?_)
      · have h := h.1 c4
        refine gq_iconst (v := 0) C dX6_isAtRest_57 (by decide) ?_
        exact gq_zret C (Or.inl rfl) h dX6_isAtRest_58
      · have h := h.2 c4
        refine gq_aload_n (j := 0) C dX6_isAtRest_37 rfl ?_
        refine gq_get (v := .ref (ad 29)) (i := 0) C gcs_0 rfl iq_X6_isAtRest_X6 11 (by decide) fq_X6_isAtRest_71 rfl dX6_isAtRest_38 ?_
        refine gq_iload_n (j := 2) C dX6_isAtRest_41 rfl ?_
        refine gq_iconst (v := 3) C dX6_isAtRest_42 (by decide) ?_
        refine gq_imul C dX6_isAtRest_43 ?_
        refine gq_iload (j := 4) C dX6_isAtRest_44 rfl ?_
        refine gq_iadd C dX6_isAtRest_46 ?_
        refine gq_iald (i := 29) (j := (((x2 * 3) + x4)).toNatClampNeg) C gcs_29 0 rfl rfl h.1 dX6_isAtRest_47 ?_
        have h := h.2
        refine gq_aload_n (j := 0) C dX6_isAtRest_48 rfl ?_
        refine gq_get (v := .ref (ad 29)) (i := 0) C gcs_0 rfl iq_X6_isAtRest_X6 11 (by decide) fq_X6_isAtRest_71 rfl dX6_isAtRest_49 ?_
        refine gq_iload_n (j := 1) C dX6_isAtRest_52 rfl ?_
        refine gq_iald (i := 29) (j := x1.toNatClampNeg) C gcs_29 0 rfl rfl h.1 dX6_isAtRest_53 ?_
        have h := h.2
        refine gq_icmp_le (tgt := 59) C dX6_isAtRest_54 (by decide) (fun c5 => ?_) (fun c5 => ?_)
        · have h := h.1 c5
          obtain ⟨v6, qv6⟩ : ∃ y : Int32, y = (x4 + 1) := ⟨_, rfl⟩
          have h := h v6 qv6
          refine gq_iinc (j := 4) (v := v6) (L' := [(0, .ref (ad 0)), (1, .int x1), (2, .int x2), (3, .int x3), (4, .int v6)]) C [1, 2, 3, 4, 0] dX6_isAtRest_59 rfl (by rw [qv6]; rfl) (by decide) rfl ?_
          refine gq_goto (tgt := 11) C dX6_isAtRest_62 (by decide) ?_
          exact ih _ _ _ _ _ h
        · have h := h.2 c5
          refine gq_iconst (v := 0) C dX6_isAtRest_57 (by decide) ?_
          exact gq_zret C (Or.inl rfl) h dX6_isAtRest_58
def wq_X6_isAtRest (a1 : Int32) (σ : gq_M) (Q : Int32 → gq_M → Prop) : Prop := ∀ v1, v1 = (a1 / 3) → ∀ v2, v2 = (a1 - a1 / 3 * 3) → (∃ n8, wq_X6_isAtRest_l11 Q (fun σ7 => Q 1 σ7) n8 a1 v1 v2 0 σ)
set_option maxRecDepth 100000 in
set_option maxHeartbeats 4000000 in
theorem tq_X6_isAtRest {p : Program} {l : Launch} {e : Env} {s : State} {m : MethodId} {args : Array Value} {below : List Frame} {meth : Method} {c : Code} {D : va_G} {cyI cyZ cyS : ClassId} {ad : Nat → Nat} {Q : Int32 → gq_M → Prop} (C : gq_C p s m args meth c cX6_isAtRest 5 RX6 wsX6_isAtRest D (gc_T cyI cyZ cyS) 84 ad (some .boolean)) (a1 : Int32) (σ : gq_M) (h : wq_X6_isAtRest a1 σ Q) : gq_G p l e rq_X6_isAtRest s m args below meth c (gq_Ri below args s D (gc_T cyI cyZ cyS) 84 ad (gc_S cyI cyZ cyS ad) Q) D 84 ad (gc_S cyI cyZ cyS ad) 5 σ 0 [(0, .ref (ad 0)), (1, .int a1)] [] := by
  unfold wq_X6_isAtRest at h
  refine gq_iload_n (j := 1) C dX6_isAtRest_0 rfl ?_
  refine gq_iconst (v := 3) C dX6_isAtRest_1 (by decide) ?_
  refine gq_idiv C dX6_isAtRest_2 (by decide) ?_
  refine gq_topi (fun v1 qv1 => ?_)
  have h := h v1 qv1
  refine gq_istore_n (L' := [(0, .ref (ad 0)), (1, .int a1), (2, .int v1)]) C [1, 2, 0] dX6_isAtRest_3 (by decide) rfl ?_
  refine gq_iload_n (j := 1) C dX6_isAtRest_4 rfl ?_
  refine gq_iconst (v := 3) C dX6_isAtRest_5 (by decide) ?_
  refine gq_irem C dX6_isAtRest_6 (by decide) ?_
  refine gq_topi (fun v2 qv2 => ?_)
  have h := h v2 qv2
  refine gq_istore_n (L' := [(0, .ref (ad 0)), (1, .int a1), (2, .int v1), (3, .int v2)]) C [1, 2, 3, 0] dX6_isAtRest_7 (by decide) rfl ?_
  refine gq_iconst (v := 0) C dX6_isAtRest_8 (by decide) ?_
  refine gq_istore (L' := [(0, .ref (ad 0)), (1, .int a1), (2, .int v1), (3, .int v2), (4, .int 0)]) C [1, 2, 3, 4, 0] dX6_isAtRest_9 (by decide) rfl ?_
  obtain ⟨n8, h⟩ := h
  refine tq_X6_isAtRest_l11 C (fun σ7 h => ?_) n8 _ _ _ _ _ h
  refine gq_iconst (v := 1) C dX6_isAtRest_65 (by decide) ?_
  exact gq_zret C (Or.inr rfl) h dX6_isAtRest_66
theorem mq_X6_isAtRest {l : Launch} {D : va_G} {cyI cyZ cyS : ClassId} {ad : Nat → Nat} (hap : gq_ap 84 ad) (a1 : Int32) (σ : gq_M) (Q : Int32 → gq_M → Prop) (h : wq_X6_isAtRest a1 σ Q) : Met l yX6_isAtRest wsX6_isAtRest rq_X6_isAtRest (va_Pc [.ref (ad 0), .int a1] (gq_P D (gc_T cyI cyZ cyS) 84 ad (gc_S cyI cyZ cyS ad) σ)) (va_Qi Q (gq_P D (gc_T cyI cyZ cyS) 84 ad (gc_S cyI cyZ cyS ad)) (gq_A 84 ad)) 0 0 (gq_A 84 ad) :=
  gq_met hap (by decide) rfl rfl (Nat.le_of_ble_eq_true rfl) (fun _ _ _ _ _ _ _ C => tq_X6_isAtRest C a1 σ h)
abbrev rq_X6_pairsAtRest : Room := { frames := 1, cells := 0, slots := 0, locals := 24 }
theorem dq_X6_pairsAtRest : gq_dsc yX6_pairsAtRest 0 := by unfold gq_dsc; decide +kernel
def wq_X6_pairsAtRest_b24 (Q : Int32 → gq_M → Prop) (K4 : Int32 → Int32 → gq_M → Prop) (x2 : Int32) (s0 : Int32) (s1 : Int32) (σ : gq_M) : Prop := ∀ v5, v5 = (s0 + s1) → ∀ v6, v6 = (x2 + 1) → K4 v5 v6 σ
set_option maxRecDepth 100000 in
set_option maxHeartbeats 4000000 in
theorem tq_X6_pairsAtRest_b24 {p : Program} {l : Launch} {e : Env} {s : State} {m : MethodId} {args : Array Value} {below : List Frame} {meth : Method} {c : Code} {D : va_G} {cyI cyZ cyS : ClassId} {ad : Nat → Nat} {Q : Int32 → gq_M → Prop} {K4 : Int32 → Int32 → gq_M → Prop} (C : gq_C p s m args meth c cX6_pairsAtRest 3 RX6 wsX6_pairsAtRest D (gc_T cyI cyZ cyS) 84 ad (some .int)) (hK4 : ∀ (y1 : Int32) (y2 : Int32) (τ : gq_M), K4 y1 y2 τ → gq_G p l e rq_X6_pairsAtRest s m args below meth c (gq_Ri below args s D (gc_T cyI cyZ cyS) 84 ad (gc_S cyI cyZ cyS ad) Q) D 84 ad (gc_S cyI cyZ cyS ad) 3 τ 4 [(0, .ref (ad 0)), (1, .int y1), (2, .int y2)] []) (x2 : Int32) (s0 : Int32) (s1 : Int32) (σ : gq_M) (h : wq_X6_pairsAtRest_b24 Q K4 x2 s0 s1 σ) : gq_G p l e rq_X6_pairsAtRest s m args below meth c (gq_Ri below args s D (gc_T cyI cyZ cyS) 84 ad (gc_S cyI cyZ cyS ad) Q) D 84 ad (gc_S cyI cyZ cyS ad) 3 σ 24 [(0, .ref (ad 0)), (2, .int x2)] [.int s1, .int s0] := by
  unfold wq_X6_pairsAtRest_b24 at h
  refine gq_iadd C dX6_pairsAtRest_24 ?_
  refine gq_topi (fun v5 qv5 => ?_)
  have h := h v5 qv5
  refine gq_istore_n (L' := [(0, .ref (ad 0)), (1, .int v5), (2, .int x2)]) C [1, 0, 2] dX6_pairsAtRest_25 (by decide) rfl ?_
  obtain ⟨v6, qv6⟩ : ∃ y : Int32, y = (x2 + 1) := ⟨_, rfl⟩
  have h := h v6 qv6
  refine gq_iinc (j := 2) (v := v6) (L' := [(0, .ref (ad 0)), (1, .int v5), (2, .int v6)]) C [1, 2, 0] dX6_pairsAtRest_26 rfl (by rw [qv6]; rfl) (by decide) rfl ?_
  refine gq_goto (tgt := 4) C dX6_pairsAtRest_29 (by decide) ?_
  exact hK4 _ _ _ h
def wq_X6_pairsAtRest_l4 (Q : Int32 → gq_M → Prop) (K32 : Int32 → gq_M → Prop) : Nat → Int32 → Int32 → gq_M → Prop
  | 0, _, _, _ => False
  | n + 1, x1, x2, σ => ((9 ≤ x2 → K32 x1 σ) ∧ (¬ 9 ≤ x2 → wq_X6_isAtRest x2 σ (fun r2 σ3 => ((r2 = 0 → wq_X6_pairsAtRest_b24 Q (wq_X6_pairsAtRest_l4 Q K32 n) x2 x1 0 σ3) ∧ (¬ r2 = 0 → wq_X6_pairsAtRest_b24 Q (wq_X6_pairsAtRest_l4 Q K32 n) x2 x1 1 σ3)))))
set_option maxRecDepth 100000 in
set_option maxHeartbeats 4000000 in
theorem tq_X6_pairsAtRest_l4 {p : Program} {l : Launch} {e : Env} {s : State} {m : MethodId} {args : Array Value} {below : List Frame} {meth : Method} {c : Code} {D : va_G} {cyI cyZ cyS : ClassId} {ad : Nat → Nat} {Q : Int32 → gq_M → Prop} {K32 : Int32 → gq_M → Prop} (C : gq_C p s m args meth c cX6_pairsAtRest 3 RX6 wsX6_pairsAtRest D (gc_T cyI cyZ cyS) 84 ad (some .int)) (hK32 : ∀ (y1 : Int32) (τ : gq_M), K32 y1 τ → gq_G p l e rq_X6_pairsAtRest s m args below meth c (gq_Ri below args s D (gc_T cyI cyZ cyS) 84 ad (gc_S cyI cyZ cyS ad) Q) D 84 ad (gc_S cyI cyZ cyS ad) 3 τ 32 [(0, .ref (ad 0)), (1, .int y1)] []) : ∀ (n : Nat) (x1 : Int32) (x2 : Int32) (σ : gq_M), wq_X6_pairsAtRest_l4 Q K32 n x1 x2 σ → gq_G p l e rq_X6_pairsAtRest s m args below meth c (gq_Ri below args s D (gc_T cyI cyZ cyS) 84 ad (gc_S cyI cyZ cyS ad) Q) D 84 ad (gc_S cyI cyZ cyS ad) 3 σ 4 [(0, .ref (ad 0)), (1, .int x1), (2, .int x2)] [] := by
  intro n
  induction n with
  | zero =>
    intro x1 x2 σ h
    exact absurd h (fun q => q)
  | succ n ih =>
    intro x1 x2 σ h
    unfold wq_X6_pairsAtRest_l4 at h
    refine gq_iload_n (j := 2) C dX6_pairsAtRest_4 rfl ?_
    refine gq_bipush (v := 9) C dX6_pairsAtRest_5 (by decide) ?_
    refine gq_icmp_ge (tgt := 32) C dX6_pairsAtRest_7 (by decide) (fun c1 => ?_) (fun c1 => ?_)
    · have h := h.1 c1
      refine gq_sub [0, 1] rfl ?_
      exact hK32 _ _ h
    · have h := h.2 c1
      refine gq_iload_n (j := 1) C dX6_pairsAtRest_10 rfl ?_
      refine gq_aload_n (j := 0) C dX6_pairsAtRest_11 rfl ?_
      refine gq_iload_n (j := 2) C dX6_pairsAtRest_12 rfl ?_
      refine gq_vi (i := 0) C gcs_0 rfl [.int x2] (mq_X6_isAtRest C.2.2.1 x2 σ _ h) gX6_pairsAtRest_X6_isAtRest rfl rfl dq_X6_isAtRest ⟨rfl, rfl, by decide, by decide⟩ rfl rfl (Nat.le_of_ble_eq_true rfl) dX6_pairsAtRest_13 (fun r2 σ3 h => ?_)
      refine gq_if_eq (tgt := 23) C dX6_pairsAtRest_16 (by decide) (fun c4 => ?_) (fun c4 => ?_)
      · have h := h.1 c4
        refine gq_iconst (v := 0) C dX6_pairsAtRest_23 (by decide) ?_
        refine gq_sub [0, 2] rfl ?_
        exact tq_X6_pairsAtRest_b24 C (ih) _ _ _ _ h
      · have h := h.2 c4
        refine gq_iconst (v := 1) C dX6_pairsAtRest_19 (by decide) ?_
        refine gq_goto (tgt := 24) C dX6_pairsAtRest_20 (by decide) ?_
        refine gq_sub [0, 2] rfl ?_
        exact tq_X6_pairsAtRest_b24 C (ih) _ _ _ _ h
def wq_X6_pairsAtRest (σ : gq_M) (Q : Int32 → gq_M → Prop) : Prop := (∃ n9, wq_X6_pairsAtRest_l4 Q (fun e7 σ8 => Q e7 σ8) n9 0 0 σ)
set_option maxRecDepth 100000 in
set_option maxHeartbeats 4000000 in
theorem tq_X6_pairsAtRest {p : Program} {l : Launch} {e : Env} {s : State} {m : MethodId} {args : Array Value} {below : List Frame} {meth : Method} {c : Code} {D : va_G} {cyI cyZ cyS : ClassId} {ad : Nat → Nat} {Q : Int32 → gq_M → Prop} (C : gq_C p s m args meth c cX6_pairsAtRest 3 RX6 wsX6_pairsAtRest D (gc_T cyI cyZ cyS) 84 ad (some .int)) (σ : gq_M) (h : wq_X6_pairsAtRest σ Q) : gq_G p l e rq_X6_pairsAtRest s m args below meth c (gq_Ri below args s D (gc_T cyI cyZ cyS) 84 ad (gc_S cyI cyZ cyS ad) Q) D 84 ad (gc_S cyI cyZ cyS ad) 3 σ 0 [(0, .ref (ad 0))] [] := by
  unfold wq_X6_pairsAtRest at h
  refine gq_iconst (v := 0) C dX6_pairsAtRest_0 (by decide) ?_
  refine gq_istore_n (L' := [(0, .ref (ad 0)), (1, .int 0)]) C [1, 0] dX6_pairsAtRest_1 (by decide) rfl ?_
  refine gq_iconst (v := 0) C dX6_pairsAtRest_2 (by decide) ?_
  refine gq_istore_n (L' := [(0, .ref (ad 0)), (1, .int 0), (2, .int 0)]) C [1, 2, 0] dX6_pairsAtRest_3 (by decide) rfl ?_
  obtain ⟨n9, h⟩ := h
  refine tq_X6_pairsAtRest_l4 C (fun e7 σ8 h => ?_) n9 _ _ _ h
  refine gq_iload_n (j := 1) C dX6_pairsAtRest_32 rfl ?_
  exact gq_iret C h dX6_pairsAtRest_33
theorem mq_X6_pairsAtRest {l : Launch} {D : va_G} {cyI cyZ cyS : ClassId} {ad : Nat → Nat} (hap : gq_ap 84 ad) (σ : gq_M) (Q : Int32 → gq_M → Prop) (h : wq_X6_pairsAtRest σ Q) : Met l yX6_pairsAtRest wsX6_pairsAtRest rq_X6_pairsAtRest (va_Pc [.ref (ad 0)] (gq_P D (gc_T cyI cyZ cyS) 84 ad (gc_S cyI cyZ cyS ad) σ)) (va_Qi Q (gq_P D (gc_T cyI cyZ cyS) 84 ad (gc_S cyI cyZ cyS ad)) (gq_A 84 ad)) 0 0 (gq_A 84 ad) :=
  gq_met hap (by decide) rfl rfl (Nat.le_of_ble_eq_true rfl) (fun _ _ _ _ _ _ _ C => tq_X6_pairsAtRest C σ h)
abbrev rq_X6_firstPairAtRest : Room := { frames := 1, cells := 0, slots := 0, locals := 24 }
theorem dq_X6_firstPairAtRest : gq_dsc yX6_firstPairAtRest 0 := by unfold gq_dsc; decide +kernel
def wq_X6_firstPairAtRest_l2 (Q : Int32 → gq_M → Prop) (K33 : gq_M → Prop) : Nat → Int32 → gq_M → Prop
  | 0, _, _ => False
  | n + 1, x1, σ => ((9 ≤ x1 → K33 σ) ∧ (¬ 9 ≤ x1 → wq_X6_isAtRest x1 σ (fun r2 σ3 => ((r2 = 0 → ∀ v5, v5 = (x1 + 1) → wq_X6_firstPairAtRest_l2 Q K33 n v5 σ3) ∧ (¬ r2 = 0 → Q ((10 * (x1 / 3)) + (x1 - x1 / 3 * 3)) σ3)))))
set_option maxRecDepth 100000 in
set_option maxHeartbeats 4000000 in
theorem tq_X6_firstPairAtRest_l2 {p : Program} {l : Launch} {e : Env} {s : State} {m : MethodId} {args : Array Value} {below : List Frame} {meth : Method} {c : Code} {D : va_G} {cyI cyZ cyS : ClassId} {ad : Nat → Nat} {Q : Int32 → gq_M → Prop} {K33 : gq_M → Prop} (C : gq_C p s m args meth c cX6_firstPairAtRest 2 RX6 wsX6_firstPairAtRest D (gc_T cyI cyZ cyS) 84 ad (some .int)) (hK33 : ∀ (τ : gq_M), K33 τ → gq_G p l e rq_X6_firstPairAtRest s m args below meth c (gq_Ri below args s D (gc_T cyI cyZ cyS) 84 ad (gc_S cyI cyZ cyS ad) Q) D 84 ad (gc_S cyI cyZ cyS ad) 2 τ 33 [(0, .ref (ad 0))] []) : ∀ (n : Nat) (x1 : Int32) (σ : gq_M), wq_X6_firstPairAtRest_l2 Q K33 n x1 σ → gq_G p l e rq_X6_firstPairAtRest s m args below meth c (gq_Ri below args s D (gc_T cyI cyZ cyS) 84 ad (gc_S cyI cyZ cyS ad) Q) D 84 ad (gc_S cyI cyZ cyS ad) 2 σ 2 [(0, .ref (ad 0)), (1, .int x1)] [] := by
  intro n
  induction n with
  | zero =>
    intro x1 σ h
    exact absurd h (fun q => q)
  | succ n ih =>
    intro x1 σ h
    unfold wq_X6_firstPairAtRest_l2 at h
    refine gq_iload_n (j := 1) C dX6_firstPairAtRest_2 rfl ?_
    refine gq_bipush (v := 9) C dX6_firstPairAtRest_3 (by decide) ?_
    refine gq_icmp_ge (tgt := 33) C dX6_firstPairAtRest_5 (by decide) (fun c1 => ?_) (fun c1 => ?_)
    · have h := h.1 c1
      refine gq_sub [0] rfl ?_
      exact hK33  _ h
    · have h := h.2 c1
      refine gq_aload_n (j := 0) C dX6_firstPairAtRest_8 rfl ?_
      refine gq_iload_n (j := 1) C dX6_firstPairAtRest_9 rfl ?_
      refine gq_vi (i := 0) C gcs_0 rfl [.int x1] (mq_X6_isAtRest C.2.2.1 x1 σ _ h) gX6_firstPairAtRest_X6_isAtRest rfl rfl dq_X6_isAtRest ⟨rfl, rfl, by decide, by decide⟩ rfl rfl (Nat.le_of_ble_eq_true rfl) dX6_firstPairAtRest_10 (fun r2 σ3 h => ?_)
      refine gq_if_eq (tgt := 27) C dX6_firstPairAtRest_13 (by decide) (fun c4 => ?_) (fun c4 => ?_)
      · have h := h.1 c4
        obtain ⟨v5, qv5⟩ : ∃ y : Int32, y = (x1 + 1) := ⟨_, rfl⟩
        have h := h v5 qv5
        refine gq_iinc (j := 1) (v := v5) (L' := [(0, .ref (ad 0)), (1, .int v5)]) C [1, 0] dX6_firstPairAtRest_27 rfl (by rw [qv5]; rfl) (by decide) rfl ?_
        refine gq_goto (tgt := 2) C dX6_firstPairAtRest_30 (by decide) ?_
        exact ih _ _ h
      · have h := h.2 c4
        refine gq_bipush (v := 10) C dX6_firstPairAtRest_16 (by decide) ?_
        refine gq_iload_n (j := 1) C dX6_firstPairAtRest_18 rfl ?_
        refine gq_iconst (v := 3) C dX6_firstPairAtRest_19 (by decide) ?_
        refine gq_idiv C dX6_firstPairAtRest_20 (by decide) ?_
        refine gq_imul C dX6_firstPairAtRest_21 ?_
        refine gq_iload_n (j := 1) C dX6_firstPairAtRest_22 rfl ?_
        refine gq_iconst (v := 3) C dX6_firstPairAtRest_23 (by decide) ?_
        refine gq_irem C dX6_firstPairAtRest_24 (by decide) ?_
        refine gq_iadd C dX6_firstPairAtRest_25 ?_
        exact gq_iret C h dX6_firstPairAtRest_26
def wq_X6_firstPairAtRest (σ : gq_M) (Q : Int32 → gq_M → Prop) : Prop := (∃ n7, wq_X6_firstPairAtRest_l2 Q (fun σ6 => Q (-9) σ6) n7 0 σ)
set_option maxRecDepth 100000 in
set_option maxHeartbeats 4000000 in
theorem tq_X6_firstPairAtRest {p : Program} {l : Launch} {e : Env} {s : State} {m : MethodId} {args : Array Value} {below : List Frame} {meth : Method} {c : Code} {D : va_G} {cyI cyZ cyS : ClassId} {ad : Nat → Nat} {Q : Int32 → gq_M → Prop} (C : gq_C p s m args meth c cX6_firstPairAtRest 2 RX6 wsX6_firstPairAtRest D (gc_T cyI cyZ cyS) 84 ad (some .int)) (σ : gq_M) (h : wq_X6_firstPairAtRest σ Q) : gq_G p l e rq_X6_firstPairAtRest s m args below meth c (gq_Ri below args s D (gc_T cyI cyZ cyS) 84 ad (gc_S cyI cyZ cyS ad) Q) D 84 ad (gc_S cyI cyZ cyS ad) 2 σ 0 [(0, .ref (ad 0))] [] := by
  unfold wq_X6_firstPairAtRest at h
  refine gq_iconst (v := 0) C dX6_firstPairAtRest_0 (by decide) ?_
  refine gq_istore_n (L' := [(0, .ref (ad 0)), (1, .int 0)]) C [1, 0] dX6_firstPairAtRest_1 (by decide) rfl ?_
  obtain ⟨n7, h⟩ := h
  refine tq_X6_firstPairAtRest_l2 C (fun σ6 h => ?_) n7 _ _ h
  refine gq_bipush (v := (-9)) C dX6_firstPairAtRest_33 (by decide) ?_
  exact gq_iret C h dX6_firstPairAtRest_35
theorem mq_X6_firstPairAtRest {l : Launch} {D : va_G} {cyI cyZ cyS : ClassId} {ad : Nat → Nat} (hap : gq_ap 84 ad) (σ : gq_M) (Q : Int32 → gq_M → Prop) (h : wq_X6_firstPairAtRest σ Q) : Met l yX6_firstPairAtRest wsX6_firstPairAtRest rq_X6_firstPairAtRest (va_Pc [.ref (ad 0)] (gq_P D (gc_T cyI cyZ cyS) 84 ad (gc_S cyI cyZ cyS ad) σ)) (va_Qi Q (gq_P D (gc_T cyI cyZ cyS) 84 ad (gc_S cyI cyZ cyS ad)) (gq_A 84 ad)) 0 0 (gq_A 84 ad) :=
  gq_met hap (by decide) rfl rfl (Nat.le_of_ble_eq_true rfl) (fun _ _ _ _ _ _ _ C => tq_X6_firstPairAtRest C σ h)
abbrev rq_X6_rests : Room := { frames := 6, cells := 0, slots := 0, locals := 146 }
theorem dq_X6_rests : gq_dsc yX6_rests 3 := by unfold gq_dsc; decide +kernel
theorem iq_X6_rests_X6 : ∀ w ∈ u_ws RX6 TX6 13, w ∈ wsX6_rests := by decide +kernel
theorem fq_X6_rests_23 : Cond.fieldLink RX6 23 (TX6 2).1 (TX6 2).2.1 (TX6 2).2.2.1 ∈ wsX6_rests := by decide +kernel
def wq_X6_rests_l44 (Q : Int32 → gq_M → Prop) (K65 : Int32 → gq_M → Prop) : Nat → Int32 → Int32 → Int32 → Int32 → gq_M → Prop
  | 0, _, _, _, _, _ => False
  | n + 1, x1, x2, x3, x4, σ => ((9 ≤ x4 → K65 x3 σ) ∧ (¬ 9 ≤ x4 → wq_X6_tryPair x1 x2 x4 σ (fun σ12 => ∀ v13, v13 = (x4 + 1) → wq_X6_rests_l44 Q K65 n x1 x2 x3 v13 σ12)))
set_option maxRecDepth 100000 in
set_option maxHeartbeats 4000000 in
theorem tq_X6_rests_l44 {p : Program} {l : Launch} {e : Env} {s : State} {m : MethodId} {args : Array Value} {below : List Frame} {meth : Method} {c : Code} {D : va_G} {cyI cyZ cyS : ClassId} {ad : Nat → Nat} {Q : Int32 → gq_M → Prop} {K65 : Int32 → gq_M → Prop} (C : gq_C p s m args meth c cX6_rests 5 RX6 wsX6_rests D (gc_T cyI cyZ cyS) 84 ad (some .int)) (hK65 : ∀ (y3 : Int32) (τ : gq_M), K65 y3 τ → gq_G p l e rq_X6_rests s m args below meth c (gq_Ri below args s D (gc_T cyI cyZ cyS) 84 ad (gc_S cyI cyZ cyS ad) Q) D 84 ad (gc_S cyI cyZ cyS ad) 5 τ 65 [(0, .ref (ad 0)), (3, .int y3)] []) : ∀ (n : Nat) (x1 : Int32) (x2 : Int32) (x3 : Int32) (x4 : Int32) (σ : gq_M), wq_X6_rests_l44 Q K65 n x1 x2 x3 x4 σ → gq_G p l e rq_X6_rests s m args below meth c (gq_Ri below args s D (gc_T cyI cyZ cyS) 84 ad (gc_S cyI cyZ cyS ad) Q) D 84 ad (gc_S cyI cyZ cyS ad) 5 σ 44 [(0, .ref (ad 0)), (1, .int x1), (2, .int x2), (3, .int x3), (4, .int x4)] [] := by
  intro n
  induction n with
  | zero =>
    intro x1 x2 x3 x4 σ h
    exact absurd h (fun q => q)
  | succ n ih =>
    intro x1 x2 x3 x4 σ h
    unfold wq_X6_rests_l44 at h
    refine gq_iload (j := 4) C dX6_rests_44 rfl ?_
    refine gq_bipush (v := 9) C dX6_rests_46 (by decide) ?_
    refine gq_icmp_ge (tgt := 65) C dX6_rests_48 (by decide) (fun c10 => ?_) (fun c10 => ?_)
    · have h := h.1 c10
      refine gq_sub [0, 3] rfl ?_
      exact hK65 _ _ h
    · have h := h.2 c10
      refine gq_aload_n (j := 0) C dX6_rests_51 rfl ?_
      refine gq_iload_n (j := 1) C dX6_rests_52 rfl ?_
      refine gq_iload_n (j := 2) C dX6_rests_53 rfl ?_
      refine gq_iload (j := 4) C dX6_rests_54 rfl ?_
      refine gq_vv (i := 0) C gcs_0 rfl [.int x1, .int x2, .int x4] (mq_X6_tryPair C.2.2.1 x1 x2 x4 σ _ h) gX6_rests_X6_tryPair rfl rfl dq_X6_tryPair ⟨rfl, rfl, by decide, by decide⟩ rfl rfl (Nat.le_of_ble_eq_true rfl) dX6_rests_56 (fun σ12 h => ?_)
      obtain ⟨v13, qv13⟩ : ∃ y : Int32, y = (x4 + 1) := ⟨_, rfl⟩
      have h := h v13 qv13
      refine gq_iinc (j := 4) (v := v13) (L' := [(0, .ref (ad 0)), (1, .int x1), (2, .int x2), (3, .int x3), (4, .int v13)]) C [1, 2, 3, 4, 0] dX6_rests_59 rfl (by rw [qv13]; rfl) (by decide) rfl ?_
      refine gq_goto (tgt := 44) C dX6_rests_62 (by decide) ?_
      exact ih _ _ _ _ _ h
def wq_X6_rests (a1 : Int32) (a2 : Int32) (a3 : Int32) (σ : gq_M) (Q : Int32 → gq_M → Prop) : Prop := wq_X2_hasTraveller 9 a1 σ (fun r1 σ2 => ((r1 = 0 → Q (-1) σ2) ∧ (¬ r1 = 0 → wq_X2_hasTraveller 9 a2 σ2 (fun r4 σ5 => ((¬ r4 = 0 → ((a1 = a2 → Q (-2) σ5) ∧ (¬ a1 = a2 → ((a3 < 0 → Q (-2) σ5) ∧ (¬ a3 < 0 → ((a3 ≤ 1 → (∃ n21, wq_X6_rests_l44 Q (fun e14 σ15 => ((¬ e14 = 0 → wq_X6_firstPairAtRest σ15 (fun r17 σ18 => Q r17 σ18)) ∧ (e14 = 0 → wq_X6_pairsAtRest σ15 (fun r19 σ20 => Q r19 σ20)))) n21 a1 a2 a3 0 σ5)) ∧ (¬ a3 ≤ 1 → Q (-2) σ5))))))) ∧ (r4 = 0 → Q (-1) σ5))))))
set_option maxRecDepth 100000 in
set_option maxHeartbeats 4000000 in
theorem tq_X6_rests {p : Program} {l : Launch} {e : Env} {s : State} {m : MethodId} {args : Array Value} {below : List Frame} {meth : Method} {c : Code} {D : va_G} {cyI cyZ cyS : ClassId} {ad : Nat → Nat} {Q : Int32 → gq_M → Prop} (C : gq_C p s m args meth c cX6_rests 5 RX6 wsX6_rests D (gc_T cyI cyZ cyS) 84 ad (some .int)) (a1 : Int32) (a2 : Int32) (a3 : Int32) (σ : gq_M) (h : wq_X6_rests a1 a2 a3 σ Q) : gq_G p l e rq_X6_rests s m args below meth c (gq_Ri below args s D (gc_T cyI cyZ cyS) 84 ad (gc_S cyI cyZ cyS ad) Q) D 84 ad (gc_S cyI cyZ cyS ad) 5 σ 0 [(0, .ref (ad 0)), (1, .int a1), (2, .int a2), (3, .int a3)] [] := by
  unfold wq_X6_rests at h
  refine gq_aload_n (j := 0) C dX6_rests_0 rfl ?_
  refine gq_get (v := .ref (ad 9)) (i := 0) C gcs_0 rfl iq_X6_rests_X6 2 (by decide) fq_X6_rests_23 rfl dX6_rests_1 ?_
  refine gq_iload_n (j := 1) C dX6_rests_4 rfl ?_
  refine gq_vi (i := 9) C (gcs_X2 gr_9) rfl [.int a1] (mq_X2_hasTraveller C.2.2.1 gr_9 a1 σ _ h) gX6_rests_X2_hasTraveller rfl rfl dq_X2_hasTraveller ⟨rfl, rfl, by decide, by decide⟩ rfl rfl (Nat.le_of_ble_eq_true rfl) dX6_rests_5 (fun r1 σ2 h => ?_)
  refine gq_if_eq (tgt := 22) C dX6_rests_8 (by decide) (fun c3 => ?_) (fun c3 => ?_)
  · have h := h.1 c3
    refine gq_iconst (v := (-1)) C dX6_rests_22 (by decide) ?_
    exact gq_iret C h dX6_rests_23
  · have h := h.2 c3
    refine gq_aload_n (j := 0) C dX6_rests_11 rfl ?_
    refine gq_get (v := .ref (ad 9)) (i := 0) C gcs_0 rfl iq_X6_rests_X6 2 (by decide) fq_X6_rests_23 rfl dX6_rests_12 ?_
    refine gq_iload_n (j := 2) C dX6_rests_15 rfl ?_
    refine gq_vi (i := 9) C (gcs_X2 gr_9) rfl [.int a2] (mq_X2_hasTraveller C.2.2.1 gr_9 a2 σ2 _ h) gX6_rests_X2_hasTraveller rfl rfl dq_X2_hasTraveller ⟨rfl, rfl, by decide, by decide⟩ rfl rfl (Nat.le_of_ble_eq_true rfl) dX6_rests_16 (fun r4 σ5 h => ?_)
    refine gq_if_ne (tgt := 24) C dX6_rests_19 (by decide) (fun c6 => ?_) (fun c6 => ?_)
    · have h := h.1 c6
      refine gq_iload_n (j := 1) C dX6_rests_24 rfl ?_
      refine gq_iload_n (j := 2) C dX6_rests_25 rfl ?_
      refine gq_icmp_eq (tgt := 38) C dX6_rests_26 (by decide) (fun c7 => ?_) (fun c7 => ?_)
      · have h := h.1 c7
        refine gq_bipush (v := (-2)) C dX6_rests_38 (by decide) ?_
        exact gq_iret C h dX6_rests_40
      · have h := h.2 c7
        refine gq_iload_n (j := 3) C dX6_rests_29 rfl ?_
        refine gq_if_lt (tgt := 38) C dX6_rests_30 (by decide) (fun c8 => ?_) (fun c8 => ?_)
        · have h := h.1 c8
          refine gq_bipush (v := (-2)) C dX6_rests_38 (by decide) ?_
          exact gq_iret C h dX6_rests_40
        · have h := h.2 c8
          refine gq_iload_n (j := 3) C dX6_rests_33 rfl ?_
          refine gq_iconst (v := 1) C dX6_rests_34 (by decide) ?_
          refine gq_icmp_le (tgt := 41) C dX6_rests_35 (by decide) (fun c9 => ?_) (fun c9 => ?_)
          · have h := h.1 c9
            refine gq_iconst (v := 0) C dX6_rests_41 (by decide) ?_
            refine gq_istore (L' := [(0, .ref (ad 0)), (1, .int a1), (2, .int a2), (3, .int a3), (4, .int 0)]) C [1, 2, 3, 4, 0] dX6_rests_42 (by decide) rfl ?_
            obtain ⟨n21, h⟩ := h
            refine tq_X6_rests_l44 C (fun e14 σ15 h => ?_) n21 _ _ _ _ _ h
            refine gq_iload_n (j := 1) C dX6_rests_65 rfl ?_
            refine gq_if_ne (tgt := 76) C dX6_rests_66 (by decide) (fun c16 => ?_) (fun c16 => ?_)
            · have h := h.1 c16
              refine gq_aload_n (j := 0) C dX6_rests_76 rfl ?_
              refine gq_vi (i := 0) C gcs_0 rfl [] (mq_X6_firstPairAtRest C.2.2.1 σ15 _ h) gX6_rests_X6_firstPairAtRest rfl rfl dq_X6_firstPairAtRest ⟨rfl, rfl, by decide, by decide⟩ rfl rfl (Nat.le_of_ble_eq_true rfl) dX6_rests_77 (fun r17 σ18 h => ?_)
              exact gq_iret C h dX6_rests_80
            · have h := h.2 c16
              refine gq_aload_n (j := 0) C dX6_rests_69 rfl ?_
              refine gq_vi (i := 0) C gcs_0 rfl [] (mq_X6_pairsAtRest C.2.2.1 σ15 _ h) gX6_rests_X6_pairsAtRest rfl rfl dq_X6_pairsAtRest ⟨rfl, rfl, by decide, by decide⟩ rfl rfl (Nat.le_of_ble_eq_true rfl) dX6_rests_70 (fun r19 σ20 h => ?_)
              refine gq_goto (tgt := 80) C dX6_rests_73 (by decide) ?_
              exact gq_iret C h dX6_rests_80
          · have h := h.2 c9
            refine gq_bipush (v := (-2)) C dX6_rests_38 (by decide) ?_
            exact gq_iret C h dX6_rests_40
    · have h := h.2 c6
      refine gq_iconst (v := (-1)) C dX6_rests_22 (by decide) ?_
      exact gq_iret C h dX6_rests_23
theorem mq_X6_rests {l : Launch} {D : va_G} {cyI cyZ cyS : ClassId} {ad : Nat → Nat} (hap : gq_ap 84 ad) (a1 : Int32) (a2 : Int32) (a3 : Int32) (σ : gq_M) (Q : Int32 → gq_M → Prop) (h : wq_X6_rests a1 a2 a3 σ Q) : Met l yX6_rests wsX6_rests rq_X6_rests (va_Pc [.ref (ad 0), .int a1, .int a2, .int a3] (gq_P D (gc_T cyI cyZ cyS) 84 ad (gc_S cyI cyZ cyS ad) σ)) (va_Qi Q (gq_P D (gc_T cyI cyZ cyS) 84 ad (gc_S cyI cyZ cyS ad)) (gq_A 84 ad)) 0 0 (gq_A 84 ad) :=
  gq_met hap (by decide) rfl rfl (Nat.le_of_ble_eq_true rfl) (fun _ _ _ _ _ _ _ C => tq_X6_rests C a1 a2 a3 σ h)
abbrev rq_X6_power : Room := { frames := 0, cells := 0, slots := 0, locals := 0 }
theorem dq_X6_power : gq_dsc yX6_power 2 := by unfold gq_dsc; decide +kernel
def wq_X6_power_l4 (Q : Int32 → gq_M → Prop) (K19 : Int32 → gq_M → Prop) : Nat → Int32 → Int32 → Int32 → Int32 → gq_M → Prop
  | 0, _, _, _, _, _ => False
  | n + 1, x0, x1, x2, x3, σ => ((x1 ≤ x3 → K19 x2 σ) ∧ (¬ x1 ≤ x3 → ∀ v2, v2 = (x2 * x0) → ∀ v3, v3 = (x3 + 1) → wq_X6_power_l4 Q K19 n x0 x1 v2 v3 σ))
set_option maxRecDepth 100000 in
set_option maxHeartbeats 4000000 in
theorem tq_X6_power_l4 {p : Program} {l : Launch} {e : Env} {s : State} {m : MethodId} {args : Array Value} {below : List Frame} {meth : Method} {c : Code} {D : va_G} {cyI cyZ cyS : ClassId} {ad : Nat → Nat} {Q : Int32 → gq_M → Prop} {K19 : Int32 → gq_M → Prop} (C : gq_C p s m args meth c cX6_power 4 RX6 wsX6_power D (gc_T cyI cyZ cyS) 84 ad (some .int)) (hK19 : ∀ (y2 : Int32) (τ : gq_M), K19 y2 τ → gq_G p l e rq_X6_power s m args below meth c (gq_Ri below args s D (gc_T cyI cyZ cyS) 84 ad (gc_S cyI cyZ cyS ad) Q) D 84 ad (gc_S cyI cyZ cyS ad) 4 τ 19 [(2, .int y2)] []) : ∀ (n : Nat) (x0 : Int32) (x1 : Int32) (x2 : Int32) (x3 : Int32) (σ : gq_M), wq_X6_power_l4 Q K19 n x0 x1 x2 x3 σ → gq_G p l e rq_X6_power s m args below meth c (gq_Ri below args s D (gc_T cyI cyZ cyS) 84 ad (gc_S cyI cyZ cyS ad) Q) D 84 ad (gc_S cyI cyZ cyS ad) 4 σ 4 [(0, .int x0), (1, .int x1), (2, .int x2), (3, .int x3)] [] := by
  intro n
  induction n with
  | zero =>
    intro x0 x1 x2 x3 σ h
    exact absurd h (fun q => q)
  | succ n ih =>
    intro x0 x1 x2 x3 σ h
    unfold wq_X6_power_l4 at h
    refine gq_iload_n (j := 3) C dX6_power_4 rfl ?_
    refine gq_iload_n (j := 1) C dX6_power_5 rfl ?_
    refine gq_icmp_ge (tgt := 19) C dX6_power_6 (by decide) (fun c1 => ?_) (fun c1 => ?_)
    · have h := h.1 c1
      refine gq_sub [2] rfl ?_
      exact hK19 _ _ h
    · have h := h.2 c1
      refine gq_iload_n (j := 2) C dX6_power_9 rfl ?_
      refine gq_iload_n (j := 0) C dX6_power_10 rfl ?_
      refine gq_imul C dX6_power_11 ?_
      refine gq_topi (fun v2 qv2 => ?_)
      have h := h v2 qv2
      refine gq_istore_n (L' := [(0, .int x0), (1, .int x1), (2, .int v2), (3, .int x3)]) C [1, 2, 0, 3] dX6_power_12 (by decide) rfl ?_
      obtain ⟨v3, qv3⟩ : ∃ y : Int32, y = (x3 + 1) := ⟨_, rfl⟩
      have h := h v3 qv3
      refine gq_iinc (j := 3) (v := v3) (L' := [(0, .int x0), (1, .int x1), (2, .int v2), (3, .int v3)]) C [1, 2, 3, 0] dX6_power_13 rfl (by rw [qv3]; rfl) (by decide) rfl ?_
      refine gq_goto (tgt := 4) C dX6_power_16 (by decide) ?_
      exact ih _ _ _ _ _ h
def wq_X6_power (a1 : Int32) (a2 : Int32) (σ : gq_M) (Q : Int32 → gq_M → Prop) : Prop := (∃ n6, wq_X6_power_l4 Q (fun e4 σ5 => Q e4 σ5) n6 a1 a2 1 0 σ)
set_option maxRecDepth 100000 in
set_option maxHeartbeats 4000000 in
theorem tq_X6_power {p : Program} {l : Launch} {e : Env} {s : State} {m : MethodId} {args : Array Value} {below : List Frame} {meth : Method} {c : Code} {D : va_G} {cyI cyZ cyS : ClassId} {ad : Nat → Nat} {Q : Int32 → gq_M → Prop} (C : gq_C p s m args meth c cX6_power 4 RX6 wsX6_power D (gc_T cyI cyZ cyS) 84 ad (some .int)) (a1 : Int32) (a2 : Int32) (σ : gq_M) (h : wq_X6_power a1 a2 σ Q) : gq_G p l e rq_X6_power s m args below meth c (gq_Ri below args s D (gc_T cyI cyZ cyS) 84 ad (gc_S cyI cyZ cyS ad) Q) D 84 ad (gc_S cyI cyZ cyS ad) 4 σ 0 [(0, .int a1), (1, .int a2)] [] := by
  unfold wq_X6_power at h
  refine gq_iconst (v := 1) C dX6_power_0 (by decide) ?_
  refine gq_istore_n (L' := [(0, .int a1), (1, .int a2), (2, .int 1)]) C [1, 2, 0] dX6_power_1 (by decide) rfl ?_
  refine gq_iconst (v := 0) C dX6_power_2 (by decide) ?_
  refine gq_istore_n (L' := [(0, .int a1), (1, .int a2), (2, .int 1), (3, .int 0)]) C [1, 2, 3, 0] dX6_power_3 (by decide) rfl ?_
  obtain ⟨n6, h⟩ := h
  refine tq_X6_power_l4 C (fun e4 σ5 h => ?_) n6 _ _ _ _ _ h
  refine gq_iload_n (j := 0) C dX6_power_19 rfl ?_
  exact gq_iret C h dX6_power_20
theorem mq_X6_power {l : Launch} {D : va_G} {cyI cyZ cyS : ClassId} {ad : Nat → Nat} (hap : gq_ap 84 ad) (a1 : Int32) (a2 : Int32) (σ : gq_M) (Q : Int32 → gq_M → Prop) (h : wq_X6_power a1 a2 σ Q) : Met l yX6_power wsX6_power rq_X6_power (va_Pc [.int a1, .int a2] (gq_P D (gc_T cyI cyZ cyS) 84 ad (gc_S cyI cyZ cyS ad) σ)) (va_Qi Q (gq_P D (gc_T cyI cyZ cyS) 84 ad (gc_S cyI cyZ cyS ad)) (gq_A 84 ad)) 0 0 (gq_A 84 ad) :=
  gq_met hap (by decide) rfl rfl (Nat.le_of_ble_eq_true rfl) (fun _ _ _ _ _ _ _ C => tq_X6_power C a1 a2 σ h)
abbrev rq_X6_icy : Room := { frames := 4, cells := 0, slots := 0, locals := 98 }
theorem dq_X6_icy : gq_dsc yX6_icy 4 := by unfold gq_dsc; decide +kernel
theorem iq_X6_icy_X6 : ∀ w ∈ u_ws RX6 TX6 13, w ∈ wsX6_icy := by decide +kernel
theorem fq_X6_icy_23 : Cond.fieldLink RX6 23 (TX6 2).1 (TX6 2).2.1 (TX6 2).2.2.1 ∈ wsX6_icy := by decide +kernel
theorem fq_X6_icy_31 : Cond.fieldLink RX6 31 (TX6 3).1 (TX6 3).2.1 (TX6 3).2.2.1 ∈ wsX6_icy := by decide +kernel
theorem iq_X6_icy_X4 : ∀ w ∈ u_ws RX4 TX4 7, w ∈ wsX6_icy := by decide +kernel
theorem fq_X6_icy_109 : Cond.fieldLink RX6 109 (TX4 3).1 (TX4 3).2.1 (TX4 3).2.2.1 ∈ wsX6_icy := by decide +kernel
def wq_X6_icy_b135 (Q : Int32 → gq_M → Prop) (K59 : Int32 → Int32 → Int32 → Int32 → Int32 → Int32 → Int32 → Int32 → gq_M → Prop) (x1 : Int32) (x2 : Int32) (x3 : Int32) (x4 : Int32) (x5 : Int32) (x6 : Int32) (x7 : Int32) (x8 : Int32) (σ : gq_M) : Prop := ∀ v15, v15 = (x8 + 1) → K59 x1 x2 x3 x4 x5 x6 x7 v15 σ
set_option maxRecDepth 100000 in
set_option maxHeartbeats 4000000 in
theorem tq_X6_icy_b135 {p : Program} {l : Launch} {e : Env} {s : State} {m : MethodId} {args : Array Value} {below : List Frame} {meth : Method} {c : Code} {D : va_G} {cyI cyZ cyS : ClassId} {ad : Nat → Nat} {Q : Int32 → gq_M → Prop} {K59 : Int32 → Int32 → Int32 → Int32 → Int32 → Int32 → Int32 → Int32 → gq_M → Prop} (C : gq_C p s m args meth c cX6_icy 11 RX6 wsX6_icy D (gc_T cyI cyZ cyS) 84 ad (some .int)) (hK59 : ∀ (y1 : Int32) (y2 : Int32) (y3 : Int32) (y4 : Int32) (y5 : Int32) (y6 : Int32) (y7 : Int32) (y8 : Int32) (τ : gq_M), K59 y1 y2 y3 y4 y5 y6 y7 y8 τ → gq_G p l e rq_X6_icy s m args below meth c (gq_Ri below args s D (gc_T cyI cyZ cyS) 84 ad (gc_S cyI cyZ cyS ad) Q) D 84 ad (gc_S cyI cyZ cyS ad) 11 τ 59 [(0, .ref (ad 0)), (1, .int y1), (2, .int y2), (3, .int y3), (4, .int y4), (5, .int y5), (6, .int y6), (7, .int y7), (8, .int y8)] []) (x1 : Int32) (x2 : Int32) (x3 : Int32) (x4 : Int32) (x5 : Int32) (x6 : Int32) (x7 : Int32) (x8 : Int32) (σ : gq_M) (h : wq_X6_icy_b135 Q K59 x1 x2 x3 x4 x5 x6 x7 x8 σ) : gq_G p l e rq_X6_icy s m args below meth c (gq_Ri below args s D (gc_T cyI cyZ cyS) 84 ad (gc_S cyI cyZ cyS ad) Q) D 84 ad (gc_S cyI cyZ cyS ad) 11 σ 135 [(0, .ref (ad 0)), (1, .int x1), (2, .int x2), (3, .int x3), (4, .int x4), (5, .int x5), (6, .int x6), (7, .int x7), (8, .int x8)] [] := by
  unfold wq_X6_icy_b135 at h
  obtain ⟨v15, qv15⟩ : ∃ y : Int32, y = (x8 + 1) := ⟨_, rfl⟩
  have h := h v15 qv15
  refine gq_iinc (j := 8) (v := v15) (L' := [(0, .ref (ad 0)), (1, .int x1), (2, .int x2), (3, .int x3), (4, .int x4), (5, .int x5), (6, .int x6), (7, .int x7), (8, .int v15)]) C [1, 2, 3, 4, 5, 6, 7, 8, 0] dX6_icy_135 rfl (by rw [qv15]; rfl) (by decide) rfl ?_
  refine gq_goto (tgt := 59) C dX6_icy_138 (by decide) ?_
  exact hK59 _ _ _ _ _ _ _ _ _ h
def wq_X6_icy_l59 (Q : Int32 → gq_M → Prop) (K141 : Int32 → Int32 → Int32 → gq_M → Prop) : Nat → Int32 → Int32 → Int32 → Int32 → Int32 → Int32 → Int32 → Int32 → gq_M → Prop
  | 0, _, _, _, _, _, _, _, _, _ => False
  | n + 1, x1, x2, x3, x4, x5, x6, x7, x8, σ => ((256 ≤ x8 → K141 x4 x6 x7 σ) ∧ (¬ 256 ≤ x8 → ((¬ (x8 &&& (x5 ^^^ (-1))) = 0 → wq_X6_icy_b135 Q (wq_X6_icy_l59 Q K141 n) x1 x2 x3 x4 x5 x6 x7 x8 σ) ∧ ((x8 &&& (x5 ^^^ (-1))) = 0 → wq_J6_bitCount_0f7a4 x8 σ (fun r16 σ17 => wq_X6_power x3 r16 σ17 (fun r18 σ19 => wq_X6_power (10 - x3) (x6 - r16) σ19 (fun r20 σ21 => ∀ v22, v22 = (r18 * r20) → ((v22 ≤ 0 → wq_X6_icy_b135 Q (wq_X6_icy_l59 Q K141 n) x1 x2 x3 x4 x5 x6 x7 x8 σ21) ∧ (¬ v22 ≤ 0 → wq_X6_comesWith x1 x2 (σ21.1 30 3) x8 σ21 (fun r24 σ25 => ((r24 = 0 → wq_X6_icy_b135 Q (wq_X6_icy_l59 Q K141 n) x1 x2 x3 x4 x5 x6 x7 x8 σ25) ∧ (¬ r24 = 0 → ∀ v27, v27 = (x7 + v22) → wq_X6_icy_b135 Q (wq_X6_icy_l59 Q K141 n) x1 x2 x3 x4 x5 x6 v27 x8 σ25))))))))))))
set_option maxRecDepth 100000 in
set_option maxHeartbeats 4000000 in
theorem tq_X6_icy_l59 {p : Program} {l : Launch} {e : Env} {s : State} {m : MethodId} {args : Array Value} {below : List Frame} {meth : Method} {c : Code} {D : va_G} {cyI cyZ cyS : ClassId} {ad : Nat → Nat} {Q : Int32 → gq_M → Prop} {K141 : Int32 → Int32 → Int32 → gq_M → Prop} (C : gq_C p s m args meth c cX6_icy 11 RX6 wsX6_icy D (gc_T cyI cyZ cyS) 84 ad (some .int)) (hK141 : ∀ (y4 : Int32) (y6 : Int32) (y7 : Int32) (τ : gq_M), K141 y4 y6 y7 τ → gq_G p l e rq_X6_icy s m args below meth c (gq_Ri below args s D (gc_T cyI cyZ cyS) 84 ad (gc_S cyI cyZ cyS ad) Q) D 84 ad (gc_S cyI cyZ cyS ad) 11 τ 141 [(0, .ref (ad 0)), (4, .int y4), (6, .int y6), (7, .int y7)] []) : ∀ (n : Nat) (x1 : Int32) (x2 : Int32) (x3 : Int32) (x4 : Int32) (x5 : Int32) (x6 : Int32) (x7 : Int32) (x8 : Int32) (σ : gq_M), wq_X6_icy_l59 Q K141 n x1 x2 x3 x4 x5 x6 x7 x8 σ → gq_G p l e rq_X6_icy s m args below meth c (gq_Ri below args s D (gc_T cyI cyZ cyS) 84 ad (gc_S cyI cyZ cyS ad) Q) D 84 ad (gc_S cyI cyZ cyS ad) 11 σ 59 [(0, .ref (ad 0)), (1, .int x1), (2, .int x2), (3, .int x3), (4, .int x4), (5, .int x5), (6, .int x6), (7, .int x7), (8, .int x8)] [] := by
  intro n
  induction n with
  | zero =>
    intro x1 x2 x3 x4 x5 x6 x7 x8 σ h
    exact absurd h (fun q => q)
  | succ n ih =>
    intro x1 x2 x3 x4 x5 x6 x7 x8 σ h
    unfold wq_X6_icy_l59 at h
    refine gq_iload (j := 8) C dX6_icy_59 rfl ?_
    refine gq_sipush (v := 256) C dX6_icy_61 (by decide) ?_
    refine gq_icmp_ge (tgt := 141) C dX6_icy_64 (by decide) (fun c13 => ?_) (fun c13 => ?_)
    · have h := h.1 c13
      refine gq_sub [0, 4, 6, 7] rfl ?_
      exact hK141 _ _ _ _ h
    · have h := h.2 c13
      refine gq_iload (j := 8) C dX6_icy_67 rfl ?_
      refine gq_iload (j := 5) C dX6_icy_69 rfl ?_
      refine gq_iconst (v := (-1)) C dX6_icy_71 (by decide) ?_
      refine gq_ixor C dX6_icy_72 ?_
      refine gq_iand C dX6_icy_73 ?_
      refine gq_if_ne (tgt := 135) C dX6_icy_74 (by decide) (fun c14 => ?_) (fun c14 => ?_)
      · have h := h.1 c14
        exact tq_X6_icy_b135 C (ih) _ _ _ _ _ _ _ _ _ h
      · have h := h.2 c14
        refine gq_iload (j := 8) C dX6_icy_77 rfl ?_
        refine gq_si C [.int x8] (mq_J6_bitCount_0f7a4 C.2.2.1 x8 σ _ h) gX6_icy_J6_bitCount_0f7a4 rfl dq_J6_bitCount_0f7a4 ⟨rfl, rfl, by decide, by decide⟩ rfl rfl (Nat.le_of_ble_eq_true rfl) dX6_icy_79 (fun r16 σ17 h => ?_)
        refine gq_istore (L' := [(0, .ref (ad 0)), (1, .int x1), (2, .int x2), (3, .int x3), (4, .int x4), (5, .int x5), (6, .int x6), (7, .int x7), (8, .int x8), (9, .int r16)]) C [1, 2, 3, 4, 5, 6, 7, 8, 9, 0] dX6_icy_82 (by decide) rfl ?_
        refine gq_iload_n (j := 3) C dX6_icy_84 rfl ?_
        refine gq_iload (j := 9) C dX6_icy_85 rfl ?_
        refine gq_si C [.int x3, .int r16] (mq_X6_power C.2.2.1 x3 r16 σ17 _ h) gX6_icy_X6_power rfl dq_X6_power ⟨rfl, rfl, by decide, by decide⟩ rfl rfl (Nat.le_of_ble_eq_true rfl) dX6_icy_87 (fun r18 σ19 h => ?_)
        refine gq_bipush (v := 10) C dX6_icy_90 (by decide) ?_
        refine gq_iload_n (j := 3) C dX6_icy_92 rfl ?_
        refine gq_isub C dX6_icy_93 ?_
        refine gq_iload (j := 6) C dX6_icy_94 rfl ?_
        refine gq_iload (j := 9) C dX6_icy_96 rfl ?_
        refine gq_isub C dX6_icy_98 ?_
        refine gq_si C [.int (10 - x3), .int (x6 - r16)] (mq_X6_power C.2.2.1 (10 - x3) (x6 - r16) σ19 _ h) gX6_icy_X6_power rfl dq_X6_power ⟨rfl, rfl, by decide, by decide⟩ rfl rfl (Nat.le_of_ble_eq_true rfl) dX6_icy_99 (fun r20 σ21 h => ?_)
        refine gq_imul C dX6_icy_102 ?_
        refine gq_topi (fun v22 qv22 => ?_)
        have h := h v22 qv22
        refine gq_istore (L' := [(0, .ref (ad 0)), (1, .int x1), (2, .int x2), (3, .int x3), (4, .int x4), (5, .int x5), (6, .int x6), (7, .int x7), (8, .int x8), (9, .int r16), (10, .int v22)]) C [1, 2, 3, 4, 5, 6, 7, 8, 9, 10, 0] dX6_icy_103 (by decide) rfl ?_
        refine gq_iload (j := 10) C dX6_icy_105 rfl ?_
        refine gq_if_le (tgt := 135) C dX6_icy_107 (by decide) (fun c23 => ?_) (fun c23 => ?_)
        · have h := h.1 c23
          refine gq_sub [0, 1, 2, 3, 4, 5, 6, 7, 8] rfl ?_
          exact tq_X6_icy_b135 C (ih) _ _ _ _ _ _ _ _ _ h
        · have h := h.2 c23
          refine gq_aload_n (j := 0) C dX6_icy_110 rfl ?_
          refine gq_iload_n (j := 1) C dX6_icy_111 rfl ?_
          refine gq_iload_n (j := 2) C dX6_icy_112 rfl ?_
          refine gq_aload_n (j := 0) C dX6_icy_113 rfl ?_
          refine gq_get (v := .ref (ad 30)) (i := 0) C gcs_0 rfl iq_X6_icy_X6 3 (by decide) fq_X6_icy_31 rfl dX6_icy_114 ?_
          refine gq_get (v := .int (σ21.1 30 3)) (i := 30) C (gcs_X4 gs_30) rfl iq_X6_icy_X4 3 (by decide) fq_X6_icy_109 rfl dX6_icy_117 ?_
          refine gq_iload (j := 8) C dX6_icy_120 rfl ?_
          refine gq_vi (i := 0) C gcs_0 rfl [.int x1, .int x2, .int (σ21.1 30 3), .int x8] (mq_X6_comesWith C.2.2.1 x1 x2 (σ21.1 30 3) x8 σ21 _ h) gX6_icy_X6_comesWith rfl rfl dq_X6_comesWith ⟨rfl, rfl, by decide, by decide⟩ rfl rfl (Nat.le_of_ble_eq_true rfl) dX6_icy_122 (fun r24 σ25 h => ?_)
          refine gq_if_eq (tgt := 135) C dX6_icy_125 (by decide) (fun c26 => ?_) (fun c26 => ?_)
          · have h := h.1 c26
            refine gq_sub [0, 1, 2, 3, 4, 5, 6, 7, 8] rfl ?_
            exact tq_X6_icy_b135 C (ih) _ _ _ _ _ _ _ _ _ h
          · have h := h.2 c26
            refine gq_iload (j := 7) C dX6_icy_128 rfl ?_
            refine gq_iload (j := 10) C dX6_icy_130 rfl ?_
            refine gq_iadd C dX6_icy_132 ?_
            refine gq_topi (fun v27 qv27 => ?_)
            have h := h v27 qv27
            refine gq_istore (L' := [(0, .ref (ad 0)), (1, .int x1), (2, .int x2), (3, .int x3), (4, .int x4), (5, .int x5), (6, .int x6), (7, .int v27), (8, .int x8), (9, .int r16), (10, .int v22)]) C [1, 2, 3, 4, 5, 6, 7, 0, 8, 9, 10] dX6_icy_133 (by decide) rfl ?_
            refine gq_sub [0, 1, 2, 3, 4, 5, 6, 7, 8] rfl ?_
            exact tq_X6_icy_b135 C (ih) _ _ _ _ _ _ _ _ _ h
def wq_X6_icy (a1 : Int32) (a2 : Int32) (a3 : Int32) (a4 : Int32) (σ : gq_M) (Q : Int32 → gq_M → Prop) : Prop := wq_X2_hasTraveller 9 a1 σ (fun r1 σ2 => ((r1 = 0 → Q (-1) σ2) ∧ (¬ r1 = 0 → wq_X2_hasPlace 9 a2 σ2 (fun r4 σ5 => ((¬ r4 = 0 → ((a3 < 0 → Q (-2) σ5) ∧ (¬ a3 < 0 → ((a3 ≤ 10 → wq_X2_canBeIced 9 σ5 (fun r9 σ10 => wq_J6_bitCount_0f7a4 r9 σ10 (fun r11 σ12 => (∃ n36, wq_X6_icy_l59 Q (fun e28 e29 e30 σ31 => wq_X6_power 10 e29 σ31 (fun r32 σ33 => wq_X6_fraction e30 r32 e28 σ33 (fun r34 σ35 => Q r34 σ35))) n36 a1 a2 a3 a4 r9 r11 0 0 σ12)))) ∧ (¬ a3 ≤ 10 → Q (-2) σ5))))) ∧ (r4 = 0 → Q (-1) σ5))))))
set_option maxRecDepth 100000 in
set_option maxHeartbeats 4000000 in
theorem tq_X6_icy {p : Program} {l : Launch} {e : Env} {s : State} {m : MethodId} {args : Array Value} {below : List Frame} {meth : Method} {c : Code} {D : va_G} {cyI cyZ cyS : ClassId} {ad : Nat → Nat} {Q : Int32 → gq_M → Prop} (C : gq_C p s m args meth c cX6_icy 11 RX6 wsX6_icy D (gc_T cyI cyZ cyS) 84 ad (some .int)) (a1 : Int32) (a2 : Int32) (a3 : Int32) (a4 : Int32) (σ : gq_M) (h : wq_X6_icy a1 a2 a3 a4 σ Q) : gq_G p l e rq_X6_icy s m args below meth c (gq_Ri below args s D (gc_T cyI cyZ cyS) 84 ad (gc_S cyI cyZ cyS ad) Q) D 84 ad (gc_S cyI cyZ cyS ad) 11 σ 0 [(0, .ref (ad 0)), (1, .int a1), (2, .int a2), (3, .int a3), (4, .int a4)] [] := by
  unfold wq_X6_icy at h
  refine gq_aload_n (j := 0) C dX6_icy_0 rfl ?_
  refine gq_get (v := .ref (ad 9)) (i := 0) C gcs_0 rfl iq_X6_icy_X6 2 (by decide) fq_X6_icy_23 rfl dX6_icy_1 ?_
  refine gq_iload_n (j := 1) C dX6_icy_4 rfl ?_
  refine gq_vi (i := 9) C (gcs_X2 gr_9) rfl [.int a1] (mq_X2_hasTraveller C.2.2.1 gr_9 a1 σ _ h) gX6_icy_X2_hasTraveller rfl rfl dq_X2_hasTraveller ⟨rfl, rfl, by decide, by decide⟩ rfl rfl (Nat.le_of_ble_eq_true rfl) dX6_icy_5 (fun r1 σ2 h => ?_)
  refine gq_if_eq (tgt := 22) C dX6_icy_8 (by decide) (fun c3 => ?_) (fun c3 => ?_)
  · have h := h.1 c3
    refine gq_iconst (v := (-1)) C dX6_icy_22 (by decide) ?_
    exact gq_iret C h dX6_icy_23
  · have h := h.2 c3
    refine gq_aload_n (j := 0) C dX6_icy_11 rfl ?_
    refine gq_get (v := .ref (ad 9)) (i := 0) C gcs_0 rfl iq_X6_icy_X6 2 (by decide) fq_X6_icy_23 rfl dX6_icy_12 ?_
    refine gq_iload_n (j := 2) C dX6_icy_15 rfl ?_
    refine gq_vi (i := 9) C (gcs_X2 gr_9) rfl [.int a2] (mq_X2_hasPlace C.2.2.1 gr_9 a2 σ2 _ h) gX6_icy_X2_hasPlace rfl rfl dq_X2_hasPlace ⟨rfl, rfl, by decide, by decide⟩ rfl rfl (Nat.le_of_ble_eq_true rfl) dX6_icy_16 (fun r4 σ5 h => ?_)
    refine gq_if_ne (tgt := 24) C dX6_icy_19 (by decide) (fun c6 => ?_) (fun c6 => ?_)
    · have h := h.1 c6
      refine gq_iload_n (j := 3) C dX6_icy_24 rfl ?_
      refine gq_if_lt (tgt := 34) C dX6_icy_25 (by decide) (fun c7 => ?_) (fun c7 => ?_)
      · have h := h.1 c7
        refine gq_bipush (v := (-2)) C dX6_icy_34 (by decide) ?_
        exact gq_iret C h dX6_icy_36
      · have h := h.2 c7
        refine gq_iload_n (j := 3) C dX6_icy_28 rfl ?_
        refine gq_bipush (v := 10) C dX6_icy_29 (by decide) ?_
        refine gq_icmp_le (tgt := 37) C dX6_icy_31 (by decide) (fun c8 => ?_) (fun c8 => ?_)
        · have h := h.1 c8
          refine gq_aload_n (j := 0) C dX6_icy_37 rfl ?_
          refine gq_get (v := .ref (ad 9)) (i := 0) C gcs_0 rfl iq_X6_icy_X6 2 (by decide) fq_X6_icy_23 rfl dX6_icy_38 ?_
          refine gq_vi (i := 9) C (gcs_X2 gr_9) rfl [] (mq_X2_canBeIced C.2.2.1 gr_9 σ5 _ h) gX6_icy_X2_canBeIced rfl rfl dq_X2_canBeIced ⟨rfl, rfl, by decide, by decide⟩ rfl rfl (Nat.le_of_ble_eq_true rfl) dX6_icy_41 (fun r9 σ10 h => ?_)
          refine gq_istore (L' := [(0, .ref (ad 0)), (1, .int a1), (2, .int a2), (3, .int a3), (4, .int a4), (5, .int r9)]) C [1, 2, 3, 4, 5, 0] dX6_icy_44 (by decide) rfl ?_
          refine gq_iload (j := 5) C dX6_icy_46 rfl ?_
          refine gq_si C [.int r9] (mq_J6_bitCount_0f7a4 C.2.2.1 r9 σ10 _ h) gX6_icy_J6_bitCount_0f7a4 rfl dq_J6_bitCount_0f7a4 ⟨rfl, rfl, by decide, by decide⟩ rfl rfl (Nat.le_of_ble_eq_true rfl) dX6_icy_48 (fun r11 σ12 h => ?_)
          refine gq_istore (L' := [(0, .ref (ad 0)), (1, .int a1), (2, .int a2), (3, .int a3), (4, .int a4), (5, .int r9), (6, .int r11)]) C [1, 2, 3, 4, 5, 6, 0] dX6_icy_51 (by decide) rfl ?_
          refine gq_iconst (v := 0) C dX6_icy_53 (by decide) ?_
          refine gq_istore (L' := [(0, .ref (ad 0)), (1, .int a1), (2, .int a2), (3, .int a3), (4, .int a4), (5, .int r9), (6, .int r11), (7, .int 0)]) C [1, 2, 3, 4, 5, 6, 7, 0] dX6_icy_54 (by decide) rfl ?_
          refine gq_iconst (v := 0) C dX6_icy_56 (by decide) ?_
          refine gq_istore (L' := [(0, .ref (ad 0)), (1, .int a1), (2, .int a2), (3, .int a3), (4, .int a4), (5, .int r9), (6, .int r11), (7, .int 0), (8, .int 0)]) C [1, 2, 3, 4, 5, 6, 7, 8, 0] dX6_icy_57 (by decide) rfl ?_
          obtain ⟨n36, h⟩ := h
          refine tq_X6_icy_l59 C (fun e28 e29 e30 σ31 h => ?_) n36 _ _ _ _ _ _ _ _ _ h
          refine gq_iload (j := 3) C dX6_icy_141 rfl ?_
          refine gq_bipush (v := 10) C dX6_icy_143 (by decide) ?_
          refine gq_iload (j := 2) C dX6_icy_145 rfl ?_
          refine gq_si C [.int 10, .int e29] (mq_X6_power C.2.2.1 10 e29 σ31 _ h) gX6_icy_X6_power rfl dq_X6_power ⟨rfl, rfl, by decide, by decide⟩ rfl rfl (Nat.le_of_ble_eq_true rfl) dX6_icy_147 (fun r32 σ33 h => ?_)
          refine gq_iload (j := 1) C dX6_icy_150 rfl ?_
          refine gq_si C [.int e30, .int r32, .int e28] (mq_X6_fraction C.2.2.1 e30 r32 e28 σ33 _ h) gX6_icy_X6_fraction rfl dq_X6_fraction ⟨rfl, rfl, by decide, by decide⟩ rfl rfl (Nat.le_of_ble_eq_true rfl) dX6_icy_152 (fun r34 σ35 h => ?_)
          exact gq_iret C h dX6_icy_155
        · have h := h.2 c8
          refine gq_bipush (v := (-2)) C dX6_icy_34 (by decide) ?_
          exact gq_iret C h dX6_icy_36
    · have h := h.2 c6
      refine gq_iconst (v := (-1)) C dX6_icy_22 (by decide) ?_
      exact gq_iret C h dX6_icy_23
theorem mq_X6_icy {l : Launch} {D : va_G} {cyI cyZ cyS : ClassId} {ad : Nat → Nat} (hap : gq_ap 84 ad) (a1 : Int32) (a2 : Int32) (a3 : Int32) (a4 : Int32) (σ : gq_M) (Q : Int32 → gq_M → Prop) (h : wq_X6_icy a1 a2 a3 a4 σ Q) : Met l yX6_icy wsX6_icy rq_X6_icy (va_Pc [.ref (ad 0), .int a1, .int a2, .int a3, .int a4] (gq_P D (gc_T cyI cyZ cyS) 84 ad (gc_S cyI cyZ cyS ad) σ)) (va_Qi Q (gq_P D (gc_T cyI cyZ cyS) 84 ad (gc_S cyI cyZ cyS ad)) (gq_A 84 ad)) 0 0 (gq_A 84 ad) :=
  gq_met hap (by decide) rfl rfl (Nat.le_of_ble_eq_true rfl) (fun _ _ _ _ _ _ _ C => tq_X6_icy C a1 a2 a3 a4 σ h)
abbrev rq_X6_seed : Room := { frames := 0, cells := 0, slots := 0, locals := 0 }
theorem dq_X6_seed : gq_dsc yX6_seed 1 := by unfold gq_dsc; decide +kernel
theorem iq_X6_seed_X6 : ∀ w ∈ u_ws RX6 TX6 13, w ∈ wsX6_seed := by decide +kernel
theorem fq_X6_seed_239 : Cond.fieldLink RX6 239 (TX6 12).1 (TX6 12).2.1 (TX6 12).2.2.1 ∈ wsX6_seed := by decide +kernel
def wq_X6_seed (a1 : Int64) (σ : gq_M) (Q : Int64 → gq_M → Prop) : Prop := Q σ.2 (σ.1, a1)
set_option maxRecDepth 100000 in
set_option maxHeartbeats 4000000 in
theorem tq_X6_seed {p : Program} {l : Launch} {e : Env} {s : State} {m : MethodId} {args : Array Value} {below : List Frame} {meth : Method} {c : Code} {D : va_G} {cyI cyZ cyS : ClassId} {ad : Nat → Nat} {Q : Int64 → gq_M → Prop} (C : gq_C p s m args meth c cX6_seed 5 RX6 wsX6_seed D (gc_T cyI cyZ cyS) 84 ad (some .long)) (a1 : Int64) (σ : gq_M) (h : wq_X6_seed a1 σ Q) : gq_G p l e rq_X6_seed s m args below meth c (gq_Rl below args s D (gc_T cyI cyZ cyS) 84 ad (gc_S cyI cyZ cyS ad) Q) D 84 ad (gc_S cyI cyZ cyS ad) 5 σ 0 [(0, .ref (ad 0)), (1, .long a1)] [] := by
  unfold wq_X6_seed at h
  refine gq_aload_n (j := 0) C dX6_seed_0 rfl ?_
  refine gq_get (v := .long σ.2) (i := 0) C gcs_0 rfl iq_X6_seed_X6 12 (by decide) fq_X6_seed_239 rfl dX6_seed_1 ?_
  refine gq_lstore_n (L' := [(0, .ref (ad 0)), (1, .long a1), (3, .long σ.2)]) C [1, 2, 0] dX6_seed_4 (by decide) rfl ?_
  refine gq_aload_n (j := 0) C dX6_seed_5 rfl ?_
  refine gq_lload_n (j := 1) C dX6_seed_6 rfl ?_
  refine gq_putl (i := 0) C gcs_0 rfl iq_X6_seed_X6 tyX6 tyX6_ok nmX6 12 (by decide) fq_X6_seed_239 rfl rfl rfl (fun _ _ => Nat.le_of_ble_eq_true rfl) gs_X6_12 gl_X6 dX6_seed_7 ?_
  refine gq_lload_n (j := 2) C dX6_seed_10 rfl ?_
  exact gq_lret C h dX6_seed_11
theorem mq_X6_seed {l : Launch} {D : va_G} {cyI cyZ cyS : ClassId} {ad : Nat → Nat} (hap : gq_ap 84 ad) (a1 : Int64) (σ : gq_M) (Q : Int64 → gq_M → Prop) (h : wq_X6_seed a1 σ Q) : Met l yX6_seed wsX6_seed rq_X6_seed (va_Pc [.ref (ad 0), .long a1] (gq_P D (gc_T cyI cyZ cyS) 84 ad (gc_S cyI cyZ cyS ad) σ)) (va_Ql Q (gq_P D (gc_T cyI cyZ cyS) 84 ad (gc_S cyI cyZ cyS ad)) (gq_A 84 ad)) 0 0 (gq_A 84 ad) :=
  gq_met hap (by decide) rfl rfl (Nat.le_of_ble_eq_true rfl) (fun _ _ _ _ _ _ _ C => tq_X6_seed C a1 σ h)
