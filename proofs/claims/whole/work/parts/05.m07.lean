/-! ===== walks of X7_gain, X7_isRest, X7_rests, X7_power, X7_iceable, X7_icy, X7_seed (by wip/gen) ===== -/
abbrev rq_X7_gain : Room := { frames := 6, cells := 0, slots := 0, locals := 149 }
theorem dq_X7_gain : gq_dsc yX7_gain 5 := by unfold gq_dsc; decide +kernel
theorem iq_X7_gain_X7 : ∀ w ∈ u_ws RX7 TX7 30, w ∈ wsX7_gain := by decide +kernel
theorem fq_X7_gain_22 : Cond.fieldLink RX7 22 (TX7 6).1 (TX7 6).2.1 (TX7 6).2.2.1 ∈ wsX7_gain := by decide +kernel
def wq_X7_gain_b150 (Q : Int32 → gq_M → Prop) (x11 : Int32) (s0 : Int32) (s1 : Int32) (σ : gq_M) : Prop := ((x11 = 0 → Q ((s0 + s1) + 0) σ) ∧ (¬ x11 = 0 → Q ((s0 + s1) + 4) σ))
set_option maxRecDepth 100000 in
set_option maxHeartbeats 4000000 in
theorem tq_X7_gain_b150 {p : Program} {l : Launch} {e : Env} {s : State} {m : MethodId} {args : Array Value} {below : List Frame} {meth : Method} {c : Code} {D : va_G} {cyI cyZ : ClassId} {ad : Nat → Nat} {Q : Int32 → gq_M → Prop} (C : gq_C p s m args meth c cX7_gain 12 RX7 wsX7_gain D (gm_T cyI cyZ) 17 ad (some .int)) (x11 : Int32) (s0 : Int32) (s1 : Int32) (σ : gq_M) (h : wq_X7_gain_b150 Q x11 s0 s1 σ) : gq_G p l e rq_X7_gain s m args below meth c (gq_Ri below args s D (gm_T cyI cyZ) 17 ad (gm_S cyI cyZ ad) Q) D 17 ad (gm_S cyI cyZ ad) 12 σ 150 [(0, .ref (ad 0)), (11, .int x11)] [.int s1, .int s0] := by
  unfold wq_X7_gain_b150 at h
  refine gq_iadd C dX7_gain_150 ?_
  refine gq_iload (j := 1) C dX7_gain_151 rfl ?_
  refine gq_if_eq (tgt := 160) C dX7_gain_153 (by decide) (fun c14 => ?_) (fun c14 => ?_)
  · have h := h.1 c14
    refine gq_iconst (v := 0) C dX7_gain_160 (by decide) ?_
    refine gq_iadd C dX7_gain_161 ?_
    exact gq_iret C h dX7_gain_162
  · have h := h.2 c14
    refine gq_iconst (v := 4) C dX7_gain_156 (by decide) ?_
    refine gq_goto (tgt := 161) C dX7_gain_157 (by decide) ?_
    refine gq_iadd C dX7_gain_161 ?_
    exact gq_iret C h dX7_gain_162
def wq_X7_gain_b127 (Q : Int32 → gq_M → Prop) (x5 : Int32) (x6 : Int32) (x7 : Int32) (x11 : Int32) (s0 : Int32) (σ : gq_M) : Prop := ((x5 = 0 → ((x7 = 0 → wq_X7_gain_b150 Q x11 s0 0 σ) ∧ (¬ x7 = 0 → wq_X7_gain_b150 Q x11 s0 1 σ))) ∧ (¬ x5 = 0 → ((x6 = 0 → wq_X7_gain_b150 Q x11 s0 0 σ) ∧ (¬ x6 = 0 → wq_X7_gain_b150 Q x11 s0 1 σ))))
set_option maxRecDepth 100000 in
set_option maxHeartbeats 4000000 in
theorem tq_X7_gain_b127 {p : Program} {l : Launch} {e : Env} {s : State} {m : MethodId} {args : Array Value} {below : List Frame} {meth : Method} {c : Code} {D : va_G} {cyI cyZ : ClassId} {ad : Nat → Nat} {Q : Int32 → gq_M → Prop} (C : gq_C p s m args meth c cX7_gain 12 RX7 wsX7_gain D (gm_T cyI cyZ) 17 ad (some .int)) (x5 : Int32) (x6 : Int32) (x7 : Int32) (x11 : Int32) (s0 : Int32) (σ : gq_M) (h : wq_X7_gain_b127 Q x5 x6 x7 x11 s0 σ) : gq_G p l e rq_X7_gain s m args below meth c (gq_Ri below args s D (gm_T cyI cyZ) 17 ad (gm_S cyI cyZ ad) Q) D 17 ad (gm_S cyI cyZ ad) 12 σ 127 [(0, .ref (ad 0)), (5, .int x5), (6, .int x6), (7, .int x7), (11, .int x11)] [.int s0] := by
  unfold wq_X7_gain_b127 at h
  refine gq_iload (j := 1) C dX7_gain_127 rfl ?_
  refine gq_if_eq (tgt := 140) C dX7_gain_129 (by decide) (fun c12 => ?_) (fun c12 => ?_)
  · have h := h.1 c12
    refine gq_iload (j := 3) C dX7_gain_140 rfl ?_
    refine gq_if_eq (tgt := 149) C dX7_gain_142 (by decide) (fun c13 => ?_) (fun c13 => ?_)
    · have h := h.1 c13
      refine gq_iconst (v := 0) C dX7_gain_149 (by decide) ?_
      refine gq_sub [0, 4] rfl ?_
      exact tq_X7_gain_b150 C _ _ _ _ h
    · have h := h.2 c13
      refine gq_iconst (v := 1) C dX7_gain_145 (by decide) ?_
      refine gq_goto (tgt := 150) C dX7_gain_146 (by decide) ?_
      refine gq_sub [0, 4] rfl ?_
      exact tq_X7_gain_b150 C _ _ _ _ h
  · have h := h.2 c12
    refine gq_iload (j := 2) C dX7_gain_132 rfl ?_
    refine gq_if_eq (tgt := 149) C dX7_gain_134 (by decide) (fun c15 => ?_) (fun c15 => ?_)
    · have h := h.1 c15
      refine gq_iconst (v := 0) C dX7_gain_149 (by decide) ?_
      refine gq_sub [0, 4] rfl ?_
      exact tq_X7_gain_b150 C _ _ _ _ h
    · have h := h.2 c15
      refine gq_goto (tgt := 145) C dX7_gain_137 (by decide) ?_
      refine gq_iconst (v := 1) C dX7_gain_145 (by decide) ?_
      refine gq_goto (tgt := 150) C dX7_gain_146 (by decide) ?_
      refine gq_sub [0, 4] rfl ?_
      exact tq_X7_gain_b150 C _ _ _ _ h
def wq_X7_gain_b115 (Q : Int32 → gq_M → Prop) (x5 : Int32) (x6 : Int32) (x7 : Int32) (x10 : Int32) (s0 : Int32) (σ : gq_M) : Prop := ((x10 = 0 → wq_X7_gain_b127 Q x5 x6 x7 s0 0 σ) ∧ (¬ x10 = 0 → wq_X7_gain_b127 Q x5 x6 x7 s0 2 σ))
set_option maxRecDepth 100000 in
set_option maxHeartbeats 4000000 in
theorem tq_X7_gain_b115 {p : Program} {l : Launch} {e : Env} {s : State} {m : MethodId} {args : Array Value} {below : List Frame} {meth : Method} {c : Code} {D : va_G} {cyI cyZ : ClassId} {ad : Nat → Nat} {Q : Int32 → gq_M → Prop} (C : gq_C p s m args meth c cX7_gain 12 RX7 wsX7_gain D (gm_T cyI cyZ) 17 ad (some .int)) (x5 : Int32) (x6 : Int32) (x7 : Int32) (x10 : Int32) (s0 : Int32) (σ : gq_M) (h : wq_X7_gain_b115 Q x5 x6 x7 x10 s0 σ) : gq_G p l e rq_X7_gain s m args below meth c (gq_Ri below args s D (gm_T cyI cyZ) 17 ad (gm_S cyI cyZ ad) Q) D 17 ad (gm_S cyI cyZ ad) 12 σ 115 [(0, .ref (ad 0)), (5, .int x5), (6, .int x6), (7, .int x7), (10, .int x10)] [.int s0] := by
  unfold wq_X7_gain_b115 at h
  refine gq_istore (L' := [(0, .ref (ad 0)), (5, .int x5), (6, .int x6), (7, .int x7), (10, .int x10), (11, .int s0)]) C [1, 2, 3, 4, 5, 0] dX7_gain_115 (by decide) rfl ?_
  refine gq_iload (j := 4) C dX7_gain_117 rfl ?_
  refine gq_if_eq (tgt := 126) C dX7_gain_119 (by decide) (fun c11 => ?_) (fun c11 => ?_)
  · have h := h.1 c11
    refine gq_iconst (v := 0) C dX7_gain_126 (by decide) ?_
    refine gq_sub [0, 1, 2, 3, 5] rfl ?_
    exact tq_X7_gain_b127 C _ _ _ _ _ _ h
  · have h := h.2 c11
    refine gq_iconst (v := 2) C dX7_gain_122 (by decide) ?_
    refine gq_goto (tgt := 127) C dX7_gain_123 (by decide) ?_
    refine gq_sub [0, 1, 2, 3, 5] rfl ?_
    exact tq_X7_gain_b127 C _ _ _ _ _ _ h
def wq_X7_gain_b73 (Q : Int32 → gq_M → Prop) (x5 : Int32) (x6 : Int32) (x7 : Int32) (x8 : Int32) (x9 : Int32) (s0 : Int32) (σ : gq_M) : Prop := ((s0 = 0 → wq_X7_gain_b115 Q x5 x6 x7 s0 0 σ) ∧ (¬ s0 = 0 → wq_X7_reachOn 1 x8 (σ.1 5 24) σ (fun r16 σ17 => vp_in (14 + x9) 28 ∧ wq_X7_has r16 (σ17.1 5 ((14 + x9)).toNatClampNeg) σ17 (fun r18 σ19 => ((r18 = 0 → wq_X7_gain_b115 Q x5 x6 x7 s0 0 σ19) ∧ (¬ r18 = 0 → wq_X7_gain_b115 Q x5 x6 x7 s0 1 σ19))))))
set_option maxRecDepth 100000 in
set_option maxHeartbeats 4000000 in
theorem tq_X7_gain_b73 {p : Program} {l : Launch} {e : Env} {s : State} {m : MethodId} {args : Array Value} {below : List Frame} {meth : Method} {c : Code} {D : va_G} {cyI cyZ : ClassId} {ad : Nat → Nat} {Q : Int32 → gq_M → Prop} (C : gq_C p s m args meth c cX7_gain 12 RX7 wsX7_gain D (gm_T cyI cyZ) 17 ad (some .int)) (x5 : Int32) (x6 : Int32) (x7 : Int32) (x8 : Int32) (x9 : Int32) (s0 : Int32) (σ : gq_M) (h : wq_X7_gain_b73 Q x5 x6 x7 x8 x9 s0 σ) : gq_G p l e rq_X7_gain s m args below meth c (gq_Ri below args s D (gm_T cyI cyZ) 17 ad (gm_S cyI cyZ ad) Q) D 17 ad (gm_S cyI cyZ ad) 12 σ 73 [(0, .ref (ad 0)), (5, .int x5), (6, .int x6), (7, .int x7), (8, .int x8), (9, .int x9)] [.int s0] := by
  unfold wq_X7_gain_b73 at h
  refine gq_istore (L' := [(0, .ref (ad 0)), (5, .int x5), (6, .int x6), (7, .int x7), (8, .int x8), (9, .int x9), (10, .int s0)]) C [1, 2, 3, 4, 5, 6, 0] dX7_gain_73 (by decide) rfl ?_
  refine gq_iload (j := 6) C dX7_gain_75 rfl ?_
  refine gq_if_eq (tgt := 114) C dX7_gain_77 (by decide) (fun c10 => ?_) (fun c10 => ?_)
  · have h := h.1 c10
    refine gq_iconst (v := 0) C dX7_gain_114 (by decide) ?_
    refine gq_sub [0, 1, 2, 3, 6] rfl ?_
    exact tq_X7_gain_b115 C _ _ _ _ _ _ h
  · have h := h.2 c10
    refine gq_aload_n (j := 0) C dX7_gain_80 rfl ?_
    refine gq_iconst (v := 1) C dX7_gain_81 (by decide) ?_
    refine gq_iload (j := 4) C dX7_gain_82 rfl ?_
    refine gq_aload_n (j := 0) C dX7_gain_84 rfl ?_
    refine gq_get (v := .ref (ad 5)) (i := 0) C gms_0 rfl iq_X7_gain_X7 6 (by decide) fq_X7_gain_22 rfl dX7_gain_85 ?_
    refine gq_bipush (v := 24) C dX7_gain_88 (by decide) ?_
    refine gq_iald (i := 5) (j := 24) C gms_5 0 rfl (by decide) (vp_in_iff.mpr ⟨by decide, by decide⟩) dX7_gain_90 ?_
    refine gq_vi (i := 0) C gms_0 rfl [.int 1, .int x8, .int (σ.1 5 24)] (mq_X7_reachOn C.2.2.1 1 x8 (σ.1 5 24) σ _ h) gX7_gain_X7_reachOn rfl rfl dq_X7_reachOn ⟨rfl, rfl, by decide, by decide⟩ rfl rfl (Nat.le_of_ble_eq_true rfl) dX7_gain_91 (fun r16 σ17 h => ?_)
    refine gq_aload_n (j := 0) C dX7_gain_94 rfl ?_
    refine gq_get (v := .ref (ad 5)) (i := 0) C gms_0 rfl iq_X7_gain_X7 6 (by decide) fq_X7_gain_22 rfl dX7_gain_95 ?_
    refine gq_bipush (v := 14) C dX7_gain_98 (by decide) ?_
    refine gq_iload (j := 5) C dX7_gain_100 rfl ?_
    refine gq_iadd C dX7_gain_102 ?_
    refine gq_iald (i := 5) (j := ((14 + x9)).toNatClampNeg) C gms_5 0 rfl rfl h.1 dX7_gain_103 ?_
    have h := h.2
    refine gq_si C [.int r16, .int (σ17.1 5 ((14 + x9)).toNatClampNeg)] (mq_X7_has C.2.2.1 r16 (σ17.1 5 ((14 + x9)).toNatClampNeg) σ17 _ h) gX7_gain_X7_has rfl dq_X7_has ⟨rfl, rfl, by decide, by decide⟩ rfl rfl (Nat.le_of_ble_eq_true rfl) dX7_gain_104 (fun r18 σ19 h => ?_)
    refine gq_if_eq (tgt := 114) C dX7_gain_107 (by decide) (fun c20 => ?_) (fun c20 => ?_)
    · have h := h.1 c20
      refine gq_iconst (v := 0) C dX7_gain_114 (by decide) ?_
      refine gq_sub [0, 1, 2, 3, 6] rfl ?_
      exact tq_X7_gain_b115 C _ _ _ _ _ _ h
    · have h := h.2 c20
      refine gq_iconst (v := 1) C dX7_gain_110 (by decide) ?_
      refine gq_goto (tgt := 115) C dX7_gain_111 (by decide) ?_
      refine gq_sub [0, 1, 2, 3, 6] rfl ?_
      exact tq_X7_gain_b115 C _ _ _ _ _ _ h
def wq_X7_gain_b43 (Q : Int32 → gq_M → Prop) (x5 : Int32) (x6 : Int32) (x7 : Int32) (x8 : Int32) (s0 : Int32) (σ : gq_M) : Prop := vp_in (14 + x8) 28 ∧ vp_in (14 + s0) 28 ∧ (((σ.1 5 ((14 + x8)).toNatClampNeg) = (σ.1 5 ((14 + s0)).toNatClampNeg) → wq_X7_gain_b73 Q x5 x6 x7 x8 s0 0 σ) ∧ (¬ (σ.1 5 ((14 + x8)).toNatClampNeg) = (σ.1 5 ((14 + s0)).toNatClampNeg) → wq_X7_gain_b73 Q x5 x6 x7 x8 s0 1 σ))
set_option maxRecDepth 100000 in
set_option maxHeartbeats 4000000 in
theorem tq_X7_gain_b43 {p : Program} {l : Launch} {e : Env} {s : State} {m : MethodId} {args : Array Value} {below : List Frame} {meth : Method} {c : Code} {D : va_G} {cyI cyZ : ClassId} {ad : Nat → Nat} {Q : Int32 → gq_M → Prop} (C : gq_C p s m args meth c cX7_gain 12 RX7 wsX7_gain D (gm_T cyI cyZ) 17 ad (some .int)) (x5 : Int32) (x6 : Int32) (x7 : Int32) (x8 : Int32) (s0 : Int32) (σ : gq_M) (h : wq_X7_gain_b43 Q x5 x6 x7 x8 s0 σ) : gq_G p l e rq_X7_gain s m args below meth c (gq_Ri below args s D (gm_T cyI cyZ) 17 ad (gm_S cyI cyZ ad) Q) D 17 ad (gm_S cyI cyZ ad) 12 σ 43 [(0, .ref (ad 0)), (5, .int x5), (6, .int x6), (7, .int x7), (8, .int x8)] [.int s0] := by
  unfold wq_X7_gain_b43 at h
  refine gq_istore (L' := [(0, .ref (ad 0)), (5, .int x5), (6, .int x6), (7, .int x7), (8, .int x8), (9, .int s0)]) C [1, 2, 3, 4, 5, 0] dX7_gain_43 (by decide) rfl ?_
  refine gq_aload_n (j := 0) C dX7_gain_45 rfl ?_
  refine gq_get (v := .ref (ad 5)) (i := 0) C gms_0 rfl iq_X7_gain_X7 6 (by decide) fq_X7_gain_22 rfl dX7_gain_46 ?_
  refine gq_bipush (v := 14) C dX7_gain_49 (by decide) ?_
  refine gq_iload (j := 4) C dX7_gain_51 rfl ?_
  refine gq_iadd C dX7_gain_53 ?_
  refine gq_iald (i := 5) (j := ((14 + x8)).toNatClampNeg) C gms_5 0 rfl rfl h.1 dX7_gain_54 ?_
  have h := h.2
  refine gq_aload_n (j := 0) C dX7_gain_55 rfl ?_
  refine gq_get (v := .ref (ad 5)) (i := 0) C gms_0 rfl iq_X7_gain_X7 6 (by decide) fq_X7_gain_22 rfl dX7_gain_56 ?_
  refine gq_bipush (v := 14) C dX7_gain_59 (by decide) ?_
  refine gq_iload (j := 5) C dX7_gain_61 rfl ?_
  refine gq_iadd C dX7_gain_63 ?_
  refine gq_iald (i := 5) (j := ((14 + s0)).toNatClampNeg) C gms_5 0 rfl rfl h.1 dX7_gain_64 ?_
  have h := h.2
  refine gq_icmp_eq (tgt := 72) C dX7_gain_65 (by decide) (fun c9 => ?_) (fun c9 => ?_)
  · have h := h.1 c9
    refine gq_iconst (v := 0) C dX7_gain_72 (by decide) ?_
    exact tq_X7_gain_b73 C _ _ _ _ _ _ _ h
  · have h := h.2 c9
    refine gq_iconst (v := 1) C dX7_gain_68 (by decide) ?_
    refine gq_goto (tgt := 73) C dX7_gain_69 (by decide) ?_
    exact tq_X7_gain_b73 C _ _ _ _ _ _ _ h
def wq_X7_gain_b31 (Q : Int32 → gq_M → Prop) (x1 : Int32) (x2 : Int32) (x5 : Int32) (x6 : Int32) (x7 : Int32) (s0 : Int32) (σ : gq_M) : Prop := ((x5 = 0 → wq_X7_gain_b43 Q x5 x6 x7 s0 x1 σ) ∧ (¬ x5 = 0 → wq_X7_gain_b43 Q x5 x6 x7 s0 x2 σ))
set_option maxRecDepth 100000 in
set_option maxHeartbeats 4000000 in
theorem tq_X7_gain_b31 {p : Program} {l : Launch} {e : Env} {s : State} {m : MethodId} {args : Array Value} {below : List Frame} {meth : Method} {c : Code} {D : va_G} {cyI cyZ : ClassId} {ad : Nat → Nat} {Q : Int32 → gq_M → Prop} (C : gq_C p s m args meth c cX7_gain 12 RX7 wsX7_gain D (gm_T cyI cyZ) 17 ad (some .int)) (x1 : Int32) (x2 : Int32) (x5 : Int32) (x6 : Int32) (x7 : Int32) (s0 : Int32) (σ : gq_M) (h : wq_X7_gain_b31 Q x1 x2 x5 x6 x7 s0 σ) : gq_G p l e rq_X7_gain s m args below meth c (gq_Ri below args s D (gm_T cyI cyZ) 17 ad (gm_S cyI cyZ ad) Q) D 17 ad (gm_S cyI cyZ ad) 12 σ 31 [(0, .ref (ad 0)), (1, .int x1), (2, .int x2), (5, .int x5), (6, .int x6), (7, .int x7)] [.int s0] := by
  unfold wq_X7_gain_b31 at h
  refine gq_istore (L' := [(0, .ref (ad 0)), (1, .int x1), (2, .int x2), (5, .int x5), (6, .int x6), (7, .int x7), (8, .int s0)]) C [1, 2, 3, 4, 5, 6, 0] dX7_gain_31 (by decide) rfl ?_
  refine gq_iload (j := 3) C dX7_gain_33 rfl ?_
  refine gq_if_eq (tgt := 42) C dX7_gain_35 (by decide) (fun c8 => ?_) (fun c8 => ?_)
  · have h := h.1 c8
    refine gq_iload_n (j := 1) C dX7_gain_42 rfl ?_
    refine gq_sub [0, 3, 4, 5, 6] rfl ?_
    exact tq_X7_gain_b43 C _ _ _ _ _ _ h
  · have h := h.2 c8
    refine gq_iload_n (j := 2) C dX7_gain_38 rfl ?_
    refine gq_goto (tgt := 43) C dX7_gain_39 (by decide) ?_
    refine gq_sub [0, 3, 4, 5, 6] rfl ?_
    exact tq_X7_gain_b43 C _ _ _ _ _ _ h
def wq_X7_gain (a1 : Int32) (a2 : Int32) (a3 : Int32) (a4 : Int32) (a5 : Int32) (σ : gq_M) (Q : Int32 → gq_M → Prop) : Prop := wq_X7_layTrial σ (fun σ2 => wq_X7_choose a1 a3 σ2 (fun r3 σ4 => wq_X7_choose a2 a4 σ4 (fun r5 σ6 => ((a5 = 0 → wq_X7_gain_b31 Q a1 a2 a5 r3 r5 a2 σ6) ∧ (¬ a5 = 0 → wq_X7_gain_b31 Q a1 a2 a5 r3 r5 a1 σ6)))))
set_option maxRecDepth 100000 in
set_option maxHeartbeats 4000000 in
theorem tq_X7_gain {p : Program} {l : Launch} {e : Env} {s : State} {m : MethodId} {args : Array Value} {below : List Frame} {meth : Method} {c : Code} {D : va_G} {cyI cyZ : ClassId} {ad : Nat → Nat} {Q : Int32 → gq_M → Prop} (C : gq_C p s m args meth c cX7_gain 12 RX7 wsX7_gain D (gm_T cyI cyZ) 17 ad (some .int)) (a1 : Int32) (a2 : Int32) (a3 : Int32) (a4 : Int32) (a5 : Int32) (σ : gq_M) (h : wq_X7_gain a1 a2 a3 a4 a5 σ Q) : gq_G p l e rq_X7_gain s m args below meth c (gq_Ri below args s D (gm_T cyI cyZ) 17 ad (gm_S cyI cyZ ad) Q) D 17 ad (gm_S cyI cyZ ad) 12 σ 0 [(0, .ref (ad 0)), (1, .int a1), (2, .int a2), (3, .int a3), (4, .int a4), (5, .int a5)] [] := by
  unfold wq_X7_gain at h
  refine gq_aload_n (j := 0) C dX7_gain_0 rfl ?_
  refine gq_vv (i := 0) C gms_0 rfl [] (mq_X7_layTrial C.2.2.1 σ _ h) gX7_gain_X7_layTrial rfl rfl dq_X7_layTrial ⟨rfl, rfl, by decide, by decide⟩ rfl rfl (Nat.le_of_ble_eq_true rfl) dX7_gain_1 (fun σ2 h => ?_)
  refine gq_aload_n (j := 0) C dX7_gain_4 rfl ?_
  refine gq_iload_n (j := 1) C dX7_gain_5 rfl ?_
  refine gq_iload_n (j := 3) C dX7_gain_6 rfl ?_
  refine gq_vi (i := 0) C gms_0 rfl [.int a1, .int a3] (mq_X7_choose C.2.2.1 a1 a3 σ2 _ h) gX7_gain_X7_choose rfl rfl dq_X7_choose ⟨rfl, rfl, by decide, by decide⟩ rfl rfl (Nat.le_of_ble_eq_true rfl) dX7_gain_7 (fun r3 σ4 h => ?_)
  refine gq_istore (L' := [(0, .ref (ad 0)), (1, .int a1), (2, .int a2), (3, .int a3), (4, .int a4), (5, .int a5), (6, .int r3)]) C [1, 2, 3, 4, 5, 6, 0] dX7_gain_10 (by decide) rfl ?_
  refine gq_aload_n (j := 0) C dX7_gain_12 rfl ?_
  refine gq_iload_n (j := 2) C dX7_gain_13 rfl ?_
  refine gq_iload (j := 4) C dX7_gain_14 rfl ?_
  refine gq_vi (i := 0) C gms_0 rfl [.int a2, .int a4] (mq_X7_choose C.2.2.1 a2 a4 σ4 _ h) gX7_gain_X7_choose rfl rfl dq_X7_choose ⟨rfl, rfl, by decide, by decide⟩ rfl rfl (Nat.le_of_ble_eq_true rfl) dX7_gain_16 (fun r5 σ6 h => ?_)
  refine gq_istore (L' := [(0, .ref (ad 0)), (1, .int a1), (2, .int a2), (3, .int a3), (4, .int a4), (5, .int a5), (6, .int r3), (7, .int r5)]) C [1, 2, 3, 4, 5, 6, 7, 0] dX7_gain_19 (by decide) rfl ?_
  refine gq_iload (j := 5) C dX7_gain_21 rfl ?_
  refine gq_if_eq (tgt := 30) C dX7_gain_23 (by decide) (fun c7 => ?_) (fun c7 => ?_)
  · have h := h.1 c7
    refine gq_iload_n (j := 2) C dX7_gain_30 rfl ?_
    refine gq_sub [0, 1, 2, 5, 6, 7] rfl ?_
    exact tq_X7_gain_b31 C _ _ _ _ _ _ _ h
  · have h := h.2 c7
    refine gq_iload_n (j := 1) C dX7_gain_26 rfl ?_
    refine gq_goto (tgt := 31) C dX7_gain_27 (by decide) ?_
    refine gq_sub [0, 1, 2, 5, 6, 7] rfl ?_
    exact tq_X7_gain_b31 C _ _ _ _ _ _ _ h
theorem mq_X7_gain {l : Launch} {D : va_G} {cyI cyZ : ClassId} {ad : Nat → Nat} (hap : gq_ap 17 ad) (a1 : Int32) (a2 : Int32) (a3 : Int32) (a4 : Int32) (a5 : Int32) (σ : gq_M) (Q : Int32 → gq_M → Prop) (h : wq_X7_gain a1 a2 a3 a4 a5 σ Q) : Met l yX7_gain wsX7_gain rq_X7_gain (va_Pc [.ref (ad 0), .int a1, .int a2, .int a3, .int a4, .int a5] (gq_P D (gm_T cyI cyZ) 17 ad (gm_S cyI cyZ ad) σ)) (va_Qi Q (gq_P D (gm_T cyI cyZ) 17 ad (gm_S cyI cyZ ad)) (gq_A 17 ad)) 0 0 (gq_A 17 ad) :=
  gq_met hap (by decide) rfl rfl (Nat.le_of_ble_eq_true rfl) (fun _ _ _ _ _ _ _ C => tq_X7_gain C a1 a2 a3 a4 a5 σ h)
abbrev rq_X7_isRest : Room := { frames := 7, cells := 0, slots := 0, locals := 180 }
theorem dq_X7_isRest : gq_dsc yX7_isRest 4 := by unfold gq_dsc; decide +kernel
def wq_X7_isRest_b69 (Q : Int32 → gq_M → Prop) (K6 : Int32 → Int32 → Int32 → Int32 → Int32 → Int32 → gq_M → Prop) (x1 : Int32) (x2 : Int32) (x3 : Int32) (x4 : Int32) (x6 : Int32) (s0 : Int32) (σ : gq_M) : Prop := ∀ v3, v3 = (x6 + 1) → K6 x1 x2 x3 x4 s0 v3 σ
set_option maxRecDepth 100000 in
set_option maxHeartbeats 4000000 in
theorem tq_X7_isRest_b69 {p : Program} {l : Launch} {e : Env} {s : State} {m : MethodId} {args : Array Value} {below : List Frame} {meth : Method} {c : Code} {D : va_G} {cyI cyZ : ClassId} {ad : Nat → Nat} {Q : Int32 → gq_M → Prop} {K6 : Int32 → Int32 → Int32 → Int32 → Int32 → Int32 → gq_M → Prop} (C : gq_C p s m args meth c cX7_isRest 7 RX7 wsX7_isRest D (gm_T cyI cyZ) 17 ad (some .boolean)) (hK6 : ∀ (y1 : Int32) (y2 : Int32) (y3 : Int32) (y4 : Int32) (y5 : Int32) (y6 : Int32) (τ : gq_M), K6 y1 y2 y3 y4 y5 y6 τ → gq_G p l e rq_X7_isRest s m args below meth c (gq_Ri below args s D (gm_T cyI cyZ) 17 ad (gm_S cyI cyZ ad) Q) D 17 ad (gm_S cyI cyZ ad) 7 τ 6 [(0, .ref (ad 0)), (1, .int y1), (2, .int y2), (3, .int y3), (4, .int y4), (5, .int y5), (6, .int y6)] []) (x1 : Int32) (x2 : Int32) (x3 : Int32) (x4 : Int32) (x6 : Int32) (s0 : Int32) (σ : gq_M) (h : wq_X7_isRest_b69 Q K6 x1 x2 x3 x4 x6 s0 σ) : gq_G p l e rq_X7_isRest s m args below meth c (gq_Ri below args s D (gm_T cyI cyZ) 17 ad (gm_S cyI cyZ ad) Q) D 17 ad (gm_S cyI cyZ ad) 7 σ 69 [(0, .ref (ad 0)), (1, .int x1), (2, .int x2), (3, .int x3), (4, .int x4), (6, .int x6)] [.int s0] := by
  unfold wq_X7_isRest_b69 at h
  refine gq_istore (L' := [(0, .ref (ad 0)), (1, .int x1), (2, .int x2), (3, .int x3), (4, .int x4), (5, .int s0), (6, .int x6)]) C [1, 2, 3, 4, 5, 0, 6] dX7_isRest_69 (by decide) rfl ?_
  obtain ⟨v3, qv3⟩ : ∃ y : Int32, y = (x6 + 1) := ⟨_, rfl⟩
  have h := h v3 qv3
  refine gq_iinc (j := 6) (v := v3) (L' := [(0, .ref (ad 0)), (1, .int x1), (2, .int x2), (3, .int x3), (4, .int x4), (5, .int s0), (6, .int v3)]) C [1, 2, 3, 4, 5, 6, 0] dX7_isRest_71 rfl (by rw [qv3]; rfl) (by decide) rfl ?_
  refine gq_goto (tgt := 6) C dX7_isRest_74 (by decide) ?_
  exact hK6 _ _ _ _ _ _ _ h
def wq_X7_isRest_l6 (Q : Int32 → gq_M → Prop) (K77 : Int32 → gq_M → Prop) : Nat → Int32 → Int32 → Int32 → Int32 → Int32 → Int32 → gq_M → Prop
  | 0, _, _, _, _, _, _, _ => False
  | n + 1, x1, x2, x3, x4, x5, x6, σ => ((3 ≤ x6 → K77 x5 σ) ∧ (¬ 3 ≤ x6 → ((x5 = 0 → wq_X7_isRest_b69 Q (wq_X7_isRest_l6 Q K77 n) x1 x2 x3 x4 x6 0 σ) ∧ (¬ x5 = 0 → wq_X7_gain x1 x2 x6 x4 1 σ (fun r4 σ5 => wq_X7_gain x1 x2 x3 x4 1 σ5 (fun r6 σ7 => ((r6 < r4 → wq_X7_isRest_b69 Q (wq_X7_isRest_l6 Q K77 n) x1 x2 x3 x4 x6 0 σ7) ∧ (¬ r6 < r4 → wq_X7_gain x1 x2 x3 x6 0 σ7 (fun r9 σ10 => wq_X7_gain x1 x2 x3 x4 0 σ10 (fun r11 σ12 => ((r11 < r9 → wq_X7_isRest_b69 Q (wq_X7_isRest_l6 Q K77 n) x1 x2 x3 x4 x6 0 σ12) ∧ (¬ r11 < r9 → wq_X7_isRest_b69 Q (wq_X7_isRest_l6 Q K77 n) x1 x2 x3 x4 x6 1 σ12))))))))))))
set_option maxRecDepth 100000 in
set_option maxHeartbeats 4000000 in
theorem tq_X7_isRest_l6 {p : Program} {l : Launch} {e : Env} {s : State} {m : MethodId} {args : Array Value} {below : List Frame} {meth : Method} {c : Code} {D : va_G} {cyI cyZ : ClassId} {ad : Nat → Nat} {Q : Int32 → gq_M → Prop} {K77 : Int32 → gq_M → Prop} (C : gq_C p s m args meth c cX7_isRest 7 RX7 wsX7_isRest D (gm_T cyI cyZ) 17 ad (some .boolean)) (hK77 : ∀ (y5 : Int32) (τ : gq_M), K77 y5 τ → gq_G p l e rq_X7_isRest s m args below meth c (gq_Ri below args s D (gm_T cyI cyZ) 17 ad (gm_S cyI cyZ ad) Q) D 17 ad (gm_S cyI cyZ ad) 7 τ 77 [(0, .ref (ad 0)), (5, .int y5)] []) : ∀ (n : Nat) (x1 : Int32) (x2 : Int32) (x3 : Int32) (x4 : Int32) (x5 : Int32) (x6 : Int32) (σ : gq_M), wq_X7_isRest_l6 Q K77 n x1 x2 x3 x4 x5 x6 σ → gq_G p l e rq_X7_isRest s m args below meth c (gq_Ri below args s D (gm_T cyI cyZ) 17 ad (gm_S cyI cyZ ad) Q) D 17 ad (gm_S cyI cyZ ad) 7 σ 6 [(0, .ref (ad 0)), (1, .int x1), (2, .int x2), (3, .int x3), (4, .int x4), (5, .int x5), (6, .int x6)] [] := by
  intro n
  induction n with
  | zero =>
    intro x1 x2 x3 x4 x5 x6 σ h
    exact absurd h (fun q => q)
  | succ n ih =>
    intro x1 x2 x3 x4 x5 x6 σ h
    unfold wq_X7_isRest_l6 at h
    refine gq_iload (j := 6) C dX7_isRest_6 rfl ?_
    refine gq_iconst (v := 3) C dX7_isRest_8 (by decide) ?_
    refine gq_icmp_ge (tgt := 77) C dX7_isRest_9 (by decide) (fun c1 => ?_) (fun c1 => ?_)
    · have h := h.1 c1
      refine gq_sub [0, 5] rfl ?_
      exact hK77 _ _ h
    · have h := h.2 c1
      refine gq_iload (j := 5) C dX7_isRest_12 rfl ?_
      refine gq_if_eq (tgt := 68) C dX7_isRest_14 (by decide) (fun c2 => ?_) (fun c2 => ?_)
      · have h := h.1 c2
        refine gq_iconst (v := 0) C dX7_isRest_68 (by decide) ?_
        refine gq_sub [0, 1, 2, 3, 4, 6] rfl ?_
        exact tq_X7_isRest_b69 C (ih) _ _ _ _ _ _ _ h
      · have h := h.2 c2
        refine gq_aload_n (j := 0) C dX7_isRest_17 rfl ?_
        refine gq_iload_n (j := 1) C dX7_isRest_18 rfl ?_
        refine gq_iload_n (j := 2) C dX7_isRest_19 rfl ?_
        refine gq_iload (j := 6) C dX7_isRest_20 rfl ?_
        refine gq_iload (j := 4) C dX7_isRest_22 rfl ?_
        refine gq_iconst (v := 1) C dX7_isRest_24 (by decide) ?_
        refine gq_vi (i := 0) C gms_0 rfl [.int x1, .int x2, .int x6, .int x4, .int 1] (mq_X7_gain C.2.2.1 x1 x2 x6 x4 1 σ _ h) gX7_isRest_X7_gain rfl rfl dq_X7_gain ⟨rfl, rfl, by decide, by decide⟩ rfl rfl (Nat.le_of_ble_eq_true rfl) dX7_isRest_25 (fun r4 σ5 h => ?_)
        refine gq_aload_n (j := 0) C dX7_isRest_28 rfl ?_
        refine gq_iload_n (j := 1) C dX7_isRest_29 rfl ?_
        refine gq_iload_n (j := 2) C dX7_isRest_30 rfl ?_
        refine gq_iload_n (j := 3) C dX7_isRest_31 rfl ?_
        refine gq_iload (j := 4) C dX7_isRest_32 rfl ?_
        refine gq_iconst (v := 1) C dX7_isRest_34 (by decide) ?_
        refine gq_vi (i := 0) C gms_0 rfl [.int x1, .int x2, .int x3, .int x4, .int 1] (mq_X7_gain C.2.2.1 x1 x2 x3 x4 1 σ5 _ h) gX7_isRest_X7_gain rfl rfl dq_X7_gain ⟨rfl, rfl, by decide, by decide⟩ rfl rfl (Nat.le_of_ble_eq_true rfl) dX7_isRest_35 (fun r6 σ7 h => ?_)
        refine gq_icmp_gt (tgt := 68) C dX7_isRest_38 (by decide) (fun c8 => ?_) (fun c8 => ?_)
        · have h := h.1 c8
          refine gq_iconst (v := 0) C dX7_isRest_68 (by decide) ?_
          refine gq_sub [0, 1, 2, 3, 4, 6] rfl ?_
          exact tq_X7_isRest_b69 C (ih) _ _ _ _ _ _ _ h
        · have h := h.2 c8
          refine gq_aload_n (j := 0) C dX7_isRest_41 rfl ?_
          refine gq_iload_n (j := 1) C dX7_isRest_42 rfl ?_
          refine gq_iload_n (j := 2) C dX7_isRest_43 rfl ?_
          refine gq_iload_n (j := 3) C dX7_isRest_44 rfl ?_
          refine gq_iload (j := 6) C dX7_isRest_45 rfl ?_
          refine gq_iconst (v := 0) C dX7_isRest_47 (by decide) ?_
          refine gq_vi (i := 0) C gms_0 rfl [.int x1, .int x2, .int x3, .int x6, .int 0] (mq_X7_gain C.2.2.1 x1 x2 x3 x6 0 σ7 _ h) gX7_isRest_X7_gain rfl rfl dq_X7_gain ⟨rfl, rfl, by decide, by decide⟩ rfl rfl (Nat.le_of_ble_eq_true rfl) dX7_isRest_48 (fun r9 σ10 h => ?_)
          refine gq_aload_n (j := 0) C dX7_isRest_51 rfl ?_
          refine gq_iload_n (j := 1) C dX7_isRest_52 rfl ?_
          refine gq_iload_n (j := 2) C dX7_isRest_53 rfl ?_
          refine gq_iload_n (j := 3) C dX7_isRest_54 rfl ?_
          refine gq_iload (j := 4) C dX7_isRest_55 rfl ?_
          refine gq_iconst (v := 0) C dX7_isRest_57 (by decide) ?_
          refine gq_vi (i := 0) C gms_0 rfl [.int x1, .int x2, .int x3, .int x4, .int 0] (mq_X7_gain C.2.2.1 x1 x2 x3 x4 0 σ10 _ h) gX7_isRest_X7_gain rfl rfl dq_X7_gain ⟨rfl, rfl, by decide, by decide⟩ rfl rfl (Nat.le_of_ble_eq_true rfl) dX7_isRest_58 (fun r11 σ12 h => ?_)
          refine gq_icmp_gt (tgt := 68) C dX7_isRest_61 (by decide) (fun c13 => ?_) (fun c13 => ?_)
          · have h := h.1 c13
            refine gq_iconst (v := 0) C dX7_isRest_68 (by decide) ?_
            refine gq_sub [0, 1, 2, 3, 4, 6] rfl ?_
            exact tq_X7_isRest_b69 C (ih) _ _ _ _ _ _ _ h
          · have h := h.2 c13
            refine gq_iconst (v := 1) C dX7_isRest_64 (by decide) ?_
            refine gq_goto (tgt := 69) C dX7_isRest_65 (by decide) ?_
            refine gq_sub [0, 1, 2, 3, 4, 6] rfl ?_
            exact tq_X7_isRest_b69 C (ih) _ _ _ _ _ _ _ h
def wq_X7_isRest (a1 : Int32) (a2 : Int32) (a3 : Int32) (a4 : Int32) (σ : gq_M) (Q : Int32 → gq_M → Prop) : Prop := (∃ n16, wq_X7_isRest_l6 Q (fun e14 σ15 => (gq_b e14 ∧ Q e14 σ15)) n16 a1 a2 a3 a4 1 0 σ)
set_option maxRecDepth 100000 in
set_option maxHeartbeats 4000000 in
theorem tq_X7_isRest {p : Program} {l : Launch} {e : Env} {s : State} {m : MethodId} {args : Array Value} {below : List Frame} {meth : Method} {c : Code} {D : va_G} {cyI cyZ : ClassId} {ad : Nat → Nat} {Q : Int32 → gq_M → Prop} (C : gq_C p s m args meth c cX7_isRest 7 RX7 wsX7_isRest D (gm_T cyI cyZ) 17 ad (some .boolean)) (a1 : Int32) (a2 : Int32) (a3 : Int32) (a4 : Int32) (σ : gq_M) (h : wq_X7_isRest a1 a2 a3 a4 σ Q) : gq_G p l e rq_X7_isRest s m args below meth c (gq_Ri below args s D (gm_T cyI cyZ) 17 ad (gm_S cyI cyZ ad) Q) D 17 ad (gm_S cyI cyZ ad) 7 σ 0 [(0, .ref (ad 0)), (1, .int a1), (2, .int a2), (3, .int a3), (4, .int a4)] [] := by
  unfold wq_X7_isRest at h
  refine gq_iconst (v := 1) C dX7_isRest_0 (by decide) ?_
  refine gq_istore (L' := [(0, .ref (ad 0)), (1, .int a1), (2, .int a2), (3, .int a3), (4, .int a4), (5, .int 1)]) C [1, 2, 3, 4, 5, 0] dX7_isRest_1 (by decide) rfl ?_
  refine gq_iconst (v := 0) C dX7_isRest_3 (by decide) ?_
  refine gq_istore (L' := [(0, .ref (ad 0)), (1, .int a1), (2, .int a2), (3, .int a3), (4, .int a4), (5, .int 1), (6, .int 0)]) C [1, 2, 3, 4, 5, 6, 0] dX7_isRest_4 (by decide) rfl ?_
  obtain ⟨n16, h⟩ := h
  refine tq_X7_isRest_l6 C (fun e14 σ15 h => ?_) n16 _ _ _ _ _ _ _ h
  refine gq_iload (j := 1) C dX7_isRest_77 rfl ?_
  exact gq_zret C h.1 h.2 dX7_isRest_79
theorem mq_X7_isRest {l : Launch} {D : va_G} {cyI cyZ : ClassId} {ad : Nat → Nat} (hap : gq_ap 17 ad) (a1 : Int32) (a2 : Int32) (a3 : Int32) (a4 : Int32) (σ : gq_M) (Q : Int32 → gq_M → Prop) (h : wq_X7_isRest a1 a2 a3 a4 σ Q) : Met l yX7_isRest wsX7_isRest rq_X7_isRest (va_Pc [.ref (ad 0), .int a1, .int a2, .int a3, .int a4] (gq_P D (gm_T cyI cyZ) 17 ad (gm_S cyI cyZ ad) σ)) (va_Qi Q (gq_P D (gm_T cyI cyZ) 17 ad (gm_S cyI cyZ ad)) (gq_A 17 ad)) 0 0 (gq_A 17 ad) :=
  gq_met hap (by decide) rfl rfl (Nat.le_of_ble_eq_true rfl) (fun _ _ _ _ _ _ _ C => tq_X7_isRest C a1 a2 a3 a4 σ h)
abbrev rq_X7_rests : Room := { frames := 8, cells := 0, slots := 0, locals := 206 }
theorem dq_X7_rests : gq_dsc yX7_rests 3 := by unfold gq_dsc; decide +kernel
def wq_X7_rests_b97 (Q : Int32 → gq_M → Prop) (K46 : Int32 → Int32 → Int32 → Int32 → Int32 → Int32 → gq_M → Prop) (x1 : Int32) (x2 : Int32) (x3 : Int32) (x4 : Int32) (x5 : Int32) (x6 : Int32) (σ : gq_M) : Prop := ∀ v15, v15 = (x6 + 1) → K46 x1 x2 x3 x4 x5 v15 σ
set_option maxRecDepth 100000 in
set_option maxHeartbeats 4000000 in
theorem tq_X7_rests_b97 {p : Program} {l : Launch} {e : Env} {s : State} {m : MethodId} {args : Array Value} {below : List Frame} {meth : Method} {c : Code} {D : va_G} {cyI cyZ : ClassId} {ad : Nat → Nat} {Q : Int32 → gq_M → Prop} {K46 : Int32 → Int32 → Int32 → Int32 → Int32 → Int32 → gq_M → Prop} (C : gq_C p s m args meth c cX7_rests 7 RX7 wsX7_rests D (gm_T cyI cyZ) 17 ad (some .int)) (hK46 : ∀ (y1 : Int32) (y2 : Int32) (y3 : Int32) (y4 : Int32) (y5 : Int32) (y6 : Int32) (τ : gq_M), K46 y1 y2 y3 y4 y5 y6 τ → gq_G p l e rq_X7_rests s m args below meth c (gq_Ri below args s D (gm_T cyI cyZ) 17 ad (gm_S cyI cyZ ad) Q) D 17 ad (gm_S cyI cyZ ad) 7 τ 46 [(0, .ref (ad 0)), (1, .int y1), (2, .int y2), (3, .int y3), (4, .int y4), (5, .int y5), (6, .int y6)] []) (x1 : Int32) (x2 : Int32) (x3 : Int32) (x4 : Int32) (x5 : Int32) (x6 : Int32) (σ : gq_M) (h : wq_X7_rests_b97 Q K46 x1 x2 x3 x4 x5 x6 σ) : gq_G p l e rq_X7_rests s m args below meth c (gq_Ri below args s D (gm_T cyI cyZ) 17 ad (gm_S cyI cyZ ad) Q) D 17 ad (gm_S cyI cyZ ad) 7 σ 97 [(0, .ref (ad 0)), (1, .int x1), (2, .int x2), (3, .int x3), (4, .int x4), (5, .int x5), (6, .int x6)] [] := by
  unfold wq_X7_rests_b97 at h
  obtain ⟨v15, qv15⟩ : ∃ y : Int32, y = (x6 + 1) := ⟨_, rfl⟩
  have h := h v15 qv15
  refine gq_iinc (j := 6) (v := v15) (L' := [(0, .ref (ad 0)), (1, .int x1), (2, .int x2), (3, .int x3), (4, .int x4), (5, .int x5), (6, .int v15)]) C [1, 2, 3, 4, 5, 6, 0] dX7_rests_97 rfl (by rw [qv15]; rfl) (by decide) rfl ?_
  refine gq_goto (tgt := 46) C dX7_rests_100 (by decide) ?_
  exact hK46 _ _ _ _ _ _ _ h
def wq_X7_rests_b92 (Q : Int32 → gq_M → Prop) (K46 : Int32 → Int32 → Int32 → Int32 → Int32 → Int32 → gq_M → Prop) (x1 : Int32) (x2 : Int32) (x3 : Int32) (x4 : Int32) (x6 : Int32) (s0 : Int32) (σ : gq_M) : Prop := ∀ v17, v17 = (x4 + 1) → wq_X7_rests_b97 Q (K46) x1 x2 x3 v17 s0 x6 σ
set_option maxRecDepth 100000 in
set_option maxHeartbeats 4000000 in
theorem tq_X7_rests_b92 {p : Program} {l : Launch} {e : Env} {s : State} {m : MethodId} {args : Array Value} {below : List Frame} {meth : Method} {c : Code} {D : va_G} {cyI cyZ : ClassId} {ad : Nat → Nat} {Q : Int32 → gq_M → Prop} {K46 : Int32 → Int32 → Int32 → Int32 → Int32 → Int32 → gq_M → Prop} (C : gq_C p s m args meth c cX7_rests 7 RX7 wsX7_rests D (gm_T cyI cyZ) 17 ad (some .int)) (hK46 : ∀ (y1 : Int32) (y2 : Int32) (y3 : Int32) (y4 : Int32) (y5 : Int32) (y6 : Int32) (τ : gq_M), K46 y1 y2 y3 y4 y5 y6 τ → gq_G p l e rq_X7_rests s m args below meth c (gq_Ri below args s D (gm_T cyI cyZ) 17 ad (gm_S cyI cyZ ad) Q) D 17 ad (gm_S cyI cyZ ad) 7 τ 46 [(0, .ref (ad 0)), (1, .int y1), (2, .int y2), (3, .int y3), (4, .int y4), (5, .int y5), (6, .int y6)] []) (x1 : Int32) (x2 : Int32) (x3 : Int32) (x4 : Int32) (x6 : Int32) (s0 : Int32) (σ : gq_M) (h : wq_X7_rests_b92 Q K46 x1 x2 x3 x4 x6 s0 σ) : gq_G p l e rq_X7_rests s m args below meth c (gq_Ri below args s D (gm_T cyI cyZ) 17 ad (gm_S cyI cyZ ad) Q) D 17 ad (gm_S cyI cyZ ad) 7 σ 92 [(0, .ref (ad 0)), (1, .int x1), (2, .int x2), (3, .int x3), (4, .int x4), (6, .int x6)] [.int s0] := by
  unfold wq_X7_rests_b92 at h
  refine gq_istore (L' := [(0, .ref (ad 0)), (1, .int x1), (2, .int x2), (3, .int x3), (4, .int x4), (5, .int s0), (6, .int x6)]) C [1, 2, 3, 4, 5, 0, 6] dX7_rests_92 (by decide) rfl ?_
  obtain ⟨v17, qv17⟩ : ∃ y : Int32, y = (x4 + 1) := ⟨_, rfl⟩
  have h := h v17 qv17
  refine gq_iinc (j := 4) (v := v17) (L' := [(0, .ref (ad 0)), (1, .int x1), (2, .int x2), (3, .int x3), (4, .int v17), (5, .int s0), (6, .int x6)]) C [1, 2, 3, 4, 0, 5, 6] dX7_rests_94 rfl (by rw [qv17]; rfl) (by decide) rfl ?_
  exact tq_X7_rests_b97 C (hK46) _ _ _ _ _ _ _ h
def wq_X7_rests_l46 (Q : Int32 → gq_M → Prop) (K103 : Int32 → Int32 → Int32 → gq_M → Prop) : Nat → Int32 → Int32 → Int32 → Int32 → Int32 → Int32 → gq_M → Prop
  | 0, _, _, _, _, _, _, _ => False
  | n + 1, x1, x2, x3, x4, x5, x6, σ => ((9 ≤ x6 → K103 x3 x4 x5 σ) ∧ (¬ 9 ≤ x6 → wq_X7_isRest x1 x2 (x6 / 3) (x6 - x6 / 3 * 3) σ (fun r12 σ13 => ((r12 = 0 → wq_X7_rests_b97 Q (wq_X7_rests_l46 Q K103 n) x1 x2 x3 x4 x5 x6 σ13) ∧ (¬ r12 = 0 → ((¬ x4 = 0 → wq_X7_rests_b92 Q (wq_X7_rests_l46 Q K103 n) x1 x2 x3 x4 x6 x5 σ13) ∧ (x4 = 0 → wq_X7_rests_b92 Q (wq_X7_rests_l46 Q K103 n) x1 x2 x3 x4 x6 ((10 * (x6 / 3)) + (x6 - x6 / 3 * 3)) σ13)))))))
set_option maxRecDepth 100000 in
set_option maxHeartbeats 4000000 in
theorem tq_X7_rests_l46 {p : Program} {l : Launch} {e : Env} {s : State} {m : MethodId} {args : Array Value} {below : List Frame} {meth : Method} {c : Code} {D : va_G} {cyI cyZ : ClassId} {ad : Nat → Nat} {Q : Int32 → gq_M → Prop} {K103 : Int32 → Int32 → Int32 → gq_M → Prop} (C : gq_C p s m args meth c cX7_rests 7 RX7 wsX7_rests D (gm_T cyI cyZ) 17 ad (some .int)) (hK103 : ∀ (y3 : Int32) (y4 : Int32) (y5 : Int32) (τ : gq_M), K103 y3 y4 y5 τ → gq_G p l e rq_X7_rests s m args below meth c (gq_Ri below args s D (gm_T cyI cyZ) 17 ad (gm_S cyI cyZ ad) Q) D 17 ad (gm_S cyI cyZ ad) 7 τ 103 [(0, .ref (ad 0)), (3, .int y3), (4, .int y4), (5, .int y5)] []) : ∀ (n : Nat) (x1 : Int32) (x2 : Int32) (x3 : Int32) (x4 : Int32) (x5 : Int32) (x6 : Int32) (σ : gq_M), wq_X7_rests_l46 Q K103 n x1 x2 x3 x4 x5 x6 σ → gq_G p l e rq_X7_rests s m args below meth c (gq_Ri below args s D (gm_T cyI cyZ) 17 ad (gm_S cyI cyZ ad) Q) D 17 ad (gm_S cyI cyZ ad) 7 σ 46 [(0, .ref (ad 0)), (1, .int x1), (2, .int x2), (3, .int x3), (4, .int x4), (5, .int x5), (6, .int x6)] [] := by
  intro n
  induction n with
  | zero =>
    intro x1 x2 x3 x4 x5 x6 σ h
    exact absurd h (fun q => q)
  | succ n ih =>
    intro x1 x2 x3 x4 x5 x6 σ h
    unfold wq_X7_rests_l46 at h
    refine gq_iload (j := 6) C dX7_rests_46 rfl ?_
    refine gq_bipush (v := 9) C dX7_rests_48 (by decide) ?_
    refine gq_icmp_ge (tgt := 103) C dX7_rests_50 (by decide) (fun c11 => ?_) (fun c11 => ?_)
    · have h := h.1 c11
      refine gq_sub [0, 3, 4, 5] rfl ?_
      exact hK103 _ _ _ _ h
    · have h := h.2 c11
      refine gq_aload_n (j := 0) C dX7_rests_53 rfl ?_
      refine gq_iload_n (j := 1) C dX7_rests_54 rfl ?_
      refine gq_iload_n (j := 2) C dX7_rests_55 rfl ?_
      refine gq_iload (j := 6) C dX7_rests_56 rfl ?_
      refine gq_iconst (v := 3) C dX7_rests_58 (by decide) ?_
      refine gq_idiv C dX7_rests_59 (by decide) ?_
      refine gq_iload (j := 6) C dX7_rests_60 rfl ?_
      refine gq_iconst (v := 3) C dX7_rests_62 (by decide) ?_
      refine gq_irem C dX7_rests_63 (by decide) ?_
      refine gq_vi (i := 0) C gms_0 rfl [.int x1, .int x2, .int (x6 / 3), .int (x6 - x6 / 3 * 3)] (mq_X7_isRest C.2.2.1 x1 x2 (x6 / 3) (x6 - x6 / 3 * 3) σ _ h) gX7_rests_X7_isRest rfl rfl dq_X7_isRest ⟨rfl, rfl, by decide, by decide⟩ rfl rfl (Nat.le_of_ble_eq_true rfl) dX7_rests_64 (fun r12 σ13 h => ?_)
      refine gq_if_eq (tgt := 97) C dX7_rests_67 (by decide) (fun c14 => ?_) (fun c14 => ?_)
      · have h := h.1 c14
        exact tq_X7_rests_b97 C (ih) _ _ _ _ _ _ _ h
      · have h := h.2 c14
        refine gq_iload (j := 4) C dX7_rests_70 rfl ?_
        refine gq_if_ne (tgt := 90) C dX7_rests_72 (by decide) (fun c16 => ?_) (fun c16 => ?_)
        · have h := h.1 c16
          refine gq_iload (j := 5) C dX7_rests_90 rfl ?_
          refine gq_sub [0, 1, 2, 3, 4, 6] rfl ?_
          exact tq_X7_rests_b92 C (ih) _ _ _ _ _ _ _ h
        · have h := h.2 c16
          refine gq_bipush (v := 10) C dX7_rests_75 (by decide) ?_
          refine gq_iload (j := 6) C dX7_rests_77 rfl ?_
          refine gq_iconst (v := 3) C dX7_rests_79 (by decide) ?_
          refine gq_idiv C dX7_rests_80 (by decide) ?_
          refine gq_imul C dX7_rests_81 ?_
          refine gq_iload (j := 6) C dX7_rests_82 rfl ?_
          refine gq_iconst (v := 3) C dX7_rests_84 (by decide) ?_
          refine gq_irem C dX7_rests_85 (by decide) ?_
          refine gq_iadd C dX7_rests_86 ?_
          refine gq_goto (tgt := 92) C dX7_rests_87 (by decide) ?_
          refine gq_sub [0, 1, 2, 3, 4, 6] rfl ?_
          exact tq_X7_rests_b92 C (ih) _ _ _ _ _ _ _ h
def wq_X7_rests (a1 : Int32) (a2 : Int32) (a3 : Int32) (σ : gq_M) (Q : Int32 → gq_M → Prop) : Prop := wq_X7_isTraveller a1 σ (fun r1 σ2 => ((r1 = 0 → Q (-1) σ2) ∧ (¬ r1 = 0 → wq_X7_isTraveller a2 σ2 (fun r4 σ5 => ((¬ r4 = 0 → ((a1 = a2 → Q (-2) σ5) ∧ (¬ a1 = a2 → wq_X7_in a3.toInt64 0 1 σ5 (fun r8 σ9 => ((¬ r8 = 0 → (∃ n23, wq_X7_rests_l46 Q (fun e18 e19 e20 σ21 => ((¬ e18 = 0 → Q e20 σ21) ∧ (e18 = 0 → Q e19 σ21))) n23 a1 a2 a3 0 (-9) 0 σ9)) ∧ (r8 = 0 → Q (-2) σ9)))))) ∧ (r4 = 0 → Q (-1) σ5))))))
set_option maxRecDepth 100000 in
set_option maxHeartbeats 4000000 in
theorem tq_X7_rests {p : Program} {l : Launch} {e : Env} {s : State} {m : MethodId} {args : Array Value} {below : List Frame} {meth : Method} {c : Code} {D : va_G} {cyI cyZ : ClassId} {ad : Nat → Nat} {Q : Int32 → gq_M → Prop} (C : gq_C p s m args meth c cX7_rests 7 RX7 wsX7_rests D (gm_T cyI cyZ) 17 ad (some .int)) (a1 : Int32) (a2 : Int32) (a3 : Int32) (σ : gq_M) (h : wq_X7_rests a1 a2 a3 σ Q) : gq_G p l e rq_X7_rests s m args below meth c (gq_Ri below args s D (gm_T cyI cyZ) 17 ad (gm_S cyI cyZ ad) Q) D 17 ad (gm_S cyI cyZ ad) 7 σ 0 [(0, .ref (ad 0)), (1, .int a1), (2, .int a2), (3, .int a3)] [] := by
  unfold wq_X7_rests at h
  refine gq_aload_n (j := 0) C dX7_rests_0 rfl ?_
  refine gq_iload_n (j := 1) C dX7_rests_1 rfl ?_
  refine gq_vi (i := 0) C gms_0 rfl [.int a1] (mq_X7_isTraveller C.2.2.1 a1 σ _ h) gX7_rests_X7_isTraveller rfl rfl dq_X7_isTraveller ⟨rfl, rfl, by decide, by decide⟩ rfl rfl (Nat.le_of_ble_eq_true rfl) dX7_rests_2 (fun r1 σ2 h => ?_)
  refine gq_if_eq (tgt := 16) C dX7_rests_5 (by decide) (fun c3 => ?_) (fun c3 => ?_)
  · have h := h.1 c3
    refine gq_iconst (v := (-1)) C dX7_rests_16 (by decide) ?_
    exact gq_iret C h dX7_rests_17
  · have h := h.2 c3
    refine gq_aload_n (j := 0) C dX7_rests_8 rfl ?_
    refine gq_iload_n (j := 2) C dX7_rests_9 rfl ?_
    refine gq_vi (i := 0) C gms_0 rfl [.int a2] (mq_X7_isTraveller C.2.2.1 a2 σ2 _ h) gX7_rests_X7_isTraveller rfl rfl dq_X7_isTraveller ⟨rfl, rfl, by decide, by decide⟩ rfl rfl (Nat.le_of_ble_eq_true rfl) dX7_rests_10 (fun r4 σ5 h => ?_)
    refine gq_if_ne (tgt := 18) C dX7_rests_13 (by decide) (fun c6 => ?_) (fun c6 => ?_)
    · have h := h.1 c6
      refine gq_iload_n (j := 1) C dX7_rests_18 rfl ?_
      refine gq_iload_n (j := 2) C dX7_rests_19 rfl ?_
      refine gq_icmp_eq (tgt := 33) C dX7_rests_20 (by decide) (fun c7 => ?_) (fun c7 => ?_)
      · have h := h.1 c7
        refine gq_bipush (v := (-2)) C dX7_rests_33 (by decide) ?_
        exact gq_iret C h dX7_rests_35
      · have h := h.2 c7
        refine gq_iload_n (j := 3) C dX7_rests_23 rfl ?_
        refine gq_i2l C dX7_rests_24 ?_
        refine gq_lconst (v := 0) C dX7_rests_25 (by decide) ?_
        refine gq_lconst (v := 1) C dX7_rests_26 (by decide) ?_
        refine gq_si C [.long a3.toInt64, .long 0, .long 1] (mq_X7_in C.2.2.1 a3.toInt64 0 1 σ5 _ h) gX7_rests_X7_in rfl dq_X7_in ⟨rfl, rfl, by decide, by decide⟩ rfl rfl (Nat.le_of_ble_eq_true rfl) dX7_rests_27 (fun r8 σ9 h => ?_)
        refine gq_if_ne (tgt := 36) C dX7_rests_30 (by decide) (fun c10 => ?_) (fun c10 => ?_)
        · have h := h.1 c10
          refine gq_iconst (v := 0) C dX7_rests_36 (by decide) ?_
          refine gq_istore (L' := [(0, .ref (ad 0)), (1, .int a1), (2, .int a2), (3, .int a3), (4, .int 0)]) C [1, 2, 3, 4, 0] dX7_rests_37 (by decide) rfl ?_
          refine gq_bipush (v := (-9)) C dX7_rests_39 (by decide) ?_
          refine gq_istore (L' := [(0, .ref (ad 0)), (1, .int a1), (2, .int a2), (3, .int a3), (4, .int 0), (5, .int (-9))]) C [1, 2, 3, 4, 5, 0] dX7_rests_41 (by decide) rfl ?_
          refine gq_iconst (v := 0) C dX7_rests_43 (by decide) ?_
          refine gq_istore (L' := [(0, .ref (ad 0)), (1, .int a1), (2, .int a2), (3, .int a3), (4, .int 0), (5, .int (-9)), (6, .int 0)]) C [1, 2, 3, 4, 5, 6, 0] dX7_rests_44 (by decide) rfl ?_
          obtain ⟨n23, h⟩ := h
          refine tq_X7_rests_l46 C (fun e18 e19 e20 σ21 h => ?_) n23 _ _ _ _ _ _ _ h
          refine gq_iload_n (j := 1) C dX7_rests_103 rfl ?_
          refine gq_if_ne (tgt := 112) C dX7_rests_104 (by decide) (fun c22 => ?_) (fun c22 => ?_)
          · have h := h.1 c22
            refine gq_iload (j := 3) C dX7_rests_112 rfl ?_
            exact gq_iret C h dX7_rests_114
          · have h := h.2 c22
            refine gq_iload (j := 2) C dX7_rests_107 rfl ?_
            refine gq_goto (tgt := 114) C dX7_rests_109 (by decide) ?_
            exact gq_iret C h dX7_rests_114
        · have h := h.2 c10
          refine gq_bipush (v := (-2)) C dX7_rests_33 (by decide) ?_
          exact gq_iret C h dX7_rests_35
    · have h := h.2 c6
      refine gq_iconst (v := (-1)) C dX7_rests_16 (by decide) ?_
      exact gq_iret C h dX7_rests_17
theorem mq_X7_rests {l : Launch} {D : va_G} {cyI cyZ : ClassId} {ad : Nat → Nat} (hap : gq_ap 17 ad) (a1 : Int32) (a2 : Int32) (a3 : Int32) (σ : gq_M) (Q : Int32 → gq_M → Prop) (h : wq_X7_rests a1 a2 a3 σ Q) : Met l yX7_rests wsX7_rests rq_X7_rests (va_Pc [.ref (ad 0), .int a1, .int a2, .int a3] (gq_P D (gm_T cyI cyZ) 17 ad (gm_S cyI cyZ ad) σ)) (va_Qi Q (gq_P D (gm_T cyI cyZ) 17 ad (gm_S cyI cyZ ad)) (gq_A 17 ad)) 0 0 (gq_A 17 ad) :=
  gq_met hap (by decide) rfl rfl (Nat.le_of_ble_eq_true rfl) (fun _ _ _ _ _ _ _ C => tq_X7_rests C a1 a2 a3 σ h)
abbrev rq_X7_power : Room := { frames := 0, cells := 0, slots := 0, locals := 0 }
theorem dq_X7_power : gq_dsc yX7_power 2 := by unfold gq_dsc; decide +kernel
def wq_X7_power_l4 (Q : Int32 → gq_M → Prop) (K19 : Int32 → gq_M → Prop) : Nat → Int32 → Int32 → Int32 → Int32 → gq_M → Prop
  | 0, _, _, _, _, _ => False
  | n + 1, x0, x1, x2, x3, σ => ((x1 ≤ x3 → K19 x2 σ) ∧ (¬ x1 ≤ x3 → ∀ v2, v2 = (x2 * x0) → ∀ v3, v3 = (x3 + 1) → wq_X7_power_l4 Q K19 n x0 x1 v2 v3 σ))
set_option maxRecDepth 100000 in
set_option maxHeartbeats 4000000 in
theorem tq_X7_power_l4 {p : Program} {l : Launch} {e : Env} {s : State} {m : MethodId} {args : Array Value} {below : List Frame} {meth : Method} {c : Code} {D : va_G} {cyI cyZ : ClassId} {ad : Nat → Nat} {Q : Int32 → gq_M → Prop} {K19 : Int32 → gq_M → Prop} (C : gq_C p s m args meth c cX7_power 4 RX7 wsX7_power D (gm_T cyI cyZ) 17 ad (some .int)) (hK19 : ∀ (y2 : Int32) (τ : gq_M), K19 y2 τ → gq_G p l e rq_X7_power s m args below meth c (gq_Ri below args s D (gm_T cyI cyZ) 17 ad (gm_S cyI cyZ ad) Q) D 17 ad (gm_S cyI cyZ ad) 4 τ 19 [(2, .int y2)] []) : ∀ (n : Nat) (x0 : Int32) (x1 : Int32) (x2 : Int32) (x3 : Int32) (σ : gq_M), wq_X7_power_l4 Q K19 n x0 x1 x2 x3 σ → gq_G p l e rq_X7_power s m args below meth c (gq_Ri below args s D (gm_T cyI cyZ) 17 ad (gm_S cyI cyZ ad) Q) D 17 ad (gm_S cyI cyZ ad) 4 σ 4 [(0, .int x0), (1, .int x1), (2, .int x2), (3, .int x3)] [] := by
  intro n
  induction n with
  | zero =>
    intro x0 x1 x2 x3 σ h
    exact absurd h (fun q => q)
  | succ n ih =>
    intro x0 x1 x2 x3 σ h
    unfold wq_X7_power_l4 at h
    refine gq_iload_n (j := 3) C dX7_power_4 rfl ?_
    refine gq_iload_n (j := 1) C dX7_power_5 rfl ?_
    refine gq_icmp_ge (tgt := 19) C dX7_power_6 (by decide) (fun c1 => ?_) (fun c1 => ?_)
    · have h := h.1 c1
      refine gq_sub [2] rfl ?_
      exact hK19 _ _ h
    · have h := h.2 c1
      refine gq_iload_n (j := 2) C dX7_power_9 rfl ?_
      refine gq_iload_n (j := 0) C dX7_power_10 rfl ?_
      refine gq_imul C dX7_power_11 ?_
      refine gq_topi (fun v2 qv2 => ?_)
      have h := h v2 qv2
      refine gq_istore_n (L' := [(0, .int x0), (1, .int x1), (2, .int v2), (3, .int x3)]) C [1, 2, 0, 3] dX7_power_12 (by decide) rfl ?_
      obtain ⟨v3, qv3⟩ : ∃ y : Int32, y = (x3 + 1) := ⟨_, rfl⟩
      have h := h v3 qv3
      refine gq_iinc (j := 3) (v := v3) (L' := [(0, .int x0), (1, .int x1), (2, .int v2), (3, .int v3)]) C [1, 2, 3, 0] dX7_power_13 rfl (by rw [qv3]; rfl) (by decide) rfl ?_
      refine gq_goto (tgt := 4) C dX7_power_16 (by decide) ?_
      exact ih _ _ _ _ _ h
def wq_X7_power (a1 : Int32) (a2 : Int32) (σ : gq_M) (Q : Int32 → gq_M → Prop) : Prop := (∃ n6, wq_X7_power_l4 Q (fun e4 σ5 => Q e4 σ5) n6 a1 a2 1 0 σ)
set_option maxRecDepth 100000 in
set_option maxHeartbeats 4000000 in
theorem tq_X7_power {p : Program} {l : Launch} {e : Env} {s : State} {m : MethodId} {args : Array Value} {below : List Frame} {meth : Method} {c : Code} {D : va_G} {cyI cyZ : ClassId} {ad : Nat → Nat} {Q : Int32 → gq_M → Prop} (C : gq_C p s m args meth c cX7_power 4 RX7 wsX7_power D (gm_T cyI cyZ) 17 ad (some .int)) (a1 : Int32) (a2 : Int32) (σ : gq_M) (h : wq_X7_power a1 a2 σ Q) : gq_G p l e rq_X7_power s m args below meth c (gq_Ri below args s D (gm_T cyI cyZ) 17 ad (gm_S cyI cyZ ad) Q) D 17 ad (gm_S cyI cyZ ad) 4 σ 0 [(0, .int a1), (1, .int a2)] [] := by
  unfold wq_X7_power at h
  refine gq_iconst (v := 1) C dX7_power_0 (by decide) ?_
  refine gq_istore_n (L' := [(0, .int a1), (1, .int a2), (2, .int 1)]) C [1, 2, 0] dX7_power_1 (by decide) rfl ?_
  refine gq_iconst (v := 0) C dX7_power_2 (by decide) ?_
  refine gq_istore_n (L' := [(0, .int a1), (1, .int a2), (2, .int 1), (3, .int 0)]) C [1, 2, 3, 0] dX7_power_3 (by decide) rfl ?_
  obtain ⟨n6, h⟩ := h
  refine tq_X7_power_l4 C (fun e4 σ5 h => ?_) n6 _ _ _ _ _ h
  refine gq_iload_n (j := 0) C dX7_power_19 rfl ?_
  exact gq_iret C h dX7_power_20
theorem mq_X7_power {l : Launch} {D : va_G} {cyI cyZ : ClassId} {ad : Nat → Nat} (hap : gq_ap 17 ad) (a1 : Int32) (a2 : Int32) (σ : gq_M) (Q : Int32 → gq_M → Prop) (h : wq_X7_power a1 a2 σ Q) : Met l yX7_power wsX7_power rq_X7_power (va_Pc [.int a1, .int a2] (gq_P D (gm_T cyI cyZ) 17 ad (gm_S cyI cyZ ad) σ)) (va_Qi Q (gq_P D (gm_T cyI cyZ) 17 ad (gm_S cyI cyZ ad)) (gq_A 17 ad)) 0 0 (gq_A 17 ad) :=
  gq_met hap (by decide) rfl rfl (Nat.le_of_ble_eq_true rfl) (fun _ _ _ _ _ _ _ C => tq_X7_power C a1 a2 σ h)
abbrev rq_X7_iceable : Room := { frames := 0, cells := 0, slots := 0, locals := 0 }
theorem dq_X7_iceable : gq_dsc yX7_iceable 0 := by unfold gq_dsc; decide +kernel
theorem iq_X7_iceable_X7 : ∀ w ∈ u_ws RX7 TX7 30, w ∈ wsX7_iceable := by decide +kernel
theorem fq_X7_iceable_93 : Cond.fieldLink RX7 93 (TX7 0).1 (TX7 0).2.1 (TX7 0).2.2.1 ∈ wsX7_iceable := by decide +kernel
theorem fq_X7_iceable_13 : Cond.fieldLink RX7 13 (TX7 3).1 (TX7 3).2.1 (TX7 3).2.2.1 ∈ wsX7_iceable := by decide +kernel
def wq_X7_iceable_b36 (Q : Int32 → gq_M → Prop) (K4 : Int32 → Int32 → gq_M → Prop) (x2 : Int32) (s0 : Int32) (s1 : Int32) (σ : gq_M) : Prop := ∀ v4, v4 = (s0 ||| s1) → ∀ v5, v5 = (x2 + 1) → K4 v4 v5 σ
set_option maxRecDepth 100000 in
set_option maxHeartbeats 4000000 in
theorem tq_X7_iceable_b36 {p : Program} {l : Launch} {e : Env} {s : State} {m : MethodId} {args : Array Value} {below : List Frame} {meth : Method} {c : Code} {D : va_G} {cyI cyZ : ClassId} {ad : Nat → Nat} {Q : Int32 → gq_M → Prop} {K4 : Int32 → Int32 → gq_M → Prop} (C : gq_C p s m args meth c cX7_iceable 3 RX7 wsX7_iceable D (gm_T cyI cyZ) 17 ad (some .int)) (hK4 : ∀ (y1 : Int32) (y2 : Int32) (τ : gq_M), K4 y1 y2 τ → gq_G p l e rq_X7_iceable s m args below meth c (gq_Ri below args s D (gm_T cyI cyZ) 17 ad (gm_S cyI cyZ ad) Q) D 17 ad (gm_S cyI cyZ ad) 3 τ 4 [(0, .ref (ad 0)), (1, .int y1), (2, .int y2)] []) (x2 : Int32) (s0 : Int32) (s1 : Int32) (σ : gq_M) (h : wq_X7_iceable_b36 Q K4 x2 s0 s1 σ) : gq_G p l e rq_X7_iceable s m args below meth c (gq_Ri below args s D (gm_T cyI cyZ) 17 ad (gm_S cyI cyZ ad) Q) D 17 ad (gm_S cyI cyZ ad) 3 σ 36 [(0, .ref (ad 0)), (2, .int x2)] [.int s1, .int s0] := by
  unfold wq_X7_iceable_b36 at h
  refine gq_ior C dX7_iceable_36 ?_
  refine gq_topi (fun v4 qv4 => ?_)
  have h := h v4 qv4
  refine gq_istore_n (L' := [(0, .ref (ad 0)), (1, .int v4), (2, .int x2)]) C [1, 0, 2] dX7_iceable_37 (by decide) rfl ?_
  obtain ⟨v5, qv5⟩ : ∃ y : Int32, y = (x2 + 1) := ⟨_, rfl⟩
  have h := h v5 qv5
  refine gq_iinc (j := 2) (v := v5) (L' := [(0, .ref (ad 0)), (1, .int v4), (2, .int v5)]) C [1, 2, 0] dX7_iceable_38 rfl (by rw [qv5]; rfl) (by decide) rfl ?_
  refine gq_goto (tgt := 4) C dX7_iceable_41 (by decide) ?_
  exact hK4 _ _ _ h
def wq_X7_iceable_l4 (Q : Int32 → gq_M → Prop) (K44 : Int32 → gq_M → Prop) : Nat → Int32 → Int32 → gq_M → Prop
  | 0, _, _, _ => False
  | n + 1, x1, x2, σ => (((σ.1 0 0) ≤ x2 → K44 x1 σ) ∧ (¬ (σ.1 0 0) ≤ x2 → ((8 ≤ x2 → K44 x1 σ) ∧ (¬ 8 ≤ x2 → vp_in x2 10 ∧ ((¬ (σ.1 2 x2.toNatClampNeg) = 3 → wq_X7_iceable_b36 Q (wq_X7_iceable_l4 Q K44 n) x2 x1 ((1 : Int32) <<< (x2 &&& 31)) σ) ∧ ((σ.1 2 x2.toNatClampNeg) = 3 → wq_X7_iceable_b36 Q (wq_X7_iceable_l4 Q K44 n) x2 x1 0 σ))))))
set_option maxRecDepth 100000 in
set_option maxHeartbeats 4000000 in
theorem tq_X7_iceable_l4 {p : Program} {l : Launch} {e : Env} {s : State} {m : MethodId} {args : Array Value} {below : List Frame} {meth : Method} {c : Code} {D : va_G} {cyI cyZ : ClassId} {ad : Nat → Nat} {Q : Int32 → gq_M → Prop} {K44 : Int32 → gq_M → Prop} (C : gq_C p s m args meth c cX7_iceable 3 RX7 wsX7_iceable D (gm_T cyI cyZ) 17 ad (some .int)) (hK44 : ∀ (y1 : Int32) (τ : gq_M), K44 y1 τ → gq_G p l e rq_X7_iceable s m args below meth c (gq_Ri below args s D (gm_T cyI cyZ) 17 ad (gm_S cyI cyZ ad) Q) D 17 ad (gm_S cyI cyZ ad) 3 τ 44 [(0, .ref (ad 0)), (1, .int y1)] []) : ∀ (n : Nat) (x1 : Int32) (x2 : Int32) (σ : gq_M), wq_X7_iceable_l4 Q K44 n x1 x2 σ → gq_G p l e rq_X7_iceable s m args below meth c (gq_Ri below args s D (gm_T cyI cyZ) 17 ad (gm_S cyI cyZ ad) Q) D 17 ad (gm_S cyI cyZ ad) 3 σ 4 [(0, .ref (ad 0)), (1, .int x1), (2, .int x2)] [] := by
  intro n
  induction n with
  | zero =>
    intro x1 x2 σ h
    exact absurd h (fun q => q)
  | succ n ih =>
    intro x1 x2 σ h
    unfold wq_X7_iceable_l4 at h
    refine gq_iload_n (j := 2) C dX7_iceable_4 rfl ?_
    refine gq_aload_n (j := 0) C dX7_iceable_5 rfl ?_
    refine gq_get (v := .int (σ.1 0 0)) (i := 0) C gms_0 rfl iq_X7_iceable_X7 0 (by decide) fq_X7_iceable_93 rfl dX7_iceable_6 ?_
    refine gq_icmp_ge (tgt := 44) C dX7_iceable_9 (by decide) (fun c1 => ?_) (fun c1 => ?_)
    · have h := h.1 c1
      refine gq_sub [0, 1] rfl ?_
      exact hK44 _ _ h
    · have h := h.2 c1
      refine gq_iload_n (j := 2) C dX7_iceable_12 rfl ?_
      refine gq_bipush (v := 8) C dX7_iceable_13 (by decide) ?_
      refine gq_icmp_ge (tgt := 44) C dX7_iceable_15 (by decide) (fun c2 => ?_) (fun c2 => ?_)
      · have h := h.1 c2
        refine gq_sub [0, 1] rfl ?_
        exact hK44 _ _ h
      · have h := h.2 c2
        refine gq_iload_n (j := 1) C dX7_iceable_18 rfl ?_
        refine gq_aload_n (j := 0) C dX7_iceable_19 rfl ?_
        refine gq_get (v := .ref (ad 2)) (i := 0) C gms_0 rfl iq_X7_iceable_X7 3 (by decide) fq_X7_iceable_13 rfl dX7_iceable_20 ?_
        refine gq_iload_n (j := 2) C dX7_iceable_23 rfl ?_
        refine gq_iald (i := 2) (j := x2.toNatClampNeg) C gms_2 0 rfl rfl h.1 dX7_iceable_24 ?_
        have h := h.2
        refine gq_iconst (v := 3) C dX7_iceable_25 (by decide) ?_
        refine gq_icmp_ne (tgt := 33) C dX7_iceable_26 (by decide) (fun c3 => ?_) (fun c3 => ?_)
        · have h := h.1 c3
          refine gq_iconst (v := 1) C dX7_iceable_33 (by decide) ?_
          refine gq_iload_n (j := 2) C dX7_iceable_34 rfl ?_
          refine gq_ishl C dX7_iceable_35 ?_
          refine gq_sub [0, 2] rfl ?_
          exact tq_X7_iceable_b36 C (ih) _ _ _ _ h
        · have h := h.2 c3
          refine gq_iconst (v := 0) C dX7_iceable_29 (by decide) ?_
          refine gq_goto (tgt := 36) C dX7_iceable_30 (by decide) ?_
          refine gq_sub [0, 2] rfl ?_
          exact tq_X7_iceable_b36 C (ih) _ _ _ _ h
def wq_X7_iceable (σ : gq_M) (Q : Int32 → gq_M → Prop) : Prop := (∃ n8, wq_X7_iceable_l4 Q (fun e6 σ7 => Q e6 σ7) n8 0 0 σ)
set_option maxRecDepth 100000 in
set_option maxHeartbeats 4000000 in
theorem tq_X7_iceable {p : Program} {l : Launch} {e : Env} {s : State} {m : MethodId} {args : Array Value} {below : List Frame} {meth : Method} {c : Code} {D : va_G} {cyI cyZ : ClassId} {ad : Nat → Nat} {Q : Int32 → gq_M → Prop} (C : gq_C p s m args meth c cX7_iceable 3 RX7 wsX7_iceable D (gm_T cyI cyZ) 17 ad (some .int)) (σ : gq_M) (h : wq_X7_iceable σ Q) : gq_G p l e rq_X7_iceable s m args below meth c (gq_Ri below args s D (gm_T cyI cyZ) 17 ad (gm_S cyI cyZ ad) Q) D 17 ad (gm_S cyI cyZ ad) 3 σ 0 [(0, .ref (ad 0))] [] := by
  unfold wq_X7_iceable at h
  refine gq_iconst (v := 0) C dX7_iceable_0 (by decide) ?_
  refine gq_istore_n (L' := [(0, .ref (ad 0)), (1, .int 0)]) C [1, 0] dX7_iceable_1 (by decide) rfl ?_
  refine gq_iconst (v := 0) C dX7_iceable_2 (by decide) ?_
  refine gq_istore_n (L' := [(0, .ref (ad 0)), (1, .int 0), (2, .int 0)]) C [1, 2, 0] dX7_iceable_3 (by decide) rfl ?_
  obtain ⟨n8, h⟩ := h
  refine tq_X7_iceable_l4 C (fun e6 σ7 h => ?_) n8 _ _ _ h
  refine gq_iload_n (j := 1) C dX7_iceable_44 rfl ?_
  exact gq_iret C h dX7_iceable_45
theorem mq_X7_iceable {l : Launch} {D : va_G} {cyI cyZ : ClassId} {ad : Nat → Nat} (hap : gq_ap 17 ad) (σ : gq_M) (Q : Int32 → gq_M → Prop) (h : wq_X7_iceable σ Q) : Met l yX7_iceable wsX7_iceable rq_X7_iceable (va_Pc [.ref (ad 0)] (gq_P D (gm_T cyI cyZ) 17 ad (gm_S cyI cyZ ad) σ)) (va_Qi Q (gq_P D (gm_T cyI cyZ) 17 ad (gm_S cyI cyZ ad)) (gq_A 17 ad)) 0 0 (gq_A 17 ad) :=
  gq_met hap (by decide) rfl rfl (Nat.le_of_ble_eq_true rfl) (fun _ _ _ _ _ _ _ C => tq_X7_iceable C σ h)
abbrev rq_X7_icy : Room := { frames := 7, cells := 0, slots := 0, locals := 170 }
theorem dq_X7_icy : gq_dsc yX7_icy 4 := by unfold gq_dsc; decide +kernel
theorem iq_X7_icy_X7 : ∀ w ∈ u_ws RX7 TX7 30, w ∈ wsX7_icy := by decide +kernel
theorem fq_X7_icy_105 : Cond.fieldLink RX7 105 (TX7 15).1 (TX7 15).2.1 (TX7 15).2.2.1 ∈ wsX7_icy := by decide +kernel
def wq_X7_icy_b142 (Q : Int32 → gq_M → Prop) (K48 : Int32 → Int32 → Int32 → Int32 → Int32 → Int32 → Int32 → Int32 → gq_M → Prop) (x1 : Int32) (x2 : Int32) (x3 : Int32) (x4 : Int32) (x5 : Int32) (x6 : Int32) (x7 : Int32) (x8 : Int32) (σ : gq_M) : Prop := ∀ v14, v14 = (x8 + 1) → K48 x1 x2 x3 x4 x5 x6 x7 v14 σ
set_option maxRecDepth 100000 in
set_option maxHeartbeats 4000000 in
theorem tq_X7_icy_b142 {p : Program} {l : Launch} {e : Env} {s : State} {m : MethodId} {args : Array Value} {below : List Frame} {meth : Method} {c : Code} {D : va_G} {cyI cyZ : ClassId} {ad : Nat → Nat} {Q : Int32 → gq_M → Prop} {K48 : Int32 → Int32 → Int32 → Int32 → Int32 → Int32 → Int32 → Int32 → gq_M → Prop} (C : gq_C p s m args meth c cX7_icy 10 RX7 wsX7_icy D (gm_T cyI cyZ) 17 ad (some .int)) (hK48 : ∀ (y1 : Int32) (y2 : Int32) (y3 : Int32) (y4 : Int32) (y5 : Int32) (y6 : Int32) (y7 : Int32) (y8 : Int32) (τ : gq_M), K48 y1 y2 y3 y4 y5 y6 y7 y8 τ → gq_G p l e rq_X7_icy s m args below meth c (gq_Ri below args s D (gm_T cyI cyZ) 17 ad (gm_S cyI cyZ ad) Q) D 17 ad (gm_S cyI cyZ ad) 10 τ 48 [(0, .ref (ad 0)), (1, .int y1), (2, .int y2), (3, .int y3), (4, .int y4), (5, .int y5), (6, .int y6), (7, .int y7), (8, .int y8)] []) (x1 : Int32) (x2 : Int32) (x3 : Int32) (x4 : Int32) (x5 : Int32) (x6 : Int32) (x7 : Int32) (x8 : Int32) (σ : gq_M) (h : wq_X7_icy_b142 Q K48 x1 x2 x3 x4 x5 x6 x7 x8 σ) : gq_G p l e rq_X7_icy s m args below meth c (gq_Ri below args s D (gm_T cyI cyZ) 17 ad (gm_S cyI cyZ ad) Q) D 17 ad (gm_S cyI cyZ ad) 10 σ 142 [(0, .ref (ad 0)), (1, .int x1), (2, .int x2), (3, .int x3), (4, .int x4), (5, .int x5), (6, .int x6), (7, .int x7), (8, .int x8)] [] := by
  unfold wq_X7_icy_b142 at h
  obtain ⟨v14, qv14⟩ : ∃ y : Int32, y = (x8 + 1) := ⟨_, rfl⟩
  have h := h v14 qv14
  refine gq_iinc (j := 8) (v := v14) (L' := [(0, .ref (ad 0)), (1, .int x1), (2, .int x2), (3, .int x3), (4, .int x4), (5, .int x5), (6, .int x6), (7, .int x7), (8, .int v14)]) C [1, 2, 3, 4, 5, 6, 7, 8, 0] dX7_icy_142 rfl (by rw [qv14]; rfl) (by decide) rfl ?_
  refine gq_goto (tgt := 48) C dX7_icy_145 (by decide) ?_
  exact hK48 _ _ _ _ _ _ _ _ _ h
def wq_X7_icy_b134 (Q : Int32 → gq_M → Prop) (K48 : Int32 → Int32 → Int32 → Int32 → Int32 → Int32 → Int32 → Int32 → gq_M → Prop) (x1 : Int32) (x2 : Int32) (x3 : Int32) (x4 : Int32) (x5 : Int32) (x7 : Int32) (x8 : Int32) (s0 : Int32) (s1 : Int32) (σ : gq_M) : Prop := ∀ v28, v28 = (s0 + s1) → wq_X7_icy_b142 Q (K48) x1 x2 x3 x4 x5 v28 x7 x8 (gq_put σ 0 15 0)
set_option maxRecDepth 100000 in
set_option maxHeartbeats 4000000 in
theorem tq_X7_icy_b134 {p : Program} {l : Launch} {e : Env} {s : State} {m : MethodId} {args : Array Value} {below : List Frame} {meth : Method} {c : Code} {D : va_G} {cyI cyZ : ClassId} {ad : Nat → Nat} {Q : Int32 → gq_M → Prop} {K48 : Int32 → Int32 → Int32 → Int32 → Int32 → Int32 → Int32 → Int32 → gq_M → Prop} (C : gq_C p s m args meth c cX7_icy 10 RX7 wsX7_icy D (gm_T cyI cyZ) 17 ad (some .int)) (hK48 : ∀ (y1 : Int32) (y2 : Int32) (y3 : Int32) (y4 : Int32) (y5 : Int32) (y6 : Int32) (y7 : Int32) (y8 : Int32) (τ : gq_M), K48 y1 y2 y3 y4 y5 y6 y7 y8 τ → gq_G p l e rq_X7_icy s m args below meth c (gq_Ri below args s D (gm_T cyI cyZ) 17 ad (gm_S cyI cyZ ad) Q) D 17 ad (gm_S cyI cyZ ad) 10 τ 48 [(0, .ref (ad 0)), (1, .int y1), (2, .int y2), (3, .int y3), (4, .int y4), (5, .int y5), (6, .int y6), (7, .int y7), (8, .int y8)] []) (x1 : Int32) (x2 : Int32) (x3 : Int32) (x4 : Int32) (x5 : Int32) (x7 : Int32) (x8 : Int32) (s0 : Int32) (s1 : Int32) (σ : gq_M) (h : wq_X7_icy_b134 Q K48 x1 x2 x3 x4 x5 x7 x8 s0 s1 σ) : gq_G p l e rq_X7_icy s m args below meth c (gq_Ri below args s D (gm_T cyI cyZ) 17 ad (gm_S cyI cyZ ad) Q) D 17 ad (gm_S cyI cyZ ad) 10 σ 134 [(0, .ref (ad 0)), (1, .int x1), (2, .int x2), (3, .int x3), (4, .int x4), (5, .int x5), (7, .int x7), (8, .int x8)] [.int s1, .int s0] := by
  unfold wq_X7_icy_b134 at h
  refine gq_iadd C dX7_icy_134 ?_
  refine gq_topi (fun v28 qv28 => ?_)
  have h := h v28 qv28
  refine gq_istore (L' := [(0, .ref (ad 0)), (1, .int x1), (2, .int x2), (3, .int x3), (4, .int x4), (5, .int x5), (6, .int v28), (7, .int x7), (8, .int x8)]) C [1, 2, 3, 4, 5, 6, 0, 7, 8] dX7_icy_135 (by decide) rfl ?_
  refine gq_aload_n (j := 0) C dX7_icy_137 rfl ?_
  refine gq_iconst (v := 0) C dX7_icy_138 (by decide) ?_
  refine gq_puti (i := 0) C gms_0 rfl iq_X7_icy_X7 tyX7 tyX7_ok nmX7 15 (by decide) fq_X7_icy_105 rfl rfl rfl (fun _ _ => Nat.le_of_ble_eq_true rfl) gs_X7_15 dX7_icy_139 ?_
  exact tq_X7_icy_b142 C (hK48) _ _ _ _ _ _ _ _ _ h
def wq_X7_icy_l48 (Q : Int32 → gq_M → Prop) (K148 : Int32 → Int32 → Int32 → gq_M → Prop) : Nat → Int32 → Int32 → Int32 → Int32 → Int32 → Int32 → Int32 → Int32 → gq_M → Prop
  | 0, _, _, _, _, _, _, _, _, _ => False
  | n + 1, x1, x2, x3, x4, x5, x6, x7, x8, σ => ((256 ≤ x8 → K148 x4 x6 x7 σ) ∧ (¬ 256 ≤ x8 → ((¬ (x8 &&& (x5 ^^^ (-1))) = 0 → wq_X7_icy_b142 Q (wq_X7_icy_l48 Q K148 n) x1 x2 x3 x4 x5 x6 x7 x8 σ) ∧ ((x8 &&& (x5 ^^^ (-1))) = 0 → wq_X7_ones x8 σ (fun r15 σ16 => wq_X7_power x3 r15 σ16 (fun r17 σ18 => wq_X7_ones x5 σ18 (fun r19 σ20 => wq_X7_ones x8 σ20 (fun r21 σ22 => wq_X7_power (10 - x3) (r19 - r21) σ22 (fun r23 σ24 => ∀ v25, v25 = (r17 * r23) → ∀ v26, v26 = (x7 + v25) → ((v25 ≤ 0 → wq_X7_icy_b134 Q (wq_X7_icy_l48 Q K148 n) x1 x2 x3 x4 x5 v26 x8 x6 0 (gq_put σ24 0 15 x8)) ∧ (¬ v25 ≤ 0 → wq_X7_reachNow x1 (gq_put σ24 0 15 x8) (fun r29 σ30 => wq_X7_has r29 x2 σ30 (fun r31 σ32 => ((r31 = 0 → wq_X7_icy_b134 Q (wq_X7_icy_l48 Q K148 n) x1 x2 x3 x4 x5 v26 x8 x6 0 σ32) ∧ (¬ r31 = 0 → wq_X7_icy_b134 Q (wq_X7_icy_l48 Q K148 n) x1 x2 x3 x4 x5 v26 x8 x6 v25 σ32)))))))))))))))
set_option maxRecDepth 100000 in
set_option maxHeartbeats 4000000 in
theorem tq_X7_icy_l48 {p : Program} {l : Launch} {e : Env} {s : State} {m : MethodId} {args : Array Value} {below : List Frame} {meth : Method} {c : Code} {D : va_G} {cyI cyZ : ClassId} {ad : Nat → Nat} {Q : Int32 → gq_M → Prop} {K148 : Int32 → Int32 → Int32 → gq_M → Prop} (C : gq_C p s m args meth c cX7_icy 10 RX7 wsX7_icy D (gm_T cyI cyZ) 17 ad (some .int)) (hK148 : ∀ (y4 : Int32) (y6 : Int32) (y7 : Int32) (τ : gq_M), K148 y4 y6 y7 τ → gq_G p l e rq_X7_icy s m args below meth c (gq_Ri below args s D (gm_T cyI cyZ) 17 ad (gm_S cyI cyZ ad) Q) D 17 ad (gm_S cyI cyZ ad) 10 τ 148 [(0, .ref (ad 0)), (4, .int y4), (6, .int y6), (7, .int y7)] []) : ∀ (n : Nat) (x1 : Int32) (x2 : Int32) (x3 : Int32) (x4 : Int32) (x5 : Int32) (x6 : Int32) (x7 : Int32) (x8 : Int32) (σ : gq_M), wq_X7_icy_l48 Q K148 n x1 x2 x3 x4 x5 x6 x7 x8 σ → gq_G p l e rq_X7_icy s m args below meth c (gq_Ri below args s D (gm_T cyI cyZ) 17 ad (gm_S cyI cyZ ad) Q) D 17 ad (gm_S cyI cyZ ad) 10 σ 48 [(0, .ref (ad 0)), (1, .int x1), (2, .int x2), (3, .int x3), (4, .int x4), (5, .int x5), (6, .int x6), (7, .int x7), (8, .int x8)] [] := by
  intro n
  induction n with
  | zero =>
    intro x1 x2 x3 x4 x5 x6 x7 x8 σ h
    exact absurd h (fun q => q)
  | succ n ih =>
    intro x1 x2 x3 x4 x5 x6 x7 x8 σ h
    unfold wq_X7_icy_l48 at h
    refine gq_iload (j := 8) C dX7_icy_48 rfl ?_
    refine gq_sipush (v := 256) C dX7_icy_50 (by decide) ?_
    refine gq_icmp_ge (tgt := 148) C dX7_icy_53 (by decide) (fun c12 => ?_) (fun c12 => ?_)
    · have h := h.1 c12
      refine gq_sub [0, 4, 6, 7] rfl ?_
      exact hK148 _ _ _ _ h
    · have h := h.2 c12
      refine gq_iload (j := 8) C dX7_icy_56 rfl ?_
      refine gq_iload (j := 5) C dX7_icy_58 rfl ?_
      refine gq_iconst (v := (-1)) C dX7_icy_60 (by decide) ?_
      refine gq_ixor C dX7_icy_61 ?_
      refine gq_iand C dX7_icy_62 ?_
      refine gq_if_ne (tgt := 142) C dX7_icy_63 (by decide) (fun c13 => ?_) (fun c13 => ?_)
      · have h := h.1 c13
        exact tq_X7_icy_b142 C (ih) _ _ _ _ _ _ _ _ _ h
      · have h := h.2 c13
        refine gq_iload_n (j := 3) C dX7_icy_66 rfl ?_
        refine gq_iload (j := 8) C dX7_icy_67 rfl ?_
        refine gq_si C [.int x8] (mq_X7_ones C.2.2.1 x8 σ _ h) gX7_icy_X7_ones rfl dq_X7_ones ⟨rfl, rfl, by decide, by decide⟩ rfl rfl (Nat.le_of_ble_eq_true rfl) dX7_icy_69 (fun r15 σ16 h => ?_)
        refine gq_si C [.int x3, .int r15] (mq_X7_power C.2.2.1 x3 r15 σ16 _ h) gX7_icy_X7_power rfl dq_X7_power ⟨rfl, rfl, by decide, by decide⟩ rfl rfl (Nat.le_of_ble_eq_true rfl) dX7_icy_72 (fun r17 σ18 h => ?_)
        refine gq_bipush (v := 10) C dX7_icy_75 (by decide) ?_
        refine gq_iload_n (j := 3) C dX7_icy_77 rfl ?_
        refine gq_isub C dX7_icy_78 ?_
        refine gq_iload (j := 5) C dX7_icy_79 rfl ?_
        refine gq_si C [.int x5] (mq_X7_ones C.2.2.1 x5 σ18 _ h) gX7_icy_X7_ones rfl dq_X7_ones ⟨rfl, rfl, by decide, by decide⟩ rfl rfl (Nat.le_of_ble_eq_true rfl) dX7_icy_81 (fun r19 σ20 h => ?_)
        refine gq_iload (j := 8) C dX7_icy_84 rfl ?_
        refine gq_si C [.int x8] (mq_X7_ones C.2.2.1 x8 σ20 _ h) gX7_icy_X7_ones rfl dq_X7_ones ⟨rfl, rfl, by decide, by decide⟩ rfl rfl (Nat.le_of_ble_eq_true rfl) dX7_icy_86 (fun r21 σ22 h => ?_)
        refine gq_isub C dX7_icy_89 ?_
        refine gq_si C [.int (10 - x3), .int (r19 - r21)] (mq_X7_power C.2.2.1 (10 - x3) (r19 - r21) σ22 _ h) gX7_icy_X7_power rfl dq_X7_power ⟨rfl, rfl, by decide, by decide⟩ rfl rfl (Nat.le_of_ble_eq_true rfl) dX7_icy_90 (fun r23 σ24 h => ?_)
        refine gq_imul C dX7_icy_93 ?_
        refine gq_topi (fun v25 qv25 => ?_)
        have h := h v25 qv25
        refine gq_istore (L' := [(0, .ref (ad 0)), (1, .int x1), (2, .int x2), (3, .int x3), (4, .int x4), (5, .int x5), (6, .int x6), (7, .int x7), (8, .int x8), (9, .int v25)]) C [1, 2, 3, 4, 5, 6, 7, 8, 9, 0] dX7_icy_94 (by decide) rfl ?_
        refine gq_aload_n (j := 0) C dX7_icy_96 rfl ?_
        refine gq_iload (j := 8) C dX7_icy_97 rfl ?_
        refine gq_puti (i := 0) C gms_0 rfl iq_X7_icy_X7 tyX7 tyX7_ok nmX7 15 (by decide) fq_X7_icy_105 rfl rfl rfl (fun _ _ => Nat.le_of_ble_eq_true rfl) gs_X7_15 dX7_icy_99 ?_
        refine gq_iload (j := 7) C dX7_icy_102 rfl ?_
        refine gq_iload (j := 9) C dX7_icy_104 rfl ?_
        refine gq_iadd C dX7_icy_106 ?_
        refine gq_topi (fun v26 qv26 => ?_)
        have h := h v26 qv26
        refine gq_istore (L' := [(0, .ref (ad 0)), (1, .int x1), (2, .int x2), (3, .int x3), (4, .int x4), (5, .int x5), (6, .int x6), (7, .int v26), (8, .int x8), (9, .int v25)]) C [1, 2, 3, 4, 5, 6, 7, 0, 8, 9] dX7_icy_107 (by decide) rfl ?_
        refine gq_iload (j := 6) C dX7_icy_109 rfl ?_
        refine gq_iload (j := 9) C dX7_icy_111 rfl ?_
        refine gq_if_le (tgt := 133) C dX7_icy_113 (by decide) (fun c27 => ?_) (fun c27 => ?_)
        · have h := h.1 c27
          refine gq_iconst (v := 0) C dX7_icy_133 (by decide) ?_
          refine gq_sub [0, 1, 2, 3, 4, 5, 7, 8] rfl ?_
          exact tq_X7_icy_b134 C (ih) _ _ _ _ _ _ _ _ _ _ h
        · have h := h.2 c27
          refine gq_aload_n (j := 0) C dX7_icy_116 rfl ?_
          refine gq_iload_n (j := 1) C dX7_icy_117 rfl ?_
          refine gq_vi (i := 0) C gms_0 rfl [.int x1] (mq_X7_reachNow C.2.2.1 x1 (gq_put σ24 0 15 x8) _ h) gX7_icy_X7_reachNow rfl rfl dq_X7_reachNow ⟨rfl, rfl, by decide, by decide⟩ rfl rfl (Nat.le_of_ble_eq_true rfl) dX7_icy_118 (fun r29 σ30 h => ?_)
          refine gq_iload_n (j := 2) C dX7_icy_121 rfl ?_
          refine gq_si C [.int r29, .int x2] (mq_X7_has C.2.2.1 r29 x2 σ30 _ h) gX7_icy_X7_has rfl dq_X7_has ⟨rfl, rfl, by decide, by decide⟩ rfl rfl (Nat.le_of_ble_eq_true rfl) dX7_icy_122 (fun r31 σ32 h => ?_)
          refine gq_if_eq (tgt := 133) C dX7_icy_125 (by decide) (fun c33 => ?_) (fun c33 => ?_)
          · have h := h.1 c33
            refine gq_iconst (v := 0) C dX7_icy_133 (by decide) ?_
            refine gq_sub [0, 1, 2, 3, 4, 5, 7, 8] rfl ?_
            exact tq_X7_icy_b134 C (ih) _ _ _ _ _ _ _ _ _ _ h
          · have h := h.2 c33
            refine gq_iload (j := 9) C dX7_icy_128 rfl ?_
            refine gq_goto (tgt := 134) C dX7_icy_130 (by decide) ?_
            refine gq_sub [0, 1, 2, 3, 4, 5, 7, 8] rfl ?_
            exact tq_X7_icy_b134 C (ih) _ _ _ _ _ _ _ _ _ _ h
def wq_X7_icy (a1 : Int32) (a2 : Int32) (a3 : Int32) (a4 : Int32) (σ : gq_M) (Q : Int32 → gq_M → Prop) : Prop := wq_X7_isTraveller a1 σ (fun r1 σ2 => ((r1 = 0 → Q (-1) σ2) ∧ (¬ r1 = 0 → wq_X7_isPlace a2 σ2 (fun r4 σ5 => ((¬ r4 = 0 → wq_X7_in a3.toInt64 0 10 σ5 (fun r7 σ8 => ((¬ r7 = 0 → wq_X7_iceable σ8 (fun r10 σ11 => (∃ n41, wq_X7_icy_l48 Q (fun e34 e35 e36 σ37 => wq_X7_common e35 e36 σ37 (fun r38 σ39 => ((e34 = 0 → ¬ r38 = 0 ∧ Q (e36 / r38) σ39) ∧ (¬ e34 = 0 → ¬ r38 = 0 ∧ Q (e35 / r38) σ39)))) n41 a1 a2 a3 a4 r10 0 0 0 σ11))) ∧ (r7 = 0 → Q (-2) σ8)))) ∧ (r4 = 0 → Q (-1) σ5))))))
set_option maxRecDepth 100000 in
set_option maxHeartbeats 4000000 in
theorem tq_X7_icy {p : Program} {l : Launch} {e : Env} {s : State} {m : MethodId} {args : Array Value} {below : List Frame} {meth : Method} {c : Code} {D : va_G} {cyI cyZ : ClassId} {ad : Nat → Nat} {Q : Int32 → gq_M → Prop} (C : gq_C p s m args meth c cX7_icy 10 RX7 wsX7_icy D (gm_T cyI cyZ) 17 ad (some .int)) (a1 : Int32) (a2 : Int32) (a3 : Int32) (a4 : Int32) (σ : gq_M) (h : wq_X7_icy a1 a2 a3 a4 σ Q) : gq_G p l e rq_X7_icy s m args below meth c (gq_Ri below args s D (gm_T cyI cyZ) 17 ad (gm_S cyI cyZ ad) Q) D 17 ad (gm_S cyI cyZ ad) 10 σ 0 [(0, .ref (ad 0)), (1, .int a1), (2, .int a2), (3, .int a3), (4, .int a4)] [] := by
  unfold wq_X7_icy at h
  refine gq_aload_n (j := 0) C dX7_icy_0 rfl ?_
  refine gq_iload_n (j := 1) C dX7_icy_1 rfl ?_
  refine gq_vi (i := 0) C gms_0 rfl [.int a1] (mq_X7_isTraveller C.2.2.1 a1 σ _ h) gX7_icy_X7_isTraveller rfl rfl dq_X7_isTraveller ⟨rfl, rfl, by decide, by decide⟩ rfl rfl (Nat.le_of_ble_eq_true rfl) dX7_icy_2 (fun r1 σ2 h => ?_)
  refine gq_if_eq (tgt := 16) C dX7_icy_5 (by decide) (fun c3 => ?_) (fun c3 => ?_)
  · have h := h.1 c3
    refine gq_iconst (v := (-1)) C dX7_icy_16 (by decide) ?_
    exact gq_iret C h dX7_icy_17
  · have h := h.2 c3
    refine gq_aload_n (j := 0) C dX7_icy_8 rfl ?_
    refine gq_iload_n (j := 2) C dX7_icy_9 rfl ?_
    refine gq_vi (i := 0) C gms_0 rfl [.int a2] (mq_X7_isPlace C.2.2.1 a2 σ2 _ h) gX7_icy_X7_isPlace rfl rfl dq_X7_isPlace ⟨rfl, rfl, by decide, by decide⟩ rfl rfl (Nat.le_of_ble_eq_true rfl) dX7_icy_10 (fun r4 σ5 h => ?_)
    refine gq_if_ne (tgt := 18) C dX7_icy_13 (by decide) (fun c6 => ?_) (fun c6 => ?_)
    · have h := h.1 c6
      refine gq_iload_n (j := 3) C dX7_icy_18 rfl ?_
      refine gq_i2l C dX7_icy_19 ?_
      refine gq_lconst (v := 0) C dX7_icy_20 (by decide) ?_
      refine gq_ldc2 (v := 10) C (by decide +kernel) dX7_icy_21 ?_
      refine gq_si C [.long a3.toInt64, .long 0, .long 10] (mq_X7_in C.2.2.1 a3.toInt64 0 10 σ5 _ h) gX7_icy_X7_in rfl dq_X7_in ⟨rfl, rfl, by decide, by decide⟩ rfl rfl (Nat.le_of_ble_eq_true rfl) dX7_icy_24 (fun r7 σ8 h => ?_)
      refine gq_if_ne (tgt := 33) C dX7_icy_27 (by decide) (fun c9 => ?_) (fun c9 => ?_)
      · have h := h.1 c9
        refine gq_aload_n (j := 0) C dX7_icy_33 rfl ?_
        refine gq_vi (i := 0) C gms_0 rfl [] (mq_X7_iceable C.2.2.1 σ8 _ h) gX7_icy_X7_iceable rfl rfl dq_X7_iceable ⟨rfl, rfl, by decide, by decide⟩ rfl rfl (Nat.le_of_ble_eq_true rfl) dX7_icy_34 (fun r10 σ11 h => ?_)
        refine gq_istore (L' := [(0, .ref (ad 0)), (1, .int a1), (2, .int a2), (3, .int a3), (4, .int a4), (5, .int r10)]) C [1, 2, 3, 4, 5, 0] dX7_icy_37 (by decide) rfl ?_
        refine gq_iconst (v := 0) C dX7_icy_39 (by decide) ?_
        refine gq_istore (L' := [(0, .ref (ad 0)), (1, .int a1), (2, .int a2), (3, .int a3), (4, .int a4), (5, .int r10), (6, .int 0)]) C [1, 2, 3, 4, 5, 6, 0] dX7_icy_40 (by decide) rfl ?_
        refine gq_iconst (v := 0) C dX7_icy_42 (by decide) ?_
        refine gq_istore (L' := [(0, .ref (ad 0)), (1, .int a1), (2, .int a2), (3, .int a3), (4, .int a4), (5, .int r10), (6, .int 0), (7, .int 0)]) C [1, 2, 3, 4, 5, 6, 7, 0] dX7_icy_43 (by decide) rfl ?_
        refine gq_iconst (v := 0) C dX7_icy_45 (by decide) ?_
        refine gq_istore (L' := [(0, .ref (ad 0)), (1, .int a1), (2, .int a2), (3, .int a3), (4, .int a4), (5, .int r10), (6, .int 0), (7, .int 0), (8, .int 0)]) C [1, 2, 3, 4, 5, 6, 7, 8, 0] dX7_icy_46 (by decide) rfl ?_
        obtain ⟨n41, h⟩ := h
        refine tq_X7_icy_l48 C (fun e34 e35 e36 σ37 h => ?_) n41 _ _ _ _ _ _ _ _ _ h
        refine gq_iload (j := 2) C dX7_icy_148 rfl ?_
        refine gq_iload (j := 3) C dX7_icy_150 rfl ?_
        refine gq_si C [.int e35, .int e36] (mq_X7_common C.2.2.1 e35 e36 σ37 _ h) gX7_icy_X7_common rfl dq_X7_common ⟨rfl, rfl, by decide, by decide⟩ rfl rfl (Nat.le_of_ble_eq_true rfl) dX7_icy_152 (fun r38 σ39 h => ?_)
        refine gq_istore (L' := [(0, .ref (ad 0)), (4, .int e34), (6, .int e35), (7, .int e36), (8, .int r38)]) C [1, 2, 3, 4, 0] dX7_icy_155 (by decide) rfl ?_
        refine gq_iload (j := 1) C dX7_icy_157 rfl ?_
        refine gq_if_eq (tgt := 170) C dX7_icy_159 (by decide) (fun c40 => ?_) (fun c40 => ?_)
        · have h := h.1 c40
          refine gq_iload (j := 3) C dX7_icy_170 rfl ?_
          refine gq_iload (j := 4) C dX7_icy_172 rfl ?_
          refine gq_idiv C dX7_icy_174 h.1 ?_
          have h := h.2
          exact gq_iret C h dX7_icy_175
        · have h := h.2 c40
          refine gq_iload (j := 2) C dX7_icy_162 rfl ?_
          refine gq_iload (j := 4) C dX7_icy_164 rfl ?_
          refine gq_idiv C dX7_icy_166 h.1 ?_
          have h := h.2
          refine gq_goto (tgt := 175) C dX7_icy_167 (by decide) ?_
          exact gq_iret C h dX7_icy_175
      · have h := h.2 c9
        refine gq_bipush (v := (-2)) C dX7_icy_30 (by decide) ?_
        exact gq_iret C h dX7_icy_32
    · have h := h.2 c6
      refine gq_iconst (v := (-1)) C dX7_icy_16 (by decide) ?_
      exact gq_iret C h dX7_icy_17
theorem mq_X7_icy {l : Launch} {D : va_G} {cyI cyZ : ClassId} {ad : Nat → Nat} (hap : gq_ap 17 ad) (a1 : Int32) (a2 : Int32) (a3 : Int32) (a4 : Int32) (σ : gq_M) (Q : Int32 → gq_M → Prop) (h : wq_X7_icy a1 a2 a3 a4 σ Q) : Met l yX7_icy wsX7_icy rq_X7_icy (va_Pc [.ref (ad 0), .int a1, .int a2, .int a3, .int a4] (gq_P D (gm_T cyI cyZ) 17 ad (gm_S cyI cyZ ad) σ)) (va_Qi Q (gq_P D (gm_T cyI cyZ) 17 ad (gm_S cyI cyZ ad)) (gq_A 17 ad)) 0 0 (gq_A 17 ad) :=
  gq_met hap (by decide) rfl rfl (Nat.le_of_ble_eq_true rfl) (fun _ _ _ _ _ _ _ C => tq_X7_icy C a1 a2 a3 a4 σ h)
abbrev rq_X7_seed : Room := { frames := 0, cells := 0, slots := 0, locals := 0 }
theorem dq_X7_seed : gq_dsc yX7_seed 1 := by unfold gq_dsc; decide +kernel
theorem iq_X7_seed_X7 : ∀ w ∈ u_ws RX7 TX7 30, w ∈ wsX7_seed := by decide +kernel
theorem fq_X7_seed_241 : Cond.fieldLink RX7 241 (TX7 27).1 (TX7 27).2.1 (TX7 27).2.2.1 ∈ wsX7_seed := by decide +kernel
def wq_X7_seed (a1 : Int64) (σ : gq_M) (Q : Int64 → gq_M → Prop) : Prop := Q σ.2 (σ.1, a1)
set_option maxRecDepth 100000 in
set_option maxHeartbeats 4000000 in
theorem tq_X7_seed {p : Program} {l : Launch} {e : Env} {s : State} {m : MethodId} {args : Array Value} {below : List Frame} {meth : Method} {c : Code} {D : va_G} {cyI cyZ : ClassId} {ad : Nat → Nat} {Q : Int64 → gq_M → Prop} (C : gq_C p s m args meth c cX7_seed 5 RX7 wsX7_seed D (gm_T cyI cyZ) 17 ad (some .long)) (a1 : Int64) (σ : gq_M) (h : wq_X7_seed a1 σ Q) : gq_G p l e rq_X7_seed s m args below meth c (gq_Rl below args s D (gm_T cyI cyZ) 17 ad (gm_S cyI cyZ ad) Q) D 17 ad (gm_S cyI cyZ ad) 5 σ 0 [(0, .ref (ad 0)), (1, .long a1)] [] := by
  unfold wq_X7_seed at h
  refine gq_aload_n (j := 0) C dX7_seed_0 rfl ?_
  refine gq_get (v := .long σ.2) (i := 0) C gms_0 rfl iq_X7_seed_X7 27 (by decide) fq_X7_seed_241 rfl dX7_seed_1 ?_
  refine gq_lstore_n (L' := [(0, .ref (ad 0)), (1, .long a1), (3, .long σ.2)]) C [1, 2, 0] dX7_seed_4 (by decide) rfl ?_
  refine gq_aload_n (j := 0) C dX7_seed_5 rfl ?_
  refine gq_lload_n (j := 1) C dX7_seed_6 rfl ?_
  refine gq_putl (i := 0) C gms_0 rfl iq_X7_seed_X7 tyX7 tyX7_ok nmX7 27 (by decide) fq_X7_seed_241 rfl rfl rfl (fun _ _ => Nat.le_of_ble_eq_true rfl) gs_X7_27 gl_X7 dX7_seed_7 ?_
  refine gq_lload_n (j := 2) C dX7_seed_10 rfl ?_
  exact gq_lret C h dX7_seed_11
theorem mq_X7_seed {l : Launch} {D : va_G} {cyI cyZ : ClassId} {ad : Nat → Nat} (hap : gq_ap 17 ad) (a1 : Int64) (σ : gq_M) (Q : Int64 → gq_M → Prop) (h : wq_X7_seed a1 σ Q) : Met l yX7_seed wsX7_seed rq_X7_seed (va_Pc [.ref (ad 0), .long a1] (gq_P D (gm_T cyI cyZ) 17 ad (gm_S cyI cyZ ad) σ)) (va_Ql Q (gq_P D (gm_T cyI cyZ) 17 ad (gm_S cyI cyZ ad)) (gq_A 17 ad)) 0 0 (gq_A 17 ad) :=
  gq_met hap (by decide) rfl rfl (Nat.le_of_ble_eq_true rfl) (fun _ _ _ _ _ _ _ C => tq_X7_seed C a1 σ h)
