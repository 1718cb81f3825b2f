/-! ===== walks of X3_readInto, X4_begin, X4_costOf, X4_pleatBeside, X4_tollBeside, X4_canStep, X4_doStep, X4_doRest, X4_canGrease, X4_doGrease, X4_canFreeze, X4_stepIfItCan, X4_restIfItCan, X4_greaseIfItCan (by wip/gen) ===== -/
abbrev rq_X3_readInto : Room := { frames := 4, cells := 0, slots := 0, locals := 89 }
theorem dq_X3_readInto : gq_dsc yX3_readInto 1 := by unfold gq_dsc; decide +kernel
theorem iq_X3_readInto_X3 : ∀ w ∈ u_ws RX3 TX3 2, w ∈ wsX3_readInto := by decide +kernel
theorem fq_X3_readInto_15 : Cond.fieldLink RX3 15 (TX3 1).1 (TX3 1).2.1 (TX3 1).2.2.1 ∈ wsX3_readInto := by decide +kernel
theorem fq_X3_readInto_9 : Cond.fieldLink RX3 9 (TX3 0).1 (TX3 0).2.1 (TX3 0).2.2.1 ∈ wsX3_readInto := by decide +kernel
def wq_X3_readInto_b77 (r1 : Nat) (Q : Int32 → gq_M → Prop) (K28 : Int32 → Int32 → gq_M → Prop) (x3 : Int32) (s0 : Int32) (s1 : Int32) (σ : gq_M) : Prop := ∀ v11, v11 = (s0 + s1) → ∀ v12, v12 = (x3 + 1) → K28 v11 v12 σ
set_option maxRecDepth 100000 in
set_option maxHeartbeats 4000000 in
theorem tq_X3_readInto_b77 {p : Program} {l : Launch} {e : Env} {s : State} {m : MethodId} {args : Array Value} {below : List Frame} {meth : Method} {c : Code} {D : va_G} {cyI cyZ cyS : ClassId} {ad : Nat → Nat} {r1 : Nat} {Q : Int32 → gq_M → Prop} {K28 : Int32 → Int32 → gq_M → Prop} (C : gq_C p s m args meth c cX3_readInto 5 RX3 wsX3_readInto D (gc_T cyI cyZ cyS) 84 ad (some .int)) (hr1 : gr_r r1) (hK28 : ∀ (y2 : Int32) (y3 : Int32) (τ : gq_M), K28 y2 y3 τ → gq_G p l e rq_X3_readInto s m args below meth c (gq_Ri below args s D (gc_T cyI cyZ cyS) 84 ad (gc_S cyI cyZ cyS ad) Q) D 84 ad (gc_S cyI cyZ cyS ad) 5 τ 28 [(0, .ref (ad 1)), (1, .ref (ad r1)), (2, .int y2), (3, .int y3)] []) (x3 : Int32) (s0 : Int32) (s1 : Int32) (σ : gq_M) (h : wq_X3_readInto_b77 r1 Q K28 x3 s0 s1 σ) : gq_G p l e rq_X3_readInto s m args below meth c (gq_Ri below args s D (gc_T cyI cyZ cyS) 84 ad (gc_S cyI cyZ cyS ad) Q) D 84 ad (gc_S cyI cyZ cyS ad) 5 σ 77 [(0, .ref (ad 1)), (1, .ref (ad r1)), (3, .int x3)] [.int s1, .int s0] := by
  unfold wq_X3_readInto_b77 at h
  refine gq_iadd C dX3_readInto_77 ?_
  refine gq_topi (fun v11 qv11 => ?_)
  have h := h v11 qv11
  refine gq_istore_n (L' := [(0, .ref (ad 1)), (1, .ref (ad r1)), (2, .int v11), (3, .int x3)]) C [1, 2, 0, 3] dX3_readInto_78 (by decide) rfl ?_
  obtain ⟨v12, qv12⟩ : ∃ y : Int32, y = (x3 + 1) := ⟨_, rfl⟩
  have h := h v12 qv12
  refine gq_iinc (j := 3) (v := v12) (L' := [(0, .ref (ad 1)), (1, .ref (ad r1)), (2, .int v11), (3, .int v12)]) C [1, 2, 3, 0] dX3_readInto_79 rfl (by rw [qv12]; rfl) (by decide) rfl ?_
  refine gq_goto (tgt := 28) C dX3_readInto_82 (by decide) ?_
  exact hK28 _ _ _ h
def wq_X3_readInto_l28 (r1 : Nat) (Q : Int32 → gq_M → Prop) (K85 : gq_M → Prop) : Nat → Int32 → Int32 → gq_M → Prop
  | 0, _, _, _ => False
  | n + 1, x2, x3, σ => ((52 ≤ x3 → K85 σ) ∧ (¬ 52 ≤ x3 → (((σ.1 1 1) ≤ x2 → K85 σ) ∧ (¬ (σ.1 1 1) ≤ x2 → wq_X3_readPart r1 x2 σ (fun r7 σ8 => ((r7 = (-9) → vp_in x2 52 ∧ ((¬ (σ8.1 2 x2.toNatClampNeg) = 70 → wq_X3_readInto_b77 r1 Q (wq_X3_readInto_l28 r1 Q K85 n) x3 x2 4 σ8) ∧ ((σ8.1 2 x2.toNatClampNeg) = 70 → wq_X3_readInto_b77 r1 Q (wq_X3_readInto_l28 r1 Q K85 n) x3 x2 3 σ8))) ∧ (¬ r7 = (-9) → Q r7 σ8)))))))
set_option maxRecDepth 100000 in
set_option maxHeartbeats 4000000 in
theorem tq_X3_readInto_l28 {p : Program} {l : Launch} {e : Env} {s : State} {m : MethodId} {args : Array Value} {below : List Frame} {meth : Method} {c : Code} {D : va_G} {cyI cyZ cyS : ClassId} {ad : Nat → Nat} {r1 : Nat} {Q : Int32 → gq_M → Prop} {K85 : gq_M → Prop} (C : gq_C p s m args meth c cX3_readInto 5 RX3 wsX3_readInto D (gc_T cyI cyZ cyS) 84 ad (some .int)) (hr1 : gr_r r1) (hK85 : ∀ (τ : gq_M), K85 τ → gq_G p l e rq_X3_readInto s m args below meth c (gq_Ri below args s D (gc_T cyI cyZ cyS) 84 ad (gc_S cyI cyZ cyS ad) Q) D 84 ad (gc_S cyI cyZ cyS ad) 5 τ 85 [(0, .ref (ad 1)), (1, .ref (ad r1))] []) : ∀ (n : Nat) (x2 : Int32) (x3 : Int32) (σ : gq_M), wq_X3_readInto_l28 r1 Q K85 n x2 x3 σ → gq_G p l e rq_X3_readInto s m args below meth c (gq_Ri below args s D (gc_T cyI cyZ cyS) 84 ad (gc_S cyI cyZ cyS ad) Q) D 84 ad (gc_S cyI cyZ cyS ad) 5 σ 28 [(0, .ref (ad 1)), (1, .ref (ad r1)), (2, .int x2), (3, .int x3)] [] := by
  intro n
  induction n with
  | zero =>
    intro x2 x3 σ h
    exact absurd h (fun q => q)
  | succ n ih =>
    intro x2 x3 σ h
    unfold wq_X3_readInto_l28 at h
    refine gq_iload_n (j := 3) C dX3_readInto_28 rfl ?_
    refine gq_bipush (v := 52) C dX3_readInto_29 (by decide) ?_
    refine gq_icmp_ge (tgt := 85) C dX3_readInto_31 (by decide) (fun c5 => ?_) (fun c5 => ?_)
    · have h := h.1 c5
      refine gq_sub [0, 1] rfl ?_
      exact hK85  _ h
    · have h := h.2 c5
      refine gq_iload_n (j := 2) C dX3_readInto_34 rfl ?_
      refine gq_aload_n (j := 0) C dX3_readInto_35 rfl ?_
      refine gq_get (v := .int (σ.1 1 1)) (i := 1) C gcs_1 rfl iq_X3_readInto_X3 1 (by decide) fq_X3_readInto_15 rfl dX3_readInto_36 ?_
      refine gq_icmp_ge (tgt := 85) C dX3_readInto_39 (by decide) (fun c6 => ?_) (fun c6 => ?_)
      · have h := h.1 c6
        refine gq_sub [0, 1] rfl ?_
        exact hK85  _ h
      · have h := h.2 c6
        refine gq_aload_n (j := 0) C dX3_readInto_42 rfl ?_
        refine gq_iload_n (j := 2) C dX3_readInto_43 rfl ?_
        refine gq_aload_n (j := 1) C dX3_readInto_44 rfl ?_
        refine gq_vi (i := 1) C gcs_1 rfl [.int x2, .ref (ad r1)] (mq_X3_readPart C.2.2.1 hr1 x2 σ _ h) gX3_readInto_X3_readPart rfl rfl dq_X3_readPart ⟨rfl, rfl, by decide, by decide⟩ rfl rfl (Nat.le_of_ble_eq_true rfl) dX3_readInto_45 (fun r7 σ8 h => ?_)
        refine gq_istore (L' := [(0, .ref (ad 1)), (1, .ref (ad r1)), (2, .int x2), (3, .int x3), (4, .int r7)]) C [1, 2, 3, 4, 0] dX3_readInto_48 (by decide) rfl ?_
        refine gq_iload (j := 4) C dX3_readInto_50 rfl ?_
        refine gq_bipush (v := (-9)) C dX3_readInto_52 (by decide) ?_
        refine gq_icmp_eq (tgt := 60) C dX3_readInto_54 (by decide) (fun c9 => ?_) (fun c9 => ?_)
        · have h := h.1 c9
          refine gq_iload_n (j := 2) C dX3_readInto_60 rfl ?_
          refine gq_aload_n (j := 0) C dX3_readInto_61 rfl ?_
          refine gq_get (v := .ref (ad 2)) (i := 1) C gcs_1 rfl iq_X3_readInto_X3 0 (by decide) fq_X3_readInto_9 rfl dX3_readInto_62 ?_
          refine gq_iload_n (j := 2) C dX3_readInto_65 rfl ?_
          refine gq_iald (i := 2) (j := x2.toNatClampNeg) C gcs_2 0 rfl rfl h.1 dX3_readInto_66 ?_
          have h := h.2
          refine gq_bipush (v := 70) C dX3_readInto_67 (by decide) ?_
          refine gq_icmp_ne (tgt := 76) C dX3_readInto_69 (by decide) (fun c10 => ?_) (fun c10 => ?_)
          · have h := h.1 c10
            refine gq_iconst (v := 4) C dX3_readInto_76 (by decide) ?_
            refine gq_sub [0, 1, 3] rfl ?_
            exact tq_X3_readInto_b77 C hr1 (ih) _ _ _ _ h
          · have h := h.2 c10
            refine gq_iconst (v := 3) C dX3_readInto_72 (by decide) ?_
            refine gq_goto (tgt := 77) C dX3_readInto_73 (by decide) ?_
            refine gq_sub [0, 1, 3] rfl ?_
            exact tq_X3_readInto_b77 C hr1 (ih) _ _ _ _ h
        · have h := h.2 c9
          refine gq_iload (j := 4) C dX3_readInto_57 rfl ?_
          exact gq_iret C h dX3_readInto_59
def wq_X3_readInto (r1 : Nat) (σ : gq_M) (Q : Int32 → gq_M → Prop) : Prop := wq_X2_clear r1 σ (fun σ2 => (((σ2.1 1 1) = 0 → Q 0 σ2) ∧ (¬ (σ2.1 1 1) = 0 → (((σ2.1 2 0) = 82 → (∃ n14, wq_X3_readInto_l28 r1 Q (fun σ13 => Q (-9) σ13) n14 1 0 σ2)) ∧ (¬ (σ2.1 2 0) = 82 → Q 0 σ2)))))
set_option maxRecDepth 100000 in
set_option maxHeartbeats 4000000 in
theorem tq_X3_readInto {p : Program} {l : Launch} {e : Env} {s : State} {m : MethodId} {args : Array Value} {below : List Frame} {meth : Method} {c : Code} {D : va_G} {cyI cyZ cyS : ClassId} {ad : Nat → Nat} {r1 : Nat} {Q : Int32 → gq_M → Prop} (C : gq_C p s m args meth c cX3_readInto 5 RX3 wsX3_readInto D (gc_T cyI cyZ cyS) 84 ad (some .int)) (hr1 : gr_r r1) (σ : gq_M) (h : wq_X3_readInto r1 σ Q) : gq_G p l e rq_X3_readInto s m args below meth c (gq_Ri below args s D (gc_T cyI cyZ cyS) 84 ad (gc_S cyI cyZ cyS ad) Q) D 84 ad (gc_S cyI cyZ cyS ad) 5 σ 0 [(0, .ref (ad 1)), (1, .ref (ad r1))] [] := by
  unfold wq_X3_readInto at h
  refine gq_aload_n (j := 1) C dX3_readInto_0 rfl ?_
  refine gq_vv (i := r1) C (gcs_X2 hr1) rfl [] (mq_X2_clear C.2.2.1 hr1 σ _ h) gX3_readInto_X2_clear rfl rfl dq_X2_clear ⟨rfl, rfl, by decide, by decide⟩ rfl rfl (Nat.le_of_ble_eq_true rfl) dX3_readInto_1 (fun σ2 h => ?_)
  refine gq_aload_n (j := 0) C dX3_readInto_4 rfl ?_
  refine gq_get (v := .int (σ2.1 1 1)) (i := 1) C gcs_1 rfl iq_X3_readInto_X3 1 (by decide) fq_X3_readInto_15 rfl dX3_readInto_5 ?_
  refine gq_if_eq (tgt := 22) C dX3_readInto_8 (by decide) (fun c3 => ?_) (fun c3 => ?_)
  · have h := h.1 c3
    refine gq_iconst (v := 0) C dX3_readInto_22 (by decide) ?_
    exact gq_iret C h dX3_readInto_23
  · have h := h.2 c3
    refine gq_aload_n (j := 0) C dX3_readInto_11 rfl ?_
    refine gq_get (v := .ref (ad 2)) (i := 1) C gcs_1 rfl iq_X3_readInto_X3 0 (by decide) fq_X3_readInto_9 rfl dX3_readInto_12 ?_
    refine gq_iconst (v := 0) C dX3_readInto_15 (by decide) ?_
    refine gq_iald (i := 2) (j := 0) C gcs_2 0 rfl (by decide) (vp_in_iff.mpr ⟨by decide, by decide⟩) dX3_readInto_16 ?_
    refine gq_bipush (v := 82) C dX3_readInto_17 (by decide) ?_
    refine gq_icmp_eq (tgt := 24) C dX3_readInto_19 (by decide) (fun c4 => ?_) (fun c4 => ?_)
    · have h := h.1 c4
      refine gq_iconst (v := 1) C dX3_readInto_24 (by decide) ?_
      refine gq_istore_n (L' := [(0, .ref (ad 1)), (1, .ref (ad r1)), (2, .int 1)]) C [1, 2, 0] dX3_readInto_25 (by decide) rfl ?_
      refine gq_iconst (v := 0) C dX3_readInto_26 (by decide) ?_
      refine gq_istore_n (L' := [(0, .ref (ad 1)), (1, .ref (ad r1)), (2, .int 1), (3, .int 0)]) C [1, 2, 3, 0] dX3_readInto_27 (by decide) rfl ?_
      obtain ⟨n14, h⟩ := h
      refine tq_X3_readInto_l28 C hr1 (fun σ13 h => ?_) n14 _ _ _ h
      refine gq_bipush (v := (-9)) C dX3_readInto_85 (by decide) ?_
      exact gq_iret C h dX3_readInto_87
    · have h := h.2 c4
      refine gq_iconst (v := 0) C dX3_readInto_22 (by decide) ?_
      exact gq_iret C h dX3_readInto_23
theorem mq_X3_readInto {l : Launch} {D : va_G} {cyI cyZ cyS : ClassId} {ad : Nat → Nat} (hap : gq_ap 84 ad) {r1 : Nat} (hr1 : gr_r r1) (σ : gq_M) (Q : Int32 → gq_M → Prop) (h : wq_X3_readInto r1 σ Q) : Met l yX3_readInto wsX3_readInto rq_X3_readInto (va_Pc [.ref (ad 1), .ref (ad r1)] (gq_P D (gc_T cyI cyZ cyS) 84 ad (gc_S cyI cyZ cyS ad) σ)) (va_Qi Q (gq_P D (gc_T cyI cyZ cyS) 84 ad (gc_S cyI cyZ cyS ad)) (gq_A 84 ad)) 0 0 (gq_A 84 ad) :=
  gq_met hap (by decide) rfl rfl (Nat.le_of_ble_eq_true rfl) (fun _ _ _ _ _ _ _ C => tq_X3_readInto C hr1 σ h)
abbrev rq_X4_begin : Room := { frames := 1, cells := 0, slots := 0, locals := 22 }
theorem dq_X4_begin : gq_dsc yX4_begin 0 := by unfold gq_dsc; decide +kernel
theorem iq_X4_begin_X4 : ∀ w ∈ u_ws RX4 TX4 7, w ∈ wsX4_begin := by decide +kernel
theorem fq_X4_begin_18 : Cond.fieldLink RX4 18 (TX4 0).1 (TX4 0).2.1 (TX4 0).2.2.1 ∈ wsX4_begin := by decide +kernel
theorem iq_X4_begin_X2 : ∀ w ∈ u_ws RX2 TX2 7, w ∈ wsX4_begin := by decide +kernel
theorem fq_X4_begin_22 : Cond.fieldLink RX4 22 (TX2 6).1 (TX2 6).2.1 (TX2 6).2.2.1 ∈ wsX4_begin := by decide +kernel
theorem fq_X4_begin_9 : Cond.fieldLink RX4 9 (TX4 1).1 (TX4 1).2.1 (TX4 1).2.2.1 ∈ wsX4_begin := by decide +kernel
theorem fq_X4_begin_28 : Cond.fieldLink RX4 28 (TX2 2).1 (TX2 2).2.1 (TX2 2).2.2.1 ∈ wsX4_begin := by decide +kernel
theorem fq_X4_begin_15 : Cond.fieldLink RX4 15 (TX4 2).1 (TX4 2).2.1 (TX4 2).2.2.1 ∈ wsX4_begin := by decide +kernel
theorem fq_X4_begin_31 : Cond.fieldLink RX4 31 (TX2 3).1 (TX2 3).2.1 (TX2 3).2.2.1 ∈ wsX4_begin := by decide +kernel
theorem fq_X4_begin_38 : Cond.fieldLink RX4 38 (TX4 3).1 (TX4 3).2.1 (TX4 3).2.2.1 ∈ wsX4_begin := by decide +kernel
theorem fq_X4_begin_41 : Cond.fieldLink RX4 41 (TX4 4).1 (TX4 4).2.1 (TX4 4).2.2.1 ∈ wsX4_begin := by decide +kernel
theorem fq_X4_begin_44 : Cond.fieldLink RX4 44 (TX4 5).1 (TX4 5).2.1 (TX4 5).2.2.1 ∈ wsX4_begin := by decide +kernel
theorem fq_X4_begin_47 : Cond.fieldLink RX4 47 (TX4 6).1 (TX4 6).2.1 (TX4 6).2.2.1 ∈ wsX4_begin := by decide +kernel
def wq_X4_begin_l2 (z : Nat) (Q : gq_M → Prop) (K49 : gq_M → Prop) : Nat → Int32 → gq_M → Prop
  | 0, _, _ => False
  | n + 1, x1, σ => (((σ.1 9 6) ≤ x1 → K49 σ) ∧ (¬ (σ.1 9 6) ≤ x1 → vp_in x1 5 ∧ vp_in x1 5 ∧ vp_in x1 5 ∧ vp_in x1 5 ∧ ∀ v2, v2 = (x1 + 1) → wq_X4_begin_l2 z Q K49 n v2 (gq_put (gq_put σ (z + 1) x1.toNatClampNeg (σ.1 12 x1.toNatClampNeg)) (z + 2) x1.toNatClampNeg ((gq_put σ (z + 1) x1.toNatClampNeg (σ.1 12 x1.toNatClampNeg)).1 13 x1.toNatClampNeg))))
set_option maxRecDepth 100000 in
set_option maxHeartbeats 4000000 in
theorem tq_X4_begin_l2 {p : Program} {l : Launch} {e : Env} {s : State} {m : MethodId} {args : Array Value} {below : List Frame} {meth : Method} {c : Code} {D : va_G} {cyI cyZ cyS : ClassId} {ad : Nat → Nat} {z : Nat} {Q : gq_M → Prop} {K49 : gq_M → Prop} (C : gq_C p s m args meth c cX4_begin 2 RX4 wsX4_begin D (gc_T cyI cyZ cyS) 84 ad none) (hz : gs_z z) (hK49 : ∀ (τ : gq_M), K49 τ → gq_G p l e rq_X4_begin s m args below meth c (gq_Rv below args s D (gc_T cyI cyZ cyS) 84 ad (gc_S cyI cyZ cyS ad) Q) D 84 ad (gc_S cyI cyZ cyS ad) 2 τ 49 [(0, .ref (ad z))] []) : ∀ (n : Nat) (x1 : Int32) (σ : gq_M), wq_X4_begin_l2 z Q K49 n x1 σ → gq_G p l e rq_X4_begin s m args below meth c (gq_Rv below args s D (gc_T cyI cyZ cyS) 84 ad (gc_S cyI cyZ cyS ad) Q) D 84 ad (gc_S cyI cyZ cyS ad) 2 σ 2 [(0, .ref (ad z)), (1, .int x1)] [] := by
  intro n
  induction n with
  | zero =>
    intro x1 σ h
    exact absurd h (fun q => q)
  | succ n ih =>
    intro x1 σ h
    unfold wq_X4_begin_l2 at h
    refine gq_iload_n (j := 1) C dX4_begin_2 rfl ?_
    refine gq_aload_n (j := 0) C dX4_begin_3 rfl ?_
    refine gq_get (v := .ref (ad 9)) (i := z) C (gcs_X4 hz) rfl iq_X4_begin_X4 0 (by decide) fq_X4_begin_18 rfl dX4_begin_4 ?_
    refine gq_get (v := .int (σ.1 9 6)) (i := 9) C (gcs_X2 gr_9) rfl iq_X4_begin_X2 6 (by decide) fq_X4_begin_22 rfl dX4_begin_7 ?_
    refine gq_icmp_ge (tgt := 49) C dX4_begin_10 (by decide) (fun c1 => ?_) (fun c1 => ?_)
    · have h := h.1 c1
      refine gq_sub [0] rfl ?_
      exact hK49  _ h
    · have h := h.2 c1
      refine gq_aload_n (j := 0) C dX4_begin_13 rfl ?_
      refine gq_get (v := .ref (ad (z + 1))) (i := z) C (gcs_X4 hz) rfl iq_X4_begin_X4 1 (by decide) fq_X4_begin_9 rfl dX4_begin_14 ?_
      refine gq_iload_n (j := 1) C dX4_begin_17 rfl ?_
      refine gq_aload_n (j := 0) C dX4_begin_18 rfl ?_
      refine gq_get (v := .ref (ad 9)) (i := z) C (gcs_X4 hz) rfl iq_X4_begin_X4 0 (by decide) fq_X4_begin_18 rfl dX4_begin_19 ?_
      refine gq_get (v := .ref (ad 12)) (i := 9) C (gcs_X2 gr_9) rfl iq_X4_begin_X2 2 (by decide) fq_X4_begin_28 rfl dX4_begin_22 ?_
      refine gq_iload_n (j := 1) C dX4_begin_25 rfl ?_
      refine gq_iald (i := 12) (j := x1.toNatClampNeg) C (gcs_X2_3 gr_9) 0 rfl rfl h.1 dX4_begin_26 ?_
      have h := h.2
      refine gq_iast (i := (z + 1)) (j := x1.toNatClampNeg) C (gcs_X4_1 hz) 0 rfl rfl h.1 dX4_begin_27 ?_
      have h := h.2
      refine gq_aload_n (j := 0) C dX4_begin_28 rfl ?_
      refine gq_get (v := .ref (ad (z + 2))) (i := z) C (gcs_X4 hz) rfl iq_X4_begin_X4 2 (by decide) fq_X4_begin_15 rfl dX4_begin_29 ?_
      refine gq_iload_n (j := 1) C dX4_begin_32 rfl ?_
      refine gq_aload_n (j := 0) C dX4_begin_33 rfl ?_
      refine gq_get (v := .ref (ad 9)) (i := z) C (gcs_X4 hz) rfl iq_X4_begin_X4 0 (by decide) fq_X4_begin_18 rfl dX4_begin_34 ?_
      refine gq_get (v := .ref (ad 13)) (i := 9) C (gcs_X2 gr_9) rfl iq_X4_begin_X2 3 (by decide) fq_X4_begin_31 rfl dX4_begin_37 ?_
      refine gq_iload_n (j := 1) C dX4_begin_40 rfl ?_
      refine gq_iald (i := 13) (j := x1.toNatClampNeg) C (gcs_X2_4 gr_9) 0 rfl rfl h.1 dX4_begin_41 ?_
      have h := h.2
      refine gq_iast (i := (z + 2)) (j := x1.toNatClampNeg) C (gcs_X4_2 hz) 0 rfl rfl h.1 dX4_begin_42 ?_
      have h := h.2
      obtain ⟨v2, qv2⟩ : ∃ y : Int32, y = (x1 + 1) := ⟨_, rfl⟩
      have h := h v2 qv2
      refine gq_iinc (j := 1) (v := v2) (L' := [(0, .ref (ad z)), (1, .int v2)]) C [1, 0] dX4_begin_43 rfl (by rw [qv2]; rfl) (by decide) rfl ?_
      refine gq_goto (tgt := 2) C dX4_begin_46 (by decide) ?_
      exact ih _ _ h
def wq_X4_begin (z : Nat) (σ : gq_M) (Q : gq_M → Prop) : Prop := (∃ n6, wq_X4_begin_l2 z Q (fun σ3 => wq_X2_smoothOnes 9 σ3 (fun r4 σ5 => Q (gq_put (gq_put (gq_put (gq_put σ5 z 3 r4) z 4 0) z 5 0) z 6 0))) n6 0 σ)
set_option maxRecDepth 100000 in
set_option maxHeartbeats 4000000 in
theorem tq_X4_begin {p : Program} {l : Launch} {e : Env} {s : State} {m : MethodId} {args : Array Value} {below : List Frame} {meth : Method} {c : Code} {D : va_G} {cyI cyZ cyS : ClassId} {ad : Nat → Nat} {z : Nat} {Q : gq_M → Prop} (C : gq_C p s m args meth c cX4_begin 2 RX4 wsX4_begin D (gc_T cyI cyZ cyS) 84 ad none) (hz : gs_z z) (σ : gq_M) (h : wq_X4_begin z σ Q) : gq_G p l e rq_X4_begin s m args below meth c (gq_Rv below args s D (gc_T cyI cyZ cyS) 84 ad (gc_S cyI cyZ cyS ad) Q) D 84 ad (gc_S cyI cyZ cyS ad) 2 σ 0 [(0, .ref (ad z))] [] := by
  unfold wq_X4_begin at h
  refine gq_iconst (v := 0) C dX4_begin_0 (by decide) ?_
  refine gq_istore_n (L' := [(0, .ref (ad z)), (1, .int 0)]) C [1, 0] dX4_begin_1 (by decide) rfl ?_
  obtain ⟨n6, h⟩ := h
  refine tq_X4_begin_l2 C hz (fun σ3 h => ?_) n6 _ _ h
  refine gq_aload_n (j := 0) C dX4_begin_49 rfl ?_
  refine gq_aload_n (j := 0) C dX4_begin_50 rfl ?_
  refine gq_get (v := .ref (ad 9)) (i := z) C (gcs_X4 hz) rfl iq_X4_begin_X4 0 (by decide) fq_X4_begin_18 rfl dX4_begin_51 ?_
  refine gq_vi (i := 9) C (gcs_X2 gr_9) rfl [] (mq_X2_smoothOnes C.2.2.1 gr_9 σ3 _ h) gX4_begin_X2_smoothOnes rfl rfl dq_X2_smoothOnes ⟨rfl, rfl, by decide, by decide⟩ rfl rfl (Nat.le_of_ble_eq_true rfl) dX4_begin_54 (fun r4 σ5 h => ?_)
  refine gq_puti (i := z) C (gcs_X4 hz) rfl iq_X4_begin_X4 tyX4 tyX4_ok nmX4 3 (by decide) fq_X4_begin_38 rfl rfl rfl (fun _ _ => Nat.le_of_ble_eq_true rfl) gs_X4_3 dX4_begin_57 ?_
  refine gq_aload_n (j := 0) C dX4_begin_60 rfl ?_
  refine gq_iconst (v := 0) C dX4_begin_61 (by decide) ?_
  refine gq_puti (i := z) C (gcs_X4 hz) rfl iq_X4_begin_X4 tyX4 tyX4_ok nmX4 4 (by decide) fq_X4_begin_41 rfl rfl rfl (fun _ _ => Nat.le_of_ble_eq_true rfl) gs_X4_4 dX4_begin_62 ?_
  refine gq_aload_n (j := 0) C dX4_begin_65 rfl ?_
  refine gq_iconst (v := 0) C dX4_begin_66 (by decide) ?_
  refine gq_puti (i := z) C (gcs_X4 hz) rfl iq_X4_begin_X4 tyX4 tyX4_ok nmX4 5 (by decide) fq_X4_begin_44 rfl rfl rfl (fun _ _ => Nat.le_of_ble_eq_true rfl) gs_X4_5 dX4_begin_67 ?_
  refine gq_aload_n (j := 0) C dX4_begin_70 rfl ?_
  refine gq_iconst (v := 0) C dX4_begin_71 (by decide) ?_
  refine gq_puti (i := z) C (gcs_X4 hz) rfl iq_X4_begin_X4 tyX4 tyX4_ok nmX4 6 (by decide) fq_X4_begin_47 rfl rfl rfl (fun _ _ => Nat.le_of_ble_eq_true rfl) gs_X4_6 dX4_begin_72 ?_
  exact gq_vret C h dX4_begin_75
theorem mq_X4_begin {l : Launch} {D : va_G} {cyI cyZ cyS : ClassId} {ad : Nat → Nat} (hap : gq_ap 84 ad) {z : Nat} (hz : gs_z z) (σ : gq_M) (Q : gq_M → Prop) (h : wq_X4_begin z σ Q) : Met l yX4_begin wsX4_begin rq_X4_begin (va_Pc [.ref (ad z)] (gq_P D (gc_T cyI cyZ cyS) 84 ad (gc_S cyI cyZ cyS ad) σ)) (va_Qv Q (gq_P D (gc_T cyI cyZ cyS) 84 ad (gc_S cyI cyZ cyS ad)) (gq_A 84 ad)) 0 0 (gq_A 84 ad) :=
  gq_met hap (by decide) rfl rfl (Nat.le_of_ble_eq_true rfl) (fun _ _ _ _ _ _ _ C => tq_X4_begin C hz σ h)
abbrev rq_X4_costOf : Room := { frames := 1, cells := 0, slots := 0, locals := 25 }
theorem dq_X4_costOf : gq_dsc yX4_costOf 1 := by unfold gq_dsc; decide +kernel
theorem iq_X4_costOf_X4 : ∀ w ∈ u_ws RX4 TX4 7, w ∈ wsX4_costOf := by decide +kernel
theorem fq_X4_costOf_41 : Cond.fieldLink RX4 41 (TX4 4).1 (TX4 4).2.1 (TX4 4).2.2.1 ∈ wsX4_costOf := by decide +kernel
theorem fq_X4_costOf_18 : Cond.fieldLink RX4 18 (TX4 0).1 (TX4 0).2.1 (TX4 0).2.2.1 ∈ wsX4_costOf := by decide +kernel
theorem fq_X4_costOf_44 : Cond.fieldLink RX4 44 (TX4 5).1 (TX4 5).2.1 (TX4 5).2.2.1 ∈ wsX4_costOf := by decide +kernel
theorem fq_X4_costOf_38 : Cond.fieldLink RX4 38 (TX4 3).1 (TX4 3).2.1 (TX4 3).2.2.1 ∈ wsX4_costOf := by decide +kernel
def wq_X4_costOf (z : Nat) (a1 : Int32) (σ : gq_M) (Q : Int32 → gq_M → Prop) : Prop := ((¬ (((σ.1 z 4) >>> (a1 &&& 31)) &&& 1) = 1 → wq_X2_costShut 9 a1 (σ.1 z 5) (σ.1 z 3) σ (fun r2 σ3 => Q r2 σ3)) ∧ ((((σ.1 z 4) >>> (a1 &&& 31)) &&& 1) = 1 → Q 0 σ))
set_option maxRecDepth 100000 in
set_option maxHeartbeats 4000000 in
theorem tq_X4_costOf {p : Program} {l : Launch} {e : Env} {s : State} {m : MethodId} {args : Array Value} {below : List Frame} {meth : Method} {c : Code} {D : va_G} {cyI cyZ cyS : ClassId} {ad : Nat → Nat} {z : Nat} {Q : Int32 → gq_M → Prop} (C : gq_C p s m args meth c cX4_costOf 2 RX4 wsX4_costOf D (gc_T cyI cyZ cyS) 84 ad (some .int)) (hz : gs_z z) (a1 : Int32) (σ : gq_M) (h : wq_X4_costOf z a1 σ Q) : gq_G p l e rq_X4_costOf s m args below meth c (gq_Ri below args s D (gc_T cyI cyZ cyS) 84 ad (gc_S cyI cyZ cyS ad) Q) D 84 ad (gc_S cyI cyZ cyS ad) 2 σ 0 [(0, .ref (ad z)), (1, .int a1)] [] := by
  unfold wq_X4_costOf at h
  refine gq_aload_n (j := 0) C dX4_costOf_0 rfl ?_
  refine gq_get (v := .int (σ.1 z 4)) (i := z) C (gcs_X4 hz) rfl iq_X4_costOf_X4 4 (by decide) fq_X4_costOf_41 rfl dX4_costOf_1 ?_
  refine gq_iload_n (j := 1) C dX4_costOf_4 rfl ?_
  refine gq_ishr C dX4_costOf_5 ?_
  refine gq_iconst (v := 1) C dX4_costOf_6 (by decide) ?_
  refine gq_iand C dX4_costOf_7 ?_
  refine gq_iconst (v := 1) C dX4_costOf_8 (by decide) ?_
  refine gq_icmp_ne (tgt := 16) C dX4_costOf_9 (by decide) (fun c1 => ?_) (fun c1 => ?_)
  · have h := h.1 c1
    refine gq_aload_n (j := 0) C dX4_costOf_16 rfl ?_
    refine gq_get (v := .ref (ad 9)) (i := z) C (gcs_X4 hz) rfl iq_X4_costOf_X4 0 (by decide) fq_X4_costOf_18 rfl dX4_costOf_17 ?_
    refine gq_iload_n (j := 1) C dX4_costOf_20 rfl ?_
    refine gq_aload_n (j := 0) C dX4_costOf_21 rfl ?_
    refine gq_get (v := .int (σ.1 z 5)) (i := z) C (gcs_X4 hz) rfl iq_X4_costOf_X4 5 (by decide) fq_X4_costOf_44 rfl dX4_costOf_22 ?_
    refine gq_aload_n (j := 0) C dX4_costOf_25 rfl ?_
    refine gq_get (v := .int (σ.1 z 3)) (i := z) C (gcs_X4 hz) rfl iq_X4_costOf_X4 3 (by decide) fq_X4_costOf_38 rfl dX4_costOf_26 ?_
    refine gq_vi (i := 9) C (gcs_X2 gr_9) rfl [.int a1, .int (σ.1 z 5), .int (σ.1 z 3)] (mq_X2_costShut C.2.2.1 gr_9 a1 (σ.1 z 5) (σ.1 z 3) σ _ h) gX4_costOf_X2_costShut rfl rfl dq_X2_costShut ⟨rfl, rfl, by decide, by decide⟩ rfl rfl (Nat.le_of_ble_eq_true rfl) dX4_costOf_29 (fun r2 σ3 h => ?_)
    exact gq_iret C h dX4_costOf_32
  · have h := h.2 c1
    refine gq_iconst (v := 0) C dX4_costOf_12 (by decide) ?_
    refine gq_goto (tgt := 32) C dX4_costOf_13 (by decide) ?_
    exact gq_iret C h dX4_costOf_32
theorem mq_X4_costOf {l : Launch} {D : va_G} {cyI cyZ cyS : ClassId} {ad : Nat → Nat} (hap : gq_ap 84 ad) {z : Nat} (hz : gs_z z) (a1 : Int32) (σ : gq_M) (Q : Int32 → gq_M → Prop) (h : wq_X4_costOf z a1 σ Q) : Met l yX4_costOf wsX4_costOf rq_X4_costOf (va_Pc [.ref (ad z), .int a1] (gq_P D (gc_T cyI cyZ cyS) 84 ad (gc_S cyI cyZ cyS ad) σ)) (va_Qi Q (gq_P D (gc_T cyI cyZ cyS) 84 ad (gc_S cyI cyZ cyS ad)) (gq_A 84 ad)) 0 0 (gq_A 84 ad) :=
  gq_met hap (by decide) rfl rfl (Nat.le_of_ble_eq_true rfl) (fun _ _ _ _ _ _ _ C => tq_X4_costOf C hz a1 σ h)
abbrev rq_X4_pleatBeside : Room := { frames := 0, cells := 0, slots := 0, locals := 0 }
theorem dq_X4_pleatBeside : gq_dsc yX4_pleatBeside 2 := by unfold gq_dsc; decide +kernel
theorem iq_X4_pleatBeside_X4 : ∀ w ∈ u_ws RX4 TX4 7, w ∈ wsX4_pleatBeside := by decide +kernel
theorem fq_X4_pleatBeside_9 : Cond.fieldLink RX4 9 (TX4 1).1 (TX4 1).2.1 (TX4 1).2.2.1 ∈ wsX4_pleatBeside := by decide +kernel
def wq_X4_pleatBeside (z : Nat) (a1 : Int32) (a2 : Int32) (σ : gq_M) (Q : Int32 → gq_M → Prop) : Prop := ((a2 = 0 → vp_in a1 5 ∧ Q ((σ.1 (z + 1) a1.toNatClampNeg) - 1) σ) ∧ (¬ a2 = 0 → vp_in a1 5 ∧ Q (σ.1 (z + 1) a1.toNatClampNeg) σ))
set_option maxRecDepth 100000 in
set_option maxHeartbeats 4000000 in
theorem tq_X4_pleatBeside {p : Program} {l : Launch} {e : Env} {s : State} {m : MethodId} {args : Array Value} {below : List Frame} {meth : Method} {c : Code} {D : va_G} {cyI cyZ cyS : ClassId} {ad : Nat → Nat} {z : Nat} {Q : Int32 → gq_M → Prop} (C : gq_C p s m args meth c cX4_pleatBeside 3 RX4 wsX4_pleatBeside D (gc_T cyI cyZ cyS) 84 ad (some .int)) (hz : gs_z z) (a1 : Int32) (a2 : Int32) (σ : gq_M) (h : wq_X4_pleatBeside z a1 a2 σ Q) : gq_G p l e rq_X4_pleatBeside s m args below meth c (gq_Ri below args s D (gc_T cyI cyZ cyS) 84 ad (gc_S cyI cyZ cyS ad) Q) D 84 ad (gc_S cyI cyZ cyS ad) 3 σ 0 [(0, .ref (ad z)), (1, .int a1), (2, .int a2)] [] := by
  unfold wq_X4_pleatBeside at h
  refine gq_iload_n (j := 2) C dX4_pleatBeside_0 rfl ?_
  refine gq_if_eq (tgt := 13) C dX4_pleatBeside_1 (by decide) (fun c1 => ?_) (fun c1 => ?_)
  · have h := h.1 c1
    refine gq_aload_n (j := 0) C dX4_pleatBeside_13 rfl ?_
    refine gq_get (v := .ref (ad (z + 1))) (i := z) C (gcs_X4 hz) rfl iq_X4_pleatBeside_X4 1 (by decide) fq_X4_pleatBeside_9 rfl dX4_pleatBeside_14 ?_
    refine gq_iload_n (j := 1) C dX4_pleatBeside_17 rfl ?_
    refine gq_iald (i := (z + 1)) (j := a1.toNatClampNeg) C (gcs_X4_1 hz) 0 rfl rfl h.1 dX4_pleatBeside_18 ?_
    have h := h.2
    refine gq_iconst (v := 1) C dX4_pleatBeside_19 (by decide) ?_
    refine gq_isub C dX4_pleatBeside_20 ?_
    exact gq_iret C h dX4_pleatBeside_21
  · have h := h.2 c1
    refine gq_aload_n (j := 0) C dX4_pleatBeside_4 rfl ?_
    refine gq_get (v := .ref (ad (z + 1))) (i := z) C (gcs_X4 hz) rfl iq_X4_pleatBeside_X4 1 (by decide) fq_X4_pleatBeside_9 rfl dX4_pleatBeside_5 ?_
    refine gq_iload_n (j := 1) C dX4_pleatBeside_8 rfl ?_
    refine gq_iald (i := (z + 1)) (j := a1.toNatClampNeg) C (gcs_X4_1 hz) 0 rfl rfl h.1 dX4_pleatBeside_9 ?_
    have h := h.2
    refine gq_goto (tgt := 21) C dX4_pleatBeside_10 (by decide) ?_
    exact gq_iret C h dX4_pleatBeside_21
theorem mq_X4_pleatBeside {l : Launch} {D : va_G} {cyI cyZ cyS : ClassId} {ad : Nat → Nat} (hap : gq_ap 84 ad) {z : Nat} (hz : gs_z z) (a1 : Int32) (a2 : Int32) (σ : gq_M) (Q : Int32 → gq_M → Prop) (h : wq_X4_pleatBeside z a1 a2 σ Q) : Met l yX4_pleatBeside wsX4_pleatBeside rq_X4_pleatBeside (va_Pc [.ref (ad z), .int a1, .int a2] (gq_P D (gc_T cyI cyZ cyS) 84 ad (gc_S cyI cyZ cyS ad) σ)) (va_Qi Q (gq_P D (gc_T cyI cyZ cyS) 84 ad (gc_S cyI cyZ cyS ad)) (gq_A 84 ad)) 0 0 (gq_A 84 ad) :=
  gq_met hap (by decide) rfl rfl (Nat.le_of_ble_eq_true rfl) (fun _ _ _ _ _ _ _ C => tq_X4_pleatBeside C hz a1 a2 σ h)
abbrev rq_X4_tollBeside : Room := { frames := 2, cells := 0, slots := 0, locals := 46 }
theorem dq_X4_tollBeside : gq_dsc yX4_tollBeside 2 := by unfold gq_dsc; decide +kernel
theorem iq_X4_tollBeside_X4 : ∀ w ∈ u_ws RX4 TX4 7, w ∈ wsX4_tollBeside := by decide +kernel
theorem fq_X4_tollBeside_18 : Cond.fieldLink RX4 18 (TX4 0).1 (TX4 0).2.1 (TX4 0).2.2.1 ∈ wsX4_tollBeside := by decide +kernel
theorem iq_X4_tollBeside_X2 : ∀ w ∈ u_ws RX2 TX2 7, w ∈ wsX4_tollBeside := by decide +kernel
theorem fq_X4_tollBeside_62 : Cond.fieldLink RX4 62 (TX2 4).1 (TX2 4).2.1 (TX2 4).2.2.1 ∈ wsX4_tollBeside := by decide +kernel
def wq_X4_tollBeside (z : Nat) (a1 : Int32) (a2 : Int32) (σ : gq_M) (Q : Int32 → gq_M → Prop) : Prop := wq_X4_pleatBeside z a1 a2 σ (fun r1 σ2 => wq_X2_hasPleat 9 r1 σ2 (fun r3 σ4 => ((r3 = 0 → Q (-9) σ4) ∧ (¬ r3 = 0 → vp_in a1 5 ∧ wq_X4_costOf z r1 σ4 (fun r6 σ7 => wq_X2_tollFor (σ4.1 14 a1.toNatClampNeg) r6 σ7 (fun r8 σ9 => Q r8 σ9))))))
set_option maxRecDepth 100000 in
set_option maxHeartbeats 4000000 in
theorem tq_X4_tollBeside {p : Program} {l : Launch} {e : Env} {s : State} {m : MethodId} {args : Array Value} {below : List Frame} {meth : Method} {c : Code} {D : va_G} {cyI cyZ cyS : ClassId} {ad : Nat → Nat} {z : Nat} {Q : Int32 → gq_M → Prop} (C : gq_C p s m args meth c cX4_tollBeside 4 RX4 wsX4_tollBeside D (gc_T cyI cyZ cyS) 84 ad (some .int)) (hz : gs_z z) (a1 : Int32) (a2 : Int32) (σ : gq_M) (h : wq_X4_tollBeside z a1 a2 σ Q) : gq_G p l e rq_X4_tollBeside s m args below meth c (gq_Ri below args s D (gc_T cyI cyZ cyS) 84 ad (gc_S cyI cyZ cyS ad) Q) D 84 ad (gc_S cyI cyZ cyS ad) 4 σ 0 [(0, .ref (ad z)), (1, .int a1), (2, .int a2)] [] := by
  unfold wq_X4_tollBeside at h
  refine gq_aload_n (j := 0) C dX4_tollBeside_0 rfl ?_
  refine gq_iload_n (j := 1) C dX4_tollBeside_1 rfl ?_
  refine gq_iload_n (j := 2) C dX4_tollBeside_2 rfl ?_
  refine gq_vi (i := z) C (gcs_X4 hz) rfl [.int a1, .int a2] (mq_X4_pleatBeside C.2.2.1 hz a1 a2 σ _ h) gX4_tollBeside_X4_pleatBeside rfl rfl dq_X4_pleatBeside ⟨rfl, rfl, by decide, by decide⟩ rfl rfl (Nat.le_of_ble_eq_true rfl) dX4_tollBeside_3 (fun r1 σ2 h => ?_)
  refine gq_istore_n (L' := [(0, .ref (ad z)), (1, .int a1), (2, .int a2), (3, .int r1)]) C [1, 2, 3, 0] dX4_tollBeside_6 (by decide) rfl ?_
  refine gq_aload_n (j := 0) C dX4_tollBeside_7 rfl ?_
  refine gq_get (v := .ref (ad 9)) (i := z) C (gcs_X4 hz) rfl iq_X4_tollBeside_X4 0 (by decide) fq_X4_tollBeside_18 rfl dX4_tollBeside_8 ?_
  refine gq_iload_n (j := 3) C dX4_tollBeside_11 rfl ?_
  refine gq_vi (i := 9) C (gcs_X2 gr_9) rfl [.int r1] (mq_X2_hasPleat C.2.2.1 gr_9 r1 σ2 _ h) gX4_tollBeside_X2_hasPleat rfl rfl dq_X2_hasPleat ⟨rfl, rfl, by decide, by decide⟩ rfl rfl (Nat.le_of_ble_eq_true rfl) dX4_tollBeside_12 (fun r3 σ4 h => ?_)
  refine gq_if_eq (tgt := 38) C dX4_tollBeside_15 (by decide) (fun c5 => ?_) (fun c5 => ?_)
  · have h := h.1 c5
    refine gq_bipush (v := (-9)) C dX4_tollBeside_38 (by decide) ?_
    exact gq_iret C h dX4_tollBeside_40
  · have h := h.2 c5
    refine gq_aload_n (j := 0) C dX4_tollBeside_18 rfl ?_
    refine gq_get (v := .ref (ad 9)) (i := z) C (gcs_X4 hz) rfl iq_X4_tollBeside_X4 0 (by decide) fq_X4_tollBeside_18 rfl dX4_tollBeside_19 ?_
    refine gq_get (v := .ref (ad 14)) (i := 9) C (gcs_X2 gr_9) rfl iq_X4_tollBeside_X2 4 (by decide) fq_X4_tollBeside_62 rfl dX4_tollBeside_22 ?_
    refine gq_iload_n (j := 1) C dX4_tollBeside_25 rfl ?_
    refine gq_iald (i := 14) (j := a1.toNatClampNeg) C (gcs_X2_5 gr_9) 0 rfl rfl h.1 dX4_tollBeside_26 ?_
    have h := h.2
    refine gq_aload_n (j := 0) C dX4_tollBeside_27 rfl ?_
    refine gq_iload_n (j := 3) C dX4_tollBeside_28 rfl ?_
    refine gq_vi (i := z) C (gcs_X4 hz) rfl [.int r1] (mq_X4_costOf C.2.2.1 hz r1 σ4 _ h) gX4_tollBeside_X4_costOf rfl rfl dq_X4_costOf ⟨rfl, rfl, by decide, by decide⟩ rfl rfl (Nat.le_of_ble_eq_true rfl) dX4_tollBeside_29 (fun r6 σ7 h => ?_)
    refine gq_si C [.int (σ4.1 14 a1.toNatClampNeg), .int r6] (mq_X2_tollFor C.2.2.1 (σ4.1 14 a1.toNatClampNeg) r6 σ7 _ h) gX4_tollBeside_X2_tollFor rfl dq_X2_tollFor ⟨rfl, rfl, by decide, by decide⟩ rfl rfl (Nat.le_of_ble_eq_true rfl) dX4_tollBeside_32 (fun r8 σ9 h => ?_)
    refine gq_goto (tgt := 40) C dX4_tollBeside_35 (by decide) ?_
    exact gq_iret C h dX4_tollBeside_40
theorem mq_X4_tollBeside {l : Launch} {D : va_G} {cyI cyZ cyS : ClassId} {ad : Nat → Nat} (hap : gq_ap 84 ad) {z : Nat} (hz : gs_z z) (a1 : Int32) (a2 : Int32) (σ : gq_M) (Q : Int32 → gq_M → Prop) (h : wq_X4_tollBeside z a1 a2 σ Q) : Met l yX4_tollBeside wsX4_tollBeside rq_X4_tollBeside (va_Pc [.ref (ad z), .int a1, .int a2] (gq_P D (gc_T cyI cyZ cyS) 84 ad (gc_S cyI cyZ cyS ad) σ)) (va_Qi Q (gq_P D (gc_T cyI cyZ cyS) 84 ad (gc_S cyI cyZ cyS ad)) (gq_A 84 ad)) 0 0 (gq_A 84 ad) :=
  gq_met hap (by decide) rfl rfl (Nat.le_of_ble_eq_true rfl) (fun _ _ _ _ _ _ _ C => tq_X4_tollBeside C hz a1 a2 σ h)
abbrev rq_X4_canStep : Room := { frames := 3, cells := 0, slots := 0, locals := 69 }
theorem dq_X4_canStep : gq_dsc yX4_canStep 2 := by unfold gq_dsc; decide +kernel
theorem iq_X4_canStep_X4 : ∀ w ∈ u_ws RX4 TX4 7, w ∈ wsX4_canStep := by decide +kernel
theorem fq_X4_canStep_18 : Cond.fieldLink RX4 18 (TX4 0).1 (TX4 0).2.1 (TX4 0).2.2.1 ∈ wsX4_canStep := by decide +kernel
theorem fq_X4_canStep_15 : Cond.fieldLink RX4 15 (TX4 2).1 (TX4 2).2.1 (TX4 2).2.2.1 ∈ wsX4_canStep := by decide +kernel
def wq_X4_canStep (z : Nat) (a1 : Int32) (a2 : Int32) (σ : gq_M) (Q : Int32 → gq_M → Prop) : Prop := wq_X2_hasTraveller 9 a1 σ (fun r1 σ2 => ((¬ r1 = 0 → wq_X4_tollBeside z a1 a2 σ2 (fun r4 σ5 => ((r4 = (-9) → Q 0 σ5) ∧ (¬ r4 = (-9) → vp_in a1 5 ∧ (((σ5.1 (z + 2) a1.toNatClampNeg) < r4 → Q 0 σ5) ∧ (¬ (σ5.1 (z + 2) a1.toNatClampNeg) < r4 → Q 1 σ5)))))) ∧ (r1 = 0 → Q 0 σ2)))
set_option maxRecDepth 100000 in
set_option maxHeartbeats 4000000 in
theorem tq_X4_canStep {p : Program} {l : Launch} {e : Env} {s : State} {m : MethodId} {args : Array Value} {below : List Frame} {meth : Method} {c : Code} {D : va_G} {cyI cyZ cyS : ClassId} {ad : Nat → Nat} {z : Nat} {Q : Int32 → gq_M → Prop} (C : gq_C p s m args meth c cX4_canStep 4 RX4 wsX4_canStep D (gc_T cyI cyZ cyS) 84 ad (some .boolean)) (hz : gs_z z) (a1 : Int32) (a2 : Int32) (σ : gq_M) (h : wq_X4_canStep z a1 a2 σ Q) : gq_G p l e rq_X4_canStep s m args below meth c (gq_Ri below args s D (gc_T cyI cyZ cyS) 84 ad (gc_S cyI cyZ cyS ad) Q) D 84 ad (gc_S cyI cyZ cyS ad) 4 σ 0 [(0, .ref (ad z)), (1, .int a1), (2, .int a2)] [] := by
  unfold wq_X4_canStep at h
  refine gq_aload_n (j := 0) C dX4_canStep_0 rfl ?_
  refine gq_get (v := .ref (ad 9)) (i := z) C (gcs_X4 hz) rfl iq_X4_canStep_X4 0 (by decide) fq_X4_canStep_18 rfl dX4_canStep_1 ?_
  refine gq_iload_n (j := 1) C dX4_canStep_4 rfl ?_
  refine gq_vi (i := 9) C (gcs_X2 gr_9) rfl [.int a1] (mq_X2_hasTraveller C.2.2.1 gr_9 a1 σ _ h) gX4_canStep_X2_hasTraveller rfl rfl dq_X2_hasTraveller ⟨rfl, rfl, by decide, by decide⟩ rfl rfl (Nat.le_of_ble_eq_true rfl) dX4_canStep_5 (fun r1 σ2 h => ?_)
  refine gq_if_ne (tgt := 13) C dX4_canStep_8 (by decide) (fun c3 => ?_) (fun c3 => ?_)
  · have h := h.1 c3
    refine gq_aload_n (j := 0) C dX4_canStep_13 rfl ?_
    refine gq_iload_n (j := 1) C dX4_canStep_14 rfl ?_
    refine gq_iload_n (j := 2) C dX4_canStep_15 rfl ?_
    refine gq_vi (i := z) C (gcs_X4 hz) rfl [.int a1, .int a2] (mq_X4_tollBeside C.2.2.1 hz a1 a2 σ2 _ h) gX4_canStep_X4_tollBeside rfl rfl dq_X4_tollBeside ⟨rfl, rfl, by decide, by decide⟩ rfl rfl (Nat.le_of_ble_eq_true rfl) dX4_canStep_16 (fun r4 σ5 h => ?_)
    refine gq_istore_n (L' := [(0, .ref (ad z)), (1, .int a1), (2, .int a2), (3, .int r4)]) C [1, 2, 3, 0] dX4_canStep_19 (by decide) rfl ?_
    refine gq_iload_n (j := 3) C dX4_canStep_20 rfl ?_
    refine gq_bipush (v := (-9)) C dX4_canStep_21 (by decide) ?_
    refine gq_icmp_eq (tgt := 40) C dX4_canStep_23 (by decide) (fun c6 => ?_) (fun c6 => ?_)
    · have h := h.1 c6
      refine gq_iconst (v := 0) C dX4_canStep_40 (by decide) ?_
      exact gq_zret C (Or.inl rfl) h dX4_canStep_41
    · have h := h.2 c6
      refine gq_aload_n (j := 0) C dX4_canStep_26 rfl ?_
      refine gq_get (v := .ref (ad (z + 2))) (i := z) C (gcs_X4 hz) rfl iq_X4_canStep_X4 2 (by decide) fq_X4_canStep_15 rfl dX4_canStep_27 ?_
      refine gq_iload_n (j := 1) C dX4_canStep_30 rfl ?_
      refine gq_iald (i := (z + 2)) (j := a1.toNatClampNeg) C (gcs_X4_2 hz) 0 rfl rfl h.1 dX4_canStep_31 ?_
      have h := h.2
      refine gq_iload_n (j := 3) C dX4_canStep_32 rfl ?_
      refine gq_icmp_lt (tgt := 40) C dX4_canStep_33 (by decide) (fun c7 => ?_) (fun c7 => ?_)
      · have h := h.1 c7
        refine gq_iconst (v := 0) C dX4_canStep_40 (by decide) ?_
        exact gq_zret C (Or.inl rfl) h dX4_canStep_41
      · have h := h.2 c7
        refine gq_iconst (v := 1) C dX4_canStep_36 (by decide) ?_
        refine gq_goto (tgt := 41) C dX4_canStep_37 (by decide) ?_
        exact gq_zret C (Or.inr rfl) h dX4_canStep_41
  · have h := h.2 c3
    refine gq_iconst (v := 0) C dX4_canStep_11 (by decide) ?_
    exact gq_zret C (Or.inl rfl) h dX4_canStep_12
theorem mq_X4_canStep {l : Launch} {D : va_G} {cyI cyZ cyS : ClassId} {ad : Nat → Nat} (hap : gq_ap 84 ad) {z : Nat} (hz : gs_z z) (a1 : Int32) (a2 : Int32) (σ : gq_M) (Q : Int32 → gq_M → Prop) (h : wq_X4_canStep z a1 a2 σ Q) : Met l yX4_canStep wsX4_canStep rq_X4_canStep (va_Pc [.ref (ad z), .int a1, .int a2] (gq_P D (gc_T cyI cyZ cyS) 84 ad (gc_S cyI cyZ cyS ad) σ)) (va_Qi Q (gq_P D (gc_T cyI cyZ cyS) 84 ad (gc_S cyI cyZ cyS ad)) (gq_A 84 ad)) 0 0 (gq_A 84 ad) :=
  gq_met hap (by decide) rfl rfl (Nat.le_of_ble_eq_true rfl) (fun _ _ _ _ _ _ _ C => tq_X4_canStep C hz a1 a2 σ h)
abbrev rq_X4_doStep : Room := { frames := 3, cells := 0, slots := 0, locals := 69 }
theorem dq_X4_doStep : gq_dsc yX4_doStep 2 := by unfold gq_dsc; decide +kernel
theorem iq_X4_doStep_X4 : ∀ w ∈ u_ws RX4 TX4 7, w ∈ wsX4_doStep := by decide +kernel
theorem fq_X4_doStep_18 : Cond.fieldLink RX4 18 (TX4 0).1 (TX4 0).2.1 (TX4 0).2.2.1 ∈ wsX4_doStep := by decide +kernel
theorem iq_X4_doStep_X2 : ∀ w ∈ u_ws RX2 TX2 7, w ∈ wsX4_doStep := by decide +kernel
theorem fq_X4_doStep_79 : Cond.fieldLink RX4 79 (TX2 1).1 (TX2 1).2.1 (TX2 1).2.2.1 ∈ wsX4_doStep := by decide +kernel
theorem fq_X4_doStep_15 : Cond.fieldLink RX4 15 (TX4 2).1 (TX4 2).2.1 (TX4 2).2.2.1 ∈ wsX4_doStep := by decide +kernel
theorem fq_X4_doStep_9 : Cond.fieldLink RX4 9 (TX4 1).1 (TX4 1).2.1 (TX4 1).2.2.1 ∈ wsX4_doStep := by decide +kernel
theorem fq_X4_doStep_62 : Cond.fieldLink RX4 62 (TX2 4).1 (TX2 4).2.1 (TX2 4).2.2.1 ∈ wsX4_doStep := by decide +kernel
theorem fq_X4_doStep_41 : Cond.fieldLink RX4 41 (TX4 4).1 (TX4 4).2.1 (TX4 4).2.2.1 ∈ wsX4_doStep := by decide +kernel
theorem fq_X4_doStep_47 : Cond.fieldLink RX4 47 (TX4 6).1 (TX4 6).2.1 (TX4 6).2.2.1 ∈ wsX4_doStep := by decide +kernel
theorem fq_X4_doStep_31 : Cond.fieldLink RX4 31 (TX2 3).1 (TX2 3).2.1 (TX2 3).2.2.1 ∈ wsX4_doStep := by decide +kernel
def wq_X4_doStep_b114 (z : Nat) (Q : gq_M → Prop) (s1 : Int32) (σ : gq_M) : Prop := Q (gq_put (gq_put σ z 4 s1) z 6 ((((gq_put σ z 4 s1)).1 z 6) + 1))
set_option maxRecDepth 100000 in
set_option maxHeartbeats 4000000 in
theorem tq_X4_doStep_b114 {p : Program} {l : Launch} {e : Env} {s : State} {m : MethodId} {args : Array Value} {below : List Frame} {meth : Method} {c : Code} {D : va_G} {cyI cyZ cyS : ClassId} {ad : Nat → Nat} {z : Nat} {Q : gq_M → Prop} (C : gq_C p s m args meth c cX4_doStep 5 RX4 wsX4_doStep D (gc_T cyI cyZ cyS) 84 ad none) (hz : gs_z z) (s1 : Int32) (σ : gq_M) (h : wq_X4_doStep_b114 z Q s1 σ) : gq_G p l e rq_X4_doStep s m args below meth c (gq_Rv below args s D (gc_T cyI cyZ cyS) 84 ad (gc_S cyI cyZ cyS ad) Q) D 84 ad (gc_S cyI cyZ cyS ad) 5 σ 114 [(0, .ref (ad z))] [.int s1, .ref (ad z)] := by
  unfold wq_X4_doStep_b114 at h
  refine gq_puti (i := z) C (gcs_X4 hz) rfl iq_X4_doStep_X4 tyX4 tyX4_ok nmX4 4 (by decide) fq_X4_doStep_41 rfl rfl rfl (fun _ _ => Nat.le_of_ble_eq_true rfl) gs_X4_4 dX4_doStep_114 ?_
  refine gq_aload_n (j := 0) C dX4_doStep_117 rfl ?_
  refine gq_dup C dX4_doStep_118 rfl ?_
  refine gq_get (v := .int (((gq_put σ z 4 s1)).1 z 6)) (i := z) C (gcs_X4 hz) rfl iq_X4_doStep_X4 6 (by decide) fq_X4_doStep_47 rfl dX4_doStep_119 ?_
  refine gq_iconst (v := 1) C dX4_doStep_122 (by decide) ?_
  refine gq_iadd C dX4_doStep_123 ?_
  refine gq_puti (i := z) C (gcs_X4 hz) rfl iq_X4_doStep_X4 tyX4 tyX4_ok nmX4 6 (by decide) fq_X4_doStep_47 rfl rfl rfl (fun _ _ => Nat.le_of_ble_eq_true rfl) gs_X4_6 dX4_doStep_124 ?_
  exact gq_vret C h dX4_doStep_127
def wq_X4_doStep_b91 (z : Nat) (Q : gq_M → Prop) (x1 : Int32) (x3 : Int32) (s1 : Int32) (s2 : Int32) (s3 : Int32) (σ : gq_M) : Prop := vp_in s1 5 ∧ vp_in x1 5 ∧ ((¬ ((gq_put σ (z + 1) s1.toNatClampNeg (s2 + s3)).1 14 x1.toNatClampNeg) = 3 → wq_X4_doStep_b114 z Q 0 (gq_put σ (z + 1) s1.toNatClampNeg (s2 + s3))) ∧ (((gq_put σ (z + 1) s1.toNatClampNeg (s2 + s3)).1 14 x1.toNatClampNeg) = 3 → wq_X4_doStep_b114 z Q ((1 : Int32) <<< (x3 &&& 31)) (gq_put σ (z + 1) s1.toNatClampNeg (s2 + s3))))
set_option maxRecDepth 100000 in
set_option maxHeartbeats 4000000 in
theorem tq_X4_doStep_b91 {p : Program} {l : Launch} {e : Env} {s : State} {m : MethodId} {args : Array Value} {below : List Frame} {meth : Method} {c : Code} {D : va_G} {cyI cyZ cyS : ClassId} {ad : Nat → Nat} {z : Nat} {Q : gq_M → Prop} (C : gq_C p s m args meth c cX4_doStep 5 RX4 wsX4_doStep D (gc_T cyI cyZ cyS) 84 ad none) (hz : gs_z z) (x1 : Int32) (x3 : Int32) (s1 : Int32) (s2 : Int32) (s3 : Int32) (σ : gq_M) (h : wq_X4_doStep_b91 z Q x1 x3 s1 s2 s3 σ) : gq_G p l e rq_X4_doStep s m args below meth c (gq_Rv below args s D (gc_T cyI cyZ cyS) 84 ad (gc_S cyI cyZ cyS ad) Q) D 84 ad (gc_S cyI cyZ cyS ad) 5 σ 91 [(0, .ref (ad z)), (1, .int x1), (3, .int x3)] [.int s3, .int s2, .int s1, .ref (ad (z + 1))] := by
  unfold wq_X4_doStep_b91 at h
  refine gq_iadd C dX4_doStep_91 ?_
  refine gq_iast (i := (z + 1)) (j := s1.toNatClampNeg) C (gcs_X4_1 hz) 0 rfl rfl h.1 dX4_doStep_92 ?_
  have h := h.2
  refine gq_aload_n (j := 0) C dX4_doStep_93 rfl ?_
  refine gq_aload_n (j := 0) C dX4_doStep_94 rfl ?_
  refine gq_get (v := .ref (ad 9)) (i := z) C (gcs_X4 hz) rfl iq_X4_doStep_X4 0 (by decide) fq_X4_doStep_18 rfl dX4_doStep_95 ?_
  refine gq_get (v := .ref (ad 14)) (i := 9) C (gcs_X2 gr_9) rfl iq_X4_doStep_X2 4 (by decide) fq_X4_doStep_62 rfl dX4_doStep_98 ?_
  refine gq_iload_n (j := 1) C dX4_doStep_101 rfl ?_
  refine gq_iald (i := 14) (j := x1.toNatClampNeg) C (gcs_X2_5 gr_9) 0 rfl rfl h.1 dX4_doStep_102 ?_
  have h := h.2
  refine gq_iconst (v := 3) C dX4_doStep_103 (by decide) ?_
  refine gq_icmp_ne (tgt := 113) C dX4_doStep_104 (by decide) (fun c11 => ?_) (fun c11 => ?_)
  · have h := h.1 c11
    refine gq_iconst (v := 0) C dX4_doStep_113 (by decide) ?_
    refine gq_sub [0] rfl ?_
    exact tq_X4_doStep_b114 C hz _ _ h
  · have h := h.2 c11
    refine gq_iconst (v := 1) C dX4_doStep_107 (by decide) ?_
    refine gq_iload_n (j := 2) C dX4_doStep_108 rfl ?_
    refine gq_ishl C dX4_doStep_109 ?_
    refine gq_goto (tgt := 114) C dX4_doStep_110 (by decide) ?_
    refine gq_sub [0] rfl ?_
    exact tq_X4_doStep_b114 C hz _ _ h
def wq_X4_doStep_b74 (z : Nat) (Q : gq_M → Prop) (x1 : Int32) (x2 : Int32) (x3 : Int32) (s1 : Int32) (s2 : Int32) (σ : gq_M) : Prop := vp_in s1 5 ∧ vp_in x1 5 ∧ ((x2 = 0 → wq_X4_doStep_b91 z Q x1 x3 x1 ((gq_put σ (z + 2) s1.toNatClampNeg s2).1 (z + 1) x1.toNatClampNeg) (-1) (gq_put σ (z + 2) s1.toNatClampNeg s2)) ∧ (¬ x2 = 0 → wq_X4_doStep_b91 z Q x1 x3 x1 ((gq_put σ (z + 2) s1.toNatClampNeg s2).1 (z + 1) x1.toNatClampNeg) 1 (gq_put σ (z + 2) s1.toNatClampNeg s2)))
set_option maxRecDepth 100000 in
set_option maxHeartbeats 4000000 in
theorem tq_X4_doStep_b74 {p : Program} {l : Launch} {e : Env} {s : State} {m : MethodId} {args : Array Value} {below : List Frame} {meth : Method} {c : Code} {D : va_G} {cyI cyZ cyS : ClassId} {ad : Nat → Nat} {z : Nat} {Q : gq_M → Prop} (C : gq_C p s m args meth c cX4_doStep 5 RX4 wsX4_doStep D (gc_T cyI cyZ cyS) 84 ad none) (hz : gs_z z) (x1 : Int32) (x2 : Int32) (x3 : Int32) (s1 : Int32) (s2 : Int32) (σ : gq_M) (h : wq_X4_doStep_b74 z Q x1 x2 x3 s1 s2 σ) : gq_G p l e rq_X4_doStep s m args below meth c (gq_Rv below args s D (gc_T cyI cyZ cyS) 84 ad (gc_S cyI cyZ cyS ad) Q) D 84 ad (gc_S cyI cyZ cyS ad) 5 σ 74 [(0, .ref (ad z)), (1, .int x1), (2, .int x2), (3, .int x3)] [.int s2, .int s1, .ref (ad (z + 2))] := by
  unfold wq_X4_doStep_b74 at h
  refine gq_iast (i := (z + 2)) (j := s1.toNatClampNeg) C (gcs_X4_2 hz) 0 rfl rfl h.1 dX4_doStep_74 ?_
  have h := h.2
  refine gq_aload_n (j := 0) C dX4_doStep_75 rfl ?_
  refine gq_get (v := .ref (ad (z + 1))) (i := z) C (gcs_X4 hz) rfl iq_X4_doStep_X4 1 (by decide) fq_X4_doStep_9 rfl dX4_doStep_76 ?_
  refine gq_iload_n (j := 1) C dX4_doStep_79 rfl ?_
  refine gq_dup2 C dX4_doStep_80 rfl rfl ?_
  refine gq_iald (i := (z + 1)) (j := x1.toNatClampNeg) C (gcs_X4_1 hz) 0 rfl rfl h.1 dX4_doStep_81 ?_
  have h := h.2
  refine gq_iload_n (j := 2) C dX4_doStep_82 rfl ?_
  refine gq_if_eq (tgt := 90) C dX4_doStep_83 (by decide) (fun c10 => ?_) (fun c10 => ?_)
  · have h := h.1 c10
    refine gq_iconst (v := (-1)) C dX4_doStep_90 (by decide) ?_
    refine gq_sub [0, 1, 3] rfl ?_
    exact tq_X4_doStep_b91 C hz _ _ _ _ _ _ h
  · have h := h.2 c10
    refine gq_iconst (v := 1) C dX4_doStep_86 (by decide) ?_
    refine gq_goto (tgt := 91) C dX4_doStep_87 (by decide) ?_
    refine gq_sub [0, 1, 3] rfl ?_
    exact tq_X4_doStep_b91 C hz _ _ _ _ _ _ h
def wq_X4_doStep_b37 (z : Nat) (Q : gq_M → Prop) (x1 : Int32) (x2 : Int32) (x3 : Int32) (s0 : Int32) (σ : gq_M) : Prop := ((s0 = 0 → vp_in x1 5 ∧ wq_X4_tollBeside z x1 x2 σ (fun r8 σ9 => wq_X4_doStep_b74 z Q x1 x2 x3 x1 ((σ.1 (z + 2) x1.toNatClampNeg) - r8) σ9)) ∧ (¬ s0 = 0 → vp_in x1 5 ∧ wq_X4_doStep_b74 z Q x1 x2 x3 x1 (σ.1 13 x1.toNatClampNeg) σ))
set_option maxRecDepth 100000 in
set_option maxHeartbeats 4000000 in
theorem tq_X4_doStep_b37 {p : Program} {l : Launch} {e : Env} {s : State} {m : MethodId} {args : Array Value} {below : List Frame} {meth : Method} {c : Code} {D : va_G} {cyI cyZ cyS : ClassId} {ad : Nat → Nat} {z : Nat} {Q : gq_M → Prop} (C : gq_C p s m args meth c cX4_doStep 5 RX4 wsX4_doStep D (gc_T cyI cyZ cyS) 84 ad none) (hz : gs_z z) (x1 : Int32) (x2 : Int32) (x3 : Int32) (s0 : Int32) (σ : gq_M) (h : wq_X4_doStep_b37 z Q x1 x2 x3 s0 σ) : gq_G p l e rq_X4_doStep s m args below meth c (gq_Rv below args s D (gc_T cyI cyZ cyS) 84 ad (gc_S cyI cyZ cyS ad) Q) D 84 ad (gc_S cyI cyZ cyS ad) 5 σ 37 [(0, .ref (ad z)), (1, .int x1), (2, .int x2), (3, .int x3)] [.int s0] := by
  unfold wq_X4_doStep_b37 at h
  refine gq_istore (L' := [(0, .ref (ad z)), (1, .int x1), (2, .int x2), (3, .int x3), (4, .int s0)]) C [1, 2, 3, 4, 0] dX4_doStep_37 (by decide) rfl ?_
  refine gq_aload_n (j := 0) C dX4_doStep_39 rfl ?_
  refine gq_get (v := .ref (ad (z + 2))) (i := z) C (gcs_X4 hz) rfl iq_X4_doStep_X4 2 (by decide) fq_X4_doStep_15 rfl dX4_doStep_40 ?_
  refine gq_iload_n (j := 1) C dX4_doStep_43 rfl ?_
  refine gq_iload (j := 4) C dX4_doStep_44 rfl ?_
  refine gq_if_eq (tgt := 61) C dX4_doStep_46 (by decide) (fun c7 => ?_) (fun c7 => ?_)
  · have h := h.1 c7
    refine gq_aload_n (j := 0) C dX4_doStep_61 rfl ?_
    refine gq_get (v := .ref (ad (z + 2))) (i := z) C (gcs_X4 hz) rfl iq_X4_doStep_X4 2 (by decide) fq_X4_doStep_15 rfl dX4_doStep_62 ?_
    refine gq_iload_n (j := 1) C dX4_doStep_65 rfl ?_
    refine gq_iald (i := (z + 2)) (j := x1.toNatClampNeg) C (gcs_X4_2 hz) 0 rfl rfl h.1 dX4_doStep_66 ?_
    have h := h.2
    refine gq_aload_n (j := 0) C dX4_doStep_67 rfl ?_
    refine gq_iload_n (j := 1) C dX4_doStep_68 rfl ?_
    refine gq_iload_n (j := 2) C dX4_doStep_69 rfl ?_
    refine gq_vi (i := z) C (gcs_X4 hz) rfl [.int x1, .int x2] (mq_X4_tollBeside C.2.2.1 hz x1 x2 σ _ h) gX4_doStep_X4_tollBeside rfl rfl dq_X4_tollBeside ⟨rfl, rfl, by decide, by decide⟩ rfl rfl (Nat.le_of_ble_eq_true rfl) dX4_doStep_70 (fun r8 σ9 h => ?_)
    refine gq_isub C dX4_doStep_73 ?_
    refine gq_sub [0, 1, 2, 3] rfl ?_
    exact tq_X4_doStep_b74 C hz _ _ _ _ _ _ h
  · have h := h.2 c7
    refine gq_aload_n (j := 0) C dX4_doStep_49 rfl ?_
    refine gq_get (v := .ref (ad 9)) (i := z) C (gcs_X4 hz) rfl iq_X4_doStep_X4 0 (by decide) fq_X4_doStep_18 rfl dX4_doStep_50 ?_
    refine gq_get (v := .ref (ad 13)) (i := 9) C (gcs_X2 gr_9) rfl iq_X4_doStep_X2 3 (by decide) fq_X4_doStep_31 rfl dX4_doStep_53 ?_
    refine gq_iload_n (j := 1) C dX4_doStep_56 rfl ?_
    refine gq_iald (i := 13) (j := x1.toNatClampNeg) C (gcs_X2_4 gr_9) 0 rfl rfl h.1 dX4_doStep_57 ?_
    have h := h.2
    refine gq_goto (tgt := 74) C dX4_doStep_58 (by decide) ?_
    refine gq_sub [0, 1, 2, 3] rfl ?_
    exact tq_X4_doStep_b74 C hz _ _ _ _ _ _ h
def wq_X4_doStep (z : Nat) (a1 : Int32) (a2 : Int32) (σ : gq_M) (Q : gq_M → Prop) : Prop := wq_X4_pleatBeside z a1 a2 σ (fun r1 σ2 => wq_X2_hasPleat 9 r1 σ2 (fun r3 σ4 => ((¬ r3 = 0 → vp_in r1 10 ∧ ((¬ (σ4.1 11 r1.toNatClampNeg) = 3 → wq_X4_doStep_b37 z Q a1 a2 r1 0 σ4) ∧ ((σ4.1 11 r1.toNatClampNeg) = 3 → wq_X4_doStep_b37 z Q a1 a2 r1 1 σ4))) ∧ (r3 = 0 → Q σ4))))
set_option maxRecDepth 100000 in
set_option maxHeartbeats 4000000 in
theorem tq_X4_doStep {p : Program} {l : Launch} {e : Env} {s : State} {m : MethodId} {args : Array Value} {below : List Frame} {meth : Method} {c : Code} {D : va_G} {cyI cyZ cyS : ClassId} {ad : Nat → Nat} {z : Nat} {Q : gq_M → Prop} (C : gq_C p s m args meth c cX4_doStep 5 RX4 wsX4_doStep D (gc_T cyI cyZ cyS) 84 ad none) (hz : gs_z z) (a1 : Int32) (a2 : Int32) (σ : gq_M) (h : wq_X4_doStep z a1 a2 σ Q) : gq_G p l e rq_X4_doStep s m args below meth c (gq_Rv below args s D (gc_T cyI cyZ cyS) 84 ad (gc_S cyI cyZ cyS ad) Q) D 84 ad (gc_S cyI cyZ cyS ad) 5 σ 0 [(0, .ref (ad z)), (1, .int a1), (2, .int a2)] [] := by
  unfold wq_X4_doStep at h
  refine gq_aload_n (j := 0) C dX4_doStep_0 rfl ?_
  refine gq_iload_n (j := 1) C dX4_doStep_1 rfl ?_
  refine gq_iload_n (j := 2) C dX4_doStep_2 rfl ?_
  refine gq_vi (i := z) C (gcs_X4 hz) rfl [.int a1, .int a2] (mq_X4_pleatBeside C.2.2.1 hz a1 a2 σ _ h) gX4_doStep_X4_pleatBeside rfl rfl dq_X4_pleatBeside ⟨rfl, rfl, by decide, by decide⟩ rfl rfl (Nat.le_of_ble_eq_true rfl) dX4_doStep_3 (fun r1 σ2 h => ?_)
  refine gq_istore_n (L' := [(0, .ref (ad z)), (1, .int a1), (2, .int a2), (3, .int r1)]) C [1, 2, 3, 0] dX4_doStep_6 (by decide) rfl ?_
  refine gq_aload_n (j := 0) C dX4_doStep_7 rfl ?_
  refine gq_get (v := .ref (ad 9)) (i := z) C (gcs_X4 hz) rfl iq_X4_doStep_X4 0 (by decide) fq_X4_doStep_18 rfl dX4_doStep_8 ?_
  refine gq_iload_n (j := 3) C dX4_doStep_11 rfl ?_
  refine gq_vi (i := 9) C (gcs_X2 gr_9) rfl [.int r1] (mq_X2_hasPleat C.2.2.1 gr_9 r1 σ2 _ h) gX4_doStep_X2_hasPleat rfl rfl dq_X2_hasPleat ⟨rfl, rfl, by decide, by decide⟩ rfl rfl (Nat.le_of_ble_eq_true rfl) dX4_doStep_12 (fun r3 σ4 h => ?_)
  refine gq_if_ne (tgt := 19) C dX4_doStep_15 (by decide) (fun c5 => ?_) (fun c5 => ?_)
  · have h := h.1 c5
    refine gq_aload_n (j := 0) C dX4_doStep_19 rfl ?_
    refine gq_get (v := .ref (ad 9)) (i := z) C (gcs_X4 hz) rfl iq_X4_doStep_X4 0 (by decide) fq_X4_doStep_18 rfl dX4_doStep_20 ?_
    refine gq_get (v := .ref (ad 11)) (i := 9) C (gcs_X2 gr_9) rfl iq_X4_doStep_X2 1 (by decide) fq_X4_doStep_79 rfl dX4_doStep_23 ?_
    refine gq_iload_n (j := 3) C dX4_doStep_26 rfl ?_
    refine gq_iald (i := 11) (j := r1.toNatClampNeg) C (gcs_X2_2 gr_9) 0 rfl rfl h.1 dX4_doStep_27 ?_
    have h := h.2
    refine gq_iconst (v := 3) C dX4_doStep_28 (by decide) ?_
    refine gq_icmp_ne (tgt := 36) C dX4_doStep_29 (by decide) (fun c6 => ?_) (fun c6 => ?_)
    · have h := h.1 c6
      refine gq_iconst (v := 0) C dX4_doStep_36 (by decide) ?_
      exact tq_X4_doStep_b37 C hz _ _ _ _ _ h
    · have h := h.2 c6
      refine gq_iconst (v := 1) C dX4_doStep_32 (by decide) ?_
      refine gq_goto (tgt := 37) C dX4_doStep_33 (by decide) ?_
      exact tq_X4_doStep_b37 C hz _ _ _ _ _ h
  · have h := h.2 c5
    exact gq_vret C h dX4_doStep_18
theorem mq_X4_doStep {l : Launch} {D : va_G} {cyI cyZ cyS : ClassId} {ad : Nat → Nat} (hap : gq_ap 84 ad) {z : Nat} (hz : gs_z z) (a1 : Int32) (a2 : Int32) (σ : gq_M) (Q : gq_M → Prop) (h : wq_X4_doStep z a1 a2 σ Q) : Met l yX4_doStep wsX4_doStep rq_X4_doStep (va_Pc [.ref (ad z), .int a1, .int a2] (gq_P D (gc_T cyI cyZ cyS) 84 ad (gc_S cyI cyZ cyS ad) σ)) (va_Qv Q (gq_P D (gc_T cyI cyZ cyS) 84 ad (gc_S cyI cyZ cyS ad)) (gq_A 84 ad)) 0 0 (gq_A 84 ad) :=
  gq_met hap (by decide) rfl rfl (Nat.le_of_ble_eq_true rfl) (fun _ _ _ _ _ _ _ C => tq_X4_doStep C hz a1 a2 σ h)
abbrev rq_X4_doRest : Room := { frames := 2, cells := 0, slots := 0, locals := 42 }
theorem dq_X4_doRest : gq_dsc yX4_doRest 1 := by unfold gq_dsc; decide +kernel
theorem iq_X4_doRest_X4 : ∀ w ∈ u_ws RX4 TX4 7, w ∈ wsX4_doRest := by decide +kernel
theorem fq_X4_doRest_15 : Cond.fieldLink RX4 15 (TX4 2).1 (TX4 2).2.1 (TX4 2).2.2.1 ∈ wsX4_doRest := by decide +kernel
theorem fq_X4_doRest_18 : Cond.fieldLink RX4 18 (TX4 0).1 (TX4 0).2.1 (TX4 0).2.2.1 ∈ wsX4_doRest := by decide +kernel
theorem iq_X4_doRest_X2 : ∀ w ∈ u_ws RX2 TX2 7, w ∈ wsX4_doRest := by decide +kernel
theorem fq_X4_doRest_31 : Cond.fieldLink RX4 31 (TX2 3).1 (TX2 3).2.1 (TX2 3).2.2.1 ∈ wsX4_doRest := by decide +kernel
theorem fq_X4_doRest_41 : Cond.fieldLink RX4 41 (TX4 4).1 (TX4 4).2.1 (TX4 4).2.2.1 ∈ wsX4_doRest := by decide +kernel
theorem fq_X4_doRest_47 : Cond.fieldLink RX4 47 (TX4 6).1 (TX4 6).2.1 (TX4 6).2.2.1 ∈ wsX4_doRest := by decide +kernel
def wq_X4_doRest (z : Nat) (a1 : Int32) (σ : gq_M) (Q : gq_M → Prop) : Prop := vp_in a1 5 ∧ vp_in a1 5 ∧ wq_X2_windRested (σ.1 (z + 2) a1.toNatClampNeg) (σ.1 13 a1.toNatClampNeg) σ (fun r1 σ2 => vp_in a1 5 ∧ Q (gq_put (gq_put (gq_put σ2 (z + 2) a1.toNatClampNeg r1) z 4 0) z 6 ((((gq_put (gq_put σ2 (z + 2) a1.toNatClampNeg r1) z 4 0)).1 z 6) + 1)))
set_option maxRecDepth 100000 in
set_option maxHeartbeats 4000000 in
theorem tq_X4_doRest {p : Program} {l : Launch} {e : Env} {s : State} {m : MethodId} {args : Array Value} {below : List Frame} {meth : Method} {c : Code} {D : va_G} {cyI cyZ cyS : ClassId} {ad : Nat → Nat} {z : Nat} {Q : gq_M → Prop} (C : gq_C p s m args meth c cX4_doRest 2 RX4 wsX4_doRest D (gc_T cyI cyZ cyS) 84 ad none) (hz : gs_z z) (a1 : Int32) (σ : gq_M) (h : wq_X4_doRest z a1 σ Q) : gq_G p l e rq_X4_doRest s m args below meth c (gq_Rv below args s D (gc_T cyI cyZ cyS) 84 ad (gc_S cyI cyZ cyS ad) Q) D 84 ad (gc_S cyI cyZ cyS ad) 2 σ 0 [(0, .ref (ad z)), (1, .int a1)] [] := by
  unfold wq_X4_doRest at h
  refine gq_aload_n (j := 0) C dX4_doRest_0 rfl ?_
  refine gq_get (v := .ref (ad (z + 2))) (i := z) C (gcs_X4 hz) rfl iq_X4_doRest_X4 2 (by decide) fq_X4_doRest_15 rfl dX4_doRest_1 ?_
  refine gq_iload_n (j := 1) C dX4_doRest_4 rfl ?_
  refine gq_aload_n (j := 0) C dX4_doRest_5 rfl ?_
  refine gq_get (v := .ref (ad (z + 2))) (i := z) C (gcs_X4 hz) rfl iq_X4_doRest_X4 2 (by decide) fq_X4_doRest_15 rfl dX4_doRest_6 ?_
  refine gq_iload_n (j := 1) C dX4_doRest_9 rfl ?_
  refine gq_iald (i := (z + 2)) (j := a1.toNatClampNeg) C (gcs_X4_2 hz) 0 rfl rfl h.1 dX4_doRest_10 ?_
  have h := h.2
  refine gq_aload_n (j := 0) C dX4_doRest_11 rfl ?_
  refine gq_get (v := .ref (ad 9)) (i := z) C (gcs_X4 hz) rfl iq_X4_doRest_X4 0 (by decide) fq_X4_doRest_18 rfl dX4_doRest_12 ?_
  refine gq_get (v := .ref (ad 13)) (i := 9) C (gcs_X2 gr_9) rfl iq_X4_doRest_X2 3 (by decide) fq_X4_doRest_31 rfl dX4_doRest_15 ?_
  refine gq_iload_n (j := 1) C dX4_doRest_18 rfl ?_
  refine gq_iald (i := 13) (j := a1.toNatClampNeg) C (gcs_X2_4 gr_9) 0 rfl rfl h.1 dX4_doRest_19 ?_
  have h := h.2
  refine gq_si C [.int (σ.1 (z + 2) a1.toNatClampNeg), .int (σ.1 13 a1.toNatClampNeg)] (mq_X2_windRested C.2.2.1 (σ.1 (z + 2) a1.toNatClampNeg) (σ.1 13 a1.toNatClampNeg) σ _ h) gX4_doRest_X2_windRested rfl dq_X2_windRested ⟨rfl, rfl, by decide, by decide⟩ rfl rfl (Nat.le_of_ble_eq_true rfl) dX4_doRest_20 (fun r1 σ2 h => ?_)
  refine gq_iast (i := (z + 2)) (j := a1.toNatClampNeg) C (gcs_X4_2 hz) 0 rfl rfl h.1 dX4_doRest_23 ?_
  have h := h.2
  refine gq_aload_n (j := 0) C dX4_doRest_24 rfl ?_
  refine gq_iconst (v := 0) C dX4_doRest_25 (by decide) ?_
  refine gq_puti (i := z) C (gcs_X4 hz) rfl iq_X4_doRest_X4 tyX4 tyX4_ok nmX4 4 (by decide) fq_X4_doRest_41 rfl rfl rfl (fun _ _ => Nat.le_of_ble_eq_true rfl) gs_X4_4 dX4_doRest_26 ?_
  refine gq_aload_n (j := 0) C dX4_doRest_29 rfl ?_
  refine gq_dup C dX4_doRest_30 rfl ?_
  refine gq_get (v := .int (((gq_put (gq_put σ2 (z + 2) a1.toNatClampNeg r1) z 4 0)).1 z 6)) (i := z) C (gcs_X4 hz) rfl iq_X4_doRest_X4 6 (by decide) fq_X4_doRest_47 rfl dX4_doRest_31 ?_
  refine gq_iconst (v := 1) C dX4_doRest_34 (by decide) ?_
  refine gq_iadd C dX4_doRest_35 ?_
  refine gq_puti (i := z) C (gcs_X4 hz) rfl iq_X4_doRest_X4 tyX4 tyX4_ok nmX4 6 (by decide) fq_X4_doRest_47 rfl rfl rfl (fun _ _ => Nat.le_of_ble_eq_true rfl) gs_X4_6 dX4_doRest_36 ?_
  exact gq_vret C h dX4_doRest_39
theorem mq_X4_doRest {l : Launch} {D : va_G} {cyI cyZ cyS : ClassId} {ad : Nat → Nat} (hap : gq_ap 84 ad) {z : Nat} (hz : gs_z z) (a1 : Int32) (σ : gq_M) (Q : gq_M → Prop) (h : wq_X4_doRest z a1 σ Q) : Met l yX4_doRest wsX4_doRest rq_X4_doRest (va_Pc [.ref (ad z), .int a1] (gq_P D (gc_T cyI cyZ cyS) 84 ad (gc_S cyI cyZ cyS ad) σ)) (va_Qv Q (gq_P D (gc_T cyI cyZ cyS) 84 ad (gc_S cyI cyZ cyS ad)) (gq_A 84 ad)) 0 0 (gq_A 84 ad) :=
  gq_met hap (by decide) rfl rfl (Nat.le_of_ble_eq_true rfl) (fun _ _ _ _ _ _ _ C => tq_X4_doRest C hz a1 σ h)
abbrev rq_X4_canGrease : Room := { frames := 1, cells := 0, slots := 0, locals := 21 }
theorem dq_X4_canGrease : gq_dsc yX4_canGrease 1 := by unfold gq_dsc; decide +kernel
theorem iq_X4_canGrease_X4 : ∀ w ∈ u_ws RX4 TX4 7, w ∈ wsX4_canGrease := by decide +kernel
theorem fq_X4_canGrease_18 : Cond.fieldLink RX4 18 (TX4 0).1 (TX4 0).2.1 (TX4 0).2.2.1 ∈ wsX4_canGrease := by decide +kernel
theorem fq_X4_canGrease_38 : Cond.fieldLink RX4 38 (TX4 3).1 (TX4 3).2.1 (TX4 3).2.2.1 ∈ wsX4_canGrease := by decide +kernel
def wq_X4_canGrease (z : Nat) (a1 : Int32) (σ : gq_M) (Q : Int32 → gq_M → Prop) : Prop := wq_X2_hasPleat 9 a1 σ (fun r1 σ2 => ((r1 = 0 → Q 0 σ2) ∧ (¬ r1 = 0 → ((¬ (((σ2.1 z 3) >>> (a1 &&& 31)) &&& 1) = 0 → Q 0 σ2) ∧ ((((σ2.1 z 3) >>> (a1 &&& 31)) &&& 1) = 0 → Q 1 σ2)))))
set_option maxRecDepth 100000 in
set_option maxHeartbeats 4000000 in
theorem tq_X4_canGrease {p : Program} {l : Launch} {e : Env} {s : State} {m : MethodId} {args : Array Value} {below : List Frame} {meth : Method} {c : Code} {D : va_G} {cyI cyZ cyS : ClassId} {ad : Nat → Nat} {z : Nat} {Q : Int32 → gq_M → Prop} (C : gq_C p s m args meth c cX4_canGrease 2 RX4 wsX4_canGrease D (gc_T cyI cyZ cyS) 84 ad (some .boolean)) (hz : gs_z z) (a1 : Int32) (σ : gq_M) (h : wq_X4_canGrease z a1 σ Q) : gq_G p l e rq_X4_canGrease s m args below meth c (gq_Ri below args s D (gc_T cyI cyZ cyS) 84 ad (gc_S cyI cyZ cyS ad) Q) D 84 ad (gc_S cyI cyZ cyS ad) 2 σ 0 [(0, .ref (ad z)), (1, .int a1)] [] := by
  unfold wq_X4_canGrease at h
  refine gq_aload_n (j := 0) C dX4_canGrease_0 rfl ?_
  refine gq_get (v := .ref (ad 9)) (i := z) C (gcs_X4 hz) rfl iq_X4_canGrease_X4 0 (by decide) fq_X4_canGrease_18 rfl dX4_canGrease_1 ?_
  refine gq_iload_n (j := 1) C dX4_canGrease_4 rfl ?_
  refine gq_vi (i := 9) C (gcs_X2 gr_9) rfl [.int a1] (mq_X2_hasPleat C.2.2.1 gr_9 a1 σ _ h) gX4_canGrease_X2_hasPleat rfl rfl dq_X2_hasPleat ⟨rfl, rfl, by decide, by decide⟩ rfl rfl (Nat.le_of_ble_eq_true rfl) dX4_canGrease_5 (fun r1 σ2 h => ?_)
  refine gq_if_eq (tgt := 26) C dX4_canGrease_8 (by decide) (fun c3 => ?_) (fun c3 => ?_)
  · have h := h.1 c3
    refine gq_iconst (v := 0) C dX4_canGrease_26 (by decide) ?_
    exact gq_zret C (Or.inl rfl) h dX4_canGrease_27
  · have h := h.2 c3
    refine gq_aload_n (j := 0) C dX4_canGrease_11 rfl ?_
    refine gq_get (v := .int (σ2.1 z 3)) (i := z) C (gcs_X4 hz) rfl iq_X4_canGrease_X4 3 (by decide) fq_X4_canGrease_38 rfl dX4_canGrease_12 ?_
    refine gq_iload_n (j := 1) C dX4_canGrease_15 rfl ?_
    refine gq_ishr C dX4_canGrease_16 ?_
    refine gq_iconst (v := 1) C dX4_canGrease_17 (by decide) ?_
    refine gq_iand C dX4_canGrease_18 ?_
    refine gq_if_ne (tgt := 26) C dX4_canGrease_19 (by decide) (fun c4 => ?_) (fun c4 => ?_)
    · have h := h.1 c4
      refine gq_iconst (v := 0) C dX4_canGrease_26 (by decide) ?_
      exact gq_zret C (Or.inl rfl) h dX4_canGrease_27
    · have h := h.2 c4
      refine gq_iconst (v := 1) C dX4_canGrease_22 (by decide) ?_
      refine gq_goto (tgt := 27) C dX4_canGrease_23 (by decide) ?_
      exact gq_zret C (Or.inr rfl) h dX4_canGrease_27
theorem mq_X4_canGrease {l : Launch} {D : va_G} {cyI cyZ cyS : ClassId} {ad : Nat → Nat} (hap : gq_ap 84 ad) {z : Nat} (hz : gs_z z) (a1 : Int32) (σ : gq_M) (Q : Int32 → gq_M → Prop) (h : wq_X4_canGrease z a1 σ Q) : Met l yX4_canGrease wsX4_canGrease rq_X4_canGrease (va_Pc [.ref (ad z), .int a1] (gq_P D (gc_T cyI cyZ cyS) 84 ad (gc_S cyI cyZ cyS ad) σ)) (va_Qi Q (gq_P D (gc_T cyI cyZ cyS) 84 ad (gc_S cyI cyZ cyS ad)) (gq_A 84 ad)) 0 0 (gq_A 84 ad) :=
  gq_met hap (by decide) rfl rfl (Nat.le_of_ble_eq_true rfl) (fun _ _ _ _ _ _ _ C => tq_X4_canGrease C hz a1 σ h)
abbrev rq_X4_doGrease : Room := { frames := 0, cells := 0, slots := 0, locals := 0 }
theorem dq_X4_doGrease : gq_dsc yX4_doGrease 1 := by unfold gq_dsc; decide +kernel
theorem iq_X4_doGrease_X4 : ∀ w ∈ u_ws RX4 TX4 7, w ∈ wsX4_doGrease := by decide +kernel
theorem fq_X4_doGrease_38 : Cond.fieldLink RX4 38 (TX4 3).1 (TX4 3).2.1 (TX4 3).2.2.1 ∈ wsX4_doGrease := by decide +kernel
def wq_X4_doGrease (z : Nat) (a1 : Int32) (σ : gq_M) (Q : gq_M → Prop) : Prop := Q (gq_put σ z 3 ((σ.1 z 3) ||| ((1 : Int32) <<< (a1 &&& 31))))
set_option maxRecDepth 100000 in
set_option maxHeartbeats 4000000 in
theorem tq_X4_doGrease {p : Program} {l : Launch} {e : Env} {s : State} {m : MethodId} {args : Array Value} {below : List Frame} {meth : Method} {c : Code} {D : va_G} {cyI cyZ cyS : ClassId} {ad : Nat → Nat} {z : Nat} {Q : gq_M → Prop} (C : gq_C p s m args meth c cX4_doGrease 2 RX4 wsX4_doGrease D (gc_T cyI cyZ cyS) 84 ad none) (hz : gs_z z) (a1 : Int32) (σ : gq_M) (h : wq_X4_doGrease z a1 σ Q) : gq_G p l e rq_X4_doGrease s m args below meth c (gq_Rv below args s D (gc_T cyI cyZ cyS) 84 ad (gc_S cyI cyZ cyS ad) Q) D 84 ad (gc_S cyI cyZ cyS ad) 2 σ 0 [(0, .ref (ad z)), (1, .int a1)] [] := by
  unfold wq_X4_doGrease at h
  refine gq_aload_n (j := 0) C dX4_doGrease_0 rfl ?_
  refine gq_dup C dX4_doGrease_1 rfl ?_
  refine gq_get (v := .int (σ.1 z 3)) (i := z) C (gcs_X4 hz) rfl iq_X4_doGrease_X4 3 (by decide) fq_X4_doGrease_38 rfl dX4_doGrease_2 ?_
  refine gq_iconst (v := 1) C dX4_doGrease_5 (by decide) ?_
  refine gq_iload_n (j := 1) C dX4_doGrease_6 rfl ?_
  refine gq_ishl C dX4_doGrease_7 ?_
  refine gq_ior C dX4_doGrease_8 ?_
  refine gq_puti (i := z) C (gcs_X4 hz) rfl iq_X4_doGrease_X4 tyX4 tyX4_ok nmX4 3 (by decide) fq_X4_doGrease_38 rfl rfl rfl (fun _ _ => Nat.le_of_ble_eq_true rfl) gs_X4_3 dX4_doGrease_9 ?_
  exact gq_vret C h dX4_doGrease_12
theorem mq_X4_doGrease {l : Launch} {D : va_G} {cyI cyZ cyS : ClassId} {ad : Nat → Nat} (hap : gq_ap 84 ad) {z : Nat} (hz : gs_z z) (a1 : Int32) (σ : gq_M) (Q : gq_M → Prop) (h : wq_X4_doGrease z a1 σ Q) : Met l yX4_doGrease wsX4_doGrease rq_X4_doGrease (va_Pc [.ref (ad z), .int a1] (gq_P D (gc_T cyI cyZ cyS) 84 ad (gc_S cyI cyZ cyS ad) σ)) (va_Qv Q (gq_P D (gc_T cyI cyZ cyS) 84 ad (gc_S cyI cyZ cyS ad)) (gq_A 84 ad)) 0 0 (gq_A 84 ad) :=
  gq_met hap (by decide) rfl rfl (Nat.le_of_ble_eq_true rfl) (fun _ _ _ _ _ _ _ C => tq_X4_doGrease C hz a1 σ h)
abbrev rq_X4_canFreeze : Room := { frames := 0, cells := 0, slots := 0, locals := 0 }
theorem dq_X4_canFreeze : gq_dsc yX4_canFreeze 0 := by unfold gq_dsc; decide +kernel
theorem iq_X4_canFreeze_X4 : ∀ w ∈ u_ws RX4 TX4 7, w ∈ wsX4_canFreeze := by decide +kernel
theorem fq_X4_canFreeze_44 : Cond.fieldLink RX4 44 (TX4 5).1 (TX4 5).2.1 (TX4 5).2.2.1 ∈ wsX4_canFreeze := by decide +kernel
def wq_X4_canFreeze (z : Nat) (σ : gq_M) (Q : Int32 → gq_M → Prop) : Prop := ((5 ≤ (σ.1 z 5) → Q 0 σ) ∧ (¬ 5 ≤ (σ.1 z 5) → Q 1 σ))
set_option maxRecDepth 100000 in
set_option maxHeartbeats 4000000 in
theorem tq_X4_canFreeze {p : Program} {l : Launch} {e : Env} {s : State} {m : MethodId} {args : Array Value} {below : List Frame} {meth : Method} {c : Code} {D : va_G} {cyI cyZ cyS : ClassId} {ad : Nat → Nat} {z : Nat} {Q : Int32 → gq_M → Prop} (C : gq_C p s m args meth c cX4_canFreeze 1 RX4 wsX4_canFreeze D (gc_T cyI cyZ cyS) 84 ad (some .boolean)) (hz : gs_z z) (σ : gq_M) (h : wq_X4_canFreeze z σ Q) : gq_G p l e rq_X4_canFreeze s m args below meth c (gq_Ri below args s D (gc_T cyI cyZ cyS) 84 ad (gc_S cyI cyZ cyS ad) Q) D 84 ad (gc_S cyI cyZ cyS ad) 1 σ 0 [(0, .ref (ad z))] [] := by
  unfold wq_X4_canFreeze at h
  refine gq_aload_n (j := 0) C dX4_canFreeze_0 rfl ?_
  refine gq_get (v := .int (σ.1 z 5)) (i := z) C (gcs_X4 hz) rfl iq_X4_canFreeze_X4 5 (by decide) fq_X4_canFreeze_44 rfl dX4_canFreeze_1 ?_
  refine gq_iconst (v := 5) C dX4_canFreeze_4 (by decide) ?_
  refine gq_icmp_ge (tgt := 12) C dX4_canFreeze_5 (by decide) (fun c1 => ?_) (fun c1 => ?_)
  · have h := h.1 c1
    refine gq_iconst (v := 0) C dX4_canFreeze_12 (by decide) ?_
    exact gq_zret C (Or.inl rfl) h dX4_canFreeze_13
  · have h := h.2 c1
    refine gq_iconst (v := 1) C dX4_canFreeze_8 (by decide) ?_
    refine gq_goto (tgt := 13) C dX4_canFreeze_9 (by decide) ?_
    exact gq_zret C (Or.inr rfl) h dX4_canFreeze_13
theorem mq_X4_canFreeze {l : Launch} {D : va_G} {cyI cyZ cyS : ClassId} {ad : Nat → Nat} (hap : gq_ap 84 ad) {z : Nat} (hz : gs_z z) (σ : gq_M) (Q : Int32 → gq_M → Prop) (h : wq_X4_canFreeze z σ Q) : Met l yX4_canFreeze wsX4_canFreeze rq_X4_canFreeze (va_Pc [.ref (ad z)] (gq_P D (gc_T cyI cyZ cyS) 84 ad (gc_S cyI cyZ cyS ad) σ)) (va_Qi Q (gq_P D (gc_T cyI cyZ cyS) 84 ad (gc_S cyI cyZ cyS ad)) (gq_A 84 ad)) 0 0 (gq_A 84 ad) :=
  gq_met hap (by decide) rfl rfl (Nat.le_of_ble_eq_true rfl) (fun _ _ _ _ _ _ _ C => tq_X4_canFreeze C hz σ h)
abbrev rq_X4_stepIfItCan : Room := { frames := 4, cells := 0, slots := 0, locals := 93 }
theorem dq_X4_stepIfItCan : gq_dsc yX4_stepIfItCan 2 := by unfold gq_dsc; decide +kernel
def wq_X4_stepIfItCan (z : Nat) (a1 : Int32) (a2 : Int32) (σ : gq_M) (Q : Int32 → gq_M → Prop) : Prop := wq_X4_canStep z a1 a2 σ (fun r1 σ2 => ((r1 = 0 → (gq_b r1 ∧ Q r1 σ2)) ∧ (¬ r1 = 0 → wq_X4_doStep z a1 a2 σ2 (fun σ5 => (gq_b r1 ∧ Q r1 σ5)))))
set_option maxRecDepth 100000 in
set_option maxHeartbeats 4000000 in
theorem tq_X4_stepIfItCan {p : Program} {l : Launch} {e : Env} {s : State} {m : MethodId} {args : Array Value} {below : List Frame} {meth : Method} {c : Code} {D : va_G} {cyI cyZ cyS : ClassId} {ad : Nat → Nat} {z : Nat} {Q : Int32 → gq_M → Prop} (C : gq_C p s m args meth c cX4_stepIfItCan 4 RX4 wsX4_stepIfItCan D (gc_T cyI cyZ cyS) 84 ad (some .boolean)) (hz : gs_z z) (a1 : Int32) (a2 : Int32) (σ : gq_M) (h : wq_X4_stepIfItCan z a1 a2 σ Q) : gq_G p l e rq_X4_stepIfItCan s m args below meth c (gq_Ri below args s D (gc_T cyI cyZ cyS) 84 ad (gc_S cyI cyZ cyS ad) Q) D 84 ad (gc_S cyI cyZ cyS ad) 4 σ 0 [(0, .ref (ad z)), (1, .int a1), (2, .int a2)] [] := by
  unfold wq_X4_stepIfItCan at h
  refine gq_aload_n (j := 0) C dX4_stepIfItCan_0 rfl ?_
  refine gq_iload_n (j := 1) C dX4_stepIfItCan_1 rfl ?_
  refine gq_iload_n (j := 2) C dX4_stepIfItCan_2 rfl ?_
  refine gq_vi (i := z) C (gcs_X4 hz) rfl [.int a1, .int a2] (mq_X4_canStep C.2.2.1 hz a1 a2 σ _ h) gX4_stepIfItCan_X4_canStep rfl rfl dq_X4_canStep ⟨rfl, rfl, by decide, by decide⟩ rfl rfl (Nat.le_of_ble_eq_true rfl) dX4_stepIfItCan_3 (fun r1 σ2 h => ?_)
  refine gq_istore_n (L' := [(0, .ref (ad z)), (1, .int a1), (2, .int a2), (3, .int r1)]) C [1, 2, 3, 0] dX4_stepIfItCan_6 (by decide) rfl ?_
  refine gq_iload_n (j := 3) C dX4_stepIfItCan_7 rfl ?_
  refine gq_if_eq (tgt := 17) C dX4_stepIfItCan_8 (by decide) (fun c3 => ?_) (fun c3 => ?_)
  · have h := h.1 c3
    refine gq_iload_n (j := 3) C dX4_stepIfItCan_17 rfl ?_
    exact gq_zret C h.1 h.2 dX4_stepIfItCan_18
  · have h := h.2 c3
    refine gq_aload_n (j := 0) C dX4_stepIfItCan_11 rfl ?_
    refine gq_iload_n (j := 1) C dX4_stepIfItCan_12 rfl ?_
    refine gq_iload_n (j := 2) C dX4_stepIfItCan_13 rfl ?_
    refine gq_vv (i := z) C (gcs_X4 hz) rfl [.int a1, .int a2] (mq_X4_doStep C.2.2.1 hz a1 a2 σ2 _ h) gX4_stepIfItCan_X4_doStep rfl rfl dq_X4_doStep ⟨rfl, rfl, by decide, by decide⟩ rfl rfl (Nat.le_of_ble_eq_true rfl) dX4_stepIfItCan_14 (fun σ5 h => ?_)
    refine gq_iload_n (j := 3) C dX4_stepIfItCan_17 rfl ?_
    exact gq_zret C h.1 h.2 dX4_stepIfItCan_18
theorem mq_X4_stepIfItCan {l : Launch} {D : va_G} {cyI cyZ cyS : ClassId} {ad : Nat → Nat} (hap : gq_ap 84 ad) {z : Nat} (hz : gs_z z) (a1 : Int32) (a2 : Int32) (σ : gq_M) (Q : Int32 → gq_M → Prop) (h : wq_X4_stepIfItCan z a1 a2 σ Q) : Met l yX4_stepIfItCan wsX4_stepIfItCan rq_X4_stepIfItCan (va_Pc [.ref (ad z), .int a1, .int a2] (gq_P D (gc_T cyI cyZ cyS) 84 ad (gc_S cyI cyZ cyS ad) σ)) (va_Qi Q (gq_P D (gc_T cyI cyZ cyS) 84 ad (gc_S cyI cyZ cyS ad)) (gq_A 84 ad)) 0 0 (gq_A 84 ad) :=
  gq_met hap (by decide) rfl rfl (Nat.le_of_ble_eq_true rfl) (fun _ _ _ _ _ _ _ C => tq_X4_stepIfItCan C hz a1 a2 σ h)
abbrev rq_X4_restIfItCan : Room := { frames := 3, cells := 0, slots := 0, locals := 63 }
theorem dq_X4_restIfItCan : gq_dsc yX4_restIfItCan 1 := by unfold gq_dsc; decide +kernel
theorem iq_X4_restIfItCan_X4 : ∀ w ∈ u_ws RX4 TX4 7, w ∈ wsX4_restIfItCan := by decide +kernel
theorem fq_X4_restIfItCan_18 : Cond.fieldLink RX4 18 (TX4 0).1 (TX4 0).2.1 (TX4 0).2.2.1 ∈ wsX4_restIfItCan := by decide +kernel
def wq_X4_restIfItCan (z : Nat) (a1 : Int32) (σ : gq_M) (Q : Int32 → gq_M → Prop) : Prop := wq_X2_hasTraveller 9 a1 σ (fun r1 σ2 => ((r1 = 0 → (gq_b r1 ∧ Q r1 σ2)) ∧ (¬ r1 = 0 → wq_X4_doRest z a1 σ2 (fun σ5 => (gq_b r1 ∧ Q r1 σ5)))))
set_option maxRecDepth 100000 in
set_option maxHeartbeats 4000000 in
theorem tq_X4_restIfItCan {p : Program} {l : Launch} {e : Env} {s : State} {m : MethodId} {args : Array Value} {below : List Frame} {meth : Method} {c : Code} {D : va_G} {cyI cyZ cyS : ClassId} {ad : Nat → Nat} {z : Nat} {Q : Int32 → gq_M → Prop} (C : gq_C p s m args meth c cX4_restIfItCan 3 RX4 wsX4_restIfItCan D (gc_T cyI cyZ cyS) 84 ad (some .boolean)) (hz : gs_z z) (a1 : Int32) (σ : gq_M) (h : wq_X4_restIfItCan z a1 σ Q) : gq_G p l e rq_X4_restIfItCan s m args below meth c (gq_Ri below args s D (gc_T cyI cyZ cyS) 84 ad (gc_S cyI cyZ cyS ad) Q) D 84 ad (gc_S cyI cyZ cyS ad) 3 σ 0 [(0, .ref (ad z)), (1, .int a1)] [] := by
  unfold wq_X4_restIfItCan at h
  refine gq_aload_n (j := 0) C dX4_restIfItCan_0 rfl ?_
  refine gq_get (v := .ref (ad 9)) (i := z) C (gcs_X4 hz) rfl iq_X4_restIfItCan_X4 0 (by decide) fq_X4_restIfItCan_18 rfl dX4_restIfItCan_1 ?_
  refine gq_iload_n (j := 1) C dX4_restIfItCan_4 rfl ?_
  refine gq_vi (i := 9) C (gcs_X2 gr_9) rfl [.int a1] (mq_X2_hasTraveller C.2.2.1 gr_9 a1 σ _ h) gX4_restIfItCan_X2_hasTraveller rfl rfl dq_X2_hasTraveller ⟨rfl, rfl, by decide, by decide⟩ rfl rfl (Nat.le_of_ble_eq_true rfl) dX4_restIfItCan_5 (fun r1 σ2 h => ?_)
  refine gq_istore_n (L' := [(0, .ref (ad z)), (1, .int a1), (2, .int r1)]) C [1, 2, 0] dX4_restIfItCan_8 (by decide) rfl ?_
  refine gq_iload_n (j := 2) C dX4_restIfItCan_9 rfl ?_
  refine gq_if_eq (tgt := 18) C dX4_restIfItCan_10 (by decide) (fun c3 => ?_) (fun c3 => ?_)
  · have h := h.1 c3
    refine gq_iload_n (j := 2) C dX4_restIfItCan_18 rfl ?_
    exact gq_zret C h.1 h.2 dX4_restIfItCan_19
  · have h := h.2 c3
    refine gq_aload_n (j := 0) C dX4_restIfItCan_13 rfl ?_
    refine gq_iload_n (j := 1) C dX4_restIfItCan_14 rfl ?_
    refine gq_vv (i := z) C (gcs_X4 hz) rfl [.int a1] (mq_X4_doRest C.2.2.1 hz a1 σ2 _ h) gX4_restIfItCan_X4_doRest rfl rfl dq_X4_doRest ⟨rfl, rfl, by decide, by decide⟩ rfl rfl (Nat.le_of_ble_eq_true rfl) dX4_restIfItCan_15 (fun σ5 h => ?_)
    refine gq_iload_n (j := 2) C dX4_restIfItCan_18 rfl ?_
    exact gq_zret C h.1 h.2 dX4_restIfItCan_19
theorem mq_X4_restIfItCan {l : Launch} {D : va_G} {cyI cyZ cyS : ClassId} {ad : Nat → Nat} (hap : gq_ap 84 ad) {z : Nat} (hz : gs_z z) (a1 : Int32) (σ : gq_M) (Q : Int32 → gq_M → Prop) (h : wq_X4_restIfItCan z a1 σ Q) : Met l yX4_restIfItCan wsX4_restIfItCan rq_X4_restIfItCan (va_Pc [.ref (ad z), .int a1] (gq_P D (gc_T cyI cyZ cyS) 84 ad (gc_S cyI cyZ cyS ad) σ)) (va_Qi Q (gq_P D (gc_T cyI cyZ cyS) 84 ad (gc_S cyI cyZ cyS ad)) (gq_A 84 ad)) 0 0 (gq_A 84 ad) :=
  gq_met hap (by decide) rfl rfl (Nat.le_of_ble_eq_true rfl) (fun _ _ _ _ _ _ _ C => tq_X4_restIfItCan C hz a1 σ h)
abbrev rq_X4_greaseIfItCan : Room := { frames := 2, cells := 0, slots := 0, locals := 42 }
theorem dq_X4_greaseIfItCan : gq_dsc yX4_greaseIfItCan 1 := by unfold gq_dsc; decide +kernel
def wq_X4_greaseIfItCan (z : Nat) (a1 : Int32) (σ : gq_M) (Q : Int32 → gq_M → Prop) : Prop := wq_X4_canGrease z a1 σ (fun r1 σ2 => ((r1 = 0 → (gq_b r1 ∧ Q r1 σ2)) ∧ (¬ r1 = 0 → wq_X4_doGrease z a1 σ2 (fun σ5 => (gq_b r1 ∧ Q r1 σ5)))))
set_option maxRecDepth 100000 in
set_option maxHeartbeats 4000000 in
theorem tq_X4_greaseIfItCan {p : Program} {l : Launch} {e : Env} {s : State} {m : MethodId} {args : Array Value} {below : List Frame} {meth : Method} {c : Code} {D : va_G} {cyI cyZ cyS : ClassId} {ad : Nat → Nat} {z : Nat} {Q : Int32 → gq_M → Prop} (C : gq_C p s m args meth c cX4_greaseIfItCan 3 RX4 wsX4_greaseIfItCan D (gc_T cyI cyZ cyS) 84 ad (some .boolean)) (hz : gs_z z) (a1 : Int32) (σ : gq_M) (h : wq_X4_greaseIfItCan z a1 σ Q) : gq_G p l e rq_X4_greaseIfItCan s m args below meth c (gq_Ri below args s D (gc_T cyI cyZ cyS) 84 ad (gc_S cyI cyZ cyS ad) Q) D 84 ad (gc_S cyI cyZ cyS ad) 3 σ 0 [(0, .ref (ad z)), (1, .int a1)] [] := by
  unfold wq_X4_greaseIfItCan at h
  refine gq_aload_n (j := 0) C dX4_greaseIfItCan_0 rfl ?_
  refine gq_iload_n (j := 1) C dX4_greaseIfItCan_1 rfl ?_
  refine gq_vi (i := z) C (gcs_X4 hz) rfl [.int a1] (mq_X4_canGrease C.2.2.1 hz a1 σ _ h) gX4_greaseIfItCan_X4_canGrease rfl rfl dq_X4_canGrease ⟨rfl, rfl, by decide, by decide⟩ rfl rfl (Nat.le_of_ble_eq_true rfl) dX4_greaseIfItCan_2 (fun r1 σ2 h => ?_)
  refine gq_istore_n (L' := [(0, .ref (ad z)), (1, .int a1), (2, .int r1)]) C [1, 2, 0] dX4_greaseIfItCan_5 (by decide) rfl ?_
  refine gq_iload_n (j := 2) C dX4_greaseIfItCan_6 rfl ?_
  refine gq_if_eq (tgt := 15) C dX4_greaseIfItCan_7 (by decide) (fun c3 => ?_) (fun c3 => ?_)
  · have h := h.1 c3
    refine gq_iload_n (j := 2) C dX4_greaseIfItCan_15 rfl ?_
    exact gq_zret C h.1 h.2 dX4_greaseIfItCan_16
  · have h := h.2 c3
    refine gq_aload_n (j := 0) C dX4_greaseIfItCan_10 rfl ?_
    refine gq_iload_n (j := 1) C dX4_greaseIfItCan_11 rfl ?_
    refine gq_vv (i := z) C (gcs_X4 hz) rfl [.int a1] (mq_X4_doGrease C.2.2.1 hz a1 σ2 _ h) gX4_greaseIfItCan_X4_doGrease rfl rfl dq_X4_doGrease ⟨rfl, rfl, by decide, by decide⟩ rfl rfl (Nat.le_of_ble_eq_true rfl) dX4_greaseIfItCan_12 (fun σ5 h => ?_)
    refine gq_iload_n (j := 2) C dX4_greaseIfItCan_15 rfl ?_
    exact gq_zret C h.1 h.2 dX4_greaseIfItCan_16
theorem mq_X4_greaseIfItCan {l : Launch} {D : va_G} {cyI cyZ cyS : ClassId} {ad : Nat → Nat} (hap : gq_ap 84 ad) {z : Nat} (hz : gs_z z) (a1 : Int32) (σ : gq_M) (Q : Int32 → gq_M → Prop) (h : wq_X4_greaseIfItCan z a1 σ Q) : Met l yX4_greaseIfItCan wsX4_greaseIfItCan rq_X4_greaseIfItCan (va_Pc [.ref (ad z), .int a1] (gq_P D (gc_T cyI cyZ cyS) 84 ad (gc_S cyI cyZ cyS ad) σ)) (va_Qi Q (gq_P D (gc_T cyI cyZ cyS) 84 ad (gc_S cyI cyZ cyS ad)) (gq_A 84 ad)) 0 0 (gq_A 84 ad) :=
  gq_met hap (by decide) rfl rfl (Nat.le_of_ble_eq_true rfl) (fun _ _ _ _ _ _ _ C => tq_X4_greaseIfItCan C hz a1 σ h)
