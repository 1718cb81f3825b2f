/-! ===== walks of X7_shutIn, X7_meet, X7_layTrial, X7_tryThing, X7_thousandTo, X7_judge, X7_hear, X7_unhear, X7_farthest (by wip/gen) ===== -/
abbrev rq_X7_shutIn : Room := { frames := 7, cells := 0, slots := 0, locals := 170 }
theorem dq_X7_shutIn : gq_dsc yX7_shutIn 0 := by unfold gq_dsc; decide +kernel
theorem iq_X7_shutIn_X7 : ∀ w ∈ u_ws RX7 TX7 30, w ∈ wsX7_shutIn := by decide +kernel
theorem fq_X7_shutIn_96 : Cond.fieldLink RX7 96 (TX7 1).1 (TX7 1).2.1 (TX7 1).2.2.1 ∈ wsX7_shutIn := by decide +kernel
theorem fq_X7_shutIn_22 : Cond.fieldLink RX7 22 (TX7 6).1 (TX7 6).2.1 (TX7 6).2.2.1 ∈ wsX7_shutIn := by decide +kernel
def wq_X7_shutIn_b36 (Q : Int32 → gq_M → Prop) (K4 : Int32 → Int32 → gq_M → Prop) (x2 : Int32) (s0 : Int32) (s1 : Int32) (σ : gq_M) : Prop := ∀ v5, v5 = (s0 ||| s1) → ∀ v6, v6 = (x2 + 1) → K4 v5 v6 σ
set_option maxRecDepth 100000 in
set_option maxHeartbeats 4000000 in
theorem tq_X7_shutIn_b36 {p : Program} {l : Launch} {e : Env} {s : State} {m : MethodId} {args : Array Value} {below : List Frame} {meth : Method} {c : Code} {D : va_G} {cyI cyZ : ClassId} {ad : Nat → Nat} {Q : Int32 → gq_M → Prop} {K4 : Int32 → Int32 → gq_M → Prop} (C : gq_C p s m args meth c cX7_shutIn 3 RX7 wsX7_shutIn D (gm_T cyI cyZ) 17 ad (some .int)) (hK4 : ∀ (y1 : Int32) (y2 : Int32) (τ : gq_M), K4 y1 y2 τ → gq_G p l e rq_X7_shutIn s m args below meth c (gq_Ri below args s D (gm_T cyI cyZ) 17 ad (gm_S cyI cyZ ad) Q) D 17 ad (gm_S cyI cyZ ad) 3 τ 4 [(0, .ref (ad 0)), (1, .int y1), (2, .int y2)] []) (x2 : Int32) (s0 : Int32) (s1 : Int32) (σ : gq_M) (h : wq_X7_shutIn_b36 Q K4 x2 s0 s1 σ) : gq_G p l e rq_X7_shutIn s m args below meth c (gq_Ri below args s D (gm_T cyI cyZ) 17 ad (gm_S cyI cyZ ad) Q) D 17 ad (gm_S cyI cyZ ad) 3 σ 36 [(0, .ref (ad 0)), (2, .int x2)] [.int s1, .int s0] := by
  unfold wq_X7_shutIn_b36 at h
  refine gq_ior C dX7_shutIn_36 ?_
  refine gq_topi (fun v5 qv5 => ?_)
  have h := h v5 qv5
  refine gq_istore_n (L' := [(0, .ref (ad 0)), (1, .int v5), (2, .int x2)]) C [1, 0, 2] dX7_shutIn_37 (by decide) rfl ?_
  obtain ⟨v6, qv6⟩ : ∃ y : Int32, y = (x2 + 1) := ⟨_, rfl⟩
  have h := h v6 qv6
  refine gq_iinc (j := 2) (v := v6) (L' := [(0, .ref (ad 0)), (1, .int v5), (2, .int v6)]) C [1, 2, 0] dX7_shutIn_38 rfl (by rw [qv6]; rfl) (by decide) rfl ?_
  refine gq_goto (tgt := 4) C dX7_shutIn_41 (by decide) ?_
  exact hK4 _ _ _ h
def wq_X7_shutIn_l4 (Q : Int32 → gq_M → Prop) (K44 : Int32 → gq_M → Prop) : Nat → Int32 → Int32 → gq_M → Prop
  | 0, _, _, _ => False
  | n + 1, x1, x2, σ => (((σ.1 0 1) ≤ x2 → K44 x1 σ) ∧ (¬ (σ.1 0 1) ≤ x2 → wq_X7_reachNow x2 σ (fun r2 σ3 => vp_in x2 28 ∧ ((¬ r2 = ((1 : Int32) <<< ((σ3.1 5 x2.toNatClampNeg) &&& 31)) → wq_X7_shutIn_b36 Q (wq_X7_shutIn_l4 Q K44 n) x2 x1 0 σ3) ∧ (r2 = ((1 : Int32) <<< ((σ3.1 5 x2.toNatClampNeg) &&& 31)) → wq_X7_shutIn_b36 Q (wq_X7_shutIn_l4 Q K44 n) x2 x1 ((1 : Int32) <<< (x2 &&& 31)) σ3)))))
set_option maxRecDepth 100000 in
set_option maxHeartbeats 4000000 in
theorem tq_X7_shutIn_l4 {p : Program} {l : Launch} {e : Env} {s : State} {m : MethodId} {args : Array Value} {below : List Frame} {meth : Method} {c : Code} {D : va_G} {cyI cyZ : ClassId} {ad : Nat → Nat} {Q : Int32 → gq_M → Prop} {K44 : Int32 → gq_M → Prop} (C : gq_C p s m args meth c cX7_shutIn 3 RX7 wsX7_shutIn D (gm_T cyI cyZ) 17 ad (some .int)) (hK44 : ∀ (y1 : Int32) (τ : gq_M), K44 y1 τ → gq_G p l e rq_X7_shutIn s m args below meth c (gq_Ri below args s D (gm_T cyI cyZ) 17 ad (gm_S cyI cyZ ad) Q) D 17 ad (gm_S cyI cyZ ad) 3 τ 44 [(0, .ref (ad 0)), (1, .int y1)] []) : ∀ (n : Nat) (x1 : Int32) (x2 : Int32) (σ : gq_M), wq_X7_shutIn_l4 Q K44 n x1 x2 σ → gq_G p l e rq_X7_shutIn s m args below meth c (gq_Ri below args s D (gm_T cyI cyZ) 17 ad (gm_S cyI cyZ ad) Q) D 17 ad (gm_S cyI cyZ ad) 3 σ 4 [(0, .ref (ad 0)), (1, .int x1), (2, .int x2)] [] := by
  intro n
  induction n with
  | zero =>
    intro x1 x2 σ h
    exact absurd h (fun q => q)
  | succ n ih =>
    intro x1 x2 σ h
    unfold wq_X7_shutIn_l4 at h
    refine gq_iload_n (j := 2) C dX7_shutIn_4 rfl ?_
    refine gq_aload_n (j := 0) C dX7_shutIn_5 rfl ?_
    refine gq_get (v := .int (σ.1 0 1)) (i := 0) C gms_0 rfl iq_X7_shutIn_X7 1 (by decide) fq_X7_shutIn_96 rfl dX7_shutIn_6 ?_
    refine gq_icmp_ge (tgt := 44) C dX7_shutIn_9 (by decide) (fun c1 => ?_) (fun c1 => ?_)
    · have h := h.1 c1
      refine gq_sub [0, 1] rfl ?_
      exact hK44 _ _ h
    · have h := h.2 c1
      refine gq_iload_n (j := 1) C dX7_shutIn_12 rfl ?_
      refine gq_aload_n (j := 0) C dX7_shutIn_13 rfl ?_
      refine gq_iload_n (j := 2) C dX7_shutIn_14 rfl ?_
      refine gq_vi (i := 0) C gms_0 rfl [.int x2] (mq_X7_reachNow C.2.2.1 x2 σ _ h) gX7_shutIn_X7_reachNow rfl rfl dq_X7_reachNow ⟨rfl, rfl, by decide, by decide⟩ rfl rfl (Nat.le_of_ble_eq_true rfl) dX7_shutIn_15 (fun r2 σ3 h => ?_)
      refine gq_iconst (v := 1) C dX7_shutIn_18 (by decide) ?_
      refine gq_aload_n (j := 0) C dX7_shutIn_19 rfl ?_
      refine gq_get (v := .ref (ad 5)) (i := 0) C gms_0 rfl iq_X7_shutIn_X7 6 (by decide) fq_X7_shutIn_22 rfl dX7_shutIn_20 ?_
      refine gq_iload_n (j := 2) C dX7_shutIn_23 rfl ?_
      refine gq_iald (i := 5) (j := x2.toNatClampNeg) C gms_5 0 rfl rfl h.1 dX7_shutIn_24 ?_
      have h := h.2
      refine gq_ishl C dX7_shutIn_25 ?_
      refine gq_icmp_ne (tgt := 35) C dX7_shutIn_26 (by decide) (fun c4 => ?_) (fun c4 => ?_)
      · have h := h.1 c4
        refine gq_iconst (v := 0) C dX7_shutIn_35 (by decide) ?_
        refine gq_sub [0, 2] rfl ?_
        exact tq_X7_shutIn_b36 C (ih) _ _ _ _ h
      · have h := h.2 c4
        refine gq_iconst (v := 1) C dX7_shutIn_29 (by decide) ?_
        refine gq_iload_n (j := 2) C dX7_shutIn_30 rfl ?_
        refine gq_ishl C dX7_shutIn_31 ?_
        refine gq_goto (tgt := 36) C dX7_shutIn_32 (by decide) ?_
        refine gq_sub [0, 2] rfl ?_
        exact tq_X7_shutIn_b36 C (ih) _ _ _ _ h
def wq_X7_shutIn (σ : gq_M) (Q : Int32 → gq_M → Prop) : Prop := (∃ n9, wq_X7_shutIn_l4 Q (fun e7 σ8 => Q e7 σ8) n9 0 0 σ)
set_option maxRecDepth 100000 in
set_option maxHeartbeats 4000000 in
theorem tq_X7_shutIn {p : Program} {l : Launch} {e : Env} {s : State} {m : MethodId} {args : Array Value} {below : List Frame} {meth : Method} {c : Code} {D : va_G} {cyI cyZ : ClassId} {ad : Nat → Nat} {Q : Int32 → gq_M → Prop} (C : gq_C p s m args meth c cX7_shutIn 3 RX7 wsX7_shutIn D (gm_T cyI cyZ) 17 ad (some .int)) (σ : gq_M) (h : wq_X7_shutIn σ Q) : gq_G p l e rq_X7_shutIn s m args below meth c (gq_Ri below args s D (gm_T cyI cyZ) 17 ad (gm_S cyI cyZ ad) Q) D 17 ad (gm_S cyI cyZ ad) 3 σ 0 [(0, .ref (ad 0))] [] := by
  unfold wq_X7_shutIn at h
  refine gq_iconst (v := 0) C dX7_shutIn_0 (by decide) ?_
  refine gq_istore_n (L' := [(0, .ref (ad 0)), (1, .int 0)]) C [1, 0] dX7_shutIn_1 (by decide) rfl ?_
  refine gq_iconst (v := 0) C dX7_shutIn_2 (by decide) ?_
  refine gq_istore_n (L' := [(0, .ref (ad 0)), (1, .int 0), (2, .int 0)]) C [1, 2, 0] dX7_shutIn_3 (by decide) rfl ?_
  obtain ⟨n9, h⟩ := h
  refine tq_X7_shutIn_l4 C (fun e7 σ8 h => ?_) n9 _ _ _ h
  refine gq_iload_n (j := 1) C dX7_shutIn_44 rfl ?_
  exact gq_iret C h dX7_shutIn_45
theorem mq_X7_shutIn {l : Launch} {D : va_G} {cyI cyZ : ClassId} {ad : Nat → Nat} (hap : gq_ap 17 ad) (σ : gq_M) (Q : Int32 → gq_M → Prop) (h : wq_X7_shutIn σ Q) : Met l yX7_shutIn wsX7_shutIn rq_X7_shutIn (va_Pc [.ref (ad 0)] (gq_P D (gm_T cyI cyZ) 17 ad (gm_S cyI cyZ ad) σ)) (va_Qi Q (gq_P D (gm_T cyI cyZ) 17 ad (gm_S cyI cyZ ad)) (gq_A 17 ad)) 0 0 (gq_A 17 ad) :=
  gq_met hap (by decide) rfl rfl (Nat.le_of_ble_eq_true rfl) (fun _ _ _ _ _ _ _ C => tq_X7_shutIn C σ h)
abbrev rq_X7_meet : Room := { frames := 7, cells := 0, slots := 0, locals := 170 }
theorem dq_X7_meet : gq_dsc yX7_meet 2 := by unfold gq_dsc; decide +kernel
def wq_X7_meet (a1 : Int32) (a2 : Int32) (σ : gq_M) (Q : Int32 → gq_M → Prop) : Prop := wq_X7_isTraveller a1 σ (fun r1 σ2 => ((r1 = 0 → Q (-1) σ2) ∧ (¬ r1 = 0 → wq_X7_isTraveller a2 σ2 (fun r4 σ5 => ((r4 = 0 → Q (-1) σ5) ∧ (¬ r4 = 0 → wq_X7_reachNow a1 σ5 (fun r7 σ8 => wq_X7_reachNow a2 σ8 (fun r9 σ10 => Q (r7 &&& r9) σ10))))))))
set_option maxRecDepth 100000 in
set_option maxHeartbeats 4000000 in
theorem tq_X7_meet {p : Program} {l : Launch} {e : Env} {s : State} {m : MethodId} {args : Array Value} {below : List Frame} {meth : Method} {c : Code} {D : va_G} {cyI cyZ : ClassId} {ad : Nat → Nat} {Q : Int32 → gq_M → Prop} (C : gq_C p s m args meth c cX7_meet 3 RX7 wsX7_meet D (gm_T cyI cyZ) 17 ad (some .int)) (a1 : Int32) (a2 : Int32) (σ : gq_M) (h : wq_X7_meet a1 a2 σ Q) : gq_G p l e rq_X7_meet s m args below meth c (gq_Ri below args s D (gm_T cyI cyZ) 17 ad (gm_S cyI cyZ ad) Q) D 17 ad (gm_S cyI cyZ ad) 3 σ 0 [(0, .ref (ad 0)), (1, .int a1), (2, .int a2)] [] := by
  unfold wq_X7_meet at h
  refine gq_aload_n (j := 0) C dX7_meet_0 rfl ?_
  refine gq_iload_n (j := 1) C dX7_meet_1 rfl ?_
  refine gq_vi (i := 0) C gms_0 rfl [.int a1] (mq_X7_isTraveller C.2.2.1 a1 σ _ h) gX7_meet_X7_isTraveller rfl rfl dq_X7_isTraveller ⟨rfl, rfl, by decide, by decide⟩ rfl rfl (Nat.le_of_ble_eq_true rfl) dX7_meet_2 (fun r1 σ2 h => ?_)
  refine gq_if_eq (tgt := 30) C dX7_meet_5 (by decide) (fun c3 => ?_) (fun c3 => ?_)
  · have h := h.1 c3
    refine gq_iconst (v := (-1)) C dX7_meet_30 (by decide) ?_
    exact gq_iret C h dX7_meet_31
  · have h := h.2 c3
    refine gq_aload_n (j := 0) C dX7_meet_8 rfl ?_
    refine gq_iload_n (j := 2) C dX7_meet_9 rfl ?_
    refine gq_vi (i := 0) C gms_0 rfl [.int a2] (mq_X7_isTraveller C.2.2.1 a2 σ2 _ h) gX7_meet_X7_isTraveller rfl rfl dq_X7_isTraveller ⟨rfl, rfl, by decide, by decide⟩ rfl rfl (Nat.le_of_ble_eq_true rfl) dX7_meet_10 (fun r4 σ5 h => ?_)
    refine gq_if_eq (tgt := 30) C dX7_meet_13 (by decide) (fun c6 => ?_) (fun c6 => ?_)
    · have h := h.1 c6
      refine gq_iconst (v := (-1)) C dX7_meet_30 (by decide) ?_
      exact gq_iret C h dX7_meet_31
    · have h := h.2 c6
      refine gq_aload_n (j := 0) C dX7_meet_16 rfl ?_
      refine gq_iload_n (j := 1) C dX7_meet_17 rfl ?_
      refine gq_vi (i := 0) C gms_0 rfl [.int a1] (mq_X7_reachNow C.2.2.1 a1 σ5 _ h) gX7_meet_X7_reachNow rfl rfl dq_X7_reachNow ⟨rfl, rfl, by decide, by decide⟩ rfl rfl (Nat.le_of_ble_eq_true rfl) dX7_meet_18 (fun r7 σ8 h => ?_)
      refine gq_aload_n (j := 0) C dX7_meet_21 rfl ?_
      refine gq_iload_n (j := 2) C dX7_meet_22 rfl ?_
      refine gq_vi (i := 0) C gms_0 rfl [.int a2] (mq_X7_reachNow C.2.2.1 a2 σ8 _ h) gX7_meet_X7_reachNow rfl rfl dq_X7_reachNow ⟨rfl, rfl, by decide, by decide⟩ rfl rfl (Nat.le_of_ble_eq_true rfl) dX7_meet_23 (fun r9 σ10 h => ?_)
      refine gq_iand C dX7_meet_26 ?_
      refine gq_goto (tgt := 31) C dX7_meet_27 (by decide) ?_
      exact gq_iret C h dX7_meet_31
theorem mq_X7_meet {l : Launch} {D : va_G} {cyI cyZ : ClassId} {ad : Nat → Nat} (hap : gq_ap 17 ad) (a1 : Int32) (a2 : Int32) (σ : gq_M) (Q : Int32 → gq_M → Prop) (h : wq_X7_meet a1 a2 σ Q) : Met l yX7_meet wsX7_meet rq_X7_meet (va_Pc [.ref (ad 0), .int a1, .int a2] (gq_P D (gm_T cyI cyZ) 17 ad (gm_S cyI cyZ ad) σ)) (va_Qi Q (gq_P D (gm_T cyI cyZ) 17 ad (gm_S cyI cyZ ad)) (gq_A 17 ad)) 0 0 (gq_A 17 ad) :=
  gq_met hap (by decide) rfl rfl (Nat.le_of_ble_eq_true rfl) (fun _ _ _ _ _ _ _ C => tq_X7_meet C a1 a2 σ h)
abbrev rq_X7_layTrial : Room := { frames := 0, cells := 0, slots := 0, locals := 0 }
theorem dq_X7_layTrial : gq_dsc yX7_layTrial 0 := by unfold gq_dsc; decide +kernel
theorem iq_X7_layTrial_X7 : ∀ w ∈ u_ws RX7 TX7 30, w ∈ wsX7_layTrial := by decide +kernel
theorem fq_X7_layTrial_22 : Cond.fieldLink RX7 22 (TX7 6).1 (TX7 6).2.1 (TX7 6).2.2.1 ∈ wsX7_layTrial := by decide +kernel
def wq_X7_layTrial_l2 (Q : gq_M → Prop) (K29 : gq_M → Prop) : Nat → Int32 → gq_M → Prop
  | 0, _, _ => False
  | n + 1, x1, σ => ((14 ≤ x1 → K29 σ) ∧ (¬ 14 ≤ x1 → vp_in x1 28 ∧ vp_in (14 + x1) 28 ∧ ∀ v2, v2 = (x1 + 1) → wq_X7_layTrial_l2 Q K29 n v2 (gq_put σ 5 ((14 + x1)).toNatClampNeg (σ.1 5 x1.toNatClampNeg))))
set_option maxRecDepth 100000 in
set_option maxHeartbeats 4000000 in
theorem tq_X7_layTrial_l2 {p : Program} {l : Launch} {e : Env} {s : State} {m : MethodId} {args : Array Value} {below : List Frame} {meth : Method} {c : Code} {D : va_G} {cyI cyZ : ClassId} {ad : Nat → Nat} {Q : gq_M → Prop} {K29 : gq_M → Prop} (C : gq_C p s m args meth c cX7_layTrial 2 RX7 wsX7_layTrial D (gm_T cyI cyZ) 17 ad none) (hK29 : ∀ (τ : gq_M), K29 τ → gq_G p l e rq_X7_layTrial s m args below meth c (gq_Rv below args s D (gm_T cyI cyZ) 17 ad (gm_S cyI cyZ ad) Q) D 17 ad (gm_S cyI cyZ ad) 2 τ 29 [(0, .ref (ad 0))] []) : ∀ (n : Nat) (x1 : Int32) (σ : gq_M), wq_X7_layTrial_l2 Q K29 n x1 σ → gq_G p l e rq_X7_layTrial s m args below meth c (gq_Rv below args s D (gm_T cyI cyZ) 17 ad (gm_S cyI cyZ ad) Q) D 17 ad (gm_S cyI cyZ ad) 2 σ 2 [(0, .ref (ad 0)), (1, .int x1)] [] := by
  intro n
  induction n with
  | zero =>
    intro x1 σ h
    exact absurd h (fun q => q)
  | succ n ih =>
    intro x1 σ h
    unfold wq_X7_layTrial_l2 at h
    refine gq_iload_n (j := 1) C dX7_layTrial_2 rfl ?_
    refine gq_bipush (v := 14) C dX7_layTrial_3 (by decide) ?_
    refine gq_icmp_ge (tgt := 29) C dX7_layTrial_5 (by decide) (fun c1 => ?_) (fun c1 => ?_)
    · have h := h.1 c1
      refine gq_sub [0] rfl ?_
      exact hK29  _ h
    · have h := h.2 c1
      refine gq_aload_n (j := 0) C dX7_layTrial_8 rfl ?_
      refine gq_get (v := .ref (ad 5)) (i := 0) C gms_0 rfl iq_X7_layTrial_X7 6 (by decide) fq_X7_layTrial_22 rfl dX7_layTrial_9 ?_
      refine gq_bipush (v := 14) C dX7_layTrial_12 (by decide) ?_
      refine gq_iload_n (j := 1) C dX7_layTrial_14 rfl ?_
      refine gq_iadd C dX7_layTrial_15 ?_
      refine gq_aload_n (j := 0) C dX7_layTrial_16 rfl ?_
      refine gq_get (v := .ref (ad 5)) (i := 0) C gms_0 rfl iq_X7_layTrial_X7 6 (by decide) fq_X7_layTrial_22 rfl dX7_layTrial_17 ?_
      refine gq_iload_n (j := 1) C dX7_layTrial_20 rfl ?_
      refine gq_iald (i := 5) (j := x1.toNatClampNeg) C gms_5 0 rfl rfl h.1 dX7_layTrial_21 ?_
      have h := h.2
      refine gq_iast (i := 5) (j := ((14 + x1)).toNatClampNeg) C gms_5 0 rfl rfl h.1 dX7_layTrial_22 ?_
      have h := h.2
      obtain ⟨v2, qv2⟩ : ∃ y : Int32, y = (x1 + 1) := ⟨_, rfl⟩
      have h := h v2 qv2
      refine gq_iinc (j := 1) (v := v2) (L' := [(0, .ref (ad 0)), (1, .int v2)]) C [1, 0] dX7_layTrial_23 rfl (by rw [qv2]; rfl) (by decide) rfl ?_
      refine gq_goto (tgt := 2) C dX7_layTrial_26 (by decide) ?_
      exact ih _ _ h
def wq_X7_layTrial (σ : gq_M) (Q : gq_M → Prop) : Prop := (∃ n4, wq_X7_layTrial_l2 Q (fun σ3 => Q σ3) n4 0 σ)
set_option maxRecDepth 100000 in
set_option maxHeartbeats 4000000 in
theorem tq_X7_layTrial {p : Program} {l : Launch} {e : Env} {s : State} {m : MethodId} {args : Array Value} {below : List Frame} {meth : Method} {c : Code} {D : va_G} {cyI cyZ : ClassId} {ad : Nat → Nat} {Q : gq_M → Prop} (C : gq_C p s m args meth c cX7_layTrial 2 RX7 wsX7_layTrial D (gm_T cyI cyZ) 17 ad none) (σ : gq_M) (h : wq_X7_layTrial σ Q) : gq_G p l e rq_X7_layTrial s m args below meth c (gq_Rv below args s D (gm_T cyI cyZ) 17 ad (gm_S cyI cyZ ad) Q) D 17 ad (gm_S cyI cyZ ad) 2 σ 0 [(0, .ref (ad 0))] [] := by
  unfold wq_X7_layTrial at h
  refine gq_iconst (v := 0) C dX7_layTrial_0 (by decide) ?_
  refine gq_istore_n (L' := [(0, .ref (ad 0)), (1, .int 0)]) C [1, 0] dX7_layTrial_1 (by decide) rfl ?_
  obtain ⟨n4, h⟩ := h
  refine tq_X7_layTrial_l2 C (fun σ3 h => ?_) n4 _ _ h
  exact gq_vret C h dX7_layTrial_29
theorem mq_X7_layTrial {l : Launch} {D : va_G} {cyI cyZ : ClassId} {ad : Nat → Nat} (hap : gq_ap 17 ad) (σ : gq_M) (Q : gq_M → Prop) (h : wq_X7_layTrial σ Q) : Met l yX7_layTrial wsX7_layTrial rq_X7_layTrial (va_Pc [.ref (ad 0)] (gq_P D (gm_T cyI cyZ) 17 ad (gm_S cyI cyZ ad) σ)) (va_Qv Q (gq_P D (gm_T cyI cyZ) 17 ad (gm_S cyI cyZ ad)) (gq_A 17 ad)) 0 0 (gq_A 17 ad) :=
  gq_met hap (by decide) rfl rfl (Nat.le_of_ble_eq_true rfl) (fun _ _ _ _ _ _ _ C => tq_X7_layTrial C σ h)
abbrev rq_X7_tryThing : Room := { frames := 4, cells := 0, slots := 0, locals := 96 }
theorem dq_X7_tryThing : gq_dsc yX7_tryThing 3 := by unfold gq_dsc; decide +kernel
theorem iq_X7_tryThing_X7 : ∀ w ∈ u_ws RX7 TX7 30, w ∈ wsX7_tryThing := by decide +kernel
theorem fq_X7_tryThing_22 : Cond.fieldLink RX7 22 (TX7 6).1 (TX7 6).2.1 (TX7 6).2.2.1 ∈ wsX7_tryThing := by decide +kernel
def wq_X7_tryThing_b85 (Q : Int32 → gq_M → Prop) (x4 : Int32) (s1 : Int32) (s2 : Int32) (s3 : Int32) (σ : gq_M) : Prop := wq_X7_stepOn s1 s2 s3 σ (fun σ6 => (gq_b x4 ∧ Q x4 σ6))
set_option maxRecDepth 100000 in
set_option maxHeartbeats 4000000 in
theorem tq_X7_tryThing_b85 {p : Program} {l : Launch} {e : Env} {s : State} {m : MethodId} {args : Array Value} {below : List Frame} {meth : Method} {c : Code} {D : va_G} {cyI cyZ : ClassId} {ad : Nat → Nat} {Q : Int32 → gq_M → Prop} (C : gq_C p s m args meth c cX7_tryThing 8 RX7 wsX7_tryThing D (gm_T cyI cyZ) 17 ad (some .boolean)) (x4 : Int32) (s1 : Int32) (s2 : Int32) (s3 : Int32) (σ : gq_M) (h : wq_X7_tryThing_b85 Q x4 s1 s2 s3 σ) : gq_G p l e rq_X7_tryThing s m args below meth c (gq_Ri below args s D (gm_T cyI cyZ) 17 ad (gm_S cyI cyZ ad) Q) D 17 ad (gm_S cyI cyZ ad) 8 σ 85 [(0, .ref (ad 0)), (4, .int x4)] [.int s3, .int s2, .int s1, .ref (ad 0)] := by
  unfold wq_X7_tryThing_b85 at h
  refine gq_vv (i := 0) C gms_0 rfl [.int s1, .int s2, .int s3] (mq_X7_stepOn C.2.2.1 s1 s2 s3 σ _ h) gX7_tryThing_X7_stepOn rfl rfl dq_X7_stepOn ⟨rfl, rfl, by decide, by decide⟩ rfl rfl (Nat.le_of_ble_eq_true rfl) dX7_tryThing_85 (fun σ6 h => ?_)
  refine gq_iload (j := 1) C dX7_tryThing_88 rfl ?_
  exact gq_zret C h.1 h.2 dX7_tryThing_90
def wq_X7_tryThing_b65 (Q : Int32 → gq_M → Prop) (x2 : Int32) (x3 : Int32) (s0 : Int32) (σ : gq_M) : Prop := ((s0 = 0 → (gq_b s0 ∧ Q s0 σ)) ∧ (¬ s0 = 0 → ((¬ x3 = 1 → wq_X7_tryThing_b85 Q s0 1 x2 0 σ) ∧ (x3 = 1 → wq_X7_tryThing_b85 Q s0 1 x2 1 σ))))
set_option maxRecDepth 100000 in
set_option maxHeartbeats 4000000 in
theorem tq_X7_tryThing_b65 {p : Program} {l : Launch} {e : Env} {s : State} {m : MethodId} {args : Array Value} {below : List Frame} {meth : Method} {c : Code} {D : va_G} {cyI cyZ : ClassId} {ad : Nat → Nat} {Q : Int32 → gq_M → Prop} (C : gq_C p s m args meth c cX7_tryThing 8 RX7 wsX7_tryThing D (gm_T cyI cyZ) 17 ad (some .boolean)) (x2 : Int32) (x3 : Int32) (s0 : Int32) (σ : gq_M) (h : wq_X7_tryThing_b65 Q x2 x3 s0 σ) : gq_G p l e rq_X7_tryThing s m args below meth c (gq_Ri below args s D (gm_T cyI cyZ) 17 ad (gm_S cyI cyZ ad) Q) D 17 ad (gm_S cyI cyZ ad) 8 σ 65 [(0, .ref (ad 0)), (2, .int x2), (3, .int x3)] [.int s0] := by
  unfold wq_X7_tryThing_b65 at h
  refine gq_istore (L' := [(0, .ref (ad 0)), (2, .int x2), (3, .int x3), (4, .int s0)]) C [1, 2, 3, 0] dX7_tryThing_65 (by decide) rfl ?_
  refine gq_iload (j := 3) C dX7_tryThing_67 rfl ?_
  refine gq_if_eq (tgt := 88) C dX7_tryThing_69 (by decide) (fun c3 => ?_) (fun c3 => ?_)
  · have h := h.1 c3
    refine gq_iload (j := 3) C dX7_tryThing_88 rfl ?_
    exact gq_zret C h.1 h.2 dX7_tryThing_90
  · have h := h.2 c3
    refine gq_aload_n (j := 0) C dX7_tryThing_72 rfl ?_
    refine gq_iconst (v := 1) C dX7_tryThing_73 (by decide) ?_
    refine gq_iload_n (j := 1) C dX7_tryThing_74 rfl ?_
    refine gq_iload_n (j := 2) C dX7_tryThing_75 rfl ?_
    refine gq_iconst (v := 1) C dX7_tryThing_76 (by decide) ?_
    refine gq_icmp_ne (tgt := 84) C dX7_tryThing_77 (by decide) (fun c4 => ?_) (fun c4 => ?_)
    · have h := h.1 c4
      refine gq_iconst (v := 0) C dX7_tryThing_84 (by decide) ?_
      refine gq_sub [0, 3] rfl ?_
      exact tq_X7_tryThing_b85 C _ _ _ _ _ h
    · have h := h.2 c4
      refine gq_iconst (v := 1) C dX7_tryThing_80 (by decide) ?_
      refine gq_goto (tgt := 85) C dX7_tryThing_81 (by decide) ?_
      refine gq_sub [0, 3] rfl ?_
      exact tq_X7_tryThing_b85 C _ _ _ _ _ h
def wq_X7_tryThing_b54 (Q : Int32 → gq_M → Prop) (x2 : Int32) (x3 : Int32) (s1 : Int32) (s2 : Int32) (s3 : Int32) (σ : gq_M) : Prop := wq_X7_canStep s1 s2 s3 σ (fun r8 σ9 => ((r8 = 0 → wq_X7_tryThing_b65 Q x2 x3 0 σ9) ∧ (¬ r8 = 0 → wq_X7_tryThing_b65 Q x2 x3 1 σ9)))
set_option maxRecDepth 100000 in
set_option maxHeartbeats 4000000 in
theorem tq_X7_tryThing_b54 {p : Program} {l : Launch} {e : Env} {s : State} {m : MethodId} {args : Array Value} {below : List Frame} {meth : Method} {c : Code} {D : va_G} {cyI cyZ : ClassId} {ad : Nat → Nat} {Q : Int32 → gq_M → Prop} (C : gq_C p s m args meth c cX7_tryThing 8 RX7 wsX7_tryThing D (gm_T cyI cyZ) 17 ad (some .boolean)) (x2 : Int32) (x3 : Int32) (s1 : Int32) (s2 : Int32) (s3 : Int32) (σ : gq_M) (h : wq_X7_tryThing_b54 Q x2 x3 s1 s2 s3 σ) : gq_G p l e rq_X7_tryThing s m args below meth c (gq_Ri below args s D (gm_T cyI cyZ) 17 ad (gm_S cyI cyZ ad) Q) D 17 ad (gm_S cyI cyZ ad) 8 σ 54 [(0, .ref (ad 0)), (2, .int x2), (3, .int x3)] [.int s3, .int s2, .int s1, .ref (ad 0)] := by
  unfold wq_X7_tryThing_b54 at h
  refine gq_vi (i := 0) C gms_0 rfl [.int s1, .int s2, .int s3] (mq_X7_canStep C.2.2.1 s1 s2 s3 σ _ h) gX7_tryThing_X7_canStep rfl rfl dq_X7_canStep ⟨rfl, rfl, by decide, by decide⟩ rfl rfl (Nat.le_of_ble_eq_true rfl) dX7_tryThing_54 (fun r8 σ9 h => ?_)
  refine gq_if_eq (tgt := 64) C dX7_tryThing_57 (by decide) (fun c10 => ?_) (fun c10 => ?_)
  · have h := h.1 c10
    refine gq_iconst (v := 0) C dX7_tryThing_64 (by decide) ?_
    exact tq_X7_tryThing_b65 C _ _ _ _ h
  · have h := h.2 c10
    refine gq_iconst (v := 1) C dX7_tryThing_60 (by decide) ?_
    refine gq_goto (tgt := 65) C dX7_tryThing_61 (by decide) ?_
    exact tq_X7_tryThing_b65 C _ _ _ _ h
def wq_X7_tryThing_b108 (Q : Int32 → gq_M → Prop) (x3 : Int32) (s0 : Int32) (σ : gq_M) : Prop := ((s0 = 0 → (gq_b s0 ∧ Q s0 σ)) ∧ (¬ s0 = 0 → wq_X7_restOn 1 x3 σ (fun σ15 => (gq_b s0 ∧ Q s0 σ15))))
set_option maxRecDepth 100000 in
set_option maxHeartbeats 4000000 in
theorem tq_X7_tryThing_b108 {p : Program} {l : Launch} {e : Env} {s : State} {m : MethodId} {args : Array Value} {below : List Frame} {meth : Method} {c : Code} {D : va_G} {cyI cyZ : ClassId} {ad : Nat → Nat} {Q : Int32 → gq_M → Prop} (C : gq_C p s m args meth c cX7_tryThing 8 RX7 wsX7_tryThing D (gm_T cyI cyZ) 17 ad (some .boolean)) (x3 : Int32) (s0 : Int32) (σ : gq_M) (h : wq_X7_tryThing_b108 Q x3 s0 σ) : gq_G p l e rq_X7_tryThing s m args below meth c (gq_Ri below args s D (gm_T cyI cyZ) 17 ad (gm_S cyI cyZ ad) Q) D 17 ad (gm_S cyI cyZ ad) 8 σ 108 [(0, .ref (ad 0)), (3, .int x3)] [.int s0] := by
  unfold wq_X7_tryThing_b108 at h
  refine gq_istore (L' := [(0, .ref (ad 0)), (3, .int x3), (5, .int s0)]) C [1, 2, 0] dX7_tryThing_108 (by decide) rfl ?_
  refine gq_iload (j := 2) C dX7_tryThing_110 rfl ?_
  refine gq_if_eq (tgt := 121) C dX7_tryThing_112 (by decide) (fun c13 => ?_) (fun c13 => ?_)
  · have h := h.1 c13
    refine gq_iload (j := 2) C dX7_tryThing_121 rfl ?_
    exact gq_zret C h.1 h.2 dX7_tryThing_123
  · have h := h.2 c13
    refine gq_aload_n (j := 0) C dX7_tryThing_115 rfl ?_
    refine gq_iconst (v := 1) C dX7_tryThing_116 (by decide) ?_
    refine gq_iload_n (j := 1) C dX7_tryThing_117 rfl ?_
    refine gq_vv (i := 0) C gms_0 rfl [.int 1, .int x3] (mq_X7_restOn C.2.2.1 1 x3 σ _ h) gX7_tryThing_X7_restOn rfl rfl dq_X7_restOn ⟨rfl, rfl, by decide, by decide⟩ rfl rfl (Nat.le_of_ble_eq_true rfl) dX7_tryThing_118 (fun σ15 h => ?_)
    refine gq_iload (j := 2) C dX7_tryThing_121 rfl ?_
    exact gq_zret C h.1 h.2 dX7_tryThing_123
def wq_X7_tryThing_b177 (Q : Int32 → gq_M → Prop) (x6 : Int32) (s1 : Int32) (s2 : Int32) (s3 : Int32) (σ : gq_M) : Prop := vp_in s1 28 ∧ (gq_b x6 ∧ Q x6 (gq_put σ 5 s1.toNatClampNeg (s2 ||| s3)))
set_option maxRecDepth 100000 in
set_option maxHeartbeats 4000000 in
theorem tq_X7_tryThing_b177 {p : Program} {l : Launch} {e : Env} {s : State} {m : MethodId} {args : Array Value} {below : List Frame} {meth : Method} {c : Code} {D : va_G} {cyI cyZ : ClassId} {ad : Nat → Nat} {Q : Int32 → gq_M → Prop} (C : gq_C p s m args meth c cX7_tryThing 8 RX7 wsX7_tryThing D (gm_T cyI cyZ) 17 ad (some .boolean)) (x6 : Int32) (s1 : Int32) (s2 : Int32) (s3 : Int32) (σ : gq_M) (h : wq_X7_tryThing_b177 Q x6 s1 s2 s3 σ) : gq_G p l e rq_X7_tryThing s m args below meth c (gq_Ri below args s D (gm_T cyI cyZ) 17 ad (gm_S cyI cyZ ad) Q) D 17 ad (gm_S cyI cyZ ad) 8 σ 177 [(0, .ref (ad 0)), (6, .int x6)] [.int s3, .int s2, .int s1, .ref (ad 5)] := by
  unfold wq_X7_tryThing_b177 at h
  refine gq_ior C dX7_tryThing_177 ?_
  refine gq_iast (i := 5) (j := s1.toNatClampNeg) C gms_5 0 rfl rfl h.1 dX7_tryThing_178 ?_
  have h := h.2
  refine gq_iload (j := 1) C dX7_tryThing_179 rfl ?_
  exact gq_zret C h.1 h.2 dX7_tryThing_181
def wq_X7_tryThing_b155 (Q : Int32 → gq_M → Prop) (x3 : Int32) (s0 : Int32) (σ : gq_M) : Prop := ((s0 = 0 → wq_X7_tryThing_b177 Q s0 24 (σ.1 5 24) 0 σ) ∧ (¬ s0 = 0 → wq_X7_tryThing_b177 Q s0 24 (σ.1 5 24) ((1 : Int32) <<< (x3 &&& 31)) σ))
set_option maxRecDepth 100000 in
set_option maxHeartbeats 4000000 in
theorem tq_X7_tryThing_b155 {p : Program} {l : Launch} {e : Env} {s : State} {m : MethodId} {args : Array Value} {below : List Frame} {meth : Method} {c : Code} {D : va_G} {cyI cyZ : ClassId} {ad : Nat → Nat} {Q : Int32 → gq_M → Prop} (C : gq_C p s m args meth c cX7_tryThing 8 RX7 wsX7_tryThing D (gm_T cyI cyZ) 17 ad (some .boolean)) (x3 : Int32) (s0 : Int32) (σ : gq_M) (h : wq_X7_tryThing_b155 Q x3 s0 σ) : gq_G p l e rq_X7_tryThing s m args below meth c (gq_Ri below args s D (gm_T cyI cyZ) 17 ad (gm_S cyI cyZ ad) Q) D 17 ad (gm_S cyI cyZ ad) 8 σ 155 [(0, .ref (ad 0)), (3, .int x3)] [.int s0] := by
  unfold wq_X7_tryThing_b155 at h
  refine gq_istore (L' := [(0, .ref (ad 0)), (3, .int x3), (6, .int s0)]) C [1, 2, 0] dX7_tryThing_155 (by decide) rfl ?_
  refine gq_aload_n (j := 0) C dX7_tryThing_157 rfl ?_
  refine gq_get (v := .ref (ad 5)) (i := 0) C gms_0 rfl iq_X7_tryThing_X7 6 (by decide) fq_X7_tryThing_22 rfl dX7_tryThing_158 ?_
  refine gq_bipush (v := 24) C dX7_tryThing_161 (by decide) ?_
  refine gq_dup2 C dX7_tryThing_163 rfl rfl ?_
  refine gq_iald (i := 5) (j := 24) C gms_5 0 rfl (by decide) (vp_in_iff.mpr ⟨by decide, by decide⟩) dX7_tryThing_164 ?_
  refine gq_iload (j := 2) C dX7_tryThing_165 rfl ?_
  refine gq_if_eq (tgt := 176) C dX7_tryThing_167 (by decide) (fun c21 => ?_) (fun c21 => ?_)
  · have h := h.1 c21
    refine gq_iconst (v := 0) C dX7_tryThing_176 (by decide) ?_
    refine gq_sub [0, 2] rfl ?_
    exact tq_X7_tryThing_b177 C _ _ _ _ _ h
  · have h := h.2 c21
    refine gq_iconst (v := 1) C dX7_tryThing_170 (by decide) ?_
    refine gq_iload_n (j := 1) C dX7_tryThing_171 rfl ?_
    refine gq_ishl C dX7_tryThing_172 ?_
    refine gq_goto (tgt := 177) C dX7_tryThing_173 (by decide) ?_
    refine gq_sub [0, 2] rfl ?_
    exact tq_X7_tryThing_b177 C _ _ _ _ _ h
def wq_X7_tryThing_b226 (Q : Int32 → gq_M → Prop) (x7 : Int32) (s1 : Int32) (s2 : Int32) (s3 : Int32) (σ : gq_M) : Prop := vp_in s1 28 ∧ (gq_b x7 ∧ Q x7 (gq_put σ 5 s1.toNatClampNeg (s2 + s3)))
set_option maxRecDepth 100000 in
set_option maxHeartbeats 4000000 in
theorem tq_X7_tryThing_b226 {p : Program} {l : Launch} {e : Env} {s : State} {m : MethodId} {args : Array Value} {below : List Frame} {meth : Method} {c : Code} {D : va_G} {cyI cyZ : ClassId} {ad : Nat → Nat} {Q : Int32 → gq_M → Prop} (C : gq_C p s m args meth c cX7_tryThing 8 RX7 wsX7_tryThing D (gm_T cyI cyZ) 17 ad (some .boolean)) (x7 : Int32) (s1 : Int32) (s2 : Int32) (s3 : Int32) (σ : gq_M) (h : wq_X7_tryThing_b226 Q x7 s1 s2 s3 σ) : gq_G p l e rq_X7_tryThing s m args below meth c (gq_Ri below args s D (gm_T cyI cyZ) 17 ad (gm_S cyI cyZ ad) Q) D 17 ad (gm_S cyI cyZ ad) 8 σ 226 [(0, .ref (ad 0)), (7, .int x7)] [.int s3, .int s2, .int s1, .ref (ad 5)] := by
  unfold wq_X7_tryThing_b226 at h
  refine gq_iadd C dX7_tryThing_226 ?_
  refine gq_iast (i := 5) (j := s1.toNatClampNeg) C gms_5 0 rfl rfl h.1 dX7_tryThing_227 ?_
  have h := h.2
  refine gq_iload (j := 1) C dX7_tryThing_228 rfl ?_
  exact gq_zret C h.1 h.2 dX7_tryThing_230
def wq_X7_tryThing_b206 (Q : Int32 → gq_M → Prop) (s0 : Int32) (σ : gq_M) : Prop := ((s0 = 0 → wq_X7_tryThing_b226 Q s0 26 (σ.1 5 26) 0 σ) ∧ (¬ s0 = 0 → wq_X7_tryThing_b226 Q s0 26 (σ.1 5 26) 1 σ))
set_option maxRecDepth 100000 in
set_option maxHeartbeats 4000000 in
theorem tq_X7_tryThing_b206 {p : Program} {l : Launch} {e : Env} {s : State} {m : MethodId} {args : Array Value} {below : List Frame} {meth : Method} {c : Code} {D : va_G} {cyI cyZ : ClassId} {ad : Nat → Nat} {Q : Int32 → gq_M → Prop} (C : gq_C p s m args meth c cX7_tryThing 8 RX7 wsX7_tryThing D (gm_T cyI cyZ) 17 ad (some .boolean)) (s0 : Int32) (σ : gq_M) (h : wq_X7_tryThing_b206 Q s0 σ) : gq_G p l e rq_X7_tryThing s m args below meth c (gq_Ri below args s D (gm_T cyI cyZ) 17 ad (gm_S cyI cyZ ad) Q) D 17 ad (gm_S cyI cyZ ad) 8 σ 206 [(0, .ref (ad 0))] [.int s0] := by
  unfold wq_X7_tryThing_b206 at h
  refine gq_istore (L' := [(0, .ref (ad 0)), (7, .int s0)]) C [1, 0] dX7_tryThing_206 (by decide) rfl ?_
  refine gq_aload_n (j := 0) C dX7_tryThing_208 rfl ?_
  refine gq_get (v := .ref (ad 5)) (i := 0) C gms_0 rfl iq_X7_tryThing_X7 6 (by decide) fq_X7_tryThing_22 rfl dX7_tryThing_209 ?_
  refine gq_bipush (v := 26) C dX7_tryThing_212 (by decide) ?_
  refine gq_dup2 C dX7_tryThing_214 rfl rfl ?_
  refine gq_iald (i := 5) (j := 26) C gms_5 0 rfl (by decide) (vp_in_iff.mpr ⟨by decide, by decide⟩) dX7_tryThing_215 ?_
  refine gq_iload (j := 1) C dX7_tryThing_216 rfl ?_
  refine gq_if_eq (tgt := 225) C dX7_tryThing_218 (by decide) (fun c30 => ?_) (fun c30 => ?_)
  · have h := h.1 c30
    refine gq_iconst (v := 0) C dX7_tryThing_225 (by decide) ?_
    exact tq_X7_tryThing_b226 C _ _ _ _ _ h
  · have h := h.2 c30
    refine gq_iconst (v := 1) C dX7_tryThing_221 (by decide) ?_
    refine gq_goto (tgt := 226) C dX7_tryThing_222 (by decide) ?_
    exact tq_X7_tryThing_b226 C _ _ _ _ _ h
def wq_X7_tryThing (a1 : Int32) (a2 : Int32) (a3 : Int32) (σ : gq_M) (Q : Int32 → gq_M → Prop) : Prop := ((a1 = 1 → ((2 ≤ a3 → wq_X7_tryThing_b65 Q a2 a3 0 σ) ∧ (¬ 2 ≤ a3 → ((¬ a3 = 1 → wq_X7_tryThing_b54 Q a2 a3 1 a2 0 σ) ∧ (a3 = 1 → wq_X7_tryThing_b54 Q a2 a3 1 a2 1 σ))))) ∧ (¬ a1 = 1 → ((a1 = 2 → ((¬ a2 = 0 → wq_X7_tryThing_b108 Q a3 0 σ) ∧ (a2 = 0 → wq_X7_isTraveller a3 σ (fun r16 σ17 => ((r16 = 0 → wq_X7_tryThing_b108 Q a3 0 σ17) ∧ (¬ r16 = 0 → wq_X7_tryThing_b108 Q a3 1 σ17)))))) ∧ (¬ a1 = 2 → ((a1 = 3 → ((¬ a2 = 0 → wq_X7_tryThing_b155 Q a3 0 σ) ∧ (a2 = 0 → wq_X7_isPleat a3 σ (fun r22 σ23 => ((r22 = 0 → wq_X7_tryThing_b155 Q a3 0 σ23) ∧ (¬ r22 = 0 → wq_X7_has (σ23.1 5 24) a3 σ23 (fun r25 σ26 => ((¬ r25 = 0 → wq_X7_tryThing_b155 Q a3 0 σ26) ∧ (r25 = 0 → wq_X7_tryThing_b155 Q a3 1 σ26))))))))) ∧ (¬ a1 = 3 → ((a1 = 4 → ((¬ a2 = 0 → wq_X7_tryThing_b206 Q 0 σ) ∧ (a2 = 0 → ((¬ a3 = 0 → wq_X7_tryThing_b206 Q 0 σ) ∧ (a3 = 0 → ((5 ≤ (σ.1 5 26) → wq_X7_tryThing_b206 Q 0 σ) ∧ (¬ 5 ≤ (σ.1 5 26) → wq_X7_tryThing_b206 Q 1 σ))))))) ∧ (¬ a1 = 4 → ((a1 = 5 → wq_X7_isTraveller a2 σ (fun r34 σ35 => ((r34 = 0 → Q 0 σ35) ∧ (¬ r34 = 0 → vp_in (14 + a2) 28 ∧ ((¬ (σ35.1 5 ((14 + a2)).toNatClampNeg) = a3 → Q 0 σ35) ∧ ((σ35.1 5 ((14 + a2)).toNatClampNeg) = a3 → Q 1 σ35)))))) ∧ (¬ a1 = 5 → Q 0 σ))))))))))
set_option maxRecDepth 100000 in
set_option maxHeartbeats 4000000 in
theorem tq_X7_tryThing {p : Program} {l : Launch} {e : Env} {s : State} {m : MethodId} {args : Array Value} {below : List Frame} {meth : Method} {c : Code} {D : va_G} {cyI cyZ : ClassId} {ad : Nat → Nat} {Q : Int32 → gq_M → Prop} (C : gq_C p s m args meth c cX7_tryThing 8 RX7 wsX7_tryThing D (gm_T cyI cyZ) 17 ad (some .boolean)) (a1 : Int32) (a2 : Int32) (a3 : Int32) (σ : gq_M) (h : wq_X7_tryThing a1 a2 a3 σ Q) : gq_G p l e rq_X7_tryThing s m args below meth c (gq_Ri below args s D (gm_T cyI cyZ) 17 ad (gm_S cyI cyZ ad) Q) D 17 ad (gm_S cyI cyZ ad) 8 σ 0 [(0, .ref (ad 0)), (1, .int a1), (2, .int a2), (3, .int a3)] [] := by
  unfold wq_X7_tryThing at h
  refine gq_iload_n (j := 1) C dX7_tryThing_0 rfl ?_
  by_cases c1 : a1 = 1
  · have h := h.1 c1
    refine gq_tin (tgt := 36) C 1 dX7_tryThing_1 (by rw [c1]; decide) (by decide) (by decide) rfl (by decide) ?_
    refine gq_iload_n (j := 3) C dX7_tryThing_36 rfl ?_
    refine gq_iconst (v := 2) C dX7_tryThing_37 (by decide) ?_
    refine gq_icmp_ge (tgt := 64) C dX7_tryThing_38 (by decide) (fun c2 => ?_) (fun c2 => ?_)
    · have h := h.1 c2
      refine gq_iconst (v := 0) C dX7_tryThing_64 (by decide) ?_
      refine gq_sub [0, 2, 3] rfl ?_
      exact tq_X7_tryThing_b65 C _ _ _ _ h
    · have h := h.2 c2
      refine gq_aload_n (j := 0) C dX7_tryThing_41 rfl ?_
      refine gq_iconst (v := 1) C dX7_tryThing_42 (by decide) ?_
      refine gq_iload_n (j := 2) C dX7_tryThing_43 rfl ?_
      refine gq_iload_n (j := 3) C dX7_tryThing_44 rfl ?_
      refine gq_iconst (v := 1) C dX7_tryThing_45 (by decide) ?_
      refine gq_icmp_ne (tgt := 53) C dX7_tryThing_46 (by decide) (fun c7 => ?_) (fun c7 => ?_)
      · have h := h.1 c7
        refine gq_iconst (v := 0) C dX7_tryThing_53 (by decide) ?_
        refine gq_sub [0, 2, 3] rfl ?_
        exact tq_X7_tryThing_b54 C _ _ _ _ _ _ h
      · have h := h.2 c7
        refine gq_iconst (v := 1) C dX7_tryThing_49 (by decide) ?_
        refine gq_goto (tgt := 54) C dX7_tryThing_50 (by decide) ?_
        refine gq_sub [0, 2, 3] rfl ?_
        exact tq_X7_tryThing_b54 C _ _ _ _ _ _ h
  · have h := h.2 c1
    by_cases c11 : a1 = 2
    · have h := h.1 c11
      refine gq_tin (tgt := 91) C 2 dX7_tryThing_1 (by rw [c11]; decide) (by decide) (by decide) rfl (by decide) ?_
      refine gq_iload_n (j := 2) C dX7_tryThing_91 rfl ?_
      refine gq_if_ne (tgt := 107) C dX7_tryThing_92 (by decide) (fun c12 => ?_) (fun c12 => ?_)
      · have h := h.1 c12
        refine gq_iconst (v := 0) C dX7_tryThing_107 (by decide) ?_
        refine gq_sub [0, 3] rfl ?_
        exact tq_X7_tryThing_b108 C _ _ _ h
      · have h := h.2 c12
        refine gq_aload_n (j := 0) C dX7_tryThing_95 rfl ?_
        refine gq_iload_n (j := 3) C dX7_tryThing_96 rfl ?_
        refine gq_vi (i := 0) C gms_0 rfl [.int a3] (mq_X7_isTraveller C.2.2.1 a3 σ _ h) gX7_tryThing_X7_isTraveller rfl rfl dq_X7_isTraveller ⟨rfl, rfl, by decide, by decide⟩ rfl rfl (Nat.le_of_ble_eq_true rfl) dX7_tryThing_97 (fun r16 σ17 h => ?_)
        refine gq_if_eq (tgt := 107) C dX7_tryThing_100 (by decide) (fun c18 => ?_) (fun c18 => ?_)
        · have h := h.1 c18
          refine gq_iconst (v := 0) C dX7_tryThing_107 (by decide) ?_
          refine gq_sub [0, 3] rfl ?_
          exact tq_X7_tryThing_b108 C _ _ _ h
        · have h := h.2 c18
          refine gq_iconst (v := 1) C dX7_tryThing_103 (by decide) ?_
          refine gq_goto (tgt := 108) C dX7_tryThing_104 (by decide) ?_
          refine gq_sub [0, 3] rfl ?_
          exact tq_X7_tryThing_b108 C _ _ _ h
    · have h := h.2 c11
      by_cases c19 : a1 = 3
      · have h := h.1 c19
        refine gq_tin (tgt := 124) C 3 dX7_tryThing_1 (by rw [c19]; decide) (by decide) (by decide) rfl (by decide) ?_
        refine gq_iload_n (j := 2) C dX7_tryThing_124 rfl ?_
        refine gq_if_ne (tgt := 154) C dX7_tryThing_125 (by decide) (fun c20 => ?_) (fun c20 => ?_)
        · have h := h.1 c20
          refine gq_iconst (v := 0) C dX7_tryThing_154 (by decide) ?_
          refine gq_sub [0, 3] rfl ?_
          exact tq_X7_tryThing_b155 C _ _ _ h
        · have h := h.2 c20
          refine gq_aload_n (j := 0) C dX7_tryThing_128 rfl ?_
          refine gq_iload_n (j := 3) C dX7_tryThing_129 rfl ?_
          refine gq_vi (i := 0) C gms_0 rfl [.int a3] (mq_X7_isPleat C.2.2.1 a3 σ _ h) gX7_tryThing_X7_isPleat rfl rfl dq_X7_isPleat ⟨rfl, rfl, by decide, by decide⟩ rfl rfl (Nat.le_of_ble_eq_true rfl) dX7_tryThing_130 (fun r22 σ23 h => ?_)
          refine gq_if_eq (tgt := 154) C dX7_tryThing_133 (by decide) (fun c24 => ?_) (fun c24 => ?_)
          · have h := h.1 c24
            refine gq_iconst (v := 0) C dX7_tryThing_154 (by decide) ?_
            refine gq_sub [0, 3] rfl ?_
            exact tq_X7_tryThing_b155 C _ _ _ h
          · have h := h.2 c24
            refine gq_aload_n (j := 0) C dX7_tryThing_136 rfl ?_
            refine gq_get (v := .ref (ad 5)) (i := 0) C gms_0 rfl iq_X7_tryThing_X7 6 (by decide) fq_X7_tryThing_22 rfl dX7_tryThing_137 ?_
            refine gq_bipush (v := 24) C dX7_tryThing_140 (by decide) ?_
            refine gq_iald (i := 5) (j := 24) C gms_5 0 rfl (by decide) (vp_in_iff.mpr ⟨by decide, by decide⟩) dX7_tryThing_142 ?_
            refine gq_iload_n (j := 3) C dX7_tryThing_143 rfl ?_
            refine gq_si C [.int (σ23.1 5 24), .int a3] (mq_X7_has C.2.2.1 (σ23.1 5 24) a3 σ23 _ h) gX7_tryThing_X7_has rfl dq_X7_has ⟨rfl, rfl, by decide, by decide⟩ rfl rfl (Nat.le_of_ble_eq_true rfl) dX7_tryThing_144 (fun r25 σ26 h => ?_)
            refine gq_if_ne (tgt := 154) C dX7_tryThing_147 (by decide) (fun c27 => ?_) (fun c27 => ?_)
            · have h := h.1 c27
              refine gq_iconst (v := 0) C dX7_tryThing_154 (by decide) ?_
              refine gq_sub [0, 3] rfl ?_
              exact tq_X7_tryThing_b155 C _ _ _ h
            · have h := h.2 c27
              refine gq_iconst (v := 1) C dX7_tryThing_150 (by decide) ?_
              refine gq_goto (tgt := 155) C dX7_tryThing_151 (by decide) ?_
              refine gq_sub [0, 3] rfl ?_
              exact tq_X7_tryThing_b155 C _ _ _ h
      · have h := h.2 c19
        by_cases c28 : a1 = 4
        · have h := h.1 c28
          refine gq_tin (tgt := 182) C 4 dX7_tryThing_1 (by rw [c28]; decide) (by decide) (by decide) rfl (by decide) ?_
          refine gq_iload_n (j := 2) C dX7_tryThing_182 rfl ?_
          refine gq_if_ne (tgt := 205) C dX7_tryThing_183 (by decide) (fun c29 => ?_) (fun c29 => ?_)
          · have h := h.1 c29
            refine gq_iconst (v := 0) C dX7_tryThing_205 (by decide) ?_
            refine gq_sub [0] rfl ?_
            exact tq_X7_tryThing_b206 C _ _ h
          · have h := h.2 c29
            refine gq_iload_n (j := 3) C dX7_tryThing_186 rfl ?_
            refine gq_if_ne (tgt := 205) C dX7_tryThing_187 (by decide) (fun c31 => ?_) (fun c31 => ?_)
            · have h := h.1 c31
              refine gq_iconst (v := 0) C dX7_tryThing_205 (by decide) ?_
              refine gq_sub [0] rfl ?_
              exact tq_X7_tryThing_b206 C _ _ h
            · have h := h.2 c31
              refine gq_aload_n (j := 0) C dX7_tryThing_190 rfl ?_
              refine gq_get (v := .ref (ad 5)) (i := 0) C gms_0 rfl iq_X7_tryThing_X7 6 (by decide) fq_X7_tryThing_22 rfl dX7_tryThing_191 ?_
              refine gq_bipush (v := 26) C dX7_tryThing_194 (by decide) ?_
              refine gq_iald (i := 5) (j := 26) C gms_5 0 rfl (by decide) (vp_in_iff.mpr ⟨by decide, by decide⟩) dX7_tryThing_196 ?_
              refine gq_iconst (v := 5) C dX7_tryThing_197 (by decide) ?_
              refine gq_icmp_ge (tgt := 205) C dX7_tryThing_198 (by decide) (fun c32 => ?_) (fun c32 => ?_)
              · have h := h.1 c32
                refine gq_iconst (v := 0) C dX7_tryThing_205 (by decide) ?_
                refine gq_sub [0] rfl ?_
                exact tq_X7_tryThing_b206 C _ _ h
              · have h := h.2 c32
                refine gq_iconst (v := 1) C dX7_tryThing_201 (by decide) ?_
                refine gq_goto (tgt := 206) C dX7_tryThing_202 (by decide) ?_
                refine gq_sub [0] rfl ?_
                exact tq_X7_tryThing_b206 C _ _ h
        · have h := h.2 c28
          by_cases c33 : a1 = 5
          · have h := h.1 c33
            refine gq_tin (tgt := 231) C 5 dX7_tryThing_1 (by rw [c33]; decide) (by decide) (by decide) rfl (by decide) ?_
            refine gq_aload_n (j := 0) C dX7_tryThing_231 rfl ?_
            refine gq_iload_n (j := 2) C dX7_tryThing_232 rfl ?_
            refine gq_vi (i := 0) C gms_0 rfl [.int a2] (mq_X7_isTraveller C.2.2.1 a2 σ _ h) gX7_tryThing_X7_isTraveller rfl rfl dq_X7_isTraveller ⟨rfl, rfl, by decide, by decide⟩ rfl rfl (Nat.le_of_ble_eq_true rfl) dX7_tryThing_233 (fun r34 σ35 h => ?_)
            refine gq_if_eq (tgt := 256) C dX7_tryThing_236 (by decide) (fun c36 => ?_) (fun c36 => ?_)
            · have h := h.1 c36
              refine gq_iconst (v := 0) C dX7_tryThing_256 (by decide) ?_
              exact gq_zret C (Or.inl rfl) h dX7_tryThing_257
            · have h := h.2 c36
              refine gq_aload_n (j := 0) C dX7_tryThing_239 rfl ?_
              refine gq_get (v := .ref (ad 5)) (i := 0) C gms_0 rfl iq_X7_tryThing_X7 6 (by decide) fq_X7_tryThing_22 rfl dX7_tryThing_240 ?_
              refine gq_bipush (v := 14) C dX7_tryThing_243 (by decide) ?_
              refine gq_iload_n (j := 2) C dX7_tryThing_245 rfl ?_
              refine gq_iadd C dX7_tryThing_246 ?_
              refine gq_iald (i := 5) (j := ((14 + a2)).toNatClampNeg) C gms_5 0 rfl rfl h.1 dX7_tryThing_247 ?_
              have h := h.2
              refine gq_iload_n (j := 3) C dX7_tryThing_248 rfl ?_
              refine gq_icmp_ne (tgt := 256) C dX7_tryThing_249 (by decide) (fun c37 => ?_) (fun c37 => ?_)
              · have h := h.1 c37
                refine gq_iconst (v := 0) C dX7_tryThing_256 (by decide) ?_
                exact gq_zret C (Or.inl rfl) h dX7_tryThing_257
              · have h := h.2 c37
                refine gq_iconst (v := 1) C dX7_tryThing_252 (by decide) ?_
                refine gq_goto (tgt := 257) C dX7_tryThing_253 (by decide) ?_
                exact gq_zret C (Or.inr rfl) h dX7_tryThing_257
          · have h := h.2 c33
            refine gq_tout (tgt := 258) C dX7_tryThing_1 (by have b0 := lv_neT (k := 1) (a := 1) c1 (by decide); have b1 := lv_neT (k := 2) (a := 2) c11 (by decide); have b2 := lv_neT (k := 3) (a := 3) c19 (by decide); have b3 := lv_neT (k := 4) (a := 4) c28 (by decide); have b4 := lv_neT (k := 5) (a := 5) c33 (by decide); omega) (by decide) ?_
            refine gq_iconst (v := 0) C dX7_tryThing_258 (by decide) ?_
            exact gq_zret C (Or.inl rfl) h dX7_tryThing_259
theorem mq_X7_tryThing {l : Launch} {D : va_G} {cyI cyZ : ClassId} {ad : Nat → Nat} (hap : gq_ap 17 ad) (a1 : Int32) (a2 : Int32) (a3 : Int32) (σ : gq_M) (Q : Int32 → gq_M → Prop) (h : wq_X7_tryThing a1 a2 a3 σ Q) : Met l yX7_tryThing wsX7_tryThing rq_X7_tryThing (va_Pc [.ref (ad 0), .int a1, .int a2, .int a3] (gq_P D (gm_T cyI cyZ) 17 ad (gm_S cyI cyZ ad) σ)) (va_Qi Q (gq_P D (gm_T cyI cyZ) 17 ad (gm_S cyI cyZ ad)) (gq_A 17 ad)) 0 0 (gq_A 17 ad) :=
  gq_met hap (by decide) rfl rfl (Nat.le_of_ble_eq_true rfl) (fun _ _ _ _ _ _ _ C => tq_X7_tryThing C a1 a2 a3 σ h)
abbrev rq_X7_thousandTo : Room := { frames := 0, cells := 0, slots := 0, locals := 0 }
theorem dq_X7_thousandTo : gq_dsc yX7_thousandTo 1 := by unfold gq_dsc; decide +kernel
def wq_X7_thousandTo_l4 (Q : Int64 → gq_M → Prop) (K21 : Int64 → gq_M → Prop) : Nat → Int32 → Int64 → Int32 → gq_M → Prop
  | 0, _, _, _, _ => False
  | n + 1, x0, x1, x3, σ => ((x0 ≤ x3 → K21 x1 σ) ∧ (¬ x0 ≤ x3 → ∀ v2, v2 = (x1 * 1000) → ∀ v3, v3 = (x3 + 1) → wq_X7_thousandTo_l4 Q K21 n x0 v2 v3 σ))
set_option maxRecDepth 100000 in
set_option maxHeartbeats 4000000 in
theorem tq_X7_thousandTo_l4 {p : Program} {l : Launch} {e : Env} {s : State} {m : MethodId} {args : Array Value} {below : List Frame} {meth : Method} {c : Code} {D : va_G} {cyI cyZ : ClassId} {ad : Nat → Nat} {Q : Int64 → gq_M → Prop} {K21 : Int64 → gq_M → Prop} (C : gq_C p s m args meth c cX7_thousandTo 4 RX7 wsX7_thousandTo D (gm_T cyI cyZ) 17 ad (some .long)) (hK21 : ∀ (y1 : Int64) (τ : gq_M), K21 y1 τ → gq_G p l e rq_X7_thousandTo s m args below meth c (gq_Rl below args s D (gm_T cyI cyZ) 17 ad (gm_S cyI cyZ ad) Q) D 17 ad (gm_S cyI cyZ ad) 4 τ 21 [(1, .long y1)] []) : ∀ (n : Nat) (x0 : Int32) (x1 : Int64) (x3 : Int32) (σ : gq_M), wq_X7_thousandTo_l4 Q K21 n x0 x1 x3 σ → gq_G p l e rq_X7_thousandTo s m args below meth c (gq_Rl below args s D (gm_T cyI cyZ) 17 ad (gm_S cyI cyZ ad) Q) D 17 ad (gm_S cyI cyZ ad) 4 σ 4 [(0, .int x0), (1, .long x1), (3, .int x3)] [] := by
  intro n
  induction n with
  | zero =>
    intro x0 x1 x3 σ h
    exact absurd h (fun q => q)
  | succ n ih =>
    intro x0 x1 x3 σ h
    unfold wq_X7_thousandTo_l4 at h
    refine gq_iload_n (j := 2) C dX7_thousandTo_4 rfl ?_
    refine gq_iload_n (j := 0) C dX7_thousandTo_5 rfl ?_
    refine gq_icmp_ge (tgt := 21) C dX7_thousandTo_6 (by decide) (fun c1 => ?_) (fun c1 => ?_)
    · have h := h.1 c1
      refine gq_sub [1] rfl ?_
      exact hK21 _ _ h
    · have h := h.2 c1
      refine gq_lload_n (j := 1) C dX7_thousandTo_9 rfl ?_
      refine gq_ldc2 (v := 1000) C (by decide +kernel) dX7_thousandTo_10 ?_
      refine gq_lmul C dX7_thousandTo_13 ?_
      refine gq_topl (fun v2 qv2 => ?_)
      have h := h v2 qv2
      refine gq_lstore_n (L' := [(0, .int x0), (1, .long v2), (3, .int x3)]) C [1, 0, 2] dX7_thousandTo_14 (by decide) rfl ?_
      obtain ⟨v3, qv3⟩ : ∃ y : Int32, y = (x3 + 1) := ⟨_, rfl⟩
      have h := h v3 qv3
      refine gq_iinc (j := 2) (v := v3) (L' := [(0, .int x0), (1, .long v2), (3, .int v3)]) C [1, 2, 0] dX7_thousandTo_15 rfl (by rw [qv3]; rfl) (by decide) rfl ?_
      refine gq_goto (tgt := 4) C dX7_thousandTo_18 (by decide) ?_
      exact ih _ _ _ _ h
def wq_X7_thousandTo (a1 : Int32) (σ : gq_M) (Q : Int64 → gq_M → Prop) : Prop := (∃ n6, wq_X7_thousandTo_l4 Q (fun e4 σ5 => Q e4 σ5) n6 a1 1 0 σ)
set_option maxRecDepth 100000 in
set_option maxHeartbeats 4000000 in
theorem tq_X7_thousandTo {p : Program} {l : Launch} {e : Env} {s : State} {m : MethodId} {args : Array Value} {below : List Frame} {meth : Method} {c : Code} {D : va_G} {cyI cyZ : ClassId} {ad : Nat → Nat} {Q : Int64 → gq_M → Prop} (C : gq_C p s m args meth c cX7_thousandTo 4 RX7 wsX7_thousandTo D (gm_T cyI cyZ) 17 ad (some .long)) (a1 : Int32) (σ : gq_M) (h : wq_X7_thousandTo a1 σ Q) : gq_G p l e rq_X7_thousandTo s m args below meth c (gq_Rl below args s D (gm_T cyI cyZ) 17 ad (gm_S cyI cyZ ad) Q) D 17 ad (gm_S cyI cyZ ad) 4 σ 0 [(0, .int a1)] [] := by
  unfold wq_X7_thousandTo at h
  refine gq_lconst (v := 1) C dX7_thousandTo_0 (by decide) ?_
  refine gq_lstore_n (L' := [(0, .int a1), (1, .long 1)]) C [1, 0] dX7_thousandTo_1 (by decide) rfl ?_
  refine gq_iconst (v := 0) C dX7_thousandTo_2 (by decide) ?_
  refine gq_istore_n (L' := [(0, .int a1), (1, .long 1), (3, .int 0)]) C [1, 2, 0] dX7_thousandTo_3 (by decide) rfl ?_
  obtain ⟨n6, h⟩ := h
  refine tq_X7_thousandTo_l4 C (fun e4 σ5 h => ?_) n6 _ _ _ _ h
  refine gq_lload_n (j := 0) C dX7_thousandTo_21 rfl ?_
  exact gq_lret C h dX7_thousandTo_22
theorem mq_X7_thousandTo {l : Launch} {D : va_G} {cyI cyZ : ClassId} {ad : Nat → Nat} (hap : gq_ap 17 ad) (a1 : Int32) (σ : gq_M) (Q : Int64 → gq_M → Prop) (h : wq_X7_thousandTo a1 σ Q) : Met l yX7_thousandTo wsX7_thousandTo rq_X7_thousandTo (va_Pc [.int a1] (gq_P D (gm_T cyI cyZ) 17 ad (gm_S cyI cyZ ad) σ)) (va_Ql Q (gq_P D (gm_T cyI cyZ) 17 ad (gm_S cyI cyZ ad)) (gq_A 17 ad)) 0 0 (gq_A 17 ad) :=
  gq_met hap (by decide) rfl rfl (Nat.le_of_ble_eq_true rfl) (fun _ _ _ _ _ _ _ C => tq_X7_thousandTo C a1 σ h)
abbrev rq_X7_judge : Room := { frames := 5, cells := 0, slots := 0, locals := 123 }
theorem dq_X7_judge : gq_dsc yX7_judge 2 := by unfold gq_dsc; decide +kernel
def wq_X7_judge_l36 (Q : Int32 → gq_M → Prop) (K94 : gq_M → Prop) : Nat → Int32 → Int64 → Int32 → gq_M → Prop
  | 0, _, _, _, _ => False
  | n + 1, x1, x2, x4, σ => ((x1 ≤ x4 → K94 σ) ∧ (¬ x1 ≤ x4 → wq_X7_thousandTo ((x1 - 1) - x4) σ (fun r12 σ13 => ¬ r12 = 0 ∧ ∀ v14, v14 = (((x2 / r12) - (x2 / r12) / 1000 * 1000)).toInt32 → wq_X7_tryThing (v14 / 100) ((v14 / 10) - (v14 / 10) / 10 * 10) (v14 - v14 / 10 * 10) σ13 (fun r15 σ16 => ((¬ r15 = 0 → ∀ v18, v18 = (x4 + 1) → wq_X7_judge_l36 Q K94 n x1 x2 v18 σ16) ∧ (r15 = 0 → Q x4 σ16))))))
set_option maxRecDepth 100000 in
set_option maxHeartbeats 4000000 in
theorem tq_X7_judge_l36 {p : Program} {l : Launch} {e : Env} {s : State} {m : MethodId} {args : Array Value} {below : List Frame} {meth : Method} {c : Code} {D : va_G} {cyI cyZ : ClassId} {ad : Nat → Nat} {Q : Int32 → gq_M → Prop} {K94 : gq_M → Prop} (C : gq_C p s m args meth c cX7_judge 6 RX7 wsX7_judge D (gm_T cyI cyZ) 17 ad (some .int)) (hK94 : ∀ (τ : gq_M), K94 τ → gq_G p l e rq_X7_judge s m args below meth c (gq_Ri below args s D (gm_T cyI cyZ) 17 ad (gm_S cyI cyZ ad) Q) D 17 ad (gm_S cyI cyZ ad) 6 τ 94 [(0, .ref (ad 0))] []) : ∀ (n : Nat) (x1 : Int32) (x2 : Int64) (x4 : Int32) (σ : gq_M), wq_X7_judge_l36 Q K94 n x1 x2 x4 σ → gq_G p l e rq_X7_judge s m args below meth c (gq_Ri below args s D (gm_T cyI cyZ) 17 ad (gm_S cyI cyZ ad) Q) D 17 ad (gm_S cyI cyZ ad) 6 σ 36 [(0, .ref (ad 0)), (1, .int x1), (2, .long x2), (4, .int x4)] [] := by
  intro n
  induction n with
  | zero =>
    intro x1 x2 x4 σ h
    exact absurd h (fun q => q)
  | succ n ih =>
    intro x1 x2 x4 σ h
    unfold wq_X7_judge_l36 at h
    refine gq_iload (j := 3) C dX7_judge_36 rfl ?_
    refine gq_iload_n (j := 1) C dX7_judge_38 rfl ?_
    refine gq_icmp_ge (tgt := 94) C dX7_judge_39 (by decide) (fun c11 => ?_) (fun c11 => ?_)
    · have h := h.1 c11
      refine gq_sub [0] rfl ?_
      exact hK94  _ h
    · have h := h.2 c11
      refine gq_lload_n (j := 2) C dX7_judge_42 rfl ?_
      refine gq_iload_n (j := 1) C dX7_judge_43 rfl ?_
      refine gq_iconst (v := 1) C dX7_judge_44 (by decide) ?_
      refine gq_isub C dX7_judge_45 ?_
      refine gq_iload (j := 3) C dX7_judge_46 rfl ?_
      refine gq_isub C dX7_judge_48 ?_
      refine gq_sl C [.int ((x1 - 1) - x4)] (mq_X7_thousandTo C.2.2.1 ((x1 - 1) - x4) σ _ h) gX7_judge_X7_thousandTo rfl dq_X7_thousandTo ⟨rfl, rfl, by decide, by decide⟩ rfl rfl (Nat.le_of_ble_eq_true rfl) dX7_judge_49 (fun r12 σ13 h => ?_)
      refine gq_ldiv C dX7_judge_52 h.1 ?_
      have h := h.2
      refine gq_ldc2 (v := 1000) C (by decide +kernel) dX7_judge_53 ?_
      refine gq_lrem C dX7_judge_56 (by decide) ?_
      refine gq_l2i C dX7_judge_57 ?_
      refine gq_topi (fun v14 qv14 => ?_)
      have h := h v14 qv14
      refine gq_istore (L' := [(0, .ref (ad 0)), (1, .int x1), (2, .long x2), (4, .int x4), (5, .int v14)]) C [1, 2, 3, 4, 0] dX7_judge_58 (by decide) rfl ?_
      refine gq_aload_n (j := 0) C dX7_judge_60 rfl ?_
      refine gq_iload (j := 4) C dX7_judge_61 rfl ?_
      refine gq_bipush (v := 100) C dX7_judge_63 (by decide) ?_
      refine gq_idiv C dX7_judge_65 (by decide) ?_
      refine gq_iload (j := 4) C dX7_judge_66 rfl ?_
      refine gq_bipush (v := 10) C dX7_judge_68 (by decide) ?_
      refine gq_idiv C dX7_judge_70 (by decide) ?_
      refine gq_bipush (v := 10) C dX7_judge_71 (by decide) ?_
      refine gq_irem C dX7_judge_73 (by decide) ?_
      refine gq_iload (j := 4) C dX7_judge_74 rfl ?_
      refine gq_bipush (v := 10) C dX7_judge_76 (by decide) ?_
      refine gq_irem C dX7_judge_78 (by decide) ?_
      refine gq_vi (i := 0) C gms_0 rfl [.int (v14 / 100), .int ((v14 / 10) - (v14 / 10) / 10 * 10), .int (v14 - v14 / 10 * 10)] (mq_X7_tryThing C.2.2.1 (v14 / 100) ((v14 / 10) - (v14 / 10) / 10 * 10) (v14 - v14 / 10 * 10) σ13 _ h) gX7_judge_X7_tryThing rfl rfl dq_X7_tryThing ⟨rfl, rfl, by decide, by decide⟩ rfl rfl (Nat.le_of_ble_eq_true rfl) dX7_judge_79 (fun r15 σ16 h => ?_)
      refine gq_if_ne (tgt := 88) C dX7_judge_82 (by decide) (fun c17 => ?_) (fun c17 => ?_)
      · have h := h.1 c17
        obtain ⟨v18, qv18⟩ : ∃ y : Int32, y = (x4 + 1) := ⟨_, rfl⟩
        have h := h v18 qv18
        refine gq_iinc (j := 3) (v := v18) (L' := [(0, .ref (ad 0)), (1, .int x1), (2, .long x2), (4, .int v18), (5, .int v14)]) C [1, 2, 3, 0, 4] dX7_judge_88 rfl (by rw [qv18]; rfl) (by decide) rfl ?_
        refine gq_goto (tgt := 36) C dX7_judge_91 (by decide) ?_
        refine gq_sub [0, 1, 2, 3] rfl ?_
        exact ih _ _ _ _ h
      · have h := h.2 c17
        refine gq_iload (j := 3) C dX7_judge_85 rfl ?_
        exact gq_iret C h dX7_judge_87
def wq_X7_judge (a1 : Int32) (a2 : Int64) (σ : gq_M) (Q : Int32 → gq_M → Prop) : Prop := wq_X7_in a1.toInt64 1 4 σ (fun r1 σ2 => ((r1 = 0 → Q (-2) σ2) ∧ (¬ r1 = 0 → wq_X7_thousandTo a1 σ2 (fun r4 σ5 => wq_X7_in a2 0 (r4 - 1) σ5 (fun r6 σ7 => ((¬ r6 = 0 → wq_X7_layTrial σ7 (fun σ10 => (∃ n20, wq_X7_judge_l36 Q (fun σ19 => Q (-9) σ19) n20 a1 a2 0 σ10))) ∧ (r6 = 0 → Q (-2) σ7)))))))
set_option maxRecDepth 100000 in
set_option maxHeartbeats 4000000 in
theorem tq_X7_judge {p : Program} {l : Launch} {e : Env} {s : State} {m : MethodId} {args : Array Value} {below : List Frame} {meth : Method} {c : Code} {D : va_G} {cyI cyZ : ClassId} {ad : Nat → Nat} {Q : Int32 → gq_M → Prop} (C : gq_C p s m args meth c cX7_judge 6 RX7 wsX7_judge D (gm_T cyI cyZ) 17 ad (some .int)) (a1 : Int32) (a2 : Int64) (σ : gq_M) (h : wq_X7_judge a1 a2 σ Q) : gq_G p l e rq_X7_judge s m args below meth c (gq_Ri below args s D (gm_T cyI cyZ) 17 ad (gm_S cyI cyZ ad) Q) D 17 ad (gm_S cyI cyZ ad) 6 σ 0 [(0, .ref (ad 0)), (1, .int a1), (2, .long a2)] [] := by
  unfold wq_X7_judge at h
  refine gq_iload_n (j := 1) C dX7_judge_0 rfl ?_
  refine gq_i2l C dX7_judge_1 ?_
  refine gq_lconst (v := 1) C dX7_judge_2 (by decide) ?_
  refine gq_ldc2 (v := 4) C (by decide +kernel) dX7_judge_3 ?_
  refine gq_si C [.long a1.toInt64, .long 1, .long 4] (mq_X7_in C.2.2.1 a1.toInt64 1 4 σ _ h) gX7_judge_X7_in rfl dq_X7_in ⟨rfl, rfl, by decide, by decide⟩ rfl rfl (Nat.le_of_ble_eq_true rfl) dX7_judge_6 (fun r1 σ2 h => ?_)
  refine gq_if_eq (tgt := 26) C dX7_judge_9 (by decide) (fun c3 => ?_) (fun c3 => ?_)
  · have h := h.1 c3
    refine gq_bipush (v := (-2)) C dX7_judge_26 (by decide) ?_
    exact gq_iret C h dX7_judge_28
  · have h := h.2 c3
    refine gq_lload_n (j := 2) C dX7_judge_12 rfl ?_
    refine gq_lconst (v := 0) C dX7_judge_13 (by decide) ?_
    refine gq_iload_n (j := 1) C dX7_judge_14 rfl ?_
    refine gq_sl C [.int a1] (mq_X7_thousandTo C.2.2.1 a1 σ2 _ h) gX7_judge_X7_thousandTo rfl dq_X7_thousandTo ⟨rfl, rfl, by decide, by decide⟩ rfl rfl (Nat.le_of_ble_eq_true rfl) dX7_judge_15 (fun r4 σ5 h => ?_)
    refine gq_lconst (v := 1) C dX7_judge_18 (by decide) ?_
    refine gq_lsub C dX7_judge_19 ?_
    refine gq_si C [.long a2, .long 0, .long (r4 - 1)] (mq_X7_in C.2.2.1 a2 0 (r4 - 1) σ5 _ h) gX7_judge_X7_in rfl dq_X7_in ⟨rfl, rfl, by decide, by decide⟩ rfl rfl (Nat.le_of_ble_eq_true rfl) dX7_judge_20 (fun r6 σ7 h => ?_)
    refine gq_if_ne (tgt := 29) C dX7_judge_23 (by decide) (fun c8 => ?_) (fun c8 => ?_)
    · have h := h.1 c8
      refine gq_aload_n (j := 0) C dX7_judge_29 rfl ?_
      refine gq_vv (i := 0) C gms_0 rfl [] (mq_X7_layTrial C.2.2.1 σ7 _ h) gX7_judge_X7_layTrial rfl rfl dq_X7_layTrial ⟨rfl, rfl, by decide, by decide⟩ rfl rfl (Nat.le_of_ble_eq_true rfl) dX7_judge_30 (fun σ10 h => ?_)
      refine gq_iconst (v := 0) C dX7_judge_33 (by decide) ?_
      refine gq_istore (L' := [(0, .ref (ad 0)), (1, .int a1), (2, .long a2), (4, .int 0)]) C [1, 2, 3, 0] dX7_judge_34 (by decide) rfl ?_
      obtain ⟨n20, h⟩ := h
      refine tq_X7_judge_l36 C (fun σ19 h => ?_) n20 _ _ _ _ h
      refine gq_bipush (v := (-9)) C dX7_judge_94 (by decide) ?_
      exact gq_iret C h dX7_judge_96
    · have h := h.2 c8
      refine gq_bipush (v := (-2)) C dX7_judge_26 (by decide) ?_
      exact gq_iret C h dX7_judge_28
theorem mq_X7_judge {l : Launch} {D : va_G} {cyI cyZ : ClassId} {ad : Nat → Nat} (hap : gq_ap 17 ad) (a1 : Int32) (a2 : Int64) (σ : gq_M) (Q : Int32 → gq_M → Prop) (h : wq_X7_judge a1 a2 σ Q) : Met l yX7_judge wsX7_judge rq_X7_judge (va_Pc [.ref (ad 0), .int a1, .long a2] (gq_P D (gm_T cyI cyZ) 17 ad (gm_S cyI cyZ ad) σ)) (va_Qi Q (gq_P D (gm_T cyI cyZ) 17 ad (gm_S cyI cyZ ad)) (gq_A 17 ad)) 0 0 (gq_A 17 ad) :=
  gq_met hap (by decide) rfl rfl (Nat.le_of_ble_eq_true rfl) (fun _ _ _ _ _ _ _ C => tq_X7_judge C a1 a2 σ h)
abbrev rq_X7_hear : Room := { frames := 1, cells := 0, slots := 0, locals := 25 }
theorem dq_X7_hear : gq_dsc yX7_hear 2 := by unfold gq_dsc; decide +kernel
theorem iq_X7_hear_X7 : ∀ w ∈ u_ws RX7 TX7 30, w ∈ wsX7_hear := by decide +kernel
theorem fq_X7_hear_209 : Cond.fieldLink RX7 209 (TX7 23).1 (TX7 23).2.1 (TX7 23).2.2.1 ∈ wsX7_hear := by decide +kernel
theorem fq_X7_hear_43 : Cond.fieldLink RX7 43 (TX7 24).1 (TX7 24).2.1 (TX7 24).2.2.1 ∈ wsX7_hear := by decide +kernel
theorem fq_X7_hear_46 : Cond.fieldLink RX7 46 (TX7 25).1 (TX7 25).2.1 (TX7 25).2.2.1 ∈ wsX7_hear := by decide +kernel
def wq_X7_hear (a1 : Int32) (a2 : Int32) (σ : gq_M) (Q : Int32 → gq_M → Prop) : Prop := wq_X7_in a1.toInt64 0 10 σ (fun r1 σ2 => ((r1 = 0 → Q (-2) σ2) ∧ (¬ r1 = 0 → wq_X7_in a2.toInt64 0 1 σ2 (fun r4 σ5 => ((¬ r4 = 0 → ((¬ (σ5.1 0 23) = 6 → vp_in (σ5.1 0 23) 6 ∧ vp_in (((gq_put σ5 12 ((σ5.1 0 23)).toNatClampNeg a1)).1 0 23) 6 ∧ Q (((gq_put (gq_put (gq_put σ5 12 ((σ5.1 0 23)).toNatClampNeg a1) 13 ((((gq_put σ5 12 ((σ5.1 0 23)).toNatClampNeg a1)).1 0 23)).toNatClampNeg a2) 0 23 ((((gq_put (gq_put σ5 12 ((σ5.1 0 23)).toNatClampNeg a1) 13 ((((gq_put σ5 12 ((σ5.1 0 23)).toNatClampNeg a1)).1 0 23)).toNatClampNeg a2)).1 0 23) + 1))).1 0 23) (gq_put (gq_put (gq_put σ5 12 ((σ5.1 0 23)).toNatClampNeg a1) 13 ((((gq_put σ5 12 ((σ5.1 0 23)).toNatClampNeg a1)).1 0 23)).toNatClampNeg a2) 0 23 ((((gq_put (gq_put σ5 12 ((σ5.1 0 23)).toNatClampNeg a1) 13 ((((gq_put σ5 12 ((σ5.1 0 23)).toNatClampNeg a1)).1 0 23)).toNatClampNeg a2)).1 0 23) + 1))) ∧ ((σ5.1 0 23) = 6 → Q (-4) σ5))) ∧ (r4 = 0 → Q (-2) σ5))))))
set_option maxRecDepth 100000 in
set_option maxHeartbeats 4000000 in
theorem tq_X7_hear {p : Program} {l : Launch} {e : Env} {s : State} {m : MethodId} {args : Array Value} {below : List Frame} {meth : Method} {c : Code} {D : va_G} {cyI cyZ : ClassId} {ad : Nat → Nat} {Q : Int32 → gq_M → Prop} (C : gq_C p s m args meth c cX7_hear 3 RX7 wsX7_hear D (gm_T cyI cyZ) 17 ad (some .int)) (a1 : Int32) (a2 : Int32) (σ : gq_M) (h : wq_X7_hear a1 a2 σ Q) : gq_G p l e rq_X7_hear s m args below meth c (gq_Ri below args s D (gm_T cyI cyZ) 17 ad (gm_S cyI cyZ ad) Q) D 17 ad (gm_S cyI cyZ ad) 3 σ 0 [(0, .ref (ad 0)), (1, .int a1), (2, .int a2)] [] := by
  unfold wq_X7_hear at h
  refine gq_iload_n (j := 1) C dX7_hear_0 rfl ?_
  refine gq_i2l C dX7_hear_1 ?_
  refine gq_lconst (v := 0) C dX7_hear_2 (by decide) ?_
  refine gq_ldc2 (v := 10) C (by decide +kernel) dX7_hear_3 ?_
  refine gq_si C [.long a1.toInt64, .long 0, .long 10] (mq_X7_in C.2.2.1 a1.toInt64 0 10 σ _ h) gX7_hear_X7_in rfl dq_X7_in ⟨rfl, rfl, by decide, by decide⟩ rfl rfl (Nat.le_of_ble_eq_true rfl) dX7_hear_6 (fun r1 σ2 h => ?_)
  refine gq_if_eq (tgt := 22) C dX7_hear_9 (by decide) (fun c3 => ?_) (fun c3 => ?_)
  · have h := h.1 c3
    refine gq_bipush (v := (-2)) C dX7_hear_22 (by decide) ?_
    exact gq_iret C h dX7_hear_24
  · have h := h.2 c3
    refine gq_iload_n (j := 2) C dX7_hear_12 rfl ?_
    refine gq_i2l C dX7_hear_13 ?_
    refine gq_lconst (v := 0) C dX7_hear_14 (by decide) ?_
    refine gq_lconst (v := 1) C dX7_hear_15 (by decide) ?_
    refine gq_si C [.long a2.toInt64, .long 0, .long 1] (mq_X7_in C.2.2.1 a2.toInt64 0 1 σ2 _ h) gX7_hear_X7_in rfl dq_X7_in ⟨rfl, rfl, by decide, by decide⟩ rfl rfl (Nat.le_of_ble_eq_true rfl) dX7_hear_16 (fun r4 σ5 h => ?_)
    refine gq_if_ne (tgt := 25) C dX7_hear_19 (by decide) (fun c6 => ?_) (fun c6 => ?_)
    · have h := h.1 c6
      refine gq_aload_n (j := 0) C dX7_hear_25 rfl ?_
      refine gq_get (v := .int (σ5.1 0 23)) (i := 0) C gms_0 rfl iq_X7_hear_X7 23 (by decide) fq_X7_hear_209 rfl dX7_hear_26 ?_
      refine gq_bipush (v := 6) C dX7_hear_29 (by decide) ?_
      refine gq_icmp_ne (tgt := 37) C dX7_hear_31 (by decide) (fun c7 => ?_) (fun c7 => ?_)
      · have h := h.1 c7
        refine gq_aload_n (j := 0) C dX7_hear_37 rfl ?_
        refine gq_get (v := .ref (ad 12)) (i := 0) C gms_0 rfl iq_X7_hear_X7 24 (by decide) fq_X7_hear_43 rfl dX7_hear_38 ?_
        refine gq_aload_n (j := 0) C dX7_hear_41 rfl ?_
        refine gq_get (v := .int (σ5.1 0 23)) (i := 0) C gms_0 rfl iq_X7_hear_X7 23 (by decide) fq_X7_hear_209 rfl dX7_hear_42 ?_
        refine gq_iload_n (j := 1) C dX7_hear_45 rfl ?_
        refine gq_iast (i := 12) (j := ((σ5.1 0 23)).toNatClampNeg) C gms_12 0 rfl rfl h.1 dX7_hear_46 ?_
        have h := h.2
        refine gq_aload_n (j := 0) C dX7_hear_47 rfl ?_
        refine gq_get (v := .ref (ad 13)) (i := 0) C gms_0 rfl iq_X7_hear_X7 25 (by decide) fq_X7_hear_46 rfl dX7_hear_48 ?_
        refine gq_aload_n (j := 0) C dX7_hear_51 rfl ?_
        refine gq_get (v := .int (((gq_put σ5 12 ((σ5.1 0 23)).toNatClampNeg a1)).1 0 23)) (i := 0) C gms_0 rfl iq_X7_hear_X7 23 (by decide) fq_X7_hear_209 rfl dX7_hear_52 ?_
        refine gq_iload_n (j := 2) C dX7_hear_55 rfl ?_
        refine gq_iast (i := 13) (j := ((((gq_put σ5 12 ((σ5.1 0 23)).toNatClampNeg a1)).1 0 23)).toNatClampNeg) C gms_13 0 rfl rfl h.1 dX7_hear_56 ?_
        have h := h.2
        refine gq_aload_n (j := 0) C dX7_hear_57 rfl ?_
        refine gq_dup C dX7_hear_58 rfl ?_
        refine gq_get (v := .int (((gq_put (gq_put σ5 12 ((σ5.1 0 23)).toNatClampNeg a1) 13 ((((gq_put σ5 12 ((σ5.1 0 23)).toNatClampNeg a1)).1 0 23)).toNatClampNeg a2)).1 0 23)) (i := 0) C gms_0 rfl iq_X7_hear_X7 23 (by decide) fq_X7_hear_209 rfl dX7_hear_59 ?_
        refine gq_iconst (v := 1) C dX7_hear_62 (by decide) ?_
        refine gq_iadd C dX7_hear_63 ?_
        refine gq_puti (i := 0) C gms_0 rfl iq_X7_hear_X7 tyX7 tyX7_ok nmX7 23 (by decide) fq_X7_hear_209 rfl rfl rfl (fun _ _ => Nat.le_of_ble_eq_true rfl) gs_X7_23 dX7_hear_64 ?_
        refine gq_aload_n (j := 0) C dX7_hear_67 rfl ?_
        refine gq_get (v := .int (((gq_put (gq_put (gq_put σ5 12 ((σ5.1 0 23)).toNatClampNeg a1) 13 ((((gq_put σ5 12 ((σ5.1 0 23)).toNatClampNeg a1)).1 0 23)).toNatClampNeg a2) 0 23 ((((gq_put (gq_put σ5 12 ((σ5.1 0 23)).toNatClampNeg a1) 13 ((((gq_put σ5 12 ((σ5.1 0 23)).toNatClampNeg a1)).1 0 23)).toNatClampNeg a2)).1 0 23) + 1))).1 0 23)) (i := 0) C gms_0 rfl iq_X7_hear_X7 23 (by decide) fq_X7_hear_209 rfl dX7_hear_68 ?_
        exact gq_iret C h dX7_hear_71
      · have h := h.2 c7
        refine gq_bipush (v := (-4)) C dX7_hear_34 (by decide) ?_
        exact gq_iret C h dX7_hear_36
    · have h := h.2 c6
      refine gq_bipush (v := (-2)) C dX7_hear_22 (by decide) ?_
      exact gq_iret C h dX7_hear_24
theorem mq_X7_hear {l : Launch} {D : va_G} {cyI cyZ : ClassId} {ad : Nat → Nat} (hap : gq_ap 17 ad) (a1 : Int32) (a2 : Int32) (σ : gq_M) (Q : Int32 → gq_M → Prop) (h : wq_X7_hear a1 a2 σ Q) : Met l yX7_hear wsX7_hear rq_X7_hear (va_Pc [.ref (ad 0), .int a1, .int a2] (gq_P D (gm_T cyI cyZ) 17 ad (gm_S cyI cyZ ad) σ)) (va_Qi Q (gq_P D (gm_T cyI cyZ) 17 ad (gm_S cyI cyZ ad)) (gq_A 17 ad)) 0 0 (gq_A 17 ad) :=
  gq_met hap (by decide) rfl rfl (Nat.le_of_ble_eq_true rfl) (fun _ _ _ _ _ _ _ C => tq_X7_hear C a1 a2 σ h)
abbrev rq_X7_unhear : Room := { frames := 0, cells := 0, slots := 0, locals := 0 }
theorem dq_X7_unhear : gq_dsc yX7_unhear 0 := by unfold gq_dsc; decide +kernel
theorem iq_X7_unhear_X7 : ∀ w ∈ u_ws RX7 TX7 30, w ∈ wsX7_unhear := by decide +kernel
theorem fq_X7_unhear_209 : Cond.fieldLink RX7 209 (TX7 23).1 (TX7 23).2.1 (TX7 23).2.2.1 ∈ wsX7_unhear := by decide +kernel
def wq_X7_unhear (σ : gq_M) (Q : Int32 → gq_M → Prop) : Prop := ∀ v1, v1 = (σ.1 0 23) → Q v1 (gq_put σ 0 23 0)
set_option maxRecDepth 100000 in
set_option maxHeartbeats 4000000 in
theorem tq_X7_unhear {p : Program} {l : Launch} {e : Env} {s : State} {m : MethodId} {args : Array Value} {below : List Frame} {meth : Method} {c : Code} {D : va_G} {cyI cyZ : ClassId} {ad : Nat → Nat} {Q : Int32 → gq_M → Prop} (C : gq_C p s m args meth c cX7_unhear 2 RX7 wsX7_unhear D (gm_T cyI cyZ) 17 ad (some .int)) (σ : gq_M) (h : wq_X7_unhear σ Q) : gq_G p l e rq_X7_unhear s m args below meth c (gq_Ri below args s D (gm_T cyI cyZ) 17 ad (gm_S cyI cyZ ad) Q) D 17 ad (gm_S cyI cyZ ad) 2 σ 0 [(0, .ref (ad 0))] [] := by
  unfold wq_X7_unhear at h
  refine gq_aload_n (j := 0) C dX7_unhear_0 rfl ?_
  refine gq_get (v := .int (σ.1 0 23)) (i := 0) C gms_0 rfl iq_X7_unhear_X7 23 (by decide) fq_X7_unhear_209 rfl dX7_unhear_1 ?_
  refine gq_topi (fun v1 qv1 => ?_)
  have h := h v1 qv1
  refine gq_istore_n (L' := [(0, .ref (ad 0)), (1, .int v1)]) C [1, 0] dX7_unhear_4 (by decide) rfl ?_
  refine gq_aload_n (j := 0) C dX7_unhear_5 rfl ?_
  refine gq_iconst (v := 0) C dX7_unhear_6 (by decide) ?_
  refine gq_puti (i := 0) C gms_0 rfl iq_X7_unhear_X7 tyX7 tyX7_ok nmX7 23 (by decide) fq_X7_unhear_209 rfl rfl rfl (fun _ _ => Nat.le_of_ble_eq_true rfl) gs_X7_23 dX7_unhear_7 ?_
  refine gq_iload_n (j := 1) C dX7_unhear_10 rfl ?_
  exact gq_iret C h dX7_unhear_11
theorem mq_X7_unhear {l : Launch} {D : va_G} {cyI cyZ : ClassId} {ad : Nat → Nat} (hap : gq_ap 17 ad) (σ : gq_M) (Q : Int32 → gq_M → Prop) (h : wq_X7_unhear σ Q) : Met l yX7_unhear wsX7_unhear rq_X7_unhear (va_Pc [.ref (ad 0)] (gq_P D (gm_T cyI cyZ) 17 ad (gm_S cyI cyZ ad) σ)) (va_Qi Q (gq_P D (gm_T cyI cyZ) 17 ad (gm_S cyI cyZ ad)) (gq_A 17 ad)) 0 0 (gq_A 17 ad) :=
  gq_met hap (by decide) rfl rfl (Nat.le_of_ble_eq_true rfl) (fun _ _ _ _ _ _ _ C => tq_X7_unhear C σ h)
abbrev rq_X7_farthest : Room := { frames := 2, cells := 0, slots := 0, locals := 47 }
theorem dq_X7_farthest : gq_dsc yX7_farthest 2 := by unfold gq_dsc; decide +kernel
theorem iq_X7_farthest_X7 : ∀ w ∈ u_ws RX7 TX7 30, w ∈ wsX7_farthest := by decide +kernel
theorem fq_X7_farthest_93 : Cond.fieldLink RX7 93 (TX7 0).1 (TX7 0).2.1 (TX7 0).2.2.1 ∈ wsX7_farthest := by decide +kernel
theorem fq_X7_farthest_13 : Cond.fieldLink RX7 13 (TX7 3).1 (TX7 3).2.1 (TX7 3).2.2.1 ∈ wsX7_farthest := by decide +kernel
def wq_X7_farthest_b60 (Q : Int32 → gq_M → Prop) (K5 : Int32 → Int32 → Int32 → Int32 → gq_M → Prop) (x1 : Int32) (x2 : Int32) (x4 : Int32) (s0 : Int32) (σ : gq_M) : Prop := ∀ v10, v10 = (x4 + 1) → K5 x1 x2 s0 v10 σ
set_option maxRecDepth 100000 in
set_option maxHeartbeats 4000000 in
theorem tq_X7_farthest_b60 {p : Program} {l : Launch} {e : Env} {s : State} {m : MethodId} {args : Array Value} {below : List Frame} {meth : Method} {c : Code} {D : va_G} {cyI cyZ : ClassId} {ad : Nat → Nat} {Q : Int32 → gq_M → Prop} {K5 : Int32 → Int32 → Int32 → Int32 → gq_M → Prop} (C : gq_C p s m args meth c cX7_farthest 6 RX7 wsX7_farthest D (gm_T cyI cyZ) 17 ad (some .int)) (hK5 : ∀ (y1 : Int32) (y2 : Int32) (y3 : Int32) (y4 : Int32) (τ : gq_M), K5 y1 y2 y3 y4 τ → gq_G p l e rq_X7_farthest s m args below meth c (gq_Ri below args s D (gm_T cyI cyZ) 17 ad (gm_S cyI cyZ ad) Q) D 17 ad (gm_S cyI cyZ ad) 6 τ 5 [(0, .ref (ad 0)), (1, .int y1), (2, .int y2), (3, .int y3), (4, .int y4)] []) (x1 : Int32) (x2 : Int32) (x4 : Int32) (s0 : Int32) (σ : gq_M) (h : wq_X7_farthest_b60 Q K5 x1 x2 x4 s0 σ) : gq_G p l e rq_X7_farthest s m args below meth c (gq_Ri below args s D (gm_T cyI cyZ) 17 ad (gm_S cyI cyZ ad) Q) D 17 ad (gm_S cyI cyZ ad) 6 σ 60 [(0, .ref (ad 0)), (1, .int x1), (2, .int x2), (4, .int x4)] [.int s0] := by
  unfold wq_X7_farthest_b60 at h
  refine gq_istore_n (L' := [(0, .ref (ad 0)), (1, .int x1), (2, .int x2), (3, .int s0), (4, .int x4)]) C [1, 2, 3, 0, 4] dX7_farthest_60 (by decide) rfl ?_
  obtain ⟨v10, qv10⟩ : ∃ y : Int32, y = (x4 + 1) := ⟨_, rfl⟩
  have h := h v10 qv10
  refine gq_iinc (j := 4) (v := v10) (L' := [(0, .ref (ad 0)), (1, .int x1), (2, .int x2), (3, .int s0), (4, .int v10)]) C [1, 2, 3, 4, 0] dX7_farthest_61 rfl (by rw [qv10]; rfl) (by decide) rfl ?_
  refine gq_goto (tgt := 5) C dX7_farthest_64 (by decide) ?_
  exact hK5 _ _ _ _ _ h
def wq_X7_farthest_l5 (Q : Int32 → gq_M → Prop) (K67 : gq_M → Prop) : Nat → Int32 → Int32 → Int32 → Int32 → gq_M → Prop
  | 0, _, _, _, _, _ => False
  | n + 1, x1, x2, x3, x4, σ => (((σ.1 0 0) ≤ x4 → K67 σ) ∧ (¬ (σ.1 0 0) ≤ x4 → wq_X7_smooth σ (fun r2 σ3 => wq_X7_costs x4 0 r2 0 σ3 (fun r4 σ5 => wq_X7_pays x1 r4 σ5 (fun r6 σ7 => ((r6 ≤ x3 → vp_in x4 10 ∧ ((¬ (σ7.1 2 x4.toNatClampNeg) = 3 → wq_X7_farthest_b60 Q (wq_X7_farthest_l5 Q K67 n) x1 x2 x4 (x3 - r6) σ7) ∧ ((σ7.1 2 x4.toNatClampNeg) = 3 → wq_X7_farthest_b60 Q (wq_X7_farthest_l5 Q K67 n) x1 x2 x4 x2 σ7))) ∧ (¬ r6 ≤ x3 → Q x4 σ7)))))))
set_option maxRecDepth 100000 in
set_option maxHeartbeats 4000000 in
theorem tq_X7_farthest_l5 {p : Program} {l : Launch} {e : Env} {s : State} {m : MethodId} {args : Array Value} {below : List Frame} {meth : Method} {c : Code} {D : va_G} {cyI cyZ : ClassId} {ad : Nat → Nat} {Q : Int32 → gq_M → Prop} {K67 : gq_M → Prop} (C : gq_C p s m args meth c cX7_farthest 6 RX7 wsX7_farthest D (gm_T cyI cyZ) 17 ad (some .int)) (hK67 : ∀ (τ : gq_M), K67 τ → gq_G p l e rq_X7_farthest s m args below meth c (gq_Ri below args s D (gm_T cyI cyZ) 17 ad (gm_S cyI cyZ ad) Q) D 17 ad (gm_S cyI cyZ ad) 6 τ 67 [(0, .ref (ad 0))] []) : ∀ (n : Nat) (x1 : Int32) (x2 : Int32) (x3 : Int32) (x4 : Int32) (σ : gq_M), wq_X7_farthest_l5 Q K67 n x1 x2 x3 x4 σ → gq_G p l e rq_X7_farthest s m args below meth c (gq_Ri below args s D (gm_T cyI cyZ) 17 ad (gm_S cyI cyZ ad) Q) D 17 ad (gm_S cyI cyZ ad) 6 σ 5 [(0, .ref (ad 0)), (1, .int x1), (2, .int x2), (3, .int x3), (4, .int x4)] [] := by
  intro n
  induction n with
  | zero =>
    intro x1 x2 x3 x4 σ h
    exact absurd h (fun q => q)
  | succ n ih =>
    intro x1 x2 x3 x4 σ h
    unfold wq_X7_farthest_l5 at h
    refine gq_iload (j := 4) C dX7_farthest_5 rfl ?_
    refine gq_aload_n (j := 0) C dX7_farthest_7 rfl ?_
    refine gq_get (v := .int (σ.1 0 0)) (i := 0) C gms_0 rfl iq_X7_farthest_X7 0 (by decide) fq_X7_farthest_93 rfl dX7_farthest_8 ?_
    refine gq_icmp_ge (tgt := 67) C dX7_farthest_11 (by decide) (fun c1 => ?_) (fun c1 => ?_)
    · have h := h.1 c1
      refine gq_sub [0] rfl ?_
      exact hK67  _ h
    · have h := h.2 c1
      refine gq_iload_n (j := 1) C dX7_farthest_14 rfl ?_
      refine gq_aload_n (j := 0) C dX7_farthest_15 rfl ?_
      refine gq_iload (j := 4) C dX7_farthest_16 rfl ?_
      refine gq_iconst (v := 0) C dX7_farthest_18 (by decide) ?_
      refine gq_aload_n (j := 0) C dX7_farthest_19 rfl ?_
      refine gq_vi (i := 0) C gms_0 rfl [] (mq_X7_smooth C.2.2.1 σ _ h) gX7_farthest_X7_smooth rfl rfl dq_X7_smooth ⟨rfl, rfl, by decide, by decide⟩ rfl rfl (Nat.le_of_ble_eq_true rfl) dX7_farthest_20 (fun r2 σ3 h => ?_)
      refine gq_iconst (v := 0) C dX7_farthest_23 (by decide) ?_
      refine gq_vi (i := 0) C gms_0 rfl [.int x4, .int 0, .int r2, .int 0] (mq_X7_costs C.2.2.1 x4 0 r2 0 σ3 _ h) gX7_farthest_X7_costs rfl rfl dq_X7_costs ⟨rfl, rfl, by decide, by decide⟩ rfl rfl (Nat.le_of_ble_eq_true rfl) dX7_farthest_24 (fun r4 σ5 h => ?_)
      refine gq_si C [.int x1, .int r4] (mq_X7_pays C.2.2.1 x1 r4 σ5 _ h) gX7_farthest_X7_pays rfl dq_X7_pays ⟨rfl, rfl, by decide, by decide⟩ rfl rfl (Nat.le_of_ble_eq_true rfl) dX7_farthest_27 (fun r6 σ7 h => ?_)
      refine gq_istore (L' := [(0, .ref (ad 0)), (1, .int x1), (2, .int x2), (3, .int x3), (4, .int x4), (5, .int r6)]) C [1, 2, 3, 4, 5, 0] dX7_farthest_30 (by decide) rfl ?_
      refine gq_iload (j := 5) C dX7_farthest_32 rfl ?_
      refine gq_iload_n (j := 3) C dX7_farthest_34 rfl ?_
      refine gq_icmp_le (tgt := 41) C dX7_farthest_35 (by decide) (fun c8 => ?_) (fun c8 => ?_)
      · have h := h.1 c8
        refine gq_aload_n (j := 0) C dX7_farthest_41 rfl ?_
        refine gq_get (v := .ref (ad 2)) (i := 0) C gms_0 rfl iq_X7_farthest_X7 3 (by decide) fq_X7_farthest_13 rfl dX7_farthest_42 ?_
        refine gq_iload (j := 4) C dX7_farthest_45 rfl ?_
        refine gq_iald (i := 2) (j := x4.toNatClampNeg) C gms_2 0 rfl rfl h.1 dX7_farthest_47 ?_
        have h := h.2
        refine gq_iconst (v := 3) C dX7_farthest_48 (by decide) ?_
        refine gq_icmp_ne (tgt := 56) C dX7_farthest_49 (by decide) (fun c9 => ?_) (fun c9 => ?_)
        · have h := h.1 c9
          refine gq_iload_n (j := 3) C dX7_farthest_56 rfl ?_
          refine gq_iload (j := 5) C dX7_farthest_57 rfl ?_
          refine gq_isub C dX7_farthest_59 ?_
          refine gq_sub [0, 1, 2, 4] rfl ?_
          exact tq_X7_farthest_b60 C (ih) _ _ _ _ _ h
        · have h := h.2 c9
          refine gq_iload_n (j := 2) C dX7_farthest_52 rfl ?_
          refine gq_goto (tgt := 60) C dX7_farthest_53 (by decide) ?_
          refine gq_sub [0, 1, 2, 4] rfl ?_
          exact tq_X7_farthest_b60 C (ih) _ _ _ _ _ h
      · have h := h.2 c8
        refine gq_iload (j := 4) C dX7_farthest_38 rfl ?_
        exact gq_iret C h dX7_farthest_40
def wq_X7_farthest (a1 : Int32) (a2 : Int32) (σ : gq_M) (Q : Int32 → gq_M → Prop) : Prop := (∃ n12, wq_X7_farthest_l5 Q (fun σ11 => Q (σ11.1 0 0) σ11) n12 a1 a2 a2 0 σ)
set_option maxRecDepth 100000 in
set_option maxHeartbeats 4000000 in
theorem tq_X7_farthest {p : Program} {l : Launch} {e : Env} {s : State} {m : MethodId} {args : Array Value} {below : List Frame} {meth : Method} {c : Code} {D : va_G} {cyI cyZ : ClassId} {ad : Nat → Nat} {Q : Int32 → gq_M → Prop} (C : gq_C p s m args meth c cX7_farthest 6 RX7 wsX7_farthest D (gm_T cyI cyZ) 17 ad (some .int)) (a1 : Int32) (a2 : Int32) (σ : gq_M) (h : wq_X7_farthest a1 a2 σ Q) : gq_G p l e rq_X7_farthest s m args below meth c (gq_Ri below args s D (gm_T cyI cyZ) 17 ad (gm_S cyI cyZ ad) Q) D 17 ad (gm_S cyI cyZ ad) 6 σ 0 [(0, .ref (ad 0)), (1, .int a1), (2, .int a2)] [] := by
  unfold wq_X7_farthest at h
  refine gq_iload_n (j := 2) C dX7_farthest_0 rfl ?_
  refine gq_istore_n (L' := [(0, .ref (ad 0)), (1, .int a1), (2, .int a2), (3, .int a2)]) C [1, 2, 3, 0] dX7_farthest_1 (by decide) rfl ?_
  refine gq_iconst (v := 0) C dX7_farthest_2 (by decide) ?_
  refine gq_istore (L' := [(0, .ref (ad 0)), (1, .int a1), (2, .int a2), (3, .int a2), (4, .int 0)]) C [1, 2, 3, 4, 0] dX7_farthest_3 (by decide) rfl ?_
  obtain ⟨n12, h⟩ := h
  refine tq_X7_farthest_l5 C (fun σ11 h => ?_) n12 _ _ _ _ _ h
  refine gq_aload_n (j := 0) C dX7_farthest_67 rfl ?_
  refine gq_get (v := .int (σ11.1 0 0)) (i := 0) C gms_0 rfl iq_X7_farthest_X7 0 (by decide) fq_X7_farthest_93 rfl dX7_farthest_68 ?_
  exact gq_iret C h dX7_farthest_71
theorem mq_X7_farthest {l : Launch} {D : va_G} {cyI cyZ : ClassId} {ad : Nat → Nat} (hap : gq_ap 17 ad) (a1 : Int32) (a2 : Int32) (σ : gq_M) (Q : Int32 → gq_M → Prop) (h : wq_X7_farthest a1 a2 σ Q) : Met l yX7_farthest wsX7_farthest rq_X7_farthest (va_Pc [.ref (ad 0), .int a1, .int a2] (gq_P D (gm_T cyI cyZ) 17 ad (gm_S cyI cyZ ad) σ)) (va_Qi Q (gq_P D (gm_T cyI cyZ) 17 ad (gm_S cyI cyZ ad)) (gq_A 17 ad)) 0 0 (gq_A 17 ad) :=
  gq_met hap (by decide) rfl rfl (Nat.le_of_ble_eq_true rfl) (fun _ _ _ _ _ _ _ C => tq_X7_farthest C a1 a2 σ h)
