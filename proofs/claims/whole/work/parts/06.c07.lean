/-! ===== walks of X6_wants, X6_shutIn, X6_meet, X6_hear, X6_unhear, X6_who, X6_howManyReach, X6_sharedPart, X6_commonDivisor, X6_fraction, X6_share, X6_gainOfPlaces (by wip/gen) ===== -/
abbrev rq_X6_wants : Room := { frames := 4, cells := 0, slots := 0, locals := 98 }
theorem dq_X6_wants : gq_dsc yX6_wants 2 := by unfold gq_dsc; decide +kernel
theorem iq_X6_wants_X6 : ∀ w ∈ u_ws RX6 TX6 13, w ∈ wsX6_wants := by decide +kernel
theorem fq_X6_wants_23 : Cond.fieldLink RX6 23 (TX6 2).1 (TX6 2).2.1 (TX6 2).2.2.1 ∈ wsX6_wants := by decide +kernel
theorem iq_X6_wants_X2 : ∀ w ∈ u_ws RX2 TX2 7, w ∈ wsX6_wants := by decide +kernel
theorem fq_X6_wants_90 : Cond.fieldLink RX6 90 (TX2 5).1 (TX2 5).2.1 (TX2 5).2.2.1 ∈ wsX6_wants := by decide +kernel
theorem fq_X6_wants_31 : Cond.fieldLink RX6 31 (TX6 3).1 (TX6 3).2.1 (TX6 3).2.2.1 ∈ wsX6_wants := by decide +kernel
theorem iq_X6_wants_X4 : ∀ w ∈ u_ws RX4 TX4 7, w ∈ wsX6_wants := by decide +kernel
theorem fq_X6_wants_109 : Cond.fieldLink RX6 109 (TX4 3).1 (TX4 3).2.1 (TX4 3).2.2.1 ∈ wsX6_wants := by decide +kernel
def wq_X6_wants_b120 (Q : Int32 → gq_M → Prop) (K68 : Int32 → Int32 → Int32 → Int32 → Int32 → gq_M → Prop) (x1 : Int32) (x2 : Int32) (x3 : Int32) (x4 : Int32) (x5 : Int32) (σ : gq_M) : Prop := ∀ v16, v16 = (x5 + 1) → K68 x1 x2 x3 x4 v16 σ
set_option maxRecDepth 100000 in
set_option maxHeartbeats 4000000 in
theorem tq_X6_wants_b120 {p : Program} {l : Launch} {e : Env} {s : State} {m : MethodId} {args : Array Value} {below : List Frame} {meth : Method} {c : Code} {D : va_G} {cyI cyZ cyS : ClassId} {ad : Nat → Nat} {Q : Int32 → gq_M → Prop} {K68 : Int32 → Int32 → Int32 → Int32 → Int32 → gq_M → Prop} (C : gq_C p s m args meth c cX6_wants 6 RX6 wsX6_wants D (gc_T cyI cyZ cyS) 84 ad (some .int)) (hK68 : ∀ (y1 : Int32) (y2 : Int32) (y3 : Int32) (y4 : Int32) (y5 : Int32) (τ : gq_M), K68 y1 y2 y3 y4 y5 τ → gq_G p l e rq_X6_wants s m args below meth c (gq_Ri below args s D (gc_T cyI cyZ cyS) 84 ad (gc_S cyI cyZ cyS ad) Q) D 84 ad (gc_S cyI cyZ cyS ad) 6 τ 68 [(0, .ref (ad 0)), (1, .int y1), (2, .int y2), (3, .int y3), (4, .int y4), (5, .int y5)] []) (x1 : Int32) (x2 : Int32) (x3 : Int32) (x4 : Int32) (x5 : Int32) (σ : gq_M) (h : wq_X6_wants_b120 Q K68 x1 x2 x3 x4 x5 σ) : gq_G p l e rq_X6_wants s m args below meth c (gq_Ri below args s D (gc_T cyI cyZ cyS) 84 ad (gc_S cyI cyZ cyS ad) Q) D 84 ad (gc_S cyI cyZ cyS ad) 6 σ 120 [(0, .ref (ad 0)), (1, .int x1), (2, .int x2), (3, .int x3), (4, .int x4), (5, .int x5)] [] := by
  unfold wq_X6_wants_b120 at h
  obtain ⟨v16, qv16⟩ : ∃ y : Int32, y = (x5 + 1) := ⟨_, rfl⟩
  have h := h v16 qv16
  refine gq_iinc (j := 5) (v := v16) (L' := [(0, .ref (ad 0)), (1, .int x1), (2, .int x2), (3, .int x3), (4, .int x4), (5, .int v16)]) C [1, 2, 3, 4, 5, 0] dX6_wants_120 rfl (by rw [qv16]; rfl) (by decide) rfl ?_
  refine gq_goto (tgt := 68) C dX6_wants_123 (by decide) ?_
  exact hK68 _ _ _ _ _ _ h
def wq_X6_wants_l68 (Q : Int32 → gq_M → Prop) (K126 : Int32 → Int32 → Int32 → Int32 → gq_M → Prop) : Nat → Int32 → Int32 → Int32 → Int32 → Int32 → gq_M → Prop
  | 0, _, _, _, _, _, _ => False
  | n + 1, x1, x2, x3, x4, x5, σ => ((x3 < x5 → K126 x1 x2 x3 x4 σ) ∧ (¬ x3 < x5 → wq_J6_bitCount_0f7a4 x5 σ (fun r13 σ14 => ((¬ r13 = x4 → wq_X6_wants_b120 Q (wq_X6_wants_l68 Q K126 n) x1 x2 x3 x4 x5 σ14) ∧ (r13 = x4 → ((¬ (x5 &&& (σ14.1 30 3)) = 0 → wq_X6_wants_b120 Q (wq_X6_wants_l68 Q K126 n) x1 x2 x3 x4 x5 σ14) ∧ ((x5 &&& (σ14.1 30 3)) = 0 → wq_X6_comesWith x1 x2 ((σ14.1 30 3) ||| x5) 0 σ14 (fun r18 σ19 => ((r18 = 0 → wq_X6_wants_b120 Q (wq_X6_wants_l68 Q K126 n) x1 x2 x3 x4 x5 σ19) ∧ (¬ r18 = 0 → Q x5 σ19))))))))))
set_option maxRecDepth 100000 in
set_option maxHeartbeats 4000000 in
theorem tq_X6_wants_l68 {p : Program} {l : Launch} {e : Env} {s : State} {m : MethodId} {args : Array Value} {below : List Frame} {meth : Method} {c : Code} {D : va_G} {cyI cyZ cyS : ClassId} {ad : Nat → Nat} {Q : Int32 → gq_M → Prop} {K126 : Int32 → Int32 → Int32 → Int32 → gq_M → Prop} (C : gq_C p s m args meth c cX6_wants 6 RX6 wsX6_wants D (gc_T cyI cyZ cyS) 84 ad (some .int)) (hK126 : ∀ (y1 : Int32) (y2 : Int32) (y3 : Int32) (y4 : Int32) (τ : gq_M), K126 y1 y2 y3 y4 τ → gq_G p l e rq_X6_wants s m args below meth c (gq_Ri below args s D (gc_T cyI cyZ cyS) 84 ad (gc_S cyI cyZ cyS ad) Q) D 84 ad (gc_S cyI cyZ cyS ad) 6 τ 126 [(0, .ref (ad 0)), (1, .int y1), (2, .int y2), (3, .int y3), (4, .int y4)] []) : ∀ (n : Nat) (x1 : Int32) (x2 : Int32) (x3 : Int32) (x4 : Int32) (x5 : Int32) (σ : gq_M), wq_X6_wants_l68 Q K126 n x1 x2 x3 x4 x5 σ → gq_G p l e rq_X6_wants s m args below meth c (gq_Ri below args s D (gc_T cyI cyZ cyS) 84 ad (gc_S cyI cyZ cyS ad) Q) D 84 ad (gc_S cyI cyZ cyS ad) 6 σ 68 [(0, .ref (ad 0)), (1, .int x1), (2, .int x2), (3, .int x3), (4, .int x4), (5, .int x5)] [] := by
  intro n
  induction n with
  | zero =>
    intro x1 x2 x3 x4 x5 σ h
    exact absurd h (fun q => q)
  | succ n ih =>
    intro x1 x2 x3 x4 x5 σ h
    unfold wq_X6_wants_l68 at h
    refine gq_iload (j := 5) C dX6_wants_68 rfl ?_
    refine gq_iload_n (j := 3) C dX6_wants_70 rfl ?_
    refine gq_icmp_gt (tgt := 126) C dX6_wants_71 (by decide) (fun c12 => ?_) (fun c12 => ?_)
    · have h := h.1 c12
      refine gq_sub [0, 1, 2, 3, 4] rfl ?_
      exact hK126 _ _ _ _ _ h
    · have h := h.2 c12
      refine gq_iload (j := 5) C dX6_wants_74 rfl ?_
      refine gq_si C [.int x5] (mq_J6_bitCount_0f7a4 C.2.2.1 x5 σ _ h) gX6_wants_J6_bitCount_0f7a4 rfl dq_J6_bitCount_0f7a4 ⟨rfl, rfl, by decide, by decide⟩ rfl rfl (Nat.le_of_ble_eq_true rfl) dX6_wants_76 (fun r13 σ14 h => ?_)
      refine gq_iload (j := 4) C dX6_wants_79 rfl ?_
      refine gq_icmp_ne (tgt := 120) C dX6_wants_81 (by decide) (fun c15 => ?_) (fun c15 => ?_)
      · have h := h.1 c15
        exact tq_X6_wants_b120 C (ih) _ _ _ _ _ _ h
      · have h := h.2 c15
        refine gq_iload (j := 5) C dX6_wants_84 rfl ?_
        refine gq_aload_n (j := 0) C dX6_wants_86 rfl ?_
        refine gq_get (v := .ref (ad 30)) (i := 0) C gcs_0 rfl iq_X6_wants_X6 3 (by decide) fq_X6_wants_31 rfl dX6_wants_87 ?_
        refine gq_get (v := .int (σ14.1 30 3)) (i := 30) C (gcs_X4 gs_30) rfl iq_X6_wants_X4 3 (by decide) fq_X6_wants_109 rfl dX6_wants_90 ?_
        refine gq_iand C dX6_wants_93 ?_
        refine gq_if_ne (tgt := 120) C dX6_wants_94 (by decide) (fun c17 => ?_) (fun c17 => ?_)
        · have h := h.1 c17
          exact tq_X6_wants_b120 C (ih) _ _ _ _ _ _ h
        · have h := h.2 c17
          refine gq_aload_n (j := 0) C dX6_wants_97 rfl ?_
          refine gq_iload_n (j := 1) C dX6_wants_98 rfl ?_
          refine gq_iload_n (j := 2) C dX6_wants_99 rfl ?_
          refine gq_aload_n (j := 0) C dX6_wants_100 rfl ?_
          refine gq_get (v := .ref (ad 30)) (i := 0) C gcs_0 rfl iq_X6_wants_X6 3 (by decide) fq_X6_wants_31 rfl dX6_wants_101 ?_
          refine gq_get (v := .int (σ14.1 30 3)) (i := 30) C (gcs_X4 gs_30) rfl iq_X6_wants_X4 3 (by decide) fq_X6_wants_109 rfl dX6_wants_104 ?_
          refine gq_iload (j := 5) C dX6_wants_107 rfl ?_
          refine gq_ior C dX6_wants_109 ?_
          refine gq_iconst (v := 0) C dX6_wants_110 (by decide) ?_
          refine gq_vi (i := 0) C gcs_0 rfl [.int x1, .int x2, .int ((σ14.1 30 3) ||| x5), .int 0] (mq_X6_comesWith C.2.2.1 x1 x2 ((σ14.1 30 3) ||| x5) 0 σ14 _ h) gX6_wants_X6_comesWith rfl rfl dq_X6_comesWith ⟨rfl, rfl, by decide, by decide⟩ rfl rfl (Nat.le_of_ble_eq_true rfl) dX6_wants_111 (fun r18 σ19 h => ?_)
          refine gq_if_eq (tgt := 120) C dX6_wants_114 (by decide) (fun c20 => ?_) (fun c20 => ?_)
          · have h := h.1 c20
            exact tq_X6_wants_b120 C (ih) _ _ _ _ _ _ h
          · have h := h.2 c20
            refine gq_iload (j := 5) C dX6_wants_117 rfl ?_
            exact gq_iret C h dX6_wants_119
def wq_X6_wants_l53 (Q : Int32 → gq_M → Prop) (K132 : gq_M → Prop) : Nat → Int32 → Int32 → Int32 → Int32 → gq_M → Prop
  | 0, _, _, _, _, _ => False
  | n + 1, x1, x2, x3, x4, σ => (((σ.1 9 5) < x4 → K132 σ) ∧ (¬ (σ.1 9 5) < x4 → (∃ n27, wq_X6_wants_l68 Q (fun e21 e22 e23 e24 σ25 => ∀ v26, v26 = (e24 + 1) → wq_X6_wants_l53 Q K132 n e21 e22 e23 v26 σ25) n27 x1 x2 x3 x4 0 σ)))
set_option maxRecDepth 100000 in
set_option maxHeartbeats 4000000 in
theorem tq_X6_wants_l53 {p : Program} {l : Launch} {e : Env} {s : State} {m : MethodId} {args : Array Value} {below : List Frame} {meth : Method} {c : Code} {D : va_G} {cyI cyZ cyS : ClassId} {ad : Nat → Nat} {Q : Int32 → gq_M → Prop} {K132 : gq_M → Prop} (C : gq_C p s m args meth c cX6_wants 6 RX6 wsX6_wants D (gc_T cyI cyZ cyS) 84 ad (some .int)) (hK132 : ∀ (τ : gq_M), K132 τ → gq_G p l e rq_X6_wants s m args below meth c (gq_Ri below args s D (gc_T cyI cyZ cyS) 84 ad (gc_S cyI cyZ cyS ad) Q) D 84 ad (gc_S cyI cyZ cyS ad) 6 τ 132 [(0, .ref (ad 0))] []) : ∀ (n : Nat) (x1 : Int32) (x2 : Int32) (x3 : Int32) (x4 : Int32) (σ : gq_M), wq_X6_wants_l53 Q K132 n x1 x2 x3 x4 σ → gq_G p l e rq_X6_wants s m args below meth c (gq_Ri below args s D (gc_T cyI cyZ cyS) 84 ad (gc_S cyI cyZ cyS ad) Q) D 84 ad (gc_S cyI cyZ cyS ad) 6 σ 53 [(0, .ref (ad 0)), (1, .int x1), (2, .int x2), (3, .int x3), (4, .int x4)] [] := by
  intro n
  induction n with
  | zero =>
    intro x1 x2 x3 x4 σ h
    exact absurd h (fun q => q)
  | succ n ih =>
    intro x1 x2 x3 x4 σ h
    unfold wq_X6_wants_l53 at h
    refine gq_iload (j := 4) C dX6_wants_53 rfl ?_
    refine gq_aload_n (j := 0) C dX6_wants_55 rfl ?_
    refine gq_get (v := .ref (ad 9)) (i := 0) C gcs_0 rfl iq_X6_wants_X6 2 (by decide) fq_X6_wants_23 rfl dX6_wants_56 ?_
    refine gq_get (v := .int (σ.1 9 5)) (i := 9) C (gcs_X2 gr_9) rfl iq_X6_wants_X2 5 (by decide) fq_X6_wants_90 rfl dX6_wants_59 ?_
    refine gq_icmp_gt (tgt := 132) C dX6_wants_62 (by decide) (fun c11 => ?_) (fun c11 => ?_)
    · have h := h.1 c11
      refine gq_sub [0] rfl ?_
      exact hK132  _ h
    · have h := h.2 c11
      refine gq_iconst (v := 0) C dX6_wants_65 (by decide) ?_
      refine gq_istore (L' := [(0, .ref (ad 0)), (1, .int x1), (2, .int x2), (3, .int x3), (4, .int x4), (5, .int 0)]) C [1, 2, 3, 4, 5, 0] dX6_wants_66 (by decide) rfl ?_
      obtain ⟨n27, h⟩ := h
      refine tq_X6_wants_l68 C (fun e21 e22 e23 e24 σ25 h => ?_) n27 _ _ _ _ _ _ h
      obtain ⟨v26, qv26⟩ : ∃ y : Int32, y = (e24 + 1) := ⟨_, rfl⟩
      have h := h v26 qv26
      refine gq_iinc (j := 4) (v := v26) (L' := [(0, .ref (ad 0)), (1, .int e21), (2, .int e22), (3, .int e23), (4, .int v26)]) C [1, 2, 3, 4, 0] dX6_wants_126 rfl (by rw [qv26]; rfl) (by decide) rfl ?_
      refine gq_goto (tgt := 53) C dX6_wants_129 (by decide) ?_
      exact ih _ _ _ _ _ h
def wq_X6_wants (a1 : Int32) (a2 : Int32) (σ : gq_M) (Q : Int32 → gq_M → Prop) : Prop := wq_X2_hasTraveller 9 a1 σ (fun r1 σ2 => ((r1 = 0 → Q (-1) σ2) ∧ (¬ r1 = 0 → wq_X2_hasPlace 9 a2 σ2 (fun r4 σ5 => ((¬ r4 = 0 → ∀ v7, v7 = (((1 : Int32) <<< ((σ5.1 9 5) &&& 31)) - 1) → wq_X6_comesWith a1 a2 v7 0 σ5 (fun r8 σ9 => ((¬ r8 = 0 → (∃ n29, wq_X6_wants_l53 Q (fun σ28 => Q (-9) σ28) n29 a1 a2 v7 0 σ9)) ∧ (r8 = 0 → Q (-9) σ9)))) ∧ (r4 = 0 → Q (-1) σ5))))))
set_option maxRecDepth 100000 in
set_option maxHeartbeats 4000000 in
theorem tq_X6_wants {p : Program} {l : Launch} {e : Env} {s : State} {m : MethodId} {args : Array Value} {below : List Frame} {meth : Method} {c : Code} {D : va_G} {cyI cyZ cyS : ClassId} {ad : Nat → Nat} {Q : Int32 → gq_M → Prop} (C : gq_C p s m args meth c cX6_wants 6 RX6 wsX6_wants D (gc_T cyI cyZ cyS) 84 ad (some .int)) (a1 : Int32) (a2 : Int32) (σ : gq_M) (h : wq_X6_wants a1 a2 σ Q) : gq_G p l e rq_X6_wants s m args below meth c (gq_Ri below args s D (gc_T cyI cyZ cyS) 84 ad (gc_S cyI cyZ cyS ad) Q) D 84 ad (gc_S cyI cyZ cyS ad) 6 σ 0 [(0, .ref (ad 0)), (1, .int a1), (2, .int a2)] [] := by
  unfold wq_X6_wants at h
  refine gq_aload_n (j := 0) C dX6_wants_0 rfl ?_
  refine gq_get (v := .ref (ad 9)) (i := 0) C gcs_0 rfl iq_X6_wants_X6 2 (by decide) fq_X6_wants_23 rfl dX6_wants_1 ?_
  refine gq_iload_n (j := 1) C dX6_wants_4 rfl ?_
  refine gq_vi (i := 9) C (gcs_X2 gr_9) rfl [.int a1] (mq_X2_hasTraveller C.2.2.1 gr_9 a1 σ _ h) gX6_wants_X2_hasTraveller rfl rfl dq_X2_hasTraveller ⟨rfl, rfl, by decide, by decide⟩ rfl rfl (Nat.le_of_ble_eq_true rfl) dX6_wants_5 (fun r1 σ2 h => ?_)
  refine gq_if_eq (tgt := 22) C dX6_wants_8 (by decide) (fun c3 => ?_) (fun c3 => ?_)
  · have h := h.1 c3
    refine gq_iconst (v := (-1)) C dX6_wants_22 (by decide) ?_
    exact gq_iret C h dX6_wants_23
  · have h := h.2 c3
    refine gq_aload_n (j := 0) C dX6_wants_11 rfl ?_
    refine gq_get (v := .ref (ad 9)) (i := 0) C gcs_0 rfl iq_X6_wants_X6 2 (by decide) fq_X6_wants_23 rfl dX6_wants_12 ?_
    refine gq_iload_n (j := 2) C dX6_wants_15 rfl ?_
    refine gq_vi (i := 9) C (gcs_X2 gr_9) rfl [.int a2] (mq_X2_hasPlace C.2.2.1 gr_9 a2 σ2 _ h) gX6_wants_X2_hasPlace rfl rfl dq_X2_hasPlace ⟨rfl, rfl, by decide, by decide⟩ rfl rfl (Nat.le_of_ble_eq_true rfl) dX6_wants_16 (fun r4 σ5 h => ?_)
    refine gq_if_ne (tgt := 24) C dX6_wants_19 (by decide) (fun c6 => ?_) (fun c6 => ?_)
    · have h := h.1 c6
      refine gq_iconst (v := 1) C dX6_wants_24 (by decide) ?_
      refine gq_aload_n (j := 0) C dX6_wants_25 rfl ?_
      refine gq_get (v := .ref (ad 9)) (i := 0) C gcs_0 rfl iq_X6_wants_X6 2 (by decide) fq_X6_wants_23 rfl dX6_wants_26 ?_
      refine gq_get (v := .int (σ5.1 9 5)) (i := 9) C (gcs_X2 gr_9) rfl iq_X6_wants_X2 5 (by decide) fq_X6_wants_90 rfl dX6_wants_29 ?_
      refine gq_ishl C dX6_wants_32 ?_
      refine gq_iconst (v := 1) C dX6_wants_33 (by decide) ?_
      refine gq_isub C dX6_wants_34 ?_
      refine gq_topi (fun v7 qv7 => ?_)
      have h := h v7 qv7
      refine gq_istore_n (L' := [(0, .ref (ad 0)), (1, .int a1), (2, .int a2), (3, .int v7)]) C [1, 2, 3, 0] dX6_wants_35 (by decide) rfl ?_
      refine gq_aload_n (j := 0) C dX6_wants_36 rfl ?_
      refine gq_iload_n (j := 1) C dX6_wants_37 rfl ?_
      refine gq_iload_n (j := 2) C dX6_wants_38 rfl ?_
      refine gq_iload_n (j := 3) C dX6_wants_39 rfl ?_
      refine gq_iconst (v := 0) C dX6_wants_40 (by decide) ?_
      refine gq_vi (i := 0) C gcs_0 rfl [.int a1, .int a2, .int v7, .int 0] (mq_X6_comesWith C.2.2.1 a1 a2 v7 0 σ5 _ h) gX6_wants_X6_comesWith rfl rfl dq_X6_comesWith ⟨rfl, rfl, by decide, by decide⟩ rfl rfl (Nat.le_of_ble_eq_true rfl) dX6_wants_41 (fun r8 σ9 h => ?_)
      refine gq_if_ne (tgt := 50) C dX6_wants_44 (by decide) (fun c10 => ?_) (fun c10 => ?_)
      · have h := h.1 c10
        refine gq_iconst (v := 0) C dX6_wants_50 (by decide) ?_
        refine gq_istore (L' := [(0, .ref (ad 0)), (1, .int a1), (2, .int a2), (3, .int v7), (4, .int 0)]) C [1, 2, 3, 4, 0] dX6_wants_51 (by decide) rfl ?_
        obtain ⟨n29, h⟩ := h
        refine tq_X6_wants_l53 C (fun σ28 h => ?_) n29 _ _ _ _ _ h
        refine gq_bipush (v := (-9)) C dX6_wants_132 (by decide) ?_
        exact gq_iret C h dX6_wants_134
      · have h := h.2 c10
        refine gq_bipush (v := (-9)) C dX6_wants_47 (by decide) ?_
        exact gq_iret C h dX6_wants_49
    · have h := h.2 c6
      refine gq_iconst (v := (-1)) C dX6_wants_22 (by decide) ?_
      exact gq_iret C h dX6_wants_23
theorem mq_X6_wants {l : Launch} {D : va_G} {cyI cyZ cyS : ClassId} {ad : Nat → Nat} (hap : gq_ap 84 ad) (a1 : Int32) (a2 : Int32) (σ : gq_M) (Q : Int32 → gq_M → Prop) (h : wq_X6_wants a1 a2 σ Q) : Met l yX6_wants wsX6_wants rq_X6_wants (va_Pc [.ref (ad 0), .int a1, .int a2] (gq_P D (gc_T cyI cyZ cyS) 84 ad (gc_S cyI cyZ cyS ad) σ)) (va_Qi Q (gq_P D (gc_T cyI cyZ cyS) 84 ad (gc_S cyI cyZ cyS ad)) (gq_A 84 ad)) 0 0 (gq_A 84 ad) :=
  gq_met hap (by decide) rfl rfl (Nat.le_of_ble_eq_true rfl) (fun _ _ _ _ _ _ _ C => tq_X6_wants C a1 a2 σ h)
abbrev rq_X6_shutIn : Room := { frames := 4, cells := 0, slots := 0, locals := 96 }
theorem dq_X6_shutIn : gq_dsc yX6_shutIn 0 := by unfold gq_dsc; decide +kernel
theorem iq_X6_shutIn_X6 : ∀ w ∈ u_ws RX6 TX6 13, w ∈ wsX6_shutIn := by decide +kernel
theorem fq_X6_shutIn_23 : Cond.fieldLink RX6 23 (TX6 2).1 (TX6 2).2.1 (TX6 2).2.2.1 ∈ wsX6_shutIn := by decide +kernel
theorem iq_X6_shutIn_X2 : ∀ w ∈ u_ws RX2 TX2 7, w ∈ wsX6_shutIn := by decide +kernel
theorem fq_X6_shutIn_93 : Cond.fieldLink RX6 93 (TX2 6).1 (TX2 6).2.1 (TX2 6).2.2.1 ∈ wsX6_shutIn := by decide +kernel
theorem fq_X6_shutIn_31 : Cond.fieldLink RX6 31 (TX6 3).1 (TX6 3).2.1 (TX6 3).2.2.1 ∈ wsX6_shutIn := by decide +kernel
theorem iq_X6_shutIn_X4 : ∀ w ∈ u_ws RX4 TX4 7, w ∈ wsX6_shutIn := by decide +kernel
theorem fq_X6_shutIn_118 : Cond.fieldLink RX6 118 (TX4 1).1 (TX4 1).2.1 (TX4 1).2.2.1 ∈ wsX6_shutIn := by decide +kernel
def wq_X6_shutIn_b44 (Q : Int32 → gq_M → Prop) (K4 : Int32 → Int32 → gq_M → Prop) (x1 : Int32) (x2 : Int32) (σ : gq_M) : Prop := ∀ v5, v5 = (x2 + 1) → K4 x1 v5 σ
set_option maxRecDepth 100000 in
set_option maxHeartbeats 4000000 in
theorem tq_X6_shutIn_b44 {p : Program} {l : Launch} {e : Env} {s : State} {m : MethodId} {args : Array Value} {below : List Frame} {meth : Method} {c : Code} {D : va_G} {cyI cyZ cyS : ClassId} {ad : Nat → Nat} {Q : Int32 → gq_M → Prop} {K4 : Int32 → Int32 → gq_M → Prop} (C : gq_C p s m args meth c cX6_shutIn 3 RX6 wsX6_shutIn D (gc_T cyI cyZ cyS) 84 ad (some .int)) (hK4 : ∀ (y1 : Int32) (y2 : Int32) (τ : gq_M), K4 y1 y2 τ → gq_G p l e rq_X6_shutIn s m args below meth c (gq_Ri below args s D (gc_T cyI cyZ cyS) 84 ad (gc_S cyI cyZ cyS ad) Q) D 84 ad (gc_S cyI cyZ cyS ad) 3 τ 4 [(0, .ref (ad 0)), (1, .int y1), (2, .int y2)] []) (x1 : Int32) (x2 : Int32) (σ : gq_M) (h : wq_X6_shutIn_b44 Q K4 x1 x2 σ) : gq_G p l e rq_X6_shutIn s m args below meth c (gq_Ri below args s D (gc_T cyI cyZ cyS) 84 ad (gc_S cyI cyZ cyS ad) Q) D 84 ad (gc_S cyI cyZ cyS ad) 3 σ 44 [(0, .ref (ad 0)), (1, .int x1), (2, .int x2)] [] := by
  unfold wq_X6_shutIn_b44 at h
  obtain ⟨v5, qv5⟩ : ∃ y : Int32, y = (x2 + 1) := ⟨_, rfl⟩
  have h := h v5 qv5
  refine gq_iinc (j := 2) (v := v5) (L' := [(0, .ref (ad 0)), (1, .int x1), (2, .int v5)]) C [1, 2, 0] dX6_shutIn_44 rfl (by rw [qv5]; rfl) (by decide) rfl ?_
  refine gq_goto (tgt := 4) C dX6_shutIn_47 (by decide) ?_
  exact hK4 _ _ _ h
def wq_X6_shutIn_l4 (Q : Int32 → gq_M → Prop) (K50 : Int32 → gq_M → Prop) : Nat → Int32 → Int32 → gq_M → Prop
  | 0, _, _, _ => False
  | n + 1, x1, x2, σ => (((σ.1 9 6) ≤ x2 → K50 x1 σ) ∧ (¬ (σ.1 9 6) ≤ x2 → wq_X6_reachIn 30 x2 σ (fun r2 σ3 => vp_in x2 5 ∧ ((¬ r2 = ((1 : Int32) <<< ((σ3.1 31 x2.toNatClampNeg) &&& 31)) → wq_X6_shutIn_b44 Q (wq_X6_shutIn_l4 Q K50 n) x1 x2 σ3) ∧ (r2 = ((1 : Int32) <<< ((σ3.1 31 x2.toNatClampNeg) &&& 31)) → ∀ v6, v6 = (x1 ||| ((1 : Int32) <<< (x2 &&& 31))) → wq_X6_shutIn_b44 Q (wq_X6_shutIn_l4 Q K50 n) v6 x2 σ3)))))
set_option maxRecDepth 100000 in
set_option maxHeartbeats 4000000 in
theorem tq_X6_shutIn_l4 {p : Program} {l : Launch} {e : Env} {s : State} {m : MethodId} {args : Array Value} {below : List Frame} {meth : Method} {c : Code} {D : va_G} {cyI cyZ cyS : ClassId} {ad : Nat → Nat} {Q : Int32 → gq_M → Prop} {K50 : Int32 → gq_M → Prop} (C : gq_C p s m args meth c cX6_shutIn 3 RX6 wsX6_shutIn D (gc_T cyI cyZ cyS) 84 ad (some .int)) (hK50 : ∀ (y1 : Int32) (τ : gq_M), K50 y1 τ → gq_G p l e rq_X6_shutIn s m args below meth c (gq_Ri below args s D (gc_T cyI cyZ cyS) 84 ad (gc_S cyI cyZ cyS ad) Q) D 84 ad (gc_S cyI cyZ cyS ad) 3 τ 50 [(0, .ref (ad 0)), (1, .int y1)] []) : ∀ (n : Nat) (x1 : Int32) (x2 : Int32) (σ : gq_M), wq_X6_shutIn_l4 Q K50 n x1 x2 σ → gq_G p l e rq_X6_shutIn s m args below meth c (gq_Ri below args s D (gc_T cyI cyZ cyS) 84 ad (gc_S cyI cyZ cyS ad) Q) D 84 ad (gc_S cyI cyZ cyS ad) 3 σ 4 [(0, .ref (ad 0)), (1, .int x1), (2, .int x2)] [] := by
  intro n
  induction n with
  | zero =>
    intro x1 x2 σ h
    exact absurd h (fun q => q)
  | succ n ih =>
    intro x1 x2 σ h
    unfold wq_X6_shutIn_l4 at h
    refine gq_iload_n (j := 2) C dX6_shutIn_4 rfl ?_
    refine gq_aload_n (j := 0) C dX6_shutIn_5 rfl ?_
    refine gq_get (v := .ref (ad 9)) (i := 0) C gcs_0 rfl iq_X6_shutIn_X6 2 (by decide) fq_X6_shutIn_23 rfl dX6_shutIn_6 ?_
    refine gq_get (v := .int (σ.1 9 6)) (i := 9) C (gcs_X2 gr_9) rfl iq_X6_shutIn_X2 6 (by decide) fq_X6_shutIn_93 rfl dX6_shutIn_9 ?_
    refine gq_icmp_ge (tgt := 50) C dX6_shutIn_12 (by decide) (fun c1 => ?_) (fun c1 => ?_)
    · have h := h.1 c1
      refine gq_sub [0, 1] rfl ?_
      exact hK50 _ _ h
    · have h := h.2 c1
      refine gq_aload_n (j := 0) C dX6_shutIn_15 rfl ?_
      refine gq_aload_n (j := 0) C dX6_shutIn_16 rfl ?_
      refine gq_get (v := .ref (ad 30)) (i := 0) C gcs_0 rfl iq_X6_shutIn_X6 3 (by decide) fq_X6_shutIn_31 rfl dX6_shutIn_17 ?_
      refine gq_iload_n (j := 2) C dX6_shutIn_20 rfl ?_
      refine gq_vi (i := 0) C gcs_0 rfl [.ref (ad 30), .int x2] (mq_X6_reachIn C.2.2.1 gs_30 x2 σ _ h) gX6_shutIn_X6_reachIn rfl rfl dq_X6_reachIn ⟨rfl, rfl, by decide, by decide⟩ rfl rfl (Nat.le_of_ble_eq_true rfl) dX6_shutIn_21 (fun r2 σ3 h => ?_)
      refine gq_iconst (v := 1) C dX6_shutIn_24 (by decide) ?_
      refine gq_aload_n (j := 0) C dX6_shutIn_25 rfl ?_
      refine gq_get (v := .ref (ad 30)) (i := 0) C gcs_0 rfl iq_X6_shutIn_X6 3 (by decide) fq_X6_shutIn_31 rfl dX6_shutIn_26 ?_
      refine gq_get (v := .ref (ad 31)) (i := 30) C (gcs_X4 gs_30) rfl iq_X6_shutIn_X4 1 (by decide) fq_X6_shutIn_118 rfl dX6_shutIn_29 ?_
      refine gq_iload_n (j := 2) C dX6_shutIn_32 rfl ?_
      refine gq_iald (i := 31) (j := x2.toNatClampNeg) C (gcs_X4_1 gs_30) 0 rfl rfl h.1 dX6_shutIn_33 ?_
      have h := h.2
      refine gq_ishl C dX6_shutIn_34 ?_
      refine gq_icmp_ne (tgt := 44) C dX6_shutIn_35 (by decide) (fun c4 => ?_) (fun c4 => ?_)
      · have h := h.1 c4
        exact tq_X6_shutIn_b44 C (ih) _ _ _ h
      · have h := h.2 c4
        refine gq_iload_n (j := 1) C dX6_shutIn_38 rfl ?_
        refine gq_iconst (v := 1) C dX6_shutIn_39 (by decide) ?_
        refine gq_iload_n (j := 2) C dX6_shutIn_40 rfl ?_
        refine gq_ishl C dX6_shutIn_41 ?_
        refine gq_ior C dX6_shutIn_42 ?_
        refine gq_topi (fun v6 qv6 => ?_)
        have h := h v6 qv6
        refine gq_istore_n (L' := [(0, .ref (ad 0)), (1, .int v6), (2, .int x2)]) C [1, 0, 2] dX6_shutIn_43 (by decide) rfl ?_
        exact tq_X6_shutIn_b44 C (ih) _ _ _ h
def wq_X6_shutIn (σ : gq_M) (Q : Int32 → gq_M → Prop) : Prop := (∃ n9, wq_X6_shutIn_l4 Q (fun e7 σ8 => Q e7 σ8) n9 0 0 σ)
set_option maxRecDepth 100000 in
set_option maxHeartbeats 4000000 in
theorem tq_X6_shutIn {p : Program} {l : Launch} {e : Env} {s : State} {m : MethodId} {args : Array Value} {below : List Frame} {meth : Method} {c : Code} {D : va_G} {cyI cyZ cyS : ClassId} {ad : Nat → Nat} {Q : Int32 → gq_M → Prop} (C : gq_C p s m args meth c cX6_shutIn 3 RX6 wsX6_shutIn D (gc_T cyI cyZ cyS) 84 ad (some .int)) (σ : gq_M) (h : wq_X6_shutIn σ Q) : gq_G p l e rq_X6_shutIn s m args below meth c (gq_Ri below args s D (gc_T cyI cyZ cyS) 84 ad (gc_S cyI cyZ cyS ad) Q) D 84 ad (gc_S cyI cyZ cyS ad) 3 σ 0 [(0, .ref (ad 0))] [] := by
  unfold wq_X6_shutIn at h
  refine gq_iconst (v := 0) C dX6_shutIn_0 (by decide) ?_
  refine gq_istore_n (L' := [(0, .ref (ad 0)), (1, .int 0)]) C [1, 0] dX6_shutIn_1 (by decide) rfl ?_
  refine gq_iconst (v := 0) C dX6_shutIn_2 (by decide) ?_
  refine gq_istore_n (L' := [(0, .ref (ad 0)), (1, .int 0), (2, .int 0)]) C [1, 2, 0] dX6_shutIn_3 (by decide) rfl ?_
  obtain ⟨n9, h⟩ := h
  refine tq_X6_shutIn_l4 C (fun e7 σ8 h => ?_) n9 _ _ _ h
  refine gq_iload_n (j := 1) C dX6_shutIn_50 rfl ?_
  exact gq_iret C h dX6_shutIn_51
theorem mq_X6_shutIn {l : Launch} {D : va_G} {cyI cyZ cyS : ClassId} {ad : Nat → Nat} (hap : gq_ap 84 ad) (σ : gq_M) (Q : Int32 → gq_M → Prop) (h : wq_X6_shutIn σ Q) : Met l yX6_shutIn wsX6_shutIn rq_X6_shutIn (va_Pc [.ref (ad 0)] (gq_P D (gc_T cyI cyZ cyS) 84 ad (gc_S cyI cyZ cyS ad) σ)) (va_Qi Q (gq_P D (gc_T cyI cyZ cyS) 84 ad (gc_S cyI cyZ cyS ad)) (gq_A 84 ad)) 0 0 (gq_A 84 ad) :=
  gq_met hap (by decide) rfl rfl (Nat.le_of_ble_eq_true rfl) (fun _ _ _ _ _ _ _ C => tq_X6_shutIn C σ h)
abbrev rq_X6_meet : Room := { frames := 4, cells := 0, slots := 0, locals := 96 }
theorem dq_X6_meet : gq_dsc yX6_meet 2 := by unfold gq_dsc; decide +kernel
theorem iq_X6_meet_X6 : ∀ w ∈ u_ws RX6 TX6 13, w ∈ wsX6_meet := by decide +kernel
theorem fq_X6_meet_23 : Cond.fieldLink RX6 23 (TX6 2).1 (TX6 2).2.1 (TX6 2).2.2.1 ∈ wsX6_meet := by decide +kernel
theorem fq_X6_meet_31 : Cond.fieldLink RX6 31 (TX6 3).1 (TX6 3).2.1 (TX6 3).2.2.1 ∈ wsX6_meet := by decide +kernel
def wq_X6_meet (a1 : Int32) (a2 : Int32) (σ : gq_M) (Q : Int32 → gq_M → Prop) : Prop := wq_X2_hasTraveller 9 a1 σ (fun r1 σ2 => ((r1 = 0 → Q (-1) σ2) ∧ (¬ r1 = 0 → wq_X2_hasTraveller 9 a2 σ2 (fun r4 σ5 => ((¬ r4 = 0 → wq_X6_reachIn 30 a1 σ5 (fun r7 σ8 => wq_X6_reachIn 30 a2 σ8 (fun r9 σ10 => Q (r7 &&& r9) σ10))) ∧ (r4 = 0 → Q (-1) σ5))))))
set_option maxRecDepth 100000 in
set_option maxHeartbeats 4000000 in
theorem tq_X6_meet {p : Program} {l : Launch} {e : Env} {s : State} {m : MethodId} {args : Array Value} {below : List Frame} {meth : Method} {c : Code} {D : va_G} {cyI cyZ cyS : ClassId} {ad : Nat → Nat} {Q : Int32 → gq_M → Prop} (C : gq_C p s m args meth c cX6_meet 3 RX6 wsX6_meet D (gc_T cyI cyZ cyS) 84 ad (some .int)) (a1 : Int32) (a2 : Int32) (σ : gq_M) (h : wq_X6_meet a1 a2 σ Q) : gq_G p l e rq_X6_meet s m args below meth c (gq_Ri below args s D (gc_T cyI cyZ cyS) 84 ad (gc_S cyI cyZ cyS ad) Q) D 84 ad (gc_S cyI cyZ cyS ad) 3 σ 0 [(0, .ref (ad 0)), (1, .int a1), (2, .int a2)] [] := by
  unfold wq_X6_meet at h
  refine gq_aload_n (j := 0) C dX6_meet_0 rfl ?_
  refine gq_get (v := .ref (ad 9)) (i := 0) C gcs_0 rfl iq_X6_meet_X6 2 (by decide) fq_X6_meet_23 rfl dX6_meet_1 ?_
  refine gq_iload_n (j := 1) C dX6_meet_4 rfl ?_
  refine gq_vi (i := 9) C (gcs_X2 gr_9) rfl [.int a1] (mq_X2_hasTraveller C.2.2.1 gr_9 a1 σ _ h) gX6_meet_X2_hasTraveller rfl rfl dq_X2_hasTraveller ⟨rfl, rfl, by decide, by decide⟩ rfl rfl (Nat.le_of_ble_eq_true rfl) dX6_meet_5 (fun r1 σ2 h => ?_)
  refine gq_if_eq (tgt := 22) C dX6_meet_8 (by decide) (fun c3 => ?_) (fun c3 => ?_)
  · have h := h.1 c3
    refine gq_iconst (v := (-1)) C dX6_meet_22 (by decide) ?_
    exact gq_iret C h dX6_meet_23
  · have h := h.2 c3
    refine gq_aload_n (j := 0) C dX6_meet_11 rfl ?_
    refine gq_get (v := .ref (ad 9)) (i := 0) C gcs_0 rfl iq_X6_meet_X6 2 (by decide) fq_X6_meet_23 rfl dX6_meet_12 ?_
    refine gq_iload_n (j := 2) C dX6_meet_15 rfl ?_
    refine gq_vi (i := 9) C (gcs_X2 gr_9) rfl [.int a2] (mq_X2_hasTraveller C.2.2.1 gr_9 a2 σ2 _ h) gX6_meet_X2_hasTraveller rfl rfl dq_X2_hasTraveller ⟨rfl, rfl, by decide, by decide⟩ rfl rfl (Nat.le_of_ble_eq_true rfl) dX6_meet_16 (fun r4 σ5 h => ?_)
    refine gq_if_ne (tgt := 24) C dX6_meet_19 (by decide) (fun c6 => ?_) (fun c6 => ?_)
    · have h := h.1 c6
      refine gq_aload_n (j := 0) C dX6_meet_24 rfl ?_
      refine gq_aload_n (j := 0) C dX6_meet_25 rfl ?_
      refine gq_get (v := .ref (ad 30)) (i := 0) C gcs_0 rfl iq_X6_meet_X6 3 (by decide) fq_X6_meet_31 rfl dX6_meet_26 ?_
      refine gq_iload_n (j := 1) C dX6_meet_29 rfl ?_
      refine gq_vi (i := 0) C gcs_0 rfl [.ref (ad 30), .int a1] (mq_X6_reachIn C.2.2.1 gs_30 a1 σ5 _ h) gX6_meet_X6_reachIn rfl rfl dq_X6_reachIn ⟨rfl, rfl, by decide, by decide⟩ rfl rfl (Nat.le_of_ble_eq_true rfl) dX6_meet_30 (fun r7 σ8 h => ?_)
      refine gq_aload_n (j := 0) C dX6_meet_33 rfl ?_
      refine gq_aload_n (j := 0) C dX6_meet_34 rfl ?_
      refine gq_get (v := .ref (ad 30)) (i := 0) C gcs_0 rfl iq_X6_meet_X6 3 (by decide) fq_X6_meet_31 rfl dX6_meet_35 ?_
      refine gq_iload_n (j := 2) C dX6_meet_38 rfl ?_
      refine gq_vi (i := 0) C gcs_0 rfl [.ref (ad 30), .int a2] (mq_X6_reachIn C.2.2.1 gs_30 a2 σ8 _ h) gX6_meet_X6_reachIn rfl rfl dq_X6_reachIn ⟨rfl, rfl, by decide, by decide⟩ rfl rfl (Nat.le_of_ble_eq_true rfl) dX6_meet_39 (fun r9 σ10 h => ?_)
      refine gq_iand C dX6_meet_42 ?_
      exact gq_iret C h dX6_meet_43
    · have h := h.2 c6
      refine gq_iconst (v := (-1)) C dX6_meet_22 (by decide) ?_
      exact gq_iret C h dX6_meet_23
theorem mq_X6_meet {l : Launch} {D : va_G} {cyI cyZ cyS : ClassId} {ad : Nat → Nat} (hap : gq_ap 84 ad) (a1 : Int32) (a2 : Int32) (σ : gq_M) (Q : Int32 → gq_M → Prop) (h : wq_X6_meet a1 a2 σ Q) : Met l yX6_meet wsX6_meet rq_X6_meet (va_Pc [.ref (ad 0), .int a1, .int a2] (gq_P D (gc_T cyI cyZ cyS) 84 ad (gc_S cyI cyZ cyS ad) σ)) (va_Qi Q (gq_P D (gc_T cyI cyZ cyS) 84 ad (gc_S cyI cyZ cyS ad)) (gq_A 84 ad)) 0 0 (gq_A 84 ad) :=
  gq_met hap (by decide) rfl rfl (Nat.le_of_ble_eq_true rfl) (fun _ _ _ _ _ _ _ C => tq_X6_meet C a1 a2 σ h)
abbrev rq_X6_hear : Room := { frames := 1, cells := 0, slots := 0, locals := 22 }
theorem dq_X6_hear : gq_dsc yX6_hear 2 := by unfold gq_dsc; decide +kernel
theorem iq_X6_hear_X6 : ∀ w ∈ u_ws RX6 TX6 13, w ∈ wsX6_hear := by decide +kernel
theorem fq_X6_hear_63 : Cond.fieldLink RX6 63 (TX6 9).1 (TX6 9).2.1 (TX6 9).2.2.1 ∈ wsX6_hear := by decide +kernel
def wq_X6_hear_b37 (Q : Int32 → gq_M → Prop) (s1 : Int32) (s2 : Int32) (σ : gq_M) : Prop := wq_X1_append s1 s2 σ (fun r6 σ7 => Q r6 σ7)
set_option maxRecDepth 100000 in
set_option maxHeartbeats 4000000 in
theorem tq_X6_hear_b37 {p : Program} {l : Launch} {e : Env} {s : State} {m : MethodId} {args : Array Value} {below : List Frame} {meth : Method} {c : Code} {D : va_G} {cyI cyZ cyS : ClassId} {ad : Nat → Nat} {Q : Int32 → gq_M → Prop} (C : gq_C p s m args meth c cX6_hear 3 RX6 wsX6_hear D (gc_T cyI cyZ cyS) 84 ad (some .int)) (s1 : Int32) (s2 : Int32) (σ : gq_M) (h : wq_X6_hear_b37 Q s1 s2 σ) : gq_G p l e rq_X6_hear s m args below meth c (gq_Ri below args s D (gc_T cyI cyZ cyS) 84 ad (gc_S cyI cyZ cyS ad) Q) D 84 ad (gc_S cyI cyZ cyS ad) 3 σ 37 [(0, .ref (ad 0))] [.int s2, .int s1, .ref (ad 15)] := by
  unfold wq_X6_hear_b37 at h
  refine gq_vi (i := 15) C gcs_15 rfl [.int s1, .int s2] (mq_X1_append C.2.2.1 s1 s2 σ _ h) gX6_hear_X1_append rfl rfl dq_X1_append ⟨rfl, rfl, by decide, by decide⟩ rfl rfl (Nat.le_of_ble_eq_true rfl) dX6_hear_37 (fun r6 σ7 h => ?_)
  exact gq_iret C h dX6_hear_40
def wq_X6_hear (a1 : Int32) (a2 : Int32) (σ : gq_M) (Q : Int32 → gq_M → Prop) : Prop := ((a1 < 0 → Q (-2) σ) ∧ (¬ a1 < 0 → ((10 < a1 → Q (-2) σ) ∧ (¬ 10 < a1 → ((a2 < 0 → Q (-2) σ) ∧ (¬ a2 < 0 → ((a2 ≤ 1 → ((¬ a2 = 1 → wq_X6_hear_b37 Q a1 0 σ) ∧ (a2 = 1 → wq_X6_hear_b37 Q a1 1 σ))) ∧ (¬ a2 ≤ 1 → Q (-2) σ))))))))
set_option maxRecDepth 100000 in
set_option maxHeartbeats 4000000 in
theorem tq_X6_hear {p : Program} {l : Launch} {e : Env} {s : State} {m : MethodId} {args : Array Value} {below : List Frame} {meth : Method} {c : Code} {D : va_G} {cyI cyZ cyS : ClassId} {ad : Nat → Nat} {Q : Int32 → gq_M → Prop} (C : gq_C p s m args meth c cX6_hear 3 RX6 wsX6_hear D (gc_T cyI cyZ cyS) 84 ad (some .int)) (a1 : Int32) (a2 : Int32) (σ : gq_M) (h : wq_X6_hear a1 a2 σ Q) : gq_G p l e rq_X6_hear s m args below meth c (gq_Ri below args s D (gc_T cyI cyZ cyS) 84 ad (gc_S cyI cyZ cyS ad) Q) D 84 ad (gc_S cyI cyZ cyS ad) 3 σ 0 [(0, .ref (ad 0)), (1, .int a1), (2, .int a2)] [] := by
  unfold wq_X6_hear at h
  refine gq_iload_n (j := 1) C dX6_hear_0 rfl ?_
  refine gq_if_lt (tgt := 19) C dX6_hear_1 (by decide) (fun c1 => ?_) (fun c1 => ?_)
  · have h := h.1 c1
    refine gq_bipush (v := (-2)) C dX6_hear_19 (by decide) ?_
    exact gq_iret C h dX6_hear_21
  · have h := h.2 c1
    refine gq_iload_n (j := 1) C dX6_hear_4 rfl ?_
    refine gq_bipush (v := 10) C dX6_hear_5 (by decide) ?_
    refine gq_icmp_gt (tgt := 19) C dX6_hear_7 (by decide) (fun c2 => ?_) (fun c2 => ?_)
    · have h := h.1 c2
      refine gq_bipush (v := (-2)) C dX6_hear_19 (by decide) ?_
      exact gq_iret C h dX6_hear_21
    · have h := h.2 c2
      refine gq_iload_n (j := 2) C dX6_hear_10 rfl ?_
      refine gq_if_lt (tgt := 19) C dX6_hear_11 (by decide) (fun c3 => ?_) (fun c3 => ?_)
      · have h := h.1 c3
        refine gq_bipush (v := (-2)) C dX6_hear_19 (by decide) ?_
        exact gq_iret C h dX6_hear_21
      · have h := h.2 c3
        refine gq_iload_n (j := 2) C dX6_hear_14 rfl ?_
        refine gq_iconst (v := 1) C dX6_hear_15 (by decide) ?_
        refine gq_icmp_le (tgt := 22) C dX6_hear_16 (by decide) (fun c4 => ?_) (fun c4 => ?_)
        · have h := h.1 c4
          refine gq_aload_n (j := 0) C dX6_hear_22 rfl ?_
          refine gq_get (v := .ref (ad 15)) (i := 0) C gcs_0 rfl iq_X6_hear_X6 9 (by decide) fq_X6_hear_63 rfl dX6_hear_23 ?_
          refine gq_iload_n (j := 1) C dX6_hear_26 rfl ?_
          refine gq_iload_n (j := 2) C dX6_hear_27 rfl ?_
          refine gq_iconst (v := 1) C dX6_hear_28 (by decide) ?_
          refine gq_icmp_ne (tgt := 36) C dX6_hear_29 (by decide) (fun c5 => ?_) (fun c5 => ?_)
          · have h := h.1 c5
            refine gq_iconst (v := 0) C dX6_hear_36 (by decide) ?_
            refine gq_sub [0] rfl ?_
            exact tq_X6_hear_b37 C _ _ _ h
          · have h := h.2 c5
            refine gq_iconst (v := 1) C dX6_hear_32 (by decide) ?_
            refine gq_goto (tgt := 37) C dX6_hear_33 (by decide) ?_
            refine gq_sub [0] rfl ?_
            exact tq_X6_hear_b37 C _ _ _ h
        · have h := h.2 c4
          refine gq_bipush (v := (-2)) C dX6_hear_19 (by decide) ?_
          exact gq_iret C h dX6_hear_21
theorem mq_X6_hear {l : Launch} {D : va_G} {cyI cyZ cyS : ClassId} {ad : Nat → Nat} (hap : gq_ap 84 ad) (a1 : Int32) (a2 : Int32) (σ : gq_M) (Q : Int32 → gq_M → Prop) (h : wq_X6_hear a1 a2 σ Q) : Met l yX6_hear wsX6_hear rq_X6_hear (va_Pc [.ref (ad 0), .int a1, .int a2] (gq_P D (gc_T cyI cyZ cyS) 84 ad (gc_S cyI cyZ cyS ad) σ)) (va_Qi Q (gq_P D (gc_T cyI cyZ cyS) 84 ad (gc_S cyI cyZ cyS ad)) (gq_A 84 ad)) 0 0 (gq_A 84 ad) :=
  gq_met hap (by decide) rfl rfl (Nat.le_of_ble_eq_true rfl) (fun _ _ _ _ _ _ _ C => tq_X6_hear C a1 a2 σ h)
abbrev rq_X6_unhear : Room := { frames := 0, cells := 0, slots := 0, locals := 0 }
theorem dq_X6_unhear : gq_dsc yX6_unhear 0 := by unfold gq_dsc; decide +kernel
theorem iq_X6_unhear_X6 : ∀ w ∈ u_ws RX6 TX6 13, w ∈ wsX6_unhear := by decide +kernel
theorem fq_X6_unhear_63 : Cond.fieldLink RX6 63 (TX6 9).1 (TX6 9).2.1 (TX6 9).2.2.1 ∈ wsX6_unhear := by decide +kernel
theorem iq_X6_unhear_X1 : ∀ w ∈ u_ws RX1 TX1 4, w ∈ wsX6_unhear := by decide +kernel
theorem fq_X6_unhear_204 : Cond.fieldLink RX6 204 (TX1 3).1 (TX1 3).2.1 (TX1 3).2.2.1 ∈ wsX6_unhear := by decide +kernel
def wq_X6_unhear (σ : gq_M) (Q : Int32 → gq_M → Prop) : Prop := ∀ v1, v1 = (σ.1 15 3) → Q v1 (gq_put σ 15 3 0)
set_option maxRecDepth 100000 in
set_option maxHeartbeats 4000000 in
theorem tq_X6_unhear {p : Program} {l : Launch} {e : Env} {s : State} {m : MethodId} {args : Array Value} {below : List Frame} {meth : Method} {c : Code} {D : va_G} {cyI cyZ cyS : ClassId} {ad : Nat → Nat} {Q : Int32 → gq_M → Prop} (C : gq_C p s m args meth c cX6_unhear 2 RX6 wsX6_unhear D (gc_T cyI cyZ cyS) 84 ad (some .int)) (σ : gq_M) (h : wq_X6_unhear σ Q) : gq_G p l e rq_X6_unhear s m args below meth c (gq_Ri below args s D (gc_T cyI cyZ cyS) 84 ad (gc_S cyI cyZ cyS ad) Q) D 84 ad (gc_S cyI cyZ cyS ad) 2 σ 0 [(0, .ref (ad 0))] [] := by
  unfold wq_X6_unhear at h
  refine gq_aload_n (j := 0) C dX6_unhear_0 rfl ?_
  refine gq_get (v := .ref (ad 15)) (i := 0) C gcs_0 rfl iq_X6_unhear_X6 9 (by decide) fq_X6_unhear_63 rfl dX6_unhear_1 ?_
  refine gq_get (v := .int (σ.1 15 3)) (i := 15) C gcs_15 rfl iq_X6_unhear_X1 3 (by decide) fq_X6_unhear_204 rfl dX6_unhear_4 ?_
  refine gq_topi (fun v1 qv1 => ?_)
  have h := h v1 qv1
  refine gq_istore_n (L' := [(0, .ref (ad 0)), (1, .int v1)]) C [1, 0] dX6_unhear_7 (by decide) rfl ?_
  refine gq_aload_n (j := 0) C dX6_unhear_8 rfl ?_
  refine gq_get (v := .ref (ad 15)) (i := 0) C gcs_0 rfl iq_X6_unhear_X6 9 (by decide) fq_X6_unhear_63 rfl dX6_unhear_9 ?_
  refine gq_iconst (v := 0) C dX6_unhear_12 (by decide) ?_
  refine gq_puti (i := 15) C gcs_15 rfl iq_X6_unhear_X1 tyX1 tyX1_ok nmX1 3 (by decide) fq_X6_unhear_204 rfl rfl rfl (fun _ _ => Nat.le_of_ble_eq_true rfl) gs_X1_3 dX6_unhear_13 ?_
  refine gq_iload_n (j := 1) C dX6_unhear_16 rfl ?_
  exact gq_iret C h dX6_unhear_17
theorem mq_X6_unhear {l : Launch} {D : va_G} {cyI cyZ cyS : ClassId} {ad : Nat → Nat} (hap : gq_ap 84 ad) (σ : gq_M) (Q : Int32 → gq_M → Prop) (h : wq_X6_unhear σ Q) : Met l yX6_unhear wsX6_unhear rq_X6_unhear (va_Pc [.ref (ad 0)] (gq_P D (gc_T cyI cyZ cyS) 84 ad (gc_S cyI cyZ cyS ad) σ)) (va_Qi Q (gq_P D (gc_T cyI cyZ cyS) 84 ad (gc_S cyI cyZ cyS ad)) (gq_A 84 ad)) 0 0 (gq_A 84 ad) :=
  gq_met hap (by decide) rfl rfl (Nat.le_of_ble_eq_true rfl) (fun _ _ _ _ _ _ _ C => tq_X6_unhear C σ h)
abbrev rq_X6_who : Room := { frames := 4, cells := 0, slots := 0, locals := 98 }
theorem dq_X6_who : gq_dsc yX6_who 1 := by unfold gq_dsc; decide +kernel
theorem iq_X6_who_X6 : ∀ w ∈ u_ws RX6 TX6 13, w ∈ wsX6_who := by decide +kernel
theorem fq_X6_who_63 : Cond.fieldLink RX6 63 (TX6 9).1 (TX6 9).2.1 (TX6 9).2.2.1 ∈ wsX6_who := by decide +kernel
def wq_X6_who (a1 : Int32) (σ : gq_M) (Q : Int32 → gq_M → Prop) : Prop := ((¬ a1 = 0 → ((¬ a1 = 1 → Q (-2) σ) ∧ (a1 = 1 → wq_X1_firstOne σ (fun r3 σ4 => Q r3 σ4)))) ∧ (a1 = 0 → wq_X1_howMany σ (fun r5 σ6 => Q r5 σ6)))
set_option maxRecDepth 100000 in
set_option maxHeartbeats 4000000 in
theorem tq_X6_who {p : Program} {l : Launch} {e : Env} {s : State} {m : MethodId} {args : Array Value} {below : List Frame} {meth : Method} {c : Code} {D : va_G} {cyI cyZ cyS : ClassId} {ad : Nat → Nat} {Q : Int32 → gq_M → Prop} (C : gq_C p s m args meth c cX6_who 2 RX6 wsX6_who D (gc_T cyI cyZ cyS) 84 ad (some .int)) (a1 : Int32) (σ : gq_M) (h : wq_X6_who a1 σ Q) : gq_G p l e rq_X6_who s m args below meth c (gq_Ri below args s D (gc_T cyI cyZ cyS) 84 ad (gc_S cyI cyZ cyS ad) Q) D 84 ad (gc_S cyI cyZ cyS ad) 2 σ 0 [(0, .ref (ad 0)), (1, .int a1)] [] := by
  unfold wq_X6_who at h
  refine gq_iload_n (j := 1) C dX6_who_0 rfl ?_
  refine gq_if_ne (tgt := 12) C dX6_who_1 (by decide) (fun c1 => ?_) (fun c1 => ?_)
  · have h := h.1 c1
    refine gq_iload_n (j := 1) C dX6_who_12 rfl ?_
    refine gq_iconst (v := 1) C dX6_who_13 (by decide) ?_
    refine gq_icmp_ne (tgt := 27) C dX6_who_14 (by decide) (fun c2 => ?_) (fun c2 => ?_)
    · have h := h.1 c2
      refine gq_bipush (v := (-2)) C dX6_who_27 (by decide) ?_
      exact gq_iret C h dX6_who_29
    · have h := h.2 c2
      refine gq_aload_n (j := 0) C dX6_who_17 rfl ?_
      refine gq_get (v := .ref (ad 15)) (i := 0) C gcs_0 rfl iq_X6_who_X6 9 (by decide) fq_X6_who_63 rfl dX6_who_18 ?_
      refine gq_vi (i := 15) C gcs_15 rfl [] (mq_X1_firstOne C.2.2.1 σ _ h) gX6_who_X1_firstOne rfl rfl dq_X1_firstOne ⟨rfl, rfl, by decide, by decide⟩ rfl rfl (Nat.le_of_ble_eq_true rfl) dX6_who_21 (fun r3 σ4 h => ?_)
      refine gq_goto (tgt := 29) C dX6_who_24 (by decide) ?_
      exact gq_iret C h dX6_who_29
  · have h := h.2 c1
    refine gq_aload_n (j := 0) C dX6_who_4 rfl ?_
    refine gq_get (v := .ref (ad 15)) (i := 0) C gcs_0 rfl iq_X6_who_X6 9 (by decide) fq_X6_who_63 rfl dX6_who_5 ?_
    refine gq_vi (i := 15) C gcs_15 rfl [] (mq_X1_howMany C.2.2.1 σ _ h) gX6_who_X1_howMany rfl rfl dq_X1_howMany ⟨rfl, rfl, by decide, by decide⟩ rfl rfl (Nat.le_of_ble_eq_true rfl) dX6_who_8 (fun r5 σ6 h => ?_)
    exact gq_iret C h dX6_who_11
theorem mq_X6_who {l : Launch} {D : va_G} {cyI cyZ cyS : ClassId} {ad : Nat → Nat} (hap : gq_ap 84 ad) (a1 : Int32) (σ : gq_M) (Q : Int32 → gq_M → Prop) (h : wq_X6_who a1 σ Q) : Met l yX6_who wsX6_who rq_X6_who (va_Pc [.ref (ad 0), .int a1] (gq_P D (gc_T cyI cyZ cyS) 84 ad (gc_S cyI cyZ cyS ad) σ)) (va_Qi Q (gq_P D (gc_T cyI cyZ cyS) 84 ad (gc_S cyI cyZ cyS ad)) (gq_A 84 ad)) 0 0 (gq_A 84 ad) :=
  gq_met hap (by decide) rfl rfl (Nat.le_of_ble_eq_true rfl) (fun _ _ _ _ _ _ _ C => tq_X6_who C a1 σ h)
abbrev rq_X6_howManyReach : Room := { frames := 4, cells := 0, slots := 0, locals := 96 }
theorem dq_X6_howManyReach : gq_dsc yX6_howManyReach 1 := by unfold gq_dsc; decide +kernel
theorem iq_X6_howManyReach_X6 : ∀ w ∈ u_ws RX6 TX6 13, w ∈ wsX6_howManyReach := by decide +kernel
theorem fq_X6_howManyReach_23 : Cond.fieldLink RX6 23 (TX6 2).1 (TX6 2).2.1 (TX6 2).2.2.1 ∈ wsX6_howManyReach := by decide +kernel
theorem iq_X6_howManyReach_X2 : ∀ w ∈ u_ws RX2 TX2 7, w ∈ wsX6_howManyReach := by decide +kernel
theorem fq_X6_howManyReach_93 : Cond.fieldLink RX6 93 (TX2 6).1 (TX2 6).2.1 (TX2 6).2.2.1 ∈ wsX6_howManyReach := by decide +kernel
theorem fq_X6_howManyReach_31 : Cond.fieldLink RX6 31 (TX6 3).1 (TX6 3).2.1 (TX6 3).2.2.1 ∈ wsX6_howManyReach := by decide +kernel
def wq_X6_howManyReach_l4 (Q : Int32 → gq_M → Prop) (K37 : Int32 → gq_M → Prop) : Nat → Int32 → Int32 → Int32 → gq_M → Prop
  | 0, _, _, _, _ => False
  | n + 1, x1, x2, x3, σ => (((σ.1 9 6) ≤ x3 → K37 x2 σ) ∧ (¬ (σ.1 9 6) ≤ x3 → wq_X6_reachIn 30 x3 σ (fun r2 σ3 => ∀ v4, v4 = (x2 + ((r2 >>> (x1 &&& 31)) &&& 1)) → ∀ v5, v5 = (x3 + 1) → wq_X6_howManyReach_l4 Q K37 n x1 v4 v5 σ3)))
set_option maxRecDepth 100000 in
set_option maxHeartbeats 4000000 in
theorem tq_X6_howManyReach_l4 {p : Program} {l : Launch} {e : Env} {s : State} {m : MethodId} {args : Array Value} {below : List Frame} {meth : Method} {c : Code} {D : va_G} {cyI cyZ cyS : ClassId} {ad : Nat → Nat} {Q : Int32 → gq_M → Prop} {K37 : Int32 → gq_M → Prop} (C : gq_C p s m args meth c cX6_howManyReach 4 RX6 wsX6_howManyReach D (gc_T cyI cyZ cyS) 84 ad (some .int)) (hK37 : ∀ (y2 : Int32) (τ : gq_M), K37 y2 τ → gq_G p l e rq_X6_howManyReach s m args below meth c (gq_Ri below args s D (gc_T cyI cyZ cyS) 84 ad (gc_S cyI cyZ cyS ad) Q) D 84 ad (gc_S cyI cyZ cyS ad) 4 τ 37 [(0, .ref (ad 0)), (2, .int y2)] []) : ∀ (n : Nat) (x1 : Int32) (x2 : Int32) (x3 : Int32) (σ : gq_M), wq_X6_howManyReach_l4 Q K37 n x1 x2 x3 σ → gq_G p l e rq_X6_howManyReach s m args below meth c (gq_Ri below args s D (gc_T cyI cyZ cyS) 84 ad (gc_S cyI cyZ cyS ad) Q) D 84 ad (gc_S cyI cyZ cyS ad) 4 σ 4 [(0, .ref (ad 0)), (1, .int x1), (2, .int x2), (3, .int x3)] [] := by
  intro n
  induction n with
  | zero =>
    intro x1 x2 x3 σ h
    exact absurd h (fun q => q)
  | succ n ih =>
    intro x1 x2 x3 σ h
    unfold wq_X6_howManyReach_l4 at h
    refine gq_iload_n (j := 3) C dX6_howManyReach_4 rfl ?_
    refine gq_aload_n (j := 0) C dX6_howManyReach_5 rfl ?_
    refine gq_get (v := .ref (ad 9)) (i := 0) C gcs_0 rfl iq_X6_howManyReach_X6 2 (by decide) fq_X6_howManyReach_23 rfl dX6_howManyReach_6 ?_
    refine gq_get (v := .int (σ.1 9 6)) (i := 9) C (gcs_X2 gr_9) rfl iq_X6_howManyReach_X2 6 (by decide) fq_X6_howManyReach_93 rfl dX6_howManyReach_9 ?_
    refine gq_icmp_ge (tgt := 37) C dX6_howManyReach_12 (by decide) (fun c1 => ?_) (fun c1 => ?_)
    · have h := h.1 c1
      refine gq_sub [0, 2] rfl ?_
      exact hK37 _ _ h
    · have h := h.2 c1
      refine gq_iload_n (j := 2) C dX6_howManyReach_15 rfl ?_
      refine gq_aload_n (j := 0) C dX6_howManyReach_16 rfl ?_
      refine gq_aload_n (j := 0) C dX6_howManyReach_17 rfl ?_
      refine gq_get (v := .ref (ad 30)) (i := 0) C gcs_0 rfl iq_X6_howManyReach_X6 3 (by decide) fq_X6_howManyReach_31 rfl dX6_howManyReach_18 ?_
      refine gq_iload_n (j := 3) C dX6_howManyReach_21 rfl ?_
      refine gq_vi (i := 0) C gcs_0 rfl [.ref (ad 30), .int x3] (mq_X6_reachIn C.2.2.1 gs_30 x3 σ _ h) gX6_howManyReach_X6_reachIn rfl rfl dq_X6_reachIn ⟨rfl, rfl, by decide, by decide⟩ rfl rfl (Nat.le_of_ble_eq_true rfl) dX6_howManyReach_22 (fun r2 σ3 h => ?_)
      refine gq_iload_n (j := 1) C dX6_howManyReach_25 rfl ?_
      refine gq_ishr C dX6_howManyReach_26 ?_
      refine gq_iconst (v := 1) C dX6_howManyReach_27 (by decide) ?_
      refine gq_iand C dX6_howManyReach_28 ?_
      refine gq_iadd C dX6_howManyReach_29 ?_
      refine gq_topi (fun v4 qv4 => ?_)
      have h := h v4 qv4
      refine gq_istore_n (L' := [(0, .ref (ad 0)), (1, .int x1), (2, .int v4), (3, .int x3)]) C [1, 2, 0, 3] dX6_howManyReach_30 (by decide) rfl ?_
      obtain ⟨v5, qv5⟩ : ∃ y : Int32, y = (x3 + 1) := ⟨_, rfl⟩
      have h := h v5 qv5
      refine gq_iinc (j := 3) (v := v5) (L' := [(0, .ref (ad 0)), (1, .int x1), (2, .int v4), (3, .int v5)]) C [1, 2, 3, 0] dX6_howManyReach_31 rfl (by rw [qv5]; rfl) (by decide) rfl ?_
      refine gq_goto (tgt := 4) C dX6_howManyReach_34 (by decide) ?_
      exact ih _ _ _ _ h
def wq_X6_howManyReach (a1 : Int32) (σ : gq_M) (Q : Int32 → gq_M → Prop) : Prop := (∃ n8, wq_X6_howManyReach_l4 Q (fun e6 σ7 => Q e6 σ7) n8 a1 0 0 σ)
set_option maxRecDepth 100000 in
set_option maxHeartbeats 4000000 in
theorem tq_X6_howManyReach {p : Program} {l : Launch} {e : Env} {s : State} {m : MethodId} {args : Array Value} {below : List Frame} {meth : Method} {c : Code} {D : va_G} {cyI cyZ cyS : ClassId} {ad : Nat → Nat} {Q : Int32 → gq_M → Prop} (C : gq_C p s m args meth c cX6_howManyReach 4 RX6 wsX6_howManyReach D (gc_T cyI cyZ cyS) 84 ad (some .int)) (a1 : Int32) (σ : gq_M) (h : wq_X6_howManyReach a1 σ Q) : gq_G p l e rq_X6_howManyReach s m args below meth c (gq_Ri below args s D (gc_T cyI cyZ cyS) 84 ad (gc_S cyI cyZ cyS ad) Q) D 84 ad (gc_S cyI cyZ cyS ad) 4 σ 0 [(0, .ref (ad 0)), (1, .int a1)] [] := by
  unfold wq_X6_howManyReach at h
  refine gq_iconst (v := 0) C dX6_howManyReach_0 (by decide) ?_
  refine gq_istore_n (L' := [(0, .ref (ad 0)), (1, .int a1), (2, .int 0)]) C [1, 2, 0] dX6_howManyReach_1 (by decide) rfl ?_
  refine gq_iconst (v := 0) C dX6_howManyReach_2 (by decide) ?_
  refine gq_istore_n (L' := [(0, .ref (ad 0)), (1, .int a1), (2, .int 0), (3, .int 0)]) C [1, 2, 3, 0] dX6_howManyReach_3 (by decide) rfl ?_
  obtain ⟨n8, h⟩ := h
  refine tq_X6_howManyReach_l4 C (fun e6 σ7 h => ?_) n8 _ _ _ _ h
  refine gq_iload_n (j := 1) C dX6_howManyReach_37 rfl ?_
  exact gq_iret C h dX6_howManyReach_38
theorem mq_X6_howManyReach {l : Launch} {D : va_G} {cyI cyZ cyS : ClassId} {ad : Nat → Nat} (hap : gq_ap 84 ad) (a1 : Int32) (σ : gq_M) (Q : Int32 → gq_M → Prop) (h : wq_X6_howManyReach a1 σ Q) : Met l yX6_howManyReach wsX6_howManyReach rq_X6_howManyReach (va_Pc [.ref (ad 0), .int a1] (gq_P D (gc_T cyI cyZ cyS) 84 ad (gc_S cyI cyZ cyS ad) σ)) (va_Qi Q (gq_P D (gc_T cyI cyZ cyS) 84 ad (gc_S cyI cyZ cyS ad)) (gq_A 84 ad)) 0 0 (gq_A 84 ad) :=
  gq_met hap (by decide) rfl rfl (Nat.le_of_ble_eq_true rfl) (fun _ _ _ _ _ _ _ C => tq_X6_howManyReach C a1 σ h)
abbrev rq_X6_sharedPart : Room := { frames := 0, cells := 0, slots := 0, locals := 0 }
theorem dq_X6_sharedPart : gq_dsc yX6_sharedPart 1 := by unfold gq_dsc; decide +kernel
def wq_X6_sharedPart (a1 : Int32) (σ : gq_M) (Q : Int32 → gq_M → Prop) : Prop := ((¬ a1 = 0 → ¬ a1 = 0 ∧ Q (60 / a1) σ) ∧ (a1 = 0 → Q 0 σ))
set_option maxRecDepth 100000 in
set_option maxHeartbeats 4000000 in
theorem tq_X6_sharedPart {p : Program} {l : Launch} {e : Env} {s : State} {m : MethodId} {args : Array Value} {below : List Frame} {meth : Method} {c : Code} {D : va_G} {cyI cyZ cyS : ClassId} {ad : Nat → Nat} {Q : Int32 → gq_M → Prop} (C : gq_C p s m args meth c cX6_sharedPart 1 RX6 wsX6_sharedPart D (gc_T cyI cyZ cyS) 84 ad (some .int)) (a1 : Int32) (σ : gq_M) (h : wq_X6_sharedPart a1 σ Q) : gq_G p l e rq_X6_sharedPart s m args below meth c (gq_Ri below args s D (gc_T cyI cyZ cyS) 84 ad (gc_S cyI cyZ cyS ad) Q) D 84 ad (gc_S cyI cyZ cyS ad) 1 σ 0 [(0, .int a1)] [] := by
  unfold wq_X6_sharedPart at h
  refine gq_iload_n (j := 0) C dX6_sharedPart_0 rfl ?_
  refine gq_if_ne (tgt := 8) C dX6_sharedPart_1 (by decide) (fun c1 => ?_) (fun c1 => ?_)
  · have h := h.1 c1
    refine gq_bipush (v := 60) C dX6_sharedPart_8 (by decide) ?_
    refine gq_iload_n (j := 0) C dX6_sharedPart_10 rfl ?_
    refine gq_idiv C dX6_sharedPart_11 h.1 ?_
    have h := h.2
    exact gq_iret C h dX6_sharedPart_12
  · have h := h.2 c1
    refine gq_iconst (v := 0) C dX6_sharedPart_4 (by decide) ?_
    refine gq_goto (tgt := 12) C dX6_sharedPart_5 (by decide) ?_
    exact gq_iret C h dX6_sharedPart_12
theorem mq_X6_sharedPart {l : Launch} {D : va_G} {cyI cyZ cyS : ClassId} {ad : Nat → Nat} (hap : gq_ap 84 ad) (a1 : Int32) (σ : gq_M) (Q : Int32 → gq_M → Prop) (h : wq_X6_sharedPart a1 σ Q) : Met l yX6_sharedPart wsX6_sharedPart rq_X6_sharedPart (va_Pc [.int a1] (gq_P D (gc_T cyI cyZ cyS) 84 ad (gc_S cyI cyZ cyS ad) σ)) (va_Qi Q (gq_P D (gc_T cyI cyZ cyS) 84 ad (gc_S cyI cyZ cyS ad)) (gq_A 84 ad)) 0 0 (gq_A 84 ad) :=
  gq_met hap (by decide) rfl rfl (Nat.le_of_ble_eq_true rfl) (fun _ _ _ _ _ _ _ C => tq_X6_sharedPart C a1 σ h)
abbrev rq_X6_commonDivisor : Room := { frames := 0, cells := 0, slots := 0, locals := 0 }
theorem dq_X6_commonDivisor : gq_dsc yX6_commonDivisor 2 := by unfold gq_dsc; decide +kernel
def wq_X6_commonDivisor_l7 (Q : Int32 → gq_M → Prop) (K34 : Int32 → gq_M → Prop) : Nat → Int32 → Int32 → Int32 → gq_M → Prop
  | 0, _, _, _, _ => False
  | n + 1, x2, x3, x4, σ => ((64 ≤ x4 → K34 x2 σ) ∧ (¬ 64 ≤ x4 → ((x3 = 0 → K34 x2 σ) ∧ (¬ x3 = 0 → ¬ x3 = 0 ∧ ∀ v3, v3 = (x2 - x2 / x3 * x3) → ∀ v4, v4 = (x4 + 1) → wq_X6_commonDivisor_l7 Q K34 n x3 v3 v4 σ))))
set_option maxRecDepth 100000 in
set_option maxHeartbeats 4000000 in
theorem tq_X6_commonDivisor_l7 {p : Program} {l : Launch} {e : Env} {s : State} {m : MethodId} {args : Array Value} {below : List Frame} {meth : Method} {c : Code} {D : va_G} {cyI cyZ cyS : ClassId} {ad : Nat → Nat} {Q : Int32 → gq_M → Prop} {K34 : Int32 → gq_M → Prop} (C : gq_C p s m args meth c cX6_commonDivisor 6 RX6 wsX6_commonDivisor D (gc_T cyI cyZ cyS) 84 ad (some .int)) (hK34 : ∀ (y2 : Int32) (τ : gq_M), K34 y2 τ → gq_G p l e rq_X6_commonDivisor s m args below meth c (gq_Ri below args s D (gc_T cyI cyZ cyS) 84 ad (gc_S cyI cyZ cyS ad) Q) D 84 ad (gc_S cyI cyZ cyS ad) 6 τ 34 [(2, .int y2)] []) : ∀ (n : Nat) (x2 : Int32) (x3 : Int32) (x4 : Int32) (σ : gq_M), wq_X6_commonDivisor_l7 Q K34 n x2 x3 x4 σ → gq_G p l e rq_X6_commonDivisor s m args below meth c (gq_Ri below args s D (gc_T cyI cyZ cyS) 84 ad (gc_S cyI cyZ cyS ad) Q) D 84 ad (gc_S cyI cyZ cyS ad) 6 σ 7 [(2, .int x2), (3, .int x3), (4, .int x4)] [] := by
  intro n
  induction n with
  | zero =>
    intro x2 x3 x4 σ h
    exact absurd h (fun q => q)
  | succ n ih =>
    intro x2 x3 x4 σ h
    unfold wq_X6_commonDivisor_l7 at h
    refine gq_iload (j := 2) C dX6_commonDivisor_7 rfl ?_
    refine gq_bipush (v := 64) C dX6_commonDivisor_9 (by decide) ?_
    refine gq_icmp_ge (tgt := 34) C dX6_commonDivisor_11 (by decide) (fun c1 => ?_) (fun c1 => ?_)
    · have h := h.1 c1
      refine gq_sub [0] rfl ?_
      exact hK34 _ _ h
    · have h := h.2 c1
      refine gq_iload_n (j := 1) C dX6_commonDivisor_14 rfl ?_
      refine gq_if_eq (tgt := 34) C dX6_commonDivisor_15 (by decide) (fun c2 => ?_) (fun c2 => ?_)
      · have h := h.1 c2
        refine gq_sub [0] rfl ?_
        exact hK34 _ _ h
      · have h := h.2 c2
        refine gq_iload_n (j := 0) C dX6_commonDivisor_18 rfl ?_
        refine gq_iload_n (j := 1) C dX6_commonDivisor_19 rfl ?_
        refine gq_irem C dX6_commonDivisor_20 h.1 ?_
        have h := h.2
        refine gq_topi (fun v3 qv3 => ?_)
        have h := h v3 qv3
        refine gq_istore (L' := [(2, .int x2), (3, .int x3), (4, .int x4), (5, .int v3)]) C [1, 2, 3, 0] dX6_commonDivisor_21 (by decide) rfl ?_
        refine gq_iload_n (j := 1) C dX6_commonDivisor_23 rfl ?_
        refine gq_istore_n (L' := [(2, .int x3), (3, .int x3), (4, .int x4), (5, .int v3)]) C [0, 1, 2, 3] dX6_commonDivisor_24 (by decide) rfl ?_
        refine gq_iload (j := 3) C dX6_commonDivisor_25 rfl ?_
        refine gq_istore_n (L' := [(2, .int x3), (3, .int v3), (4, .int x4), (5, .int v3)]) C [1, 0, 2, 3] dX6_commonDivisor_27 (by decide) rfl ?_
        obtain ⟨v4, qv4⟩ : ∃ y : Int32, y = (x4 + 1) := ⟨_, rfl⟩
        have h := h v4 qv4
        refine gq_iinc (j := 2) (v := v4) (L' := [(2, .int x3), (3, .int v3), (4, .int v4), (5, .int v3)]) C [1, 2, 0, 3] dX6_commonDivisor_28 rfl (by rw [qv4]; rfl) (by decide) rfl ?_
        refine gq_goto (tgt := 7) C dX6_commonDivisor_31 (by decide) ?_
        refine gq_sub [0, 1, 2] rfl ?_
        exact ih _ _ _ _ h
def wq_X6_commonDivisor (a1 : Int32) (a2 : Int32) (σ : gq_M) (Q : Int32 → gq_M → Prop) : Prop := (∃ n7, wq_X6_commonDivisor_l7 Q (fun e5 σ6 => Q e5 σ6) n7 a1 a2 0 σ)
set_option maxRecDepth 100000 in
set_option maxHeartbeats 4000000 in
theorem tq_X6_commonDivisor {p : Program} {l : Launch} {e : Env} {s : State} {m : MethodId} {args : Array Value} {below : List Frame} {meth : Method} {c : Code} {D : va_G} {cyI cyZ cyS : ClassId} {ad : Nat → Nat} {Q : Int32 → gq_M → Prop} (C : gq_C p s m args meth c cX6_commonDivisor 6 RX6 wsX6_commonDivisor D (gc_T cyI cyZ cyS) 84 ad (some .int)) (a1 : Int32) (a2 : Int32) (σ : gq_M) (h : wq_X6_commonDivisor a1 a2 σ Q) : gq_G p l e rq_X6_commonDivisor s m args below meth c (gq_Ri below args s D (gc_T cyI cyZ cyS) 84 ad (gc_S cyI cyZ cyS ad) Q) D 84 ad (gc_S cyI cyZ cyS ad) 6 σ 0 [(0, .int a1), (1, .int a2)] [] := by
  unfold wq_X6_commonDivisor at h
  refine gq_iload_n (j := 0) C dX6_commonDivisor_0 rfl ?_
  refine gq_istore_n (L' := [(0, .int a1), (1, .int a2), (2, .int a1)]) C [1, 2, 0] dX6_commonDivisor_1 (by decide) rfl ?_
  refine gq_iload_n (j := 1) C dX6_commonDivisor_2 rfl ?_
  refine gq_istore_n (L' := [(0, .int a1), (1, .int a2), (2, .int a1), (3, .int a2)]) C [1, 2, 3, 0] dX6_commonDivisor_3 (by decide) rfl ?_
  refine gq_iconst (v := 0) C dX6_commonDivisor_4 (by decide) ?_
  refine gq_istore (L' := [(0, .int a1), (1, .int a2), (2, .int a1), (3, .int a2), (4, .int 0)]) C [1, 2, 3, 4, 0] dX6_commonDivisor_5 (by decide) rfl ?_
  obtain ⟨n7, h⟩ := h
  refine gq_sub [2, 3, 4] rfl ?_
  refine tq_X6_commonDivisor_l7 C (fun e5 σ6 h => ?_) n7 _ _ _ _ h
  refine gq_iload_n (j := 0) C dX6_commonDivisor_34 rfl ?_
  exact gq_iret C h dX6_commonDivisor_35
theorem mq_X6_commonDivisor {l : Launch} {D : va_G} {cyI cyZ cyS : ClassId} {ad : Nat → Nat} (hap : gq_ap 84 ad) (a1 : Int32) (a2 : Int32) (σ : gq_M) (Q : Int32 → gq_M → Prop) (h : wq_X6_commonDivisor a1 a2 σ Q) : Met l yX6_commonDivisor wsX6_commonDivisor rq_X6_commonDivisor (va_Pc [.int a1, .int a2] (gq_P D (gc_T cyI cyZ cyS) 84 ad (gc_S cyI cyZ cyS ad) σ)) (va_Qi Q (gq_P D (gc_T cyI cyZ cyS) 84 ad (gc_S cyI cyZ cyS ad)) (gq_A 84 ad)) 0 0 (gq_A 84 ad) :=
  gq_met hap (by decide) rfl rfl (Nat.le_of_ble_eq_true rfl) (fun _ _ _ _ _ _ _ C => tq_X6_commonDivisor C a1 a2 σ h)
abbrev rq_X6_fraction : Room := { frames := 1, cells := 0, slots := 0, locals := 25 }
theorem dq_X6_fraction : gq_dsc yX6_fraction 3 := by unfold gq_dsc; decide +kernel
def wq_X6_fraction (a1 : Int32) (a2 : Int32) (a3 : Int32) (σ : gq_M) (Q : Int32 → gq_M → Prop) : Prop := wq_X6_commonDivisor a1 a2 σ (fun r1 σ2 => ((¬ r1 = 0 → ((a3 = 0 → ¬ r1 = 0 ∧ Q (a2 / r1) σ2) ∧ (¬ a3 = 0 → ¬ r1 = 0 ∧ Q (a1 / r1) σ2))) ∧ (r1 = 0 → Q (-9) σ2)))
set_option maxRecDepth 100000 in
set_option maxHeartbeats 4000000 in
theorem tq_X6_fraction {p : Program} {l : Launch} {e : Env} {s : State} {m : MethodId} {args : Array Value} {below : List Frame} {meth : Method} {c : Code} {D : va_G} {cyI cyZ cyS : ClassId} {ad : Nat → Nat} {Q : Int32 → gq_M → Prop} (C : gq_C p s m args meth c cX6_fraction 4 RX6 wsX6_fraction D (gc_T cyI cyZ cyS) 84 ad (some .int)) (a1 : Int32) (a2 : Int32) (a3 : Int32) (σ : gq_M) (h : wq_X6_fraction a1 a2 a3 σ Q) : gq_G p l e rq_X6_fraction s m args below meth c (gq_Ri below args s D (gc_T cyI cyZ cyS) 84 ad (gc_S cyI cyZ cyS ad) Q) D 84 ad (gc_S cyI cyZ cyS ad) 4 σ 0 [(0, .int a1), (1, .int a2), (2, .int a3)] [] := by
  unfold wq_X6_fraction at h
  refine gq_iload_n (j := 0) C dX6_fraction_0 rfl ?_
  refine gq_iload_n (j := 1) C dX6_fraction_1 rfl ?_
  refine gq_si C [.int a1, .int a2] (mq_X6_commonDivisor C.2.2.1 a1 a2 σ _ h) gX6_fraction_X6_commonDivisor rfl dq_X6_commonDivisor ⟨rfl, rfl, by decide, by decide⟩ rfl rfl (Nat.le_of_ble_eq_true rfl) dX6_fraction_2 (fun r1 σ2 h => ?_)
  refine gq_istore_n (L' := [(0, .int a1), (1, .int a2), (2, .int a3), (3, .int r1)]) C [1, 2, 3, 0] dX6_fraction_5 (by decide) rfl ?_
  refine gq_iload_n (j := 3) C dX6_fraction_6 rfl ?_
  refine gq_if_ne (tgt := 13) C dX6_fraction_7 (by decide) (fun c3 => ?_) (fun c3 => ?_)
  · have h := h.1 c3
    refine gq_iload_n (j := 2) C dX6_fraction_13 rfl ?_
    refine gq_if_eq (tgt := 23) C dX6_fraction_14 (by decide) (fun c4 => ?_) (fun c4 => ?_)
    · have h := h.1 c4
      refine gq_iload_n (j := 1) C dX6_fraction_23 rfl ?_
      refine gq_iload_n (j := 3) C dX6_fraction_24 rfl ?_
      refine gq_idiv C dX6_fraction_25 h.1 ?_
      have h := h.2
      exact gq_iret C h dX6_fraction_26
    · have h := h.2 c4
      refine gq_iload_n (j := 0) C dX6_fraction_17 rfl ?_
      refine gq_iload_n (j := 3) C dX6_fraction_18 rfl ?_
      refine gq_idiv C dX6_fraction_19 h.1 ?_
      have h := h.2
      refine gq_goto (tgt := 26) C dX6_fraction_20 (by decide) ?_
      exact gq_iret C h dX6_fraction_26
  · have h := h.2 c3
    refine gq_bipush (v := (-9)) C dX6_fraction_10 (by decide) ?_
    exact gq_iret C h dX6_fraction_12
theorem mq_X6_fraction {l : Launch} {D : va_G} {cyI cyZ cyS : ClassId} {ad : Nat → Nat} (hap : gq_ap 84 ad) (a1 : Int32) (a2 : Int32) (a3 : Int32) (σ : gq_M) (Q : Int32 → gq_M → Prop) (h : wq_X6_fraction a1 a2 a3 σ Q) : Met l yX6_fraction wsX6_fraction rq_X6_fraction (va_Pc [.int a1, .int a2, .int a3] (gq_P D (gc_T cyI cyZ cyS) 84 ad (gc_S cyI cyZ cyS ad) σ)) (va_Qi Q (gq_P D (gc_T cyI cyZ cyS) 84 ad (gc_S cyI cyZ cyS ad)) (gq_A 84 ad)) 0 0 (gq_A 84 ad) :=
  gq_met hap (by decide) rfl rfl (Nat.le_of_ble_eq_true rfl) (fun _ _ _ _ _ _ _ C => tq_X6_fraction C a1 a2 a3 σ h)
abbrev rq_X6_share : Room := { frames := 5, cells := 0, slots := 0, locals := 119 }
theorem dq_X6_share : gq_dsc yX6_share 2 := by unfold gq_dsc; decide +kernel
theorem iq_X6_share_X6 : ∀ w ∈ u_ws RX6 TX6 13, w ∈ wsX6_share := by decide +kernel
theorem fq_X6_share_23 : Cond.fieldLink RX6 23 (TX6 2).1 (TX6 2).2.1 (TX6 2).2.2.1 ∈ wsX6_share := by decide +kernel
theorem fq_X6_share_31 : Cond.fieldLink RX6 31 (TX6 3).1 (TX6 3).2.1 (TX6 3).2.2.1 ∈ wsX6_share := by decide +kernel
theorem iq_X6_share_X2 : ∀ w ∈ u_ws RX2 TX2 7, w ∈ wsX6_share := by decide +kernel
theorem fq_X6_share_90 : Cond.fieldLink RX6 90 (TX2 5).1 (TX2 5).2.1 (TX2 5).2.2.1 ∈ wsX6_share := by decide +kernel
def wq_X6_share_b65 (Q : Int32 → gq_M → Prop) (K29 : Int32 → Int32 → Int32 → Int32 → gq_M → Prop) (x2 : Int32) (x3 : Int32) (x4 : Int32) (x5 : Int32) (σ : gq_M) : Prop := ∀ v8, v8 = (x5 + 1) → K29 x2 x3 x4 v8 σ
set_option maxRecDepth 100000 in
set_option maxHeartbeats 4000000 in
theorem tq_X6_share_b65 {p : Program} {l : Launch} {e : Env} {s : State} {m : MethodId} {args : Array Value} {below : List Frame} {meth : Method} {c : Code} {D : va_G} {cyI cyZ cyS : ClassId} {ad : Nat → Nat} {Q : Int32 → gq_M → Prop} {K29 : Int32 → Int32 → Int32 → Int32 → gq_M → Prop} (C : gq_C p s m args meth c cX6_share 6 RX6 wsX6_share D (gc_T cyI cyZ cyS) 84 ad (some .int)) (hK29 : ∀ (y2 : Int32) (y3 : Int32) (y4 : Int32) (y5 : Int32) (τ : gq_M), K29 y2 y3 y4 y5 τ → gq_G p l e rq_X6_share s m args below meth c (gq_Ri below args s D (gc_T cyI cyZ cyS) 84 ad (gc_S cyI cyZ cyS ad) Q) D 84 ad (gc_S cyI cyZ cyS ad) 6 τ 29 [(0, .ref (ad 0)), (2, .int y2), (3, .int y3), (4, .int y4), (5, .int y5)] []) (x2 : Int32) (x3 : Int32) (x4 : Int32) (x5 : Int32) (σ : gq_M) (h : wq_X6_share_b65 Q K29 x2 x3 x4 x5 σ) : gq_G p l e rq_X6_share s m args below meth c (gq_Ri below args s D (gc_T cyI cyZ cyS) 84 ad (gc_S cyI cyZ cyS ad) Q) D 84 ad (gc_S cyI cyZ cyS ad) 6 σ 65 [(0, .ref (ad 0)), (2, .int x2), (3, .int x3), (4, .int x4), (5, .int x5)] [] := by
  unfold wq_X6_share_b65 at h
  obtain ⟨v8, qv8⟩ : ∃ y : Int32, y = (x5 + 1) := ⟨_, rfl⟩
  have h := h v8 qv8
  refine gq_iinc (j := 4) (v := v8) (L' := [(0, .ref (ad 0)), (2, .int x2), (3, .int x3), (4, .int x4), (5, .int v8)]) C [1, 2, 3, 4, 0] dX6_share_65 rfl (by rw [qv8]; rfl) (by decide) rfl ?_
  refine gq_goto (tgt := 29) C dX6_share_68 (by decide) ?_
  exact hK29 _ _ _ _ _ h
def wq_X6_share_l29 (Q : Int32 → gq_M → Prop) (K71 : Int32 → Int32 → gq_M → Prop) : Nat → Int32 → Int32 → Int32 → Int32 → gq_M → Prop
  | 0, _, _, _, _, _ => False
  | n + 1, x2, x3, x4, x5, σ => (((σ.1 9 5) < x5 → K71 x2 x4 σ) ∧ (¬ (σ.1 9 5) < x5 → ((¬ ((x3 >>> (x5 &&& 31)) &&& 1) = 1 → wq_X6_share_b65 Q (wq_X6_share_l29 Q K71 n) x2 x3 x4 x5 σ) ∧ (((x3 >>> (x5 &&& 31)) &&& 1) = 1 → wq_X6_howManyReach x5 σ (fun r9 σ10 => wq_X6_sharedPart r9 σ10 (fun r11 σ12 => ∀ v13, v13 = (x4 + r11) → wq_X6_share_b65 Q (wq_X6_share_l29 Q K71 n) x2 x3 v13 x5 σ12))))))
set_option maxRecDepth 100000 in
set_option maxHeartbeats 4000000 in
theorem tq_X6_share_l29 {p : Program} {l : Launch} {e : Env} {s : State} {m : MethodId} {args : Array Value} {below : List Frame} {meth : Method} {c : Code} {D : va_G} {cyI cyZ cyS : ClassId} {ad : Nat → Nat} {Q : Int32 → gq_M → Prop} {K71 : Int32 → Int32 → gq_M → Prop} (C : gq_C p s m args meth c cX6_share 6 RX6 wsX6_share D (gc_T cyI cyZ cyS) 84 ad (some .int)) (hK71 : ∀ (y2 : Int32) (y4 : Int32) (τ : gq_M), K71 y2 y4 τ → gq_G p l e rq_X6_share s m args below meth c (gq_Ri below args s D (gc_T cyI cyZ cyS) 84 ad (gc_S cyI cyZ cyS ad) Q) D 84 ad (gc_S cyI cyZ cyS ad) 6 τ 71 [(0, .ref (ad 0)), (2, .int y2), (4, .int y4)] []) : ∀ (n : Nat) (x2 : Int32) (x3 : Int32) (x4 : Int32) (x5 : Int32) (σ : gq_M), wq_X6_share_l29 Q K71 n x2 x3 x4 x5 σ → gq_G p l e rq_X6_share s m args below meth c (gq_Ri below args s D (gc_T cyI cyZ cyS) 84 ad (gc_S cyI cyZ cyS ad) Q) D 84 ad (gc_S cyI cyZ cyS ad) 6 σ 29 [(0, .ref (ad 0)), (2, .int x2), (3, .int x3), (4, .int x4), (5, .int x5)] [] := by
  intro n
  induction n with
  | zero =>
    intro x2 x3 x4 x5 σ h
    exact absurd h (fun q => q)
  | succ n ih =>
    intro x2 x3 x4 x5 σ h
    unfold wq_X6_share_l29 at h
    refine gq_iload (j := 4) C dX6_share_29 rfl ?_
    refine gq_aload_n (j := 0) C dX6_share_31 rfl ?_
    refine gq_get (v := .ref (ad 9)) (i := 0) C gcs_0 rfl iq_X6_share_X6 2 (by decide) fq_X6_share_23 rfl dX6_share_32 ?_
    refine gq_get (v := .int (σ.1 9 5)) (i := 9) C (gcs_X2 gr_9) rfl iq_X6_share_X2 5 (by decide) fq_X6_share_90 rfl dX6_share_35 ?_
    refine gq_icmp_gt (tgt := 71) C dX6_share_38 (by decide) (fun c6 => ?_) (fun c6 => ?_)
    · have h := h.1 c6
      refine gq_sub [0, 1, 3] rfl ?_
      exact hK71 _ _ _ h
    · have h := h.2 c6
      refine gq_iload_n (j := 2) C dX6_share_41 rfl ?_
      refine gq_iload (j := 4) C dX6_share_42 rfl ?_
      refine gq_ishr C dX6_share_44 ?_
      refine gq_iconst (v := 1) C dX6_share_45 (by decide) ?_
      refine gq_iand C dX6_share_46 ?_
      refine gq_iconst (v := 1) C dX6_share_47 (by decide) ?_
      refine gq_icmp_ne (tgt := 65) C dX6_share_48 (by decide) (fun c7 => ?_) (fun c7 => ?_)
      · have h := h.1 c7
        exact tq_X6_share_b65 C (ih) _ _ _ _ _ h
      · have h := h.2 c7
        refine gq_iload (j := 3) C dX6_share_51 rfl ?_
        refine gq_aload_n (j := 0) C dX6_share_53 rfl ?_
        refine gq_iload (j := 4) C dX6_share_54 rfl ?_
        refine gq_vi (i := 0) C gcs_0 rfl [.int x5] (mq_X6_howManyReach C.2.2.1 x5 σ _ h) gX6_share_X6_howManyReach rfl rfl dq_X6_howManyReach ⟨rfl, rfl, by decide, by decide⟩ rfl rfl (Nat.le_of_ble_eq_true rfl) dX6_share_56 (fun r9 σ10 h => ?_)
        refine gq_si C [.int r9] (mq_X6_sharedPart C.2.2.1 r9 σ10 _ h) gX6_share_X6_sharedPart rfl dq_X6_sharedPart ⟨rfl, rfl, by decide, by decide⟩ rfl rfl (Nat.le_of_ble_eq_true rfl) dX6_share_59 (fun r11 σ12 h => ?_)
        refine gq_iadd C dX6_share_62 ?_
        refine gq_topi (fun v13 qv13 => ?_)
        have h := h v13 qv13
        refine gq_istore (L' := [(0, .ref (ad 0)), (2, .int x2), (3, .int x3), (4, .int v13), (5, .int x5)]) C [1, 2, 3, 0, 4] dX6_share_63 (by decide) rfl ?_
        exact tq_X6_share_b65 C (ih) _ _ _ _ _ h
def wq_X6_share (a1 : Int32) (a2 : Int32) (σ : gq_M) (Q : Int32 → gq_M → Prop) : Prop := wq_X2_hasTraveller 9 a1 σ (fun r1 σ2 => ((¬ r1 = 0 → wq_X6_reachIn 30 a1 σ2 (fun r4 σ5 => (∃ n19, wq_X6_share_l29 Q (fun e14 e15 σ16 => wq_X6_fraction e15 60 e14 σ16 (fun r17 σ18 => Q r17 σ18)) n19 a2 r4 0 0 σ5))) ∧ (r1 = 0 → Q (-1) σ2)))
set_option maxRecDepth 100000 in
set_option maxHeartbeats 4000000 in
theorem tq_X6_share {p : Program} {l : Launch} {e : Env} {s : State} {m : MethodId} {args : Array Value} {below : List Frame} {meth : Method} {c : Code} {D : va_G} {cyI cyZ cyS : ClassId} {ad : Nat → Nat} {Q : Int32 → gq_M → Prop} (C : gq_C p s m args meth c cX6_share 6 RX6 wsX6_share D (gc_T cyI cyZ cyS) 84 ad (some .int)) (a1 : Int32) (a2 : Int32) (σ : gq_M) (h : wq_X6_share a1 a2 σ Q) : gq_G p l e rq_X6_share s m args below meth c (gq_Ri below args s D (gc_T cyI cyZ cyS) 84 ad (gc_S cyI cyZ cyS ad) Q) D 84 ad (gc_S cyI cyZ cyS ad) 6 σ 0 [(0, .ref (ad 0)), (1, .int a1), (2, .int a2)] [] := by
  unfold wq_X6_share at h
  refine gq_aload_n (j := 0) C dX6_share_0 rfl ?_
  refine gq_get (v := .ref (ad 9)) (i := 0) C gcs_0 rfl iq_X6_share_X6 2 (by decide) fq_X6_share_23 rfl dX6_share_1 ?_
  refine gq_iload_n (j := 1) C dX6_share_4 rfl ?_
  refine gq_vi (i := 9) C (gcs_X2 gr_9) rfl [.int a1] (mq_X2_hasTraveller C.2.2.1 gr_9 a1 σ _ h) gX6_share_X2_hasTraveller rfl rfl dq_X2_hasTraveller ⟨rfl, rfl, by decide, by decide⟩ rfl rfl (Nat.le_of_ble_eq_true rfl) dX6_share_5 (fun r1 σ2 h => ?_)
  refine gq_if_ne (tgt := 13) C dX6_share_8 (by decide) (fun c3 => ?_) (fun c3 => ?_)
  · have h := h.1 c3
    refine gq_aload_n (j := 0) C dX6_share_13 rfl ?_
    refine gq_aload_n (j := 0) C dX6_share_14 rfl ?_
    refine gq_get (v := .ref (ad 30)) (i := 0) C gcs_0 rfl iq_X6_share_X6 3 (by decide) fq_X6_share_31 rfl dX6_share_15 ?_
    refine gq_iload_n (j := 1) C dX6_share_18 rfl ?_
    refine gq_vi (i := 0) C gcs_0 rfl [.ref (ad 30), .int a1] (mq_X6_reachIn C.2.2.1 gs_30 a1 σ2 _ h) gX6_share_X6_reachIn rfl rfl dq_X6_reachIn ⟨rfl, rfl, by decide, by decide⟩ rfl rfl (Nat.le_of_ble_eq_true rfl) dX6_share_19 (fun r4 σ5 h => ?_)
    refine gq_istore_n (L' := [(0, .ref (ad 0)), (1, .int a1), (2, .int a2), (3, .int r4)]) C [1, 2, 3, 0] dX6_share_22 (by decide) rfl ?_
    refine gq_iconst (v := 0) C dX6_share_23 (by decide) ?_
    refine gq_istore (L' := [(0, .ref (ad 0)), (1, .int a1), (2, .int a2), (3, .int r4), (4, .int 0)]) C [1, 2, 3, 4, 0] dX6_share_24 (by decide) rfl ?_
    refine gq_iconst (v := 0) C dX6_share_26 (by decide) ?_
    refine gq_istore (L' := [(0, .ref (ad 0)), (1, .int a1), (2, .int a2), (3, .int r4), (4, .int 0), (5, .int 0)]) C [1, 2, 3, 4, 5, 0] dX6_share_27 (by decide) rfl ?_
    obtain ⟨n19, h⟩ := h
    refine gq_sub [0, 2, 3, 4, 5] rfl ?_
    refine tq_X6_share_l29 C (fun e14 e15 σ16 h => ?_) n19 _ _ _ _ _ h
    refine gq_iload (j := 2) C dX6_share_71 rfl ?_
    refine gq_bipush (v := 60) C dX6_share_73 (by decide) ?_
    refine gq_iload_n (j := 1) C dX6_share_75 rfl ?_
    refine gq_si C [.int e15, .int 60, .int e14] (mq_X6_fraction C.2.2.1 e15 60 e14 σ16 _ h) gX6_share_X6_fraction rfl dq_X6_fraction ⟨rfl, rfl, by decide, by decide⟩ rfl rfl (Nat.le_of_ble_eq_true rfl) dX6_share_76 (fun r17 σ18 h => ?_)
    exact gq_iret C h dX6_share_79
  · have h := h.2 c3
    refine gq_iconst (v := (-1)) C dX6_share_11 (by decide) ?_
    exact gq_iret C h dX6_share_12
theorem mq_X6_share {l : Launch} {D : va_G} {cyI cyZ cyS : ClassId} {ad : Nat → Nat} (hap : gq_ap 84 ad) (a1 : Int32) (a2 : Int32) (σ : gq_M) (Q : Int32 → gq_M → Prop) (h : wq_X6_share a1 a2 σ Q) : Met l yX6_share wsX6_share rq_X6_share (va_Pc [.ref (ad 0), .int a1, .int a2] (gq_P D (gc_T cyI cyZ cyS) 84 ad (gc_S cyI cyZ cyS ad) σ)) (va_Qi Q (gq_P D (gc_T cyI cyZ cyS) 84 ad (gc_S cyI cyZ cyS ad)) (gq_A 84 ad)) 0 0 (gq_A 84 ad) :=
  gq_met hap (by decide) rfl rfl (Nat.le_of_ble_eq_true rfl) (fun _ _ _ _ _ _ _ C => tq_X6_share C a1 a2 σ h)
abbrev rq_X6_gainOfPlaces : Room := { frames := 4, cells := 0, slots := 0, locals := 96 }
theorem dq_X6_gainOfPlaces : gq_dsc yX6_gainOfPlaces 2 := by unfold gq_dsc; decide +kernel
theorem iq_X6_gainOfPlaces_X6 : ∀ w ∈ u_ws RX6 TX6 13, w ∈ wsX6_gainOfPlaces := by decide +kernel
theorem fq_X6_gainOfPlaces_35 : Cond.fieldLink RX6 35 (TX6 4).1 (TX6 4).2.1 (TX6 4).2.2.1 ∈ wsX6_gainOfPlaces := by decide +kernel
theorem iq_X6_gainOfPlaces_X4 : ∀ w ∈ u_ws RX4 TX4 7, w ∈ wsX6_gainOfPlaces := by decide +kernel
theorem fq_X6_gainOfPlaces_118 : Cond.fieldLink RX6 118 (TX4 1).1 (TX4 1).2.1 (TX4 1).2.2.1 ∈ wsX6_gainOfPlaces := by decide +kernel
def wq_X6_gainOfPlaces (a1 : Int32) (a2 : Int32) (σ : gq_M) (Q : Int32 → gq_M → Prop) : Prop := vp_in a2 5 ∧ ∀ v1, v1 = (σ.1 34 a2.toNatClampNeg) → vp_in a1 5 ∧ ((¬ (σ.1 34 a1.toNatClampNeg) = v1 → wq_X6_reachIn 33 a1 σ (fun r3 σ4 => Q (2 + (4 * ((r3 >>> (v1 &&& 31)) &&& 1))) σ4)) ∧ ((σ.1 34 a1.toNatClampNeg) = v1 → Q 0 σ))
set_option maxRecDepth 100000 in
set_option maxHeartbeats 4000000 in
theorem tq_X6_gainOfPlaces {p : Program} {l : Launch} {e : Env} {s : State} {m : MethodId} {args : Array Value} {below : List Frame} {meth : Method} {c : Code} {D : va_G} {cyI cyZ cyS : ClassId} {ad : Nat → Nat} {Q : Int32 → gq_M → Prop} (C : gq_C p s m args meth c cX6_gainOfPlaces 4 RX6 wsX6_gainOfPlaces D (gc_T cyI cyZ cyS) 84 ad (some .int)) (a1 : Int32) (a2 : Int32) (σ : gq_M) (h : wq_X6_gainOfPlaces a1 a2 σ Q) : gq_G p l e rq_X6_gainOfPlaces s m args below meth c (gq_Ri below args s D (gc_T cyI cyZ cyS) 84 ad (gc_S cyI cyZ cyS ad) Q) D 84 ad (gc_S cyI cyZ cyS ad) 4 σ 0 [(0, .ref (ad 0)), (1, .int a1), (2, .int a2)] [] := by
  unfold wq_X6_gainOfPlaces at h
  refine gq_aload_n (j := 0) C dX6_gainOfPlaces_0 rfl ?_
  refine gq_get (v := .ref (ad 33)) (i := 0) C gcs_0 rfl iq_X6_gainOfPlaces_X6 4 (by decide) fq_X6_gainOfPlaces_35 rfl dX6_gainOfPlaces_1 ?_
  refine gq_get (v := .ref (ad 34)) (i := 33) C (gcs_X4 gs_33) rfl iq_X6_gainOfPlaces_X4 1 (by decide) fq_X6_gainOfPlaces_118 rfl dX6_gainOfPlaces_4 ?_
  refine gq_iload_n (j := 2) C dX6_gainOfPlaces_7 rfl ?_
  refine gq_iald (i := 34) (j := a2.toNatClampNeg) C (gcs_X4_1 gs_33) 0 rfl rfl h.1 dX6_gainOfPlaces_8 ?_
  have h := h.2
  refine gq_topi (fun v1 qv1 => ?_)
  have h := h v1 qv1
  refine gq_istore_n (L' := [(0, .ref (ad 0)), (1, .int a1), (2, .int a2), (3, .int v1)]) C [1, 2, 3, 0] dX6_gainOfPlaces_9 (by decide) rfl ?_
  refine gq_aload_n (j := 0) C dX6_gainOfPlaces_10 rfl ?_
  refine gq_get (v := .ref (ad 33)) (i := 0) C gcs_0 rfl iq_X6_gainOfPlaces_X6 4 (by decide) fq_X6_gainOfPlaces_35 rfl dX6_gainOfPlaces_11 ?_
  refine gq_get (v := .ref (ad 34)) (i := 33) C (gcs_X4 gs_33) rfl iq_X6_gainOfPlaces_X4 1 (by decide) fq_X6_gainOfPlaces_118 rfl dX6_gainOfPlaces_14 ?_
  refine gq_iload_n (j := 1) C dX6_gainOfPlaces_17 rfl ?_
  refine gq_iald (i := 34) (j := a1.toNatClampNeg) C (gcs_X4_1 gs_33) 0 rfl rfl h.1 dX6_gainOfPlaces_18 ?_
  have h := h.2
  refine gq_iload_n (j := 3) C dX6_gainOfPlaces_19 rfl ?_
  refine gq_icmp_ne (tgt := 25) C dX6_gainOfPlaces_20 (by decide) (fun c2 => ?_) (fun c2 => ?_)
  · have h := h.1 c2
    refine gq_iconst (v := 2) C dX6_gainOfPlaces_25 (by decide) ?_
    refine gq_iconst (v := 4) C dX6_gainOfPlaces_26 (by decide) ?_
    refine gq_aload_n (j := 0) C dX6_gainOfPlaces_27 rfl ?_
    refine gq_aload_n (j := 0) C dX6_gainOfPlaces_28 rfl ?_
    refine gq_get (v := .ref (ad 33)) (i := 0) C gcs_0 rfl iq_X6_gainOfPlaces_X6 4 (by decide) fq_X6_gainOfPlaces_35 rfl dX6_gainOfPlaces_29 ?_
    refine gq_iload_n (j := 1) C dX6_gainOfPlaces_32 rfl ?_
    refine gq_vi (i := 0) C gcs_0 rfl [.ref (ad 33), .int a1] (mq_X6_reachIn C.2.2.1 gs_33 a1 σ _ h) gX6_gainOfPlaces_X6_reachIn rfl rfl dq_X6_reachIn ⟨rfl, rfl, by decide, by decide⟩ rfl rfl (Nat.le_of_ble_eq_true rfl) dX6_gainOfPlaces_33 (fun r3 σ4 h => ?_)
    refine gq_iload_n (j := 3) C dX6_gainOfPlaces_36 rfl ?_
    refine gq_ishr C dX6_gainOfPlaces_37 ?_
    refine gq_iconst (v := 1) C dX6_gainOfPlaces_38 (by decide) ?_
    refine gq_iand C dX6_gainOfPlaces_39 ?_
    refine gq_imul C dX6_gainOfPlaces_40 ?_
    refine gq_iadd C dX6_gainOfPlaces_41 ?_
    exact gq_iret C h dX6_gainOfPlaces_42
  · have h := h.2 c2
    refine gq_iconst (v := 0) C dX6_gainOfPlaces_23 (by decide) ?_
    exact gq_iret C h dX6_gainOfPlaces_24
theorem mq_X6_gainOfPlaces {l : Launch} {D : va_G} {cyI cyZ cyS : ClassId} {ad : Nat → Nat} (hap : gq_ap 84 ad) (a1 : Int32) (a2 : Int32) (σ : gq_M) (Q : Int32 → gq_M → Prop) (h : wq_X6_gainOfPlaces a1 a2 σ Q) : Met l yX6_gainOfPlaces wsX6_gainOfPlaces rq_X6_gainOfPlaces (va_Pc [.ref (ad 0), .int a1, .int a2] (gq_P D (gc_T cyI cyZ cyS) 84 ad (gc_S cyI cyZ cyS ad) σ)) (va_Qi Q (gq_P D (gc_T cyI cyZ cyS) 84 ad (gc_S cyI cyZ cyS ad)) (gq_A 84 ad)) 0 0 (gq_A 84 ad) :=
  gq_met hap (by decide) rfl rfl (Nat.le_of_ble_eq_true rfl) (fun _ _ _ _ _ _ _ C => tq_X6_gainOfPlaces C a1 a2 σ h)
