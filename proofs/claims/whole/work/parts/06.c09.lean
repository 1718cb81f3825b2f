/-! ===== walks of X6_summers, X6_keep, X6_again, X6_count (by wip/gen) ===== -/
abbrev rq_X6_summers : Room := { frames := 6, cells := 0, slots := 0, locals := 137 }
theorem dq_X6_summers : gq_dsc yX6_summers 1 := by unfold gq_dsc; decide +kernel
theorem iq_X6_summers_X6 : ∀ w ∈ u_ws RX6 TX6 13, w ∈ wsX6_summers := by decide +kernel
theorem fq_X6_summers_35 : Cond.fieldLink RX6 35 (TX6 4).1 (TX6 4).2.1 (TX6 4).2.2.1 ∈ wsX6_summers := by decide +kernel
theorem fq_X6_summers_31 : Cond.fieldLink RX6 31 (TX6 3).1 (TX6 3).2.1 (TX6 3).2.2.1 ∈ wsX6_summers := by decide +kernel
theorem fq_X6_summers_239 : Cond.fieldLink RX6 239 (TX6 12).1 (TX6 12).2.1 (TX6 12).2.2.1 ∈ wsX6_summers := by decide +kernel
def wq_X6_summers_l29 (Q : Int32 → gq_M → Prop) (K85 : Int32 → gq_M → Prop) : Nat → Int32 → Int32 → Int32 → gq_M → Prop
  | 0, _, _, _, _ => False
  | n + 1, x1, x2, x3, σ => ((x1 ≤ x3 → K85 x2 σ) ∧ (¬ x1 ≤ x3 → wq_X4_doDrawn 33 ((((((σ.1, ((σ.2 * 6364136223846793005) + 1442695040888963407))).2).toUInt64 >>> (((33 : Int32)).toInt64.toUInt64 &&& Int64.toUInt64 63)).toInt64 - ((((σ.1, ((σ.2 * 6364136223846793005) + 1442695040888963407))).2).toUInt64 >>> (((33 : Int32)).toInt64.toUInt64 &&& Int64.toUInt64 63)).toInt64 / 26 * 26)).toInt32 (σ.1, ((σ.2 * 6364136223846793005) + 1442695040888963407)) (fun σ7 => wq_X4_placesTogether 33 σ7 (fun r8 σ9 => ∀ v10, v10 = (x2 + r8) → ∀ v11, v11 = (x3 + 1) → wq_X6_summers_l29 Q K85 n x1 v10 v11 σ9))))
set_option maxRecDepth 100000 in
set_option maxHeartbeats 4000000 in
theorem tq_X6_summers_l29 {p : Program} {l : Launch} {e : Env} {s : State} {m : MethodId} {args : Array Value} {below : List Frame} {meth : Method} {c : Code} {D : va_G} {cyI cyZ cyS : ClassId} {ad : Nat → Nat} {Q : Int32 → gq_M → Prop} {K85 : Int32 → gq_M → Prop} (C : gq_C p s m args meth c cX6_summers 4 RX6 wsX6_summers D (gc_T cyI cyZ cyS) 84 ad (some .int)) (hK85 : ∀ (y2 : Int32) (τ : gq_M), K85 y2 τ → gq_G p l e rq_X6_summers s m args below meth c (gq_Ri below args s D (gc_T cyI cyZ cyS) 84 ad (gc_S cyI cyZ cyS ad) Q) D 84 ad (gc_S cyI cyZ cyS ad) 4 τ 85 [(0, .ref (ad 0)), (2, .int y2)] []) : ∀ (n : Nat) (x1 : Int32) (x2 : Int32) (x3 : Int32) (σ : gq_M), wq_X6_summers_l29 Q K85 n x1 x2 x3 σ → gq_G p l e rq_X6_summers s m args below meth c (gq_Ri below args s D (gc_T cyI cyZ cyS) 84 ad (gc_S cyI cyZ cyS ad) Q) D 84 ad (gc_S cyI cyZ cyS ad) 4 σ 29 [(0, .ref (ad 0)), (1, .int x1), (2, .int x2), (3, .int x3)] [] := by
  intro n
  induction n with
  | zero =>
    intro x1 x2 x3 σ h
    exact absurd h (fun q => q)
  | succ n ih =>
    intro x1 x2 x3 σ h
    unfold wq_X6_summers_l29 at h
    refine gq_iload_n (j := 3) C dX6_summers_29 rfl ?_
    refine gq_iload_n (j := 1) C dX6_summers_30 rfl ?_
    refine gq_icmp_ge (tgt := 85) C dX6_summers_31 (by decide) (fun c5 => ?_) (fun c5 => ?_)
    · have h := h.1 c5
      refine gq_sub [0, 2] rfl ?_
      exact hK85 _ _ h
    · have h := h.2 c5
      refine gq_aload_n (j := 0) C dX6_summers_34 rfl ?_
      refine gq_aload_n (j := 0) C dX6_summers_35 rfl ?_
      refine gq_get (v := .long σ.2) (i := 0) C gcs_0 rfl iq_X6_summers_X6 12 (by decide) fq_X6_summers_239 rfl dX6_summers_36 ?_
      refine gq_ldc2 (v := 6364136223846793005) C (by decide +kernel) dX6_summers_39 ?_
      refine gq_lmul C dX6_summers_42 ?_
      refine gq_ldc2 (v := 1442695040888963407) C (by decide +kernel) dX6_summers_43 ?_
      refine gq_ladd C dX6_summers_46 ?_
      refine gq_putl (i := 0) C gcs_0 rfl iq_X6_summers_X6 tyX6 tyX6_ok nmX6 12 (by decide) fq_X6_summers_239 rfl rfl rfl (fun _ _ => Nat.le_of_ble_eq_true rfl) gs_X6_12 gl_X6 dX6_summers_47 ?_
      refine gq_aload_n (j := 0) C dX6_summers_50 rfl ?_
      refine gq_get (v := .ref (ad 33)) (i := 0) C gcs_0 rfl iq_X6_summers_X6 4 (by decide) fq_X6_summers_35 rfl dX6_summers_51 ?_
      refine gq_aload_n (j := 0) C dX6_summers_54 rfl ?_
      refine gq_get (v := .long ((σ.1, ((σ.2 * 6364136223846793005) + 1442695040888963407))).2) (i := 0) C gcs_0 rfl iq_X6_summers_X6 12 (by decide) fq_X6_summers_239 rfl dX6_summers_55 ?_
      refine gq_bipush (v := 33) C dX6_summers_58 (by decide) ?_
      refine gq_lushr C dX6_summers_60 ?_
      refine gq_ldc2 (v := 26) C (by decide +kernel) dX6_summers_61 ?_
      refine gq_lrem C dX6_summers_64 (by decide) ?_
      refine gq_l2i C dX6_summers_65 ?_
      refine gq_vv (i := 33) C (gcs_X4 gs_33) rfl [.int ((((((σ.1, ((σ.2 * 6364136223846793005) + 1442695040888963407))).2).toUInt64 >>> (((33 : Int32)).toInt64.toUInt64 &&& Int64.toUInt64 63)).toInt64 - ((((σ.1, ((σ.2 * 6364136223846793005) + 1442695040888963407))).2).toUInt64 >>> (((33 : Int32)).toInt64.toUInt64 &&& Int64.toUInt64 63)).toInt64 / 26 * 26)).toInt32] (mq_X4_doDrawn C.2.2.1 gs_33 ((((((σ.1, ((σ.2 * 6364136223846793005) + 1442695040888963407))).2).toUInt64 >>> (((33 : Int32)).toInt64.toUInt64 &&& Int64.toUInt64 63)).toInt64 - ((((σ.1, ((σ.2 * 6364136223846793005) + 1442695040888963407))).2).toUInt64 >>> (((33 : Int32)).toInt64.toUInt64 &&& Int64.toUInt64 63)).toInt64 / 26 * 26)).toInt32 (σ.1, ((σ.2 * 6364136223846793005) + 1442695040888963407)) _ h) gX6_summers_X4_doDrawn rfl rfl dq_X4_doDrawn ⟨rfl, rfl, by decide, by decide⟩ rfl rfl (Nat.le_of_ble_eq_true rfl) dX6_summers_66 (fun σ7 h => ?_)
      refine gq_iload_n (j := 2) C dX6_summers_69 rfl ?_
      refine gq_aload_n (j := 0) C dX6_summers_70 rfl ?_
      refine gq_get (v := .ref (ad 33)) (i := 0) C gcs_0 rfl iq_X6_summers_X6 4 (by decide) fq_X6_summers_35 rfl dX6_summers_71 ?_
      refine gq_vi (i := 33) C (gcs_X4 gs_33) rfl [] (mq_X4_placesTogether C.2.2.1 gs_33 σ7 _ h) gX6_summers_X4_placesTogether rfl rfl dq_X4_placesTogether ⟨rfl, rfl, by decide, by decide⟩ rfl rfl (Nat.le_of_ble_eq_true rfl) dX6_summers_74 (fun r8 σ9 h => ?_)
      refine gq_iadd C dX6_summers_77 ?_
      refine gq_topi (fun v10 qv10 => ?_)
      have h := h v10 qv10
      refine gq_istore_n (L' := [(0, .ref (ad 0)), (1, .int x1), (2, .int v10), (3, .int x3)]) C [1, 2, 0, 3] dX6_summers_78 (by decide) rfl ?_
      obtain ⟨v11, qv11⟩ : ∃ y : Int32, y = (x3 + 1) := ⟨_, rfl⟩
      have h := h v11 qv11
      refine gq_iinc (j := 3) (v := v11) (L' := [(0, .ref (ad 0)), (1, .int x1), (2, .int v10), (3, .int v11)]) C [1, 2, 3, 0] dX6_summers_79 rfl (by rw [qv11]; rfl) (by decide) rfl ?_
      refine gq_goto (tgt := 29) C dX6_summers_82 (by decide) ?_
      exact ih _ _ _ _ h
def wq_X6_summers (a1 : Int32) (σ : gq_M) (Q : Int32 → gq_M → Prop) : Prop := ((a1 < 1 → Q (-2) σ) ∧ (¬ a1 < 1 → ((a1 ≤ 30 → wq_X4_takeFrom 33 30 σ (fun σ4 => (∃ n14, wq_X6_summers_l29 Q (fun e12 σ13 => Q e12 σ13) n14 a1 0 0 σ4))) ∧ (¬ a1 ≤ 30 → Q (-2) σ))))
set_option maxRecDepth 100000 in
set_option maxHeartbeats 4000000 in
theorem tq_X6_summers {p : Program} {l : Launch} {e : Env} {s : State} {m : MethodId} {args : Array Value} {below : List Frame} {meth : Method} {c : Code} {D : va_G} {cyI cyZ cyS : ClassId} {ad : Nat → Nat} {Q : Int32 → gq_M → Prop} (C : gq_C p s m args meth c cX6_summers 4 RX6 wsX6_summers D (gc_T cyI cyZ cyS) 84 ad (some .int)) (a1 : Int32) (σ : gq_M) (h : wq_X6_summers a1 σ Q) : gq_G p l e rq_X6_summers s m args below meth c (gq_Ri below args s D (gc_T cyI cyZ cyS) 84 ad (gc_S cyI cyZ cyS ad) Q) D 84 ad (gc_S cyI cyZ cyS ad) 4 σ 0 [(0, .ref (ad 0)), (1, .int a1)] [] := by
  unfold wq_X6_summers at h
  refine gq_iload_n (j := 1) C dX6_summers_0 rfl ?_
  refine gq_iconst (v := 1) C dX6_summers_1 (by decide) ?_
  refine gq_icmp_lt (tgt := 11) C dX6_summers_2 (by decide) (fun c1 => ?_) (fun c1 => ?_)
  · have h := h.1 c1
    refine gq_bipush (v := (-2)) C dX6_summers_11 (by decide) ?_
    exact gq_iret C h dX6_summers_13
  · have h := h.2 c1
    refine gq_iload_n (j := 1) C dX6_summers_5 rfl ?_
    refine gq_bipush (v := 30) C dX6_summers_6 (by decide) ?_
    refine gq_icmp_le (tgt := 14) C dX6_summers_8 (by decide) (fun c2 => ?_) (fun c2 => ?_)
    · have h := h.1 c2
      refine gq_aload_n (j := 0) C dX6_summers_14 rfl ?_
      refine gq_get (v := .ref (ad 33)) (i := 0) C gcs_0 rfl iq_X6_summers_X6 4 (by decide) fq_X6_summers_35 rfl dX6_summers_15 ?_
      refine gq_aload_n (j := 0) C dX6_summers_18 rfl ?_
      refine gq_get (v := .ref (ad 30)) (i := 0) C gcs_0 rfl iq_X6_summers_X6 3 (by decide) fq_X6_summers_31 rfl dX6_summers_19 ?_
      refine gq_vv (i := 33) C (gcs_X4 gs_33) rfl [.ref (ad 30)] (mq_X4_takeFrom C.2.2.1 gs_33 gs_30 σ _ h) gX6_summers_X4_takeFrom rfl rfl dq_X4_takeFrom ⟨rfl, rfl, by decide, by decide⟩ rfl rfl (Nat.le_of_ble_eq_true rfl) dX6_summers_22 (fun σ4 h => ?_)
      refine gq_iconst (v := 0) C dX6_summers_25 (by decide) ?_
      refine gq_istore_n (L' := [(0, .ref (ad 0)), (1, .int a1), (2, .int 0)]) C [1, 2, 0] dX6_summers_26 (by decide) rfl ?_
      refine gq_iconst (v := 0) C dX6_summers_27 (by decide) ?_
      refine gq_istore_n (L' := [(0, .ref (ad 0)), (1, .int a1), (2, .int 0), (3, .int 0)]) C [1, 2, 3, 0] dX6_summers_28 (by decide) rfl ?_
      obtain ⟨n14, h⟩ := h
      refine tq_X6_summers_l29 C (fun e12 σ13 h => ?_) n14 _ _ _ _ h
      refine gq_iload_n (j := 1) C dX6_summers_85 rfl ?_
      exact gq_iret C h dX6_summers_86
    · have h := h.2 c2
      refine gq_bipush (v := (-2)) C dX6_summers_11 (by decide) ?_
      exact gq_iret C h dX6_summers_13
theorem mq_X6_summers {l : Launch} {D : va_G} {cyI cyZ cyS : ClassId} {ad : Nat → Nat} (hap : gq_ap 84 ad) (a1 : Int32) (σ : gq_M) (Q : Int32 → gq_M → Prop) (h : wq_X6_summers a1 σ Q) : Met l yX6_summers wsX6_summers rq_X6_summers (va_Pc [.ref (ad 0), .int a1] (gq_P D (gc_T cyI cyZ cyS) 84 ad (gc_S cyI cyZ cyS ad) σ)) (va_Qi Q (gq_P D (gc_T cyI cyZ cyS) 84 ad (gc_S cyI cyZ cyS ad)) (gq_A 84 ad)) 0 0 (gq_A 84 ad) :=
  gq_met hap (by decide) rfl rfl (Nat.le_of_ble_eq_true rfl) (fun _ _ _ _ _ _ _ C => tq_X6_summers C a1 σ h)
abbrev rq_X6_keep : Room := { frames := 1, cells := 0, slots := 0, locals := 22 }
theorem dq_X6_keep : gq_dsc yX6_keep 1 := by unfold gq_dsc; decide +kernel
theorem iq_X6_keep_X6 : ∀ w ∈ u_ws RX6 TX6 13, w ∈ wsX6_keep := by decide +kernel
theorem fq_X6_keep_45 : Cond.fieldLink RX6 45 (TX6 6).1 (TX6 6).2.1 (TX6 6).2.2.1 ∈ wsX6_keep := by decide +kernel
theorem fq_X6_keep_31 : Cond.fieldLink RX6 31 (TX6 3).1 (TX6 3).2.1 (TX6 3).2.2.1 ∈ wsX6_keep := by decide +kernel
theorem fq_X6_keep_49 : Cond.fieldLink RX6 49 (TX6 7).1 (TX6 7).2.1 (TX6 7).2.2.1 ∈ wsX6_keep := by decide +kernel
theorem iq_X6_keep_X4 : ∀ w ∈ u_ws RX4 TX4 7, w ∈ wsX6_keep := by decide +kernel
theorem fq_X6_keep_255 : Cond.fieldLink RX6 255 (TX4 6).1 (TX4 6).2.1 (TX4 6).2.2.1 ∈ wsX6_keep := by decide +kernel
def wq_X6_keep (a1 : Int32) (σ : gq_M) (Q : Int32 → gq_M → Prop) : Prop := ((a1 < 0 → Q (-1) σ) ∧ (¬ a1 < 0 → ((a1 < 2 → vp_in a1 2 ∧ wq_X4_takeFrom (36 + 3 * a1.toNatClampNeg) 30 σ (fun σ5 => vp_in a1 2 ∧ Q (((gq_put σ5 27 a1.toNatClampNeg (vp_nar .boolean 1))).1 30 6) (gq_put σ5 27 a1.toNatClampNeg (vp_nar .boolean 1)))) ∧ (¬ a1 < 2 → Q (-1) σ))))
set_option maxRecDepth 100000 in
set_option maxHeartbeats 4000000 in
theorem tq_X6_keep {p : Program} {l : Launch} {e : Env} {s : State} {m : MethodId} {args : Array Value} {below : List Frame} {meth : Method} {c : Code} {D : va_G} {cyI cyZ cyS : ClassId} {ad : Nat → Nat} {Q : Int32 → gq_M → Prop} (C : gq_C p s m args meth c cX6_keep 2 RX6 wsX6_keep D (gc_T cyI cyZ cyS) 84 ad (some .int)) (a1 : Int32) (σ : gq_M) (h : wq_X6_keep a1 σ Q) : gq_G p l e rq_X6_keep s m args below meth c (gq_Ri below args s D (gc_T cyI cyZ cyS) 84 ad (gc_S cyI cyZ cyS ad) Q) D 84 ad (gc_S cyI cyZ cyS ad) 2 σ 0 [(0, .ref (ad 0)), (1, .int a1)] [] := by
  unfold wq_X6_keep at h
  refine gq_iload_n (j := 1) C dX6_keep_0 rfl ?_
  refine gq_if_lt (tgt := 9) C dX6_keep_1 (by decide) (fun c1 => ?_) (fun c1 => ?_)
  · have h := h.1 c1
    refine gq_iconst (v := (-1)) C dX6_keep_9 (by decide) ?_
    exact gq_iret C h dX6_keep_10
  · have h := h.2 c1
    refine gq_iload_n (j := 1) C dX6_keep_4 rfl ?_
    refine gq_iconst (v := 2) C dX6_keep_5 (by decide) ?_
    refine gq_icmp_lt (tgt := 11) C dX6_keep_6 (by decide) (fun c2 => ?_) (fun c2 => ?_)
    · have h := h.1 c2
      refine gq_aload_n (j := 0) C dX6_keep_11 rfl ?_
      refine gq_get (v := .ref (ad 26)) (i := 0) C gcs_0 rfl iq_X6_keep_X6 6 (by decide) fq_X6_keep_45 rfl dX6_keep_12 ?_
      refine gq_iload_n (j := 1) C dX6_keep_15 rfl ?_
      have i3 := h.1
      refine gq_aald (q := ad (36 + 3 * a1.toNatClampNeg)) (i := 26) C gcs_26 2 rfl rfl i3 dX6_keep_16 ?_
      have h := h.2
      refine gq_aload_n (j := 0) C dX6_keep_17 rfl ?_
      refine gq_get (v := .ref (ad 30)) (i := 0) C gcs_0 rfl iq_X6_keep_X6 3 (by decide) fq_X6_keep_31 rfl dX6_keep_18 ?_
      refine gq_vv (i := (36 + 3 * a1.toNatClampNeg)) C (gcs_X4 (gs_zB i3)) rfl [.ref (ad 30)] (mq_X4_takeFrom C.2.2.1 (gs_zB i3) gs_30 σ _ h) gX6_keep_X4_takeFrom rfl rfl dq_X4_takeFrom ⟨rfl, rfl, by decide, by decide⟩ rfl rfl (Nat.le_of_ble_eq_true rfl) dX6_keep_21 (fun σ5 h => ?_)
      refine gq_aload_n (j := 0) C dX6_keep_24 rfl ?_
      refine gq_get (v := .ref (ad 27)) (i := 0) C gcs_0 rfl iq_X6_keep_X6 7 (by decide) fq_X6_keep_49 rfl dX6_keep_25 ?_
      refine gq_iload_n (j := 1) C dX6_keep_28 rfl ?_
      refine gq_iconst (v := 1) C dX6_keep_29 (by decide) ?_
      refine gq_zast (i := 27) (j := a1.toNatClampNeg) C gcs_27 1 rfl rfl h.1 dX6_keep_30 ?_
      have h := h.2
      refine gq_aload_n (j := 0) C dX6_keep_31 rfl ?_
      refine gq_get (v := .ref (ad 30)) (i := 0) C gcs_0 rfl iq_X6_keep_X6 3 (by decide) fq_X6_keep_31 rfl dX6_keep_32 ?_
      refine gq_get (v := .int (((gq_put σ5 27 a1.toNatClampNeg (vp_nar .boolean 1))).1 30 6)) (i := 30) C (gcs_X4 gs_30) rfl iq_X6_keep_X4 6 (by decide) fq_X6_keep_255 rfl dX6_keep_35 ?_
      exact gq_iret C h dX6_keep_38
    · have h := h.2 c2
      refine gq_iconst (v := (-1)) C dX6_keep_9 (by decide) ?_
      exact gq_iret C h dX6_keep_10
theorem mq_X6_keep {l : Launch} {D : va_G} {cyI cyZ cyS : ClassId} {ad : Nat → Nat} (hap : gq_ap 84 ad) (a1 : Int32) (σ : gq_M) (Q : Int32 → gq_M → Prop) (h : wq_X6_keep a1 σ Q) : Met l yX6_keep wsX6_keep rq_X6_keep (va_Pc [.ref (ad 0), .int a1] (gq_P D (gc_T cyI cyZ cyS) 84 ad (gc_S cyI cyZ cyS ad) σ)) (va_Qi Q (gq_P D (gc_T cyI cyZ cyS) 84 ad (gc_S cyI cyZ cyS ad)) (gq_A 84 ad)) 0 0 (gq_A 84 ad) :=
  gq_met hap (by decide) rfl rfl (Nat.le_of_ble_eq_true rfl) (fun _ _ _ _ _ _ _ C => tq_X6_keep C a1 σ h)
abbrev rq_X6_again : Room := { frames := 1, cells := 0, slots := 0, locals := 22 }
theorem dq_X6_again : gq_dsc yX6_again 1 := by unfold gq_dsc; decide +kernel
theorem iq_X6_again_X6 : ∀ w ∈ u_ws RX6 TX6 13, w ∈ wsX6_again := by decide +kernel
theorem fq_X6_again_49 : Cond.fieldLink RX6 49 (TX6 7).1 (TX6 7).2.1 (TX6 7).2.2.1 ∈ wsX6_again := by decide +kernel
theorem fq_X6_again_31 : Cond.fieldLink RX6 31 (TX6 3).1 (TX6 3).2.1 (TX6 3).2.2.1 ∈ wsX6_again := by decide +kernel
theorem fq_X6_again_45 : Cond.fieldLink RX6 45 (TX6 6).1 (TX6 6).2.1 (TX6 6).2.2.1 ∈ wsX6_again := by decide +kernel
theorem fq_X6_again_41 : Cond.fieldLink RX6 41 (TX6 5).1 (TX6 5).2.1 (TX6 5).2.2.1 ∈ wsX6_again := by decide +kernel
theorem iq_X6_again_X0 : ∀ w ∈ u_ws RX0 TX0 3, w ∈ wsX6_again := by decide +kernel
theorem fq_X6_again_89 : Cond.fieldLink RX6 89 (TX0 2).1 (TX0 2).2.1 (TX0 2).2.2.1 ∈ wsX6_again := by decide +kernel
theorem iq_X6_again_X4 : ∀ w ∈ u_ws RX4 TX4 7, w ∈ wsX6_again := by decide +kernel
theorem fq_X6_again_255 : Cond.fieldLink RX6 255 (TX4 6).1 (TX4 6).2.1 (TX4 6).2.2.1 ∈ wsX6_again := by decide +kernel
def wq_X6_again (a1 : Int32) (σ : gq_M) (Q : Int32 → gq_M → Prop) : Prop := ((a1 < 0 → Q (-1) σ) ∧ (¬ a1 < 0 → ((a1 < 2 → vp_in a1 2 ∧ ((¬ (σ.1 27 a1.toNatClampNeg) = 0 → vp_in a1 2 ∧ wq_X4_takeFrom 30 (36 + 3 * a1.toNatClampNeg) σ (fun σ6 => Q (((gq_put σ6 24 2 0)).1 30 6) (gq_put σ6 24 2 0))) ∧ ((σ.1 27 a1.toNatClampNeg) = 0 → Q (-3) σ))) ∧ (¬ a1 < 2 → Q (-1) σ))))
set_option maxRecDepth 100000 in
set_option maxHeartbeats 4000000 in
theorem tq_X6_again {p : Program} {l : Launch} {e : Env} {s : State} {m : MethodId} {args : Array Value} {below : List Frame} {meth : Method} {c : Code} {D : va_G} {cyI cyZ cyS : ClassId} {ad : Nat → Nat} {Q : Int32 → gq_M → Prop} (C : gq_C p s m args meth c cX6_again 2 RX6 wsX6_again D (gc_T cyI cyZ cyS) 84 ad (some .int)) (a1 : Int32) (σ : gq_M) (h : wq_X6_again a1 σ Q) : gq_G p l e rq_X6_again s m args below meth c (gq_Ri below args s D (gc_T cyI cyZ cyS) 84 ad (gc_S cyI cyZ cyS ad) Q) D 84 ad (gc_S cyI cyZ cyS ad) 2 σ 0 [(0, .ref (ad 0)), (1, .int a1)] [] := by
  unfold wq_X6_again at h
  refine gq_iload_n (j := 1) C dX6_again_0 rfl ?_
  refine gq_if_lt (tgt := 9) C dX6_again_1 (by decide) (fun c1 => ?_) (fun c1 => ?_)
  · have h := h.1 c1
    refine gq_iconst (v := (-1)) C dX6_again_9 (by decide) ?_
    exact gq_iret C h dX6_again_10
  · have h := h.2 c1
    refine gq_iload_n (j := 1) C dX6_again_4 rfl ?_
    refine gq_iconst (v := 2) C dX6_again_5 (by decide) ?_
    refine gq_icmp_lt (tgt := 11) C dX6_again_6 (by decide) (fun c2 => ?_) (fun c2 => ?_)
    · have h := h.1 c2
      refine gq_aload_n (j := 0) C dX6_again_11 rfl ?_
      refine gq_get (v := .ref (ad 27)) (i := 0) C gcs_0 rfl iq_X6_again_X6 7 (by decide) fq_X6_again_49 rfl dX6_again_12 ?_
      refine gq_iload_n (j := 1) C dX6_again_15 rfl ?_
      refine gq_zald (i := 27) (j := a1.toNatClampNeg) C gcs_27 1 rfl rfl h.1 dX6_again_16 ?_
      have h := h.2
      refine gq_if_ne (tgt := 23) C dX6_again_17 (by decide) (fun c3 => ?_) (fun c3 => ?_)
      · have h := h.1 c3
        refine gq_aload_n (j := 0) C dX6_again_23 rfl ?_
        refine gq_get (v := .ref (ad 30)) (i := 0) C gcs_0 rfl iq_X6_again_X6 3 (by decide) fq_X6_again_31 rfl dX6_again_24 ?_
        refine gq_aload_n (j := 0) C dX6_again_27 rfl ?_
        refine gq_get (v := .ref (ad 26)) (i := 0) C gcs_0 rfl iq_X6_again_X6 6 (by decide) fq_X6_again_45 rfl dX6_again_28 ?_
        refine gq_iload_n (j := 1) C dX6_again_31 rfl ?_
        have i4 := h.1
        refine gq_aald (q := ad (36 + 3 * a1.toNatClampNeg)) (i := 26) C gcs_26 2 rfl rfl i4 dX6_again_32 ?_
        have h := h.2
        refine gq_vv (i := 30) C (gcs_X4 gs_30) rfl [.ref (ad (36 + 3 * a1.toNatClampNeg))] (mq_X4_takeFrom C.2.2.1 gs_30 (gs_zB i4) σ _ h) gX6_again_X4_takeFrom rfl rfl dq_X4_takeFrom ⟨rfl, rfl, by decide, by decide⟩ rfl rfl (Nat.le_of_ble_eq_true rfl) dX6_again_33 (fun σ6 h => ?_)
        refine gq_aload_n (j := 0) C dX6_again_36 rfl ?_
        refine gq_get (v := .ref (ad 24)) (i := 0) C gcs_0 rfl iq_X6_again_X6 5 (by decide) fq_X6_again_41 rfl dX6_again_37 ?_
        refine gq_iconst (v := 0) C dX6_again_40 (by decide) ?_
        refine gq_puti (i := 24) C gcs_24 rfl iq_X6_again_X0 tyX0 tyX0_ok nmX0 2 (by decide) fq_X6_again_89 rfl rfl rfl (fun _ _ => Nat.le_of_ble_eq_true rfl) gs_X0_2 dX6_again_41 ?_
        refine gq_aload_n (j := 0) C dX6_again_44 rfl ?_
        refine gq_get (v := .ref (ad 30)) (i := 0) C gcs_0 rfl iq_X6_again_X6 3 (by decide) fq_X6_again_31 rfl dX6_again_45 ?_
        refine gq_get (v := .int (((gq_put σ6 24 2 0)).1 30 6)) (i := 30) C (gcs_X4 gs_30) rfl iq_X6_again_X4 6 (by decide) fq_X6_again_255 rfl dX6_again_48 ?_
        exact gq_iret C h dX6_again_51
      · have h := h.2 c3
        refine gq_bipush (v := (-3)) C dX6_again_20 (by decide) ?_
        exact gq_iret C h dX6_again_22
    · have h := h.2 c2
      refine gq_iconst (v := (-1)) C dX6_again_9 (by decide) ?_
      exact gq_iret C h dX6_again_10
theorem mq_X6_again {l : Launch} {D : va_G} {cyI cyZ cyS : ClassId} {ad : Nat → Nat} (hap : gq_ap 84 ad) (a1 : Int32) (σ : gq_M) (Q : Int32 → gq_M → Prop) (h : wq_X6_again a1 σ Q) : Met l yX6_again wsX6_again rq_X6_again (va_Pc [.ref (ad 0), .int a1] (gq_P D (gc_T cyI cyZ cyS) 84 ad (gc_S cyI cyZ cyS ad) σ)) (va_Qi Q (gq_P D (gc_T cyI cyZ cyS) 84 ad (gc_S cyI cyZ cyS ad)) (gq_A 84 ad)) 0 0 (gq_A 84 ad) :=
  gq_met hap (by decide) rfl rfl (Nat.le_of_ble_eq_true rfl) (fun _ _ _ _ _ _ _ C => tq_X6_again C a1 σ h)
abbrev rq_X6_count : Room := { frames := 1, cells := 0, slots := 0, locals := 22 }
theorem dq_X6_count : gq_dsc yX6_count 1 := by unfold gq_dsc; decide +kernel
theorem iq_X6_count_X6 : ∀ w ∈ u_ws RX6 TX6 13, w ∈ wsX6_count := by decide +kernel
theorem fq_X6_count_12 : Cond.fieldLink RX6 12 (TX6 0).1 (TX6 0).2.1 (TX6 0).2.2.1 ∈ wsX6_count := by decide +kernel
theorem iq_X6_count_X3 : ∀ w ∈ u_ws RX3 TX3 2, w ∈ wsX6_count := by decide +kernel
theorem fq_X6_count_78 : Cond.fieldLink RX6 78 (TX3 1).1 (TX3 1).2.1 (TX3 1).2.2.1 ∈ wsX6_count := by decide +kernel
theorem fq_X6_count_23 : Cond.fieldLink RX6 23 (TX6 2).1 (TX6 2).2.1 (TX6 2).2.2.1 ∈ wsX6_count := by decide +kernel
theorem iq_X6_count_X2 : ∀ w ∈ u_ws RX2 TX2 7, w ∈ wsX6_count := by decide +kernel
theorem fq_X6_count_90 : Cond.fieldLink RX6 90 (TX2 5).1 (TX2 5).2.1 (TX2 5).2.2.1 ∈ wsX6_count := by decide +kernel
theorem fq_X6_count_93 : Cond.fieldLink RX6 93 (TX2 6).1 (TX2 6).2.1 (TX2 6).2.2.1 ∈ wsX6_count := by decide +kernel
theorem fq_X6_count_31 : Cond.fieldLink RX6 31 (TX6 3).1 (TX6 3).2.1 (TX6 3).2.2.1 ∈ wsX6_count := by decide +kernel
theorem iq_X6_count_X4 : ∀ w ∈ u_ws RX4 TX4 7, w ∈ wsX6_count := by decide +kernel
theorem fq_X6_count_255 : Cond.fieldLink RX6 255 (TX4 6).1 (TX4 6).2.1 (TX4 6).2.2.1 ∈ wsX6_count := by decide +kernel
theorem fq_X6_count_160 : Cond.fieldLink RX6 160 (TX4 5).1 (TX4 5).2.1 (TX4 5).2.2.1 ∈ wsX6_count := by decide +kernel
theorem fq_X6_count_109 : Cond.fieldLink RX6 109 (TX4 3).1 (TX4 3).2.1 (TX4 3).2.2.1 ∈ wsX6_count := by decide +kernel
theorem fq_X6_count_112 : Cond.fieldLink RX6 112 (TX4 4).1 (TX4 4).2.1 (TX4 4).2.2.1 ∈ wsX6_count := by decide +kernel
theorem fq_X6_count_41 : Cond.fieldLink RX6 41 (TX6 5).1 (TX6 5).2.1 (TX6 5).2.2.1 ∈ wsX6_count := by decide +kernel
theorem iq_X6_count_X0 : ∀ w ∈ u_ws RX0 TX0 3, w ∈ wsX6_count := by decide +kernel
theorem fq_X6_count_89 : Cond.fieldLink RX6 89 (TX0 2).1 (TX0 2).2.1 (TX0 2).2.2.1 ∈ wsX6_count := by decide +kernel
theorem fq_X6_count_63 : Cond.fieldLink RX6 63 (TX6 9).1 (TX6 9).2.1 (TX6 9).2.2.1 ∈ wsX6_count := by decide +kernel
theorem iq_X6_count_X1 : ∀ w ∈ u_ws RX1 TX1 4, w ∈ wsX6_count := by decide +kernel
theorem fq_X6_count_204 : Cond.fieldLink RX6 204 (TX1 3).1 (TX1 3).2.1 (TX1 3).2.2.1 ∈ wsX6_count := by decide +kernel
def wq_X6_count (a1 : Int32) (σ : gq_M) (Q : Int32 → gq_M → Prop) : Prop := ((a1 = 0 → Q (σ.1 1 1) σ) ∧ (¬ a1 = 0 → ((a1 = 1 → Q (σ.1 9 5) σ) ∧ (¬ a1 = 1 → ((a1 = 2 → Q (σ.1 9 6) σ) ∧ (¬ a1 = 2 → ((a1 = 3 → Q (σ.1 30 6) σ) ∧ (¬ a1 = 3 → ((a1 = 4 → Q (σ.1 30 5) σ) ∧ (¬ a1 = 4 → ((a1 = 5 → Q (σ.1 30 3) σ) ∧ (¬ a1 = 5 → ((a1 = 6 → Q (σ.1 30 4) σ) ∧ (¬ a1 = 6 → ((a1 = 7 → wq_X4_placesTaken 30 σ (fun r9 σ10 => Q r9 σ10)) ∧ (¬ a1 = 7 → ((a1 = 8 → wq_X4_windTogether 30 σ (fun r12 σ13 => Q r12 σ13)) ∧ (¬ a1 = 8 → ((a1 = 9 → Q (σ.1 24 2) σ) ∧ (¬ a1 = 9 → ((a1 = 10 → Q (σ.1 15 3) σ) ∧ (¬ a1 = 10 → Q (-2) σ))))))))))))))))))))))
set_option maxRecDepth 100000 in
set_option maxHeartbeats 4000000 in
theorem tq_X6_count {p : Program} {l : Launch} {e : Env} {s : State} {m : MethodId} {args : Array Value} {below : List Frame} {meth : Method} {c : Code} {D : va_G} {cyI cyZ cyS : ClassId} {ad : Nat → Nat} {Q : Int32 → gq_M → Prop} (C : gq_C p s m args meth c cX6_count 2 RX6 wsX6_count D (gc_T cyI cyZ cyS) 84 ad (some .int)) (a1 : Int32) (σ : gq_M) (h : wq_X6_count a1 σ Q) : gq_G p l e rq_X6_count s m args below meth c (gq_Ri below args s D (gc_T cyI cyZ cyS) 84 ad (gc_S cyI cyZ cyS ad) Q) D 84 ad (gc_S cyI cyZ cyS ad) 2 σ 0 [(0, .ref (ad 0)), (1, .int a1)] [] := by
  unfold wq_X6_count at h
  refine gq_iload_n (j := 1) C dX6_count_0 rfl ?_
  by_cases c1 : a1 = 0
  · have h := h.1 c1
    refine gq_tin (tgt := 60) C 0 dX6_count_1 (by rw [c1]; decide) (by decide) (by decide) rfl (by decide) ?_
    refine gq_aload_n (j := 0) C dX6_count_60 rfl ?_
    refine gq_get (v := .ref (ad 1)) (i := 0) C gcs_0 rfl iq_X6_count_X6 0 (by decide) fq_X6_count_12 rfl dX6_count_61 ?_
    refine gq_get (v := .int (σ.1 1 1)) (i := 1) C gcs_1 rfl iq_X6_count_X3 1 (by decide) fq_X6_count_78 rfl dX6_count_64 ?_
    exact gq_iret C h dX6_count_67
  · have h := h.2 c1
    by_cases c2 : a1 = 1
    · have h := h.1 c2
      refine gq_tin (tgt := 68) C 1 dX6_count_1 (by rw [c2]; decide) (by decide) (by decide) rfl (by decide) ?_
      refine gq_aload_n (j := 0) C dX6_count_68 rfl ?_
      refine gq_get (v := .ref (ad 9)) (i := 0) C gcs_0 rfl iq_X6_count_X6 2 (by decide) fq_X6_count_23 rfl dX6_count_69 ?_
      refine gq_get (v := .int (σ.1 9 5)) (i := 9) C (gcs_X2 gr_9) rfl iq_X6_count_X2 5 (by decide) fq_X6_count_90 rfl dX6_count_72 ?_
      exact gq_iret C h dX6_count_75
    · have h := h.2 c2
      by_cases c3 : a1 = 2
      · have h := h.1 c3
        refine gq_tin (tgt := 76) C 2 dX6_count_1 (by rw [c3]; decide) (by decide) (by decide) rfl (by decide) ?_
        refine gq_aload_n (j := 0) C dX6_count_76 rfl ?_
        refine gq_get (v := .ref (ad 9)) (i := 0) C gcs_0 rfl iq_X6_count_X6 2 (by decide) fq_X6_count_23 rfl dX6_count_77 ?_
        refine gq_get (v := .int (σ.1 9 6)) (i := 9) C (gcs_X2 gr_9) rfl iq_X6_count_X2 6 (by decide) fq_X6_count_93 rfl dX6_count_80 ?_
        exact gq_iret C h dX6_count_83
      · have h := h.2 c3
        by_cases c4 : a1 = 3
        · have h := h.1 c4
          refine gq_tin (tgt := 84) C 3 dX6_count_1 (by rw [c4]; decide) (by decide) (by decide) rfl (by decide) ?_
          refine gq_aload_n (j := 0) C dX6_count_84 rfl ?_
          refine gq_get (v := .ref (ad 30)) (i := 0) C gcs_0 rfl iq_X6_count_X6 3 (by decide) fq_X6_count_31 rfl dX6_count_85 ?_
          refine gq_get (v := .int (σ.1 30 6)) (i := 30) C (gcs_X4 gs_30) rfl iq_X6_count_X4 6 (by decide) fq_X6_count_255 rfl dX6_count_88 ?_
          exact gq_iret C h dX6_count_91
        · have h := h.2 c4
          by_cases c5 : a1 = 4
          · have h := h.1 c5
            refine gq_tin (tgt := 92) C 4 dX6_count_1 (by rw [c5]; decide) (by decide) (by decide) rfl (by decide) ?_
            refine gq_aload_n (j := 0) C dX6_count_92 rfl ?_
            refine gq_get (v := .ref (ad 30)) (i := 0) C gcs_0 rfl iq_X6_count_X6 3 (by decide) fq_X6_count_31 rfl dX6_count_93 ?_
            refine gq_get (v := .int (σ.1 30 5)) (i := 30) C (gcs_X4 gs_30) rfl iq_X6_count_X4 5 (by decide) fq_X6_count_160 rfl dX6_count_96 ?_
            exact gq_iret C h dX6_count_99
          · have h := h.2 c5
            by_cases c6 : a1 = 5
            · have h := h.1 c6
              refine gq_tin (tgt := 100) C 5 dX6_count_1 (by rw [c6]; decide) (by decide) (by decide) rfl (by decide) ?_
              refine gq_aload_n (j := 0) C dX6_count_100 rfl ?_
              refine gq_get (v := .ref (ad 30)) (i := 0) C gcs_0 rfl iq_X6_count_X6 3 (by decide) fq_X6_count_31 rfl dX6_count_101 ?_
              refine gq_get (v := .int (σ.1 30 3)) (i := 30) C (gcs_X4 gs_30) rfl iq_X6_count_X4 3 (by decide) fq_X6_count_109 rfl dX6_count_104 ?_
              exact gq_iret C h dX6_count_107
            · have h := h.2 c6
              by_cases c7 : a1 = 6
              · have h := h.1 c7
                refine gq_tin (tgt := 108) C 6 dX6_count_1 (by rw [c7]; decide) (by decide) (by decide) rfl (by decide) ?_
                refine gq_aload_n (j := 0) C dX6_count_108 rfl ?_
                refine gq_get (v := .ref (ad 30)) (i := 0) C gcs_0 rfl iq_X6_count_X6 3 (by decide) fq_X6_count_31 rfl dX6_count_109 ?_
                refine gq_get (v := .int (σ.1 30 4)) (i := 30) C (gcs_X4 gs_30) rfl iq_X6_count_X4 4 (by decide) fq_X6_count_112 rfl dX6_count_112 ?_
                exact gq_iret C h dX6_count_115
              · have h := h.2 c7
                by_cases c8 : a1 = 7
                · have h := h.1 c8
                  refine gq_tin (tgt := 116) C 7 dX6_count_1 (by rw [c8]; decide) (by decide) (by decide) rfl (by decide) ?_
                  refine gq_aload_n (j := 0) C dX6_count_116 rfl ?_
                  refine gq_get (v := .ref (ad 30)) (i := 0) C gcs_0 rfl iq_X6_count_X6 3 (by decide) fq_X6_count_31 rfl dX6_count_117 ?_
                  refine gq_vi (i := 30) C (gcs_X4 gs_30) rfl [] (mq_X4_placesTaken C.2.2.1 gs_30 σ _ h) gX6_count_X4_placesTaken rfl rfl dq_X4_placesTaken ⟨rfl, rfl, by decide, by decide⟩ rfl rfl (Nat.le_of_ble_eq_true rfl) dX6_count_120 (fun r9 σ10 h => ?_)
                  exact gq_iret C h dX6_count_123
                · have h := h.2 c8
                  by_cases c11 : a1 = 8
                  · have h := h.1 c11
                    refine gq_tin (tgt := 124) C 8 dX6_count_1 (by rw [c11]; decide) (by decide) (by decide) rfl (by decide) ?_
                    refine gq_aload_n (j := 0) C dX6_count_124 rfl ?_
                    refine gq_get (v := .ref (ad 30)) (i := 0) C gcs_0 rfl iq_X6_count_X6 3 (by decide) fq_X6_count_31 rfl dX6_count_125 ?_
                    refine gq_vi (i := 30) C (gcs_X4 gs_30) rfl [] (mq_X4_windTogether C.2.2.1 gs_30 σ _ h) gX6_count_X4_windTogether rfl rfl dq_X4_windTogether ⟨rfl, rfl, by decide, by decide⟩ rfl rfl (Nat.le_of_ble_eq_true rfl) dX6_count_128 (fun r12 σ13 h => ?_)
                    exact gq_iret C h dX6_count_131
                  · have h := h.2 c11
                    by_cases c14 : a1 = 9
                    · have h := h.1 c14
                      refine gq_tin (tgt := 132) C 9 dX6_count_1 (by rw [c14]; decide) (by decide) (by decide) rfl (by decide) ?_
                      refine gq_aload_n (j := 0) C dX6_count_132 rfl ?_
                      refine gq_get (v := .ref (ad 24)) (i := 0) C gcs_0 rfl iq_X6_count_X6 5 (by decide) fq_X6_count_41 rfl dX6_count_133 ?_
                      refine gq_get (v := .int (σ.1 24 2)) (i := 24) C gcs_24 rfl iq_X6_count_X0 2 (by decide) fq_X6_count_89 rfl dX6_count_136 ?_
                      exact gq_iret C h dX6_count_139
                    · have h := h.2 c14
                      by_cases c15 : a1 = 10
                      · have h := h.1 c15
                        refine gq_tin (tgt := 140) C 10 dX6_count_1 (by rw [c15]; decide) (by decide) (by decide) rfl (by decide) ?_
                        refine gq_aload_n (j := 0) C dX6_count_140 rfl ?_
                        refine gq_get (v := .ref (ad 15)) (i := 0) C gcs_0 rfl iq_X6_count_X6 9 (by decide) fq_X6_count_63 rfl dX6_count_141 ?_
                        refine gq_get (v := .int (σ.1 15 3)) (i := 15) C gcs_15 rfl iq_X6_count_X1 3 (by decide) fq_X6_count_204 rfl dX6_count_144 ?_
                        exact gq_iret C h dX6_count_147
                      · have h := h.2 c15
                        refine gq_tout (tgt := 148) C dX6_count_1 (by have b0 := lv_neT (k := 0) (a := 0) c1 (by decide); have b1 := lv_neT (k := 1) (a := 1) c2 (by decide); have b2 := lv_neT (k := 2) (a := 2) c3 (by decide); have b3 := lv_neT (k := 3) (a := 3) c4 (by decide); have b4 := lv_neT (k := 4) (a := 4) c5 (by decide); have b5 := lv_neT (k := 5) (a := 5) c6 (by decide); have b6 := lv_neT (k := 6) (a := 6) c7 (by decide); have b7 := lv_neT (k := 7) (a := 7) c8 (by decide); have b8 := lv_neT (k := 8) (a := 8) c11 (by decide); have b9 := lv_neT (k := 9) (a := 9) c14 (by decide); have b10 := lv_neT (k := 10) (a := 10) c15 (by decide); omega) (by decide) ?_
                        refine gq_bipush (v := (-2)) C dX6_count_148 (by decide) ?_
                        exact gq_iret C h dX6_count_150
theorem mq_X6_count {l : Launch} {D : va_G} {cyI cyZ cyS : ClassId} {ad : Nat → Nat} (hap : gq_ap 84 ad) (a1 : Int32) (σ : gq_M) (Q : Int32 → gq_M → Prop) (h : wq_X6_count a1 σ Q) : Met l yX6_count wsX6_count rq_X6_count (va_Pc [.ref (ad 0), .int a1] (gq_P D (gc_T cyI cyZ cyS) 84 ad (gc_S cyI cyZ cyS ad) σ)) (va_Qi Q (gq_P D (gc_T cyI cyZ cyS) 84 ad (gc_S cyI cyZ cyS ad)) (gq_A 84 ad)) 0 0 (gq_A 84 ad) :=
  gq_met hap (by decide) rfl rfl (Nat.le_of_ble_eq_true rfl) (fun _ _ _ _ _ _ _ C => tq_X6_count C a1 σ h)
