/-! ===== walks of X4_takeFrom, X0_remember, X0_takeBack, X1_append, X2_smoothOnes, X2_costShut, X2_tollFor, X1_farthestOn, X1_isOne, X1_howMany (by wip/gen) ===== -/
abbrev rq_X4_takeFrom : Room := { frames := 0, cells := 0, slots := 0, locals := 0 }
theorem dq_X4_takeFrom : gq_dsc yX4_takeFrom 1 := by unfold gq_dsc; decide +kernel
theorem iq_X4_takeFrom_X4 : ∀ w ∈ u_ws RX4 TX4 7, w ∈ wsX4_takeFrom := by decide +kernel
theorem fq_X4_takeFrom_9 : Cond.fieldLink RX4 9 (TX4 1).1 (TX4 1).2.1 (TX4 1).2.2.1 ∈ wsX4_takeFrom := by decide +kernel
theorem fq_X4_takeFrom_15 : Cond.fieldLink RX4 15 (TX4 2).1 (TX4 2).2.1 (TX4 2).2.2.1 ∈ wsX4_takeFrom := by decide +kernel
theorem fq_X4_takeFrom_38 : Cond.fieldLink RX4 38 (TX4 3).1 (TX4 3).2.1 (TX4 3).2.2.1 ∈ wsX4_takeFrom := by decide +kernel
theorem fq_X4_takeFrom_41 : Cond.fieldLink RX4 41 (TX4 4).1 (TX4 4).2.1 (TX4 4).2.2.1 ∈ wsX4_takeFrom := by decide +kernel
theorem fq_X4_takeFrom_44 : Cond.fieldLink RX4 44 (TX4 5).1 (TX4 5).2.1 (TX4 5).2.2.1 ∈ wsX4_takeFrom := by decide +kernel
theorem fq_X4_takeFrom_47 : Cond.fieldLink RX4 47 (TX4 6).1 (TX4 6).2.1 (TX4 6).2.2.1 ∈ wsX4_takeFrom := by decide +kernel
def wq_X4_takeFrom_l2 (z : Nat) (z1 : Nat) (Q : gq_M → Prop) (K37 : gq_M → Prop) : Nat → Int32 → gq_M → Prop
  | 0, _, _ => False
  | n + 1, x2, σ => ((5 ≤ x2 → K37 σ) ∧ (¬ 5 ≤ x2 → vp_in x2 5 ∧ vp_in x2 5 ∧ vp_in x2 5 ∧ vp_in x2 5 ∧ ∀ v2, v2 = (x2 + 1) → wq_X4_takeFrom_l2 z z1 Q K37 n v2 (gq_put (gq_put σ (z + 1) x2.toNatClampNeg (σ.1 (z1 + 1) x2.toNatClampNeg)) (z + 2) x2.toNatClampNeg ((gq_put σ (z + 1) x2.toNatClampNeg (σ.1 (z1 + 1) x2.toNatClampNeg)).1 (z1 + 2) x2.toNatClampNeg))))
set_option maxRecDepth 100000 in
set_option maxHeartbeats 4000000 in
theorem tq_X4_takeFrom_l2 {p : Program} {l : Launch} {e : Env} {s : State} {m : MethodId} {args : Array Value} {below : List Frame} {meth : Method} {c : Code} {D : va_G} {cyI cyZ cyS : ClassId} {ad : Nat → Nat} {z : Nat} {z1 : Nat} {Q : gq_M → Prop} {K37 : gq_M → Prop} (C : gq_C p s m args meth c cX4_takeFrom 3 RX4 wsX4_takeFrom D (gc_T cyI cyZ cyS) 84 ad none) (hz : gs_z z) (hz1 : gs_z z1) (hK37 : ∀ (τ : gq_M), K37 τ → gq_G p l e rq_X4_takeFrom s m args below meth c (gq_Rv below args s D (gc_T cyI cyZ cyS) 84 ad (gc_S cyI cyZ cyS ad) Q) D 84 ad (gc_S cyI cyZ cyS ad) 3 τ 37 [(0, .ref (ad z)), (1, .ref (ad z1))] []) : ∀ (n : Nat) (x2 : Int32) (σ : gq_M), wq_X4_takeFrom_l2 z z1 Q K37 n x2 σ → gq_G p l e rq_X4_takeFrom s m args below meth c (gq_Rv below args s D (gc_T cyI cyZ cyS) 84 ad (gc_S cyI cyZ cyS ad) Q) D 84 ad (gc_S cyI cyZ cyS ad) 3 σ 2 [(0, .ref (ad z)), (1, .ref (ad z1)), (2, .int x2)] [] := by
  intro n
  induction n with
  | zero =>
    intro x2 σ h
    exact absurd h (fun q => q)
  | succ n ih =>
    intro x2 σ h
    unfold wq_X4_takeFrom_l2 at h
    refine gq_iload_n (j := 2) C dX4_takeFrom_2 rfl ?_
    refine gq_iconst (v := 5) C dX4_takeFrom_3 (by decide) ?_
    refine gq_icmp_ge (tgt := 37) C dX4_takeFrom_4 (by decide) (fun c1 => ?_) (fun c1 => ?_)
    · have h := h.1 c1
      refine gq_sub [0, 1] rfl ?_
      exact hK37  _ h
    · have h := h.2 c1
      refine gq_aload_n (j := 0) C dX4_takeFrom_7 rfl ?_
      refine gq_get (v := .ref (ad (z + 1))) (i := z) C (gcs_X4 hz) rfl iq_X4_takeFrom_X4 1 (by decide) fq_X4_takeFrom_9 rfl dX4_takeFrom_8 ?_
      refine gq_iload_n (j := 2) C dX4_takeFrom_11 rfl ?_
      refine gq_aload_n (j := 1) C dX4_takeFrom_12 rfl ?_
      refine gq_get (v := .ref (ad (z1 + 1))) (i := z1) C (gcs_X4 hz1) rfl iq_X4_takeFrom_X4 1 (by decide) fq_X4_takeFrom_9 rfl dX4_takeFrom_13 ?_
      refine gq_iload_n (j := 2) C dX4_takeFrom_16 rfl ?_
      refine gq_iald (i := (z1 + 1)) (j := x2.toNatClampNeg) C (gcs_X4_1 hz1) 0 rfl rfl h.1 dX4_takeFrom_17 ?_
      have h := h.2
      refine gq_iast (i := (z + 1)) (j := x2.toNatClampNeg) C (gcs_X4_1 hz) 0 rfl rfl h.1 dX4_takeFrom_18 ?_
      have h := h.2
      refine gq_aload_n (j := 0) C dX4_takeFrom_19 rfl ?_
      refine gq_get (v := .ref (ad (z + 2))) (i := z) C (gcs_X4 hz) rfl iq_X4_takeFrom_X4 2 (by decide) fq_X4_takeFrom_15 rfl dX4_takeFrom_20 ?_
      refine gq_iload_n (j := 2) C dX4_takeFrom_23 rfl ?_
      refine gq_aload_n (j := 1) C dX4_takeFrom_24 rfl ?_
      refine gq_get (v := .ref (ad (z1 + 2))) (i := z1) C (gcs_X4 hz1) rfl iq_X4_takeFrom_X4 2 (by decide) fq_X4_takeFrom_15 rfl dX4_takeFrom_25 ?_
      refine gq_iload_n (j := 2) C dX4_takeFrom_28 rfl ?_
      refine gq_iald (i := (z1 + 2)) (j := x2.toNatClampNeg) C (gcs_X4_2 hz1) 0 rfl rfl h.1 dX4_takeFrom_29 ?_
      have h := h.2
      refine gq_iast (i := (z + 2)) (j := x2.toNatClampNeg) C (gcs_X4_2 hz) 0 rfl rfl h.1 dX4_takeFrom_30 ?_
      have h := h.2
      obtain ⟨v2, qv2⟩ : ∃ y : Int32, y = (x2 + 1) := ⟨_, rfl⟩
      have h := h v2 qv2
      refine gq_iinc (j := 2) (v := v2) (L' := [(0, .ref (ad z)), (1, .ref (ad z1)), (2, .int v2)]) C [1, 2, 0] dX4_takeFrom_31 rfl (by rw [qv2]; rfl) (by decide) rfl ?_
      refine gq_goto (tgt := 2) C dX4_takeFrom_34 (by decide) ?_
      exact ih _ _ h
def wq_X4_takeFrom (z : Nat) (z1 : Nat) (σ : gq_M) (Q : gq_M → Prop) : Prop := (∃ n4, wq_X4_takeFrom_l2 z z1 Q (fun σ3 => Q (gq_put (gq_put (gq_put (gq_put σ3 z 3 (σ3.1 z1 3)) z 4 (((gq_put σ3 z 3 (σ3.1 z1 3))).1 z1 4)) z 5 (((gq_put (gq_put σ3 z 3 (σ3.1 z1 3)) z 4 (((gq_put σ3 z 3 (σ3.1 z1 3))).1 z1 4))).1 z1 5)) z 6 (((gq_put (gq_put (gq_put σ3 z 3 (σ3.1 z1 3)) z 4 (((gq_put σ3 z 3 (σ3.1 z1 3))).1 z1 4)) z 5 (((gq_put (gq_put σ3 z 3 (σ3.1 z1 3)) z 4 (((gq_put σ3 z 3 (σ3.1 z1 3))).1 z1 4))).1 z1 5))).1 z1 6))) n4 0 σ)
set_option maxRecDepth 100000 in
set_option maxHeartbeats 4000000 in
theorem tq_X4_takeFrom {p : Program} {l : Launch} {e : Env} {s : State} {m : MethodId} {args : Array Value} {below : List Frame} {meth : Method} {c : Code} {D : va_G} {cyI cyZ cyS : ClassId} {ad : Nat → Nat} {z : Nat} {z1 : Nat} {Q : gq_M → Prop} (C : gq_C p s m args meth c cX4_takeFrom 3 RX4 wsX4_takeFrom D (gc_T cyI cyZ cyS) 84 ad none) (hz : gs_z z) (hz1 : gs_z z1) (σ : gq_M) (h : wq_X4_takeFrom z z1 σ Q) : gq_G p l e rq_X4_takeFrom s m args below meth c (gq_Rv below args s D (gc_T cyI cyZ cyS) 84 ad (gc_S cyI cyZ cyS ad) Q) D 84 ad (gc_S cyI cyZ cyS ad) 3 σ 0 [(0, .ref (ad z)), (1, .ref (ad z1))] [] := by
  unfold wq_X4_takeFrom at h
  refine gq_iconst (v := 0) C dX4_takeFrom_0 (by decide) ?_
  refine gq_istore_n (L' := [(0, .ref (ad z)), (1, .ref (ad z1)), (2, .int 0)]) C [1, 2, 0] dX4_takeFrom_1 (by decide) rfl ?_
  obtain ⟨n4, h⟩ := h
  refine tq_X4_takeFrom_l2 C hz hz1 (fun σ3 h => ?_) n4 _ _ h
  refine gq_aload_n (j := 0) C dX4_takeFrom_37 rfl ?_
  refine gq_aload_n (j := 1) C dX4_takeFrom_38 rfl ?_
  refine gq_get (v := .int (σ3.1 z1 3)) (i := z1) C (gcs_X4 hz1) rfl iq_X4_takeFrom_X4 3 (by decide) fq_X4_takeFrom_38 rfl dX4_takeFrom_39 ?_
  refine gq_puti (i := z) C (gcs_X4 hz) rfl iq_X4_takeFrom_X4 tyX4 tyX4_ok nmX4 3 (by decide) fq_X4_takeFrom_38 rfl rfl rfl (fun _ _ => Nat.le_of_ble_eq_true rfl) gs_X4_3 dX4_takeFrom_42 ?_
  refine gq_aload_n (j := 0) C dX4_takeFrom_45 rfl ?_
  refine gq_aload_n (j := 1) C dX4_takeFrom_46 rfl ?_
  refine gq_get (v := .int (((gq_put σ3 z 3 (σ3.1 z1 3))).1 z1 4)) (i := z1) C (gcs_X4 hz1) rfl iq_X4_takeFrom_X4 4 (by decide) fq_X4_takeFrom_41 rfl dX4_takeFrom_47 ?_
  refine gq_puti (i := z) C (gcs_X4 hz) rfl iq_X4_takeFrom_X4 tyX4 tyX4_ok nmX4 4 (by decide) fq_X4_takeFrom_41 rfl rfl rfl (fun _ _ => Nat.le_of_ble_eq_true rfl) gs_X4_4 dX4_takeFrom_50 ?_
  refine gq_aload_n (j := 0) C dX4_takeFrom_53 rfl ?_
  refine gq_aload_n (j := 1) C dX4_takeFrom_54 rfl ?_
  refine gq_get (v := .int (((gq_put (gq_put σ3 z 3 (σ3.1 z1 3)) z 4 (((gq_put σ3 z 3 (σ3.1 z1 3))).1 z1 4))).1 z1 5)) (i := z1) C (gcs_X4 hz1) rfl iq_X4_takeFrom_X4 5 (by decide) fq_X4_takeFrom_44 rfl dX4_takeFrom_55 ?_
  refine gq_puti (i := z) C (gcs_X4 hz) rfl iq_X4_takeFrom_X4 tyX4 tyX4_ok nmX4 5 (by decide) fq_X4_takeFrom_44 rfl rfl rfl (fun _ _ => Nat.le_of_ble_eq_true rfl) gs_X4_5 dX4_takeFrom_58 ?_
  refine gq_aload_n (j := 0) C dX4_takeFrom_61 rfl ?_
  refine gq_aload_n (j := 1) C dX4_takeFrom_62 rfl ?_
  refine gq_get (v := .int (((gq_put (gq_put (gq_put σ3 z 3 (σ3.1 z1 3)) z 4 (((gq_put σ3 z 3 (σ3.1 z1 3))).1 z1 4)) z 5 (((gq_put (gq_put σ3 z 3 (σ3.1 z1 3)) z 4 (((gq_put σ3 z 3 (σ3.1 z1 3))).1 z1 4))).1 z1 5))).1 z1 6)) (i := z1) C (gcs_X4 hz1) rfl iq_X4_takeFrom_X4 6 (by decide) fq_X4_takeFrom_47 rfl dX4_takeFrom_63 ?_
  refine gq_puti (i := z) C (gcs_X4 hz) rfl iq_X4_takeFrom_X4 tyX4 tyX4_ok nmX4 6 (by decide) fq_X4_takeFrom_47 rfl rfl rfl (fun _ _ => Nat.le_of_ble_eq_true rfl) gs_X4_6 dX4_takeFrom_66 ?_
  exact gq_vret C h dX4_takeFrom_69
theorem mq_X4_takeFrom {l : Launch} {D : va_G} {cyI cyZ cyS : ClassId} {ad : Nat → Nat} (hap : gq_ap 84 ad) {z : Nat} {z1 : Nat} (hz : gs_z z) (hz1 : gs_z z1) (σ : gq_M) (Q : gq_M → Prop) (h : wq_X4_takeFrom z z1 σ Q) : Met l yX4_takeFrom wsX4_takeFrom rq_X4_takeFrom (va_Pc [.ref (ad z), .ref (ad z1)] (gq_P D (gc_T cyI cyZ cyS) 84 ad (gc_S cyI cyZ cyS ad) σ)) (va_Qv Q (gq_P D (gc_T cyI cyZ cyS) 84 ad (gc_S cyI cyZ cyS ad)) (gq_A 84 ad)) 0 0 (gq_A 84 ad) :=
  gq_met hap (by decide) rfl rfl (Nat.le_of_ble_eq_true rfl) (fun _ _ _ _ _ _ _ C => tq_X4_takeFrom C hz hz1 σ h)
abbrev rq_X0_remember : Room := { frames := 1, cells := 0, slots := 0, locals := 22 }
theorem dq_X0_remember : gq_dsc yX0_remember 1 := by unfold gq_dsc; decide +kernel
theorem iq_X0_remember_X0 : ∀ w ∈ u_ws RX0 TX0 3, w ∈ wsX0_remember := by decide +kernel
theorem fq_X0_remember_11 : Cond.fieldLink RX0 11 (TX0 0).1 (TX0 0).2.1 (TX0 0).2.2.1 ∈ wsX0_remember := by decide +kernel
theorem fq_X0_remember_20 : Cond.fieldLink RX0 20 (TX0 1).1 (TX0 1).2.1 (TX0 1).2.2.1 ∈ wsX0_remember := by decide +kernel
theorem fq_X0_remember_28 : Cond.fieldLink RX0 28 (TX0 2).1 (TX0 2).2.1 (TX0 2).2.2.1 ∈ wsX0_remember := by decide +kernel
def wq_X0_remember (z1 : Nat) (σ : gq_M) (Q : gq_M → Prop) : Prop := vp_in (σ.1 24 1) 14 ∧ wq_X4_takeFrom (42 + 3 * ((σ.1 24 1)).toNatClampNeg) z1 σ (fun σ3 => Q (gq_put (gq_put σ3 24 1 (((σ3.1 24 1) + 1) - ((σ3.1 24 1) + 1) / 14 * 14)) 24 2 (if ((((gq_put σ3 24 1 (((σ3.1 24 1) + 1) - ((σ3.1 24 1) + 1) / 14 * 14))).1 24 2) + 1) < 14 then ((((gq_put σ3 24 1 (((σ3.1 24 1) + 1) - ((σ3.1 24 1) + 1) / 14 * 14))).1 24 2) + 1) else 14)))
set_option maxRecDepth 100000 in
set_option maxHeartbeats 4000000 in
theorem tq_X0_remember {p : Program} {l : Launch} {e : Env} {s : State} {m : MethodId} {args : Array Value} {below : List Frame} {meth : Method} {c : Code} {D : va_G} {cyI cyZ cyS : ClassId} {ad : Nat → Nat} {z1 : Nat} {Q : gq_M → Prop} (C : gq_C p s m args meth c cX0_remember 2 RX0 wsX0_remember D (gc_T cyI cyZ cyS) 84 ad none) (hz1 : gs_z z1) (σ : gq_M) (h : wq_X0_remember z1 σ Q) : gq_G p l e rq_X0_remember s m args below meth c (gq_Rv below args s D (gc_T cyI cyZ cyS) 84 ad (gc_S cyI cyZ cyS ad) Q) D 84 ad (gc_S cyI cyZ cyS ad) 2 σ 0 [(0, .ref (ad 24)), (1, .ref (ad z1))] [] := by
  unfold wq_X0_remember at h
  refine gq_aload_n (j := 0) C dX0_remember_0 rfl ?_
  refine gq_get (v := .ref (ad 25)) (i := 24) C gcs_24 rfl iq_X0_remember_X0 0 (by decide) fq_X0_remember_11 rfl dX0_remember_1 ?_
  refine gq_aload_n (j := 0) C dX0_remember_4 rfl ?_
  refine gq_get (v := .int (σ.1 24 1)) (i := 24) C gcs_24 rfl iq_X0_remember_X0 1 (by decide) fq_X0_remember_20 rfl dX0_remember_5 ?_
  have i1 := h.1
  refine gq_aald (q := ad (42 + 3 * ((σ.1 24 1)).toNatClampNeg)) (i := 25) C gcs_25 2 rfl rfl i1 dX0_remember_8 ?_
  have h := h.2
  refine gq_aload_n (j := 1) C dX0_remember_9 rfl ?_
  refine gq_vv (i := (42 + 3 * ((σ.1 24 1)).toNatClampNeg)) C (gcs_X4 (gs_zA i1)) rfl [.ref (ad z1)] (mq_X4_takeFrom C.2.2.1 (gs_zA i1) hz1 σ _ h) gX0_remember_X4_takeFrom rfl rfl dq_X4_takeFrom ⟨rfl, rfl, by decide, by decide⟩ rfl rfl (Nat.le_of_ble_eq_true rfl) dX0_remember_10 (fun σ3 h => ?_)
  refine gq_aload_n (j := 0) C dX0_remember_13 rfl ?_
  refine gq_aload_n (j := 0) C dX0_remember_14 rfl ?_
  refine gq_get (v := .int (σ3.1 24 1)) (i := 24) C gcs_24 rfl iq_X0_remember_X0 1 (by decide) fq_X0_remember_20 rfl dX0_remember_15 ?_
  refine gq_iconst (v := 1) C dX0_remember_18 (by decide) ?_
  refine gq_iadd C dX0_remember_19 ?_
  refine gq_bipush (v := 14) C dX0_remember_20 (by decide) ?_
  refine gq_irem C dX0_remember_22 (by decide) ?_
  refine gq_puti (i := 24) C gcs_24 rfl iq_X0_remember_X0 tyX0 tyX0_ok nmX0 1 (by decide) fq_X0_remember_20 rfl rfl rfl (fun _ _ => Nat.le_of_ble_eq_true rfl) gs_X0_1 dX0_remember_23 ?_
  refine gq_aload_n (j := 0) C dX0_remember_26 rfl ?_
  refine gq_bipush (v := 14) C dX0_remember_27 (by decide) ?_
  refine gq_aload_n (j := 0) C dX0_remember_29 rfl ?_
  refine gq_get (v := .int (((gq_put σ3 24 1 (((σ3.1 24 1) + 1) - ((σ3.1 24 1) + 1) / 14 * 14))).1 24 2)) (i := 24) C gcs_24 rfl iq_X0_remember_X0 2 (by decide) fq_X0_remember_28 rfl dX0_remember_30 ?_
  refine gq_iconst (v := 1) C dX0_remember_33 (by decide) ?_
  refine gq_iadd C dX0_remember_34 ?_
  refine gq_mmin C (by decide +kernel) (by decide +kernel) (by decide +kernel) (by decide +kernel) (by decide) (Nat.le_of_ble_eq_true rfl) dX0_remember_35 ?_
  refine gq_puti (i := 24) C gcs_24 rfl iq_X0_remember_X0 tyX0 tyX0_ok nmX0 2 (by decide) fq_X0_remember_28 rfl rfl rfl (fun _ _ => Nat.le_of_ble_eq_true rfl) gs_X0_2 dX0_remember_38 ?_
  exact gq_vret C h dX0_remember_41
theorem mq_X0_remember {l : Launch} {D : va_G} {cyI cyZ cyS : ClassId} {ad : Nat → Nat} (hap : gq_ap 84 ad) {z1 : Nat} (hz1 : gs_z z1) (σ : gq_M) (Q : gq_M → Prop) (h : wq_X0_remember z1 σ Q) : Met l yX0_remember wsX0_remember rq_X0_remember (va_Pc [.ref (ad 24), .ref (ad z1)] (gq_P D (gc_T cyI cyZ cyS) 84 ad (gc_S cyI cyZ cyS ad) σ)) (va_Qv Q (gq_P D (gc_T cyI cyZ cyS) 84 ad (gc_S cyI cyZ cyS ad)) (gq_A 84 ad)) 0 0 (gq_A 84 ad) :=
  gq_met hap (by decide) rfl rfl (Nat.le_of_ble_eq_true rfl) (fun _ _ _ _ _ _ _ C => tq_X0_remember C hz1 σ h)
abbrev rq_X0_takeBack : Room := { frames := 1, cells := 0, slots := 0, locals := 22 }
theorem dq_X0_takeBack : gq_dsc yX0_takeBack 1 := by unfold gq_dsc; decide +kernel
theorem iq_X0_takeBack_X0 : ∀ w ∈ u_ws RX0 TX0 3, w ∈ wsX0_takeBack := by decide +kernel
theorem fq_X0_takeBack_20 : Cond.fieldLink RX0 20 (TX0 1).1 (TX0 1).2.1 (TX0 1).2.2.1 ∈ wsX0_takeBack := by decide +kernel
theorem fq_X0_takeBack_28 : Cond.fieldLink RX0 28 (TX0 2).1 (TX0 2).2.1 (TX0 2).2.2.1 ∈ wsX0_takeBack := by decide +kernel
theorem fq_X0_takeBack_11 : Cond.fieldLink RX0 11 (TX0 0).1 (TX0 0).2.1 (TX0 0).2.2.1 ∈ wsX0_takeBack := by decide +kernel
def wq_X0_takeBack (z1 : Nat) (σ : gq_M) (Q : gq_M → Prop) : Prop := vp_in (((gq_put (gq_put σ 24 1 ((((σ.1 24 1) + 14) - 1) - (((σ.1 24 1) + 14) - 1) / 14 * 14)) 24 2 ((((gq_put σ 24 1 ((((σ.1 24 1) + 14) - 1) - (((σ.1 24 1) + 14) - 1) / 14 * 14))).1 24 2) - 1))).1 24 1) 14 ∧ wq_X4_takeFrom z1 (42 + 3 * ((((gq_put (gq_put σ 24 1 ((((σ.1 24 1) + 14) - 1) - (((σ.1 24 1) + 14) - 1) / 14 * 14)) 24 2 ((((gq_put σ 24 1 ((((σ.1 24 1) + 14) - 1) - (((σ.1 24 1) + 14) - 1) / 14 * 14))).1 24 2) - 1))).1 24 1)).toNatClampNeg) (gq_put (gq_put σ 24 1 ((((σ.1 24 1) + 14) - 1) - (((σ.1 24 1) + 14) - 1) / 14 * 14)) 24 2 ((((gq_put σ 24 1 ((((σ.1 24 1) + 14) - 1) - (((σ.1 24 1) + 14) - 1) / 14 * 14))).1 24 2) - 1)) (fun σ3 => Q σ3)
set_option maxRecDepth 100000 in
set_option maxHeartbeats 4000000 in
theorem tq_X0_takeBack {p : Program} {l : Launch} {e : Env} {s : State} {m : MethodId} {args : Array Value} {below : List Frame} {meth : Method} {c : Code} {D : va_G} {cyI cyZ cyS : ClassId} {ad : Nat → Nat} {z1 : Nat} {Q : gq_M → Prop} (C : gq_C p s m args meth c cX0_takeBack 2 RX0 wsX0_takeBack D (gc_T cyI cyZ cyS) 84 ad none) (hz1 : gs_z z1) (σ : gq_M) (h : wq_X0_takeBack z1 σ Q) : gq_G p l e rq_X0_takeBack s m args below meth c (gq_Rv below args s D (gc_T cyI cyZ cyS) 84 ad (gc_S cyI cyZ cyS ad) Q) D 84 ad (gc_S cyI cyZ cyS ad) 2 σ 0 [(0, .ref (ad 24)), (1, .ref (ad z1))] [] := by
  unfold wq_X0_takeBack at h
  refine gq_aload_n (j := 0) C dX0_takeBack_0 rfl ?_
  refine gq_aload_n (j := 0) C dX0_takeBack_1 rfl ?_
  refine gq_get (v := .int (σ.1 24 1)) (i := 24) C gcs_24 rfl iq_X0_takeBack_X0 1 (by decide) fq_X0_takeBack_20 rfl dX0_takeBack_2 ?_
  refine gq_bipush (v := 14) C dX0_takeBack_5 (by decide) ?_
  refine gq_iadd C dX0_takeBack_7 ?_
  refine gq_iconst (v := 1) C dX0_takeBack_8 (by decide) ?_
  refine gq_isub C dX0_takeBack_9 ?_
  refine gq_bipush (v := 14) C dX0_takeBack_10 (by decide) ?_
  refine gq_irem C dX0_takeBack_12 (by decide) ?_
  refine gq_puti (i := 24) C gcs_24 rfl iq_X0_takeBack_X0 tyX0 tyX0_ok nmX0 1 (by decide) fq_X0_takeBack_20 rfl rfl rfl (fun _ _ => Nat.le_of_ble_eq_true rfl) gs_X0_1 dX0_takeBack_13 ?_
  refine gq_aload_n (j := 0) C dX0_takeBack_16 rfl ?_
  refine gq_dup C dX0_takeBack_17 rfl ?_
  refine gq_get (v := .int (((gq_put σ 24 1 ((((σ.1 24 1) + 14) - 1) - (((σ.1 24 1) + 14) - 1) / 14 * 14))).1 24 2)) (i := 24) C gcs_24 rfl iq_X0_takeBack_X0 2 (by decide) fq_X0_takeBack_28 rfl dX0_takeBack_18 ?_
  refine gq_iconst (v := 1) C dX0_takeBack_21 (by decide) ?_
  refine gq_isub C dX0_takeBack_22 ?_
  refine gq_puti (i := 24) C gcs_24 rfl iq_X0_takeBack_X0 tyX0 tyX0_ok nmX0 2 (by decide) fq_X0_takeBack_28 rfl rfl rfl (fun _ _ => Nat.le_of_ble_eq_true rfl) gs_X0_2 dX0_takeBack_23 ?_
  refine gq_aload_n (j := 1) C dX0_takeBack_26 rfl ?_
  refine gq_aload_n (j := 0) C dX0_takeBack_27 rfl ?_
  refine gq_get (v := .ref (ad 25)) (i := 24) C gcs_24 rfl iq_X0_takeBack_X0 0 (by decide) fq_X0_takeBack_11 rfl dX0_takeBack_28 ?_
  refine gq_aload_n (j := 0) C dX0_takeBack_31 rfl ?_
  refine gq_get (v := .int (((gq_put (gq_put σ 24 1 ((((σ.1 24 1) + 14) - 1) - (((σ.1 24 1) + 14) - 1) / 14 * 14)) 24 2 ((((gq_put σ 24 1 ((((σ.1 24 1) + 14) - 1) - (((σ.1 24 1) + 14) - 1) / 14 * 14))).1 24 2) - 1))).1 24 1)) (i := 24) C gcs_24 rfl iq_X0_takeBack_X0 1 (by decide) fq_X0_takeBack_20 rfl dX0_takeBack_32 ?_
  have i1 := h.1
  refine gq_aald (q := ad (42 + 3 * ((((gq_put (gq_put σ 24 1 ((((σ.1 24 1) + 14) - 1) - (((σ.1 24 1) + 14) - 1) / 14 * 14)) 24 2 ((((gq_put σ 24 1 ((((σ.1 24 1) + 14) - 1) - (((σ.1 24 1) + 14) - 1) / 14 * 14))).1 24 2) - 1))).1 24 1)).toNatClampNeg)) (i := 25) C gcs_25 2 rfl rfl i1 dX0_takeBack_35 ?_
  have h := h.2
  refine gq_vv (i := z1) C (gcs_X4 hz1) rfl [.ref (ad (42 + 3 * ((((gq_put (gq_put σ 24 1 ((((σ.1 24 1) + 14) - 1) - (((σ.1 24 1) + 14) - 1) / 14 * 14)) 24 2 ((((gq_put σ 24 1 ((((σ.1 24 1) + 14) - 1) - (((σ.1 24 1) + 14) - 1) / 14 * 14))).1 24 2) - 1))).1 24 1)).toNatClampNeg))] (mq_X4_takeFrom C.2.2.1 hz1 (gs_zA i1) (gq_put (gq_put σ 24 1 ((((σ.1 24 1) + 14) - 1) - (((σ.1 24 1) + 14) - 1) / 14 * 14)) 24 2 ((((gq_put σ 24 1 ((((σ.1 24 1) + 14) - 1) - (((σ.1 24 1) + 14) - 1) / 14 * 14))).1 24 2) - 1)) _ h) gX0_takeBack_X4_takeFrom rfl rfl dq_X4_takeFrom ⟨rfl, rfl, by decide, by decide⟩ rfl rfl (Nat.le_of_ble_eq_true rfl) dX0_takeBack_36 (fun σ3 h => ?_)
  exact gq_vret C h dX0_takeBack_39
theorem mq_X0_takeBack {l : Launch} {D : va_G} {cyI cyZ cyS : ClassId} {ad : Nat → Nat} (hap : gq_ap 84 ad) {z1 : Nat} (hz1 : gs_z z1) (σ : gq_M) (Q : gq_M → Prop) (h : wq_X0_takeBack z1 σ Q) : Met l yX0_takeBack wsX0_takeBack rq_X0_takeBack (va_Pc [.ref (ad 24), .ref (ad z1)] (gq_P D (gc_T cyI cyZ cyS) 84 ad (gc_S cyI cyZ cyS ad) σ)) (va_Qv Q (gq_P D (gc_T cyI cyZ cyS) 84 ad (gc_S cyI cyZ cyS ad)) (gq_A 84 ad)) 0 0 (gq_A 84 ad) :=
  gq_met hap (by decide) rfl rfl (Nat.le_of_ble_eq_true rfl) (fun _ _ _ _ _ _ _ C => tq_X0_takeBack C hz1 σ h)
abbrev rq_X1_append : Room := { frames := 0, cells := 0, slots := 0, locals := 0 }
theorem dq_X1_append : gq_dsc yX1_append 2 := by unfold gq_dsc; decide +kernel
theorem iq_X1_append_X1 : ∀ w ∈ u_ws RX1 TX1 4, w ∈ wsX1_append := by decide +kernel
theorem fq_X1_append_23 : Cond.fieldLink RX1 23 (TX1 3).1 (TX1 3).2.1 (TX1 3).2.2.1 ∈ wsX1_append := by decide +kernel
theorem fq_X1_append_9 : Cond.fieldLink RX1 9 (TX1 1).1 (TX1 1).2.1 (TX1 1).2.2.1 ∈ wsX1_append := by decide +kernel
theorem fq_X1_append_15 : Cond.fieldLink RX1 15 (TX1 2).1 (TX1 2).2.1 (TX1 2).2.2.1 ∈ wsX1_append := by decide +kernel
def wq_X1_append (a1 : Int32) (a2 : Int32) (σ : gq_M) (Q : Int32 → gq_M → Prop) : Prop := (((σ.1 15 3) < 6 → vp_in (σ.1 15 3) 6 ∧ vp_in (((gq_put σ 16 ((σ.1 15 3)).toNatClampNeg a1)).1 15 3) 6 ∧ Q (((gq_put (gq_put (gq_put σ 16 ((σ.1 15 3)).toNatClampNeg a1) 17 ((((gq_put σ 16 ((σ.1 15 3)).toNatClampNeg a1)).1 15 3)).toNatClampNeg (vp_nar .boolean a2)) 15 3 ((((gq_put (gq_put σ 16 ((σ.1 15 3)).toNatClampNeg a1) 17 ((((gq_put σ 16 ((σ.1 15 3)).toNatClampNeg a1)).1 15 3)).toNatClampNeg (vp_nar .boolean a2))).1 15 3) + 1))).1 15 3) (gq_put (gq_put (gq_put σ 16 ((σ.1 15 3)).toNatClampNeg a1) 17 ((((gq_put σ 16 ((σ.1 15 3)).toNatClampNeg a1)).1 15 3)).toNatClampNeg (vp_nar .boolean a2)) 15 3 ((((gq_put (gq_put σ 16 ((σ.1 15 3)).toNatClampNeg a1) 17 ((((gq_put σ 16 ((σ.1 15 3)).toNatClampNeg a1)).1 15 3)).toNatClampNeg (vp_nar .boolean a2))).1 15 3) + 1))) ∧ (¬ (σ.1 15 3) < 6 → Q (-4) σ))
set_option maxRecDepth 100000 in
set_option maxHeartbeats 4000000 in
theorem tq_X1_append {p : Program} {l : Launch} {e : Env} {s : State} {m : MethodId} {args : Array Value} {below : List Frame} {meth : Method} {c : Code} {D : va_G} {cyI cyZ cyS : ClassId} {ad : Nat → Nat} {Q : Int32 → gq_M → Prop} (C : gq_C p s m args meth c cX1_append 3 RX1 wsX1_append D (gc_T cyI cyZ cyS) 84 ad (some .int)) (a1 : Int32) (a2 : Int32) (σ : gq_M) (h : wq_X1_append a1 a2 σ Q) : gq_G p l e rq_X1_append s m args below meth c (gq_Ri below args s D (gc_T cyI cyZ cyS) 84 ad (gc_S cyI cyZ cyS ad) Q) D 84 ad (gc_S cyI cyZ cyS ad) 3 σ 0 [(0, .ref (ad 15)), (1, .int a1), (2, .int a2)] [] := by
  unfold wq_X1_append at h
  refine gq_aload_n (j := 0) C dX1_append_0 rfl ?_
  refine gq_get (v := .int (σ.1 15 3)) (i := 15) C gcs_15 rfl iq_X1_append_X1 3 (by decide) fq_X1_append_23 rfl dX1_append_1 ?_
  refine gq_bipush (v := 6) C dX1_append_4 (by decide) ?_
  refine gq_icmp_lt (tgt := 12) C dX1_append_6 (by decide) (fun c1 => ?_) (fun c1 => ?_)
  · have h := h.1 c1
    refine gq_aload_n (j := 0) C dX1_append_12 rfl ?_
    refine gq_get (v := .ref (ad 16)) (i := 15) C gcs_15 rfl iq_X1_append_X1 1 (by decide) fq_X1_append_9 rfl dX1_append_13 ?_
    refine gq_aload_n (j := 0) C dX1_append_16 rfl ?_
    refine gq_get (v := .int (σ.1 15 3)) (i := 15) C gcs_15 rfl iq_X1_append_X1 3 (by decide) fq_X1_append_23 rfl dX1_append_17 ?_
    refine gq_iload_n (j := 1) C dX1_append_20 rfl ?_
    refine gq_iast (i := 16) (j := ((σ.1 15 3)).toNatClampNeg) C gcs_16 0 rfl rfl h.1 dX1_append_21 ?_
    have h := h.2
    refine gq_aload_n (j := 0) C dX1_append_22 rfl ?_
    refine gq_get (v := .ref (ad 17)) (i := 15) C gcs_15 rfl iq_X1_append_X1 2 (by decide) fq_X1_append_15 rfl dX1_append_23 ?_
    refine gq_aload_n (j := 0) C dX1_append_26 rfl ?_
    refine gq_get (v := .int (((gq_put σ 16 ((σ.1 15 3)).toNatClampNeg a1)).1 15 3)) (i := 15) C gcs_15 rfl iq_X1_append_X1 3 (by decide) fq_X1_append_23 rfl dX1_append_27 ?_
    refine gq_iload_n (j := 2) C dX1_append_30 rfl ?_
    refine gq_zast (i := 17) (j := ((((gq_put σ 16 ((σ.1 15 3)).toNatClampNeg a1)).1 15 3)).toNatClampNeg) C gcs_17 1 rfl rfl h.1 dX1_append_31 ?_
    have h := h.2
    refine gq_aload_n (j := 0) C dX1_append_32 rfl ?_
    refine gq_dup C dX1_append_33 rfl ?_
    refine gq_get (v := .int (((gq_put (gq_put σ 16 ((σ.1 15 3)).toNatClampNeg a1) 17 ((((gq_put σ 16 ((σ.1 15 3)).toNatClampNeg a1)).1 15 3)).toNatClampNeg (vp_nar .boolean a2))).1 15 3)) (i := 15) C gcs_15 rfl iq_X1_append_X1 3 (by decide) fq_X1_append_23 rfl dX1_append_34 ?_
    refine gq_iconst (v := 1) C dX1_append_37 (by decide) ?_
    refine gq_iadd C dX1_append_38 ?_
    refine gq_puti (i := 15) C gcs_15 rfl iq_X1_append_X1 tyX1 tyX1_ok nmX1 3 (by decide) fq_X1_append_23 rfl rfl rfl (fun _ _ => Nat.le_of_ble_eq_true rfl) gs_X1_3 dX1_append_39 ?_
    refine gq_aload_n (j := 0) C dX1_append_42 rfl ?_
    refine gq_get (v := .int (((gq_put (gq_put (gq_put σ 16 ((σ.1 15 3)).toNatClampNeg a1) 17 ((((gq_put σ 16 ((σ.1 15 3)).toNatClampNeg a1)).1 15 3)).toNatClampNeg (vp_nar .boolean a2)) 15 3 ((((gq_put (gq_put σ 16 ((σ.1 15 3)).toNatClampNeg a1) 17 ((((gq_put σ 16 ((σ.1 15 3)).toNatClampNeg a1)).1 15 3)).toNatClampNeg (vp_nar .boolean a2))).1 15 3) + 1))).1 15 3)) (i := 15) C gcs_15 rfl iq_X1_append_X1 3 (by decide) fq_X1_append_23 rfl dX1_append_43 ?_
    exact gq_iret C h dX1_append_46
  · have h := h.2 c1
    refine gq_bipush (v := (-4)) C dX1_append_9 (by decide) ?_
    exact gq_iret C h dX1_append_11
theorem mq_X1_append {l : Launch} {D : va_G} {cyI cyZ cyS : ClassId} {ad : Nat → Nat} (hap : gq_ap 84 ad) (a1 : Int32) (a2 : Int32) (σ : gq_M) (Q : Int32 → gq_M → Prop) (h : wq_X1_append a1 a2 σ Q) : Met l yX1_append wsX1_append rq_X1_append (va_Pc [.ref (ad 15), .int a1, .int a2] (gq_P D (gc_T cyI cyZ cyS) 84 ad (gc_S cyI cyZ cyS ad) σ)) (va_Qi Q (gq_P D (gc_T cyI cyZ cyS) 84 ad (gc_S cyI cyZ cyS ad)) (gq_A 84 ad)) 0 0 (gq_A 84 ad) :=
  gq_met hap (by decide) rfl rfl (Nat.le_of_ble_eq_true rfl) (fun _ _ _ _ _ _ _ C => tq_X1_append C a1 a2 σ h)
abbrev rq_X2_smoothOnes : Room := { frames := 0, cells := 0, slots := 0, locals := 0 }
theorem dq_X2_smoothOnes : gq_dsc yX2_smoothOnes 0 := by unfold gq_dsc; decide +kernel
theorem iq_X2_smoothOnes_X2 : ∀ w ∈ u_ws RX2 TX2 7, w ∈ wsX2_smoothOnes := by decide +kernel
theorem fq_X2_smoothOnes_27 : Cond.fieldLink RX2 27 (TX2 5).1 (TX2 5).2.1 (TX2 5).2.2.1 ∈ wsX2_smoothOnes := by decide +kernel
theorem fq_X2_smoothOnes_15 : Cond.fieldLink RX2 15 (TX2 1).1 (TX2 1).2.1 (TX2 1).2.2.1 ∈ wsX2_smoothOnes := by decide +kernel
def wq_X2_smoothOnes_b30 (r : Nat) (Q : Int32 → gq_M → Prop) (K4 : Int32 → Int32 → gq_M → Prop) (x2 : Int32) (s0 : Int32) (s1 : Int32) (σ : gq_M) : Prop := ∀ v3, v3 = (s0 ||| s1) → ∀ v4, v4 = (x2 + 1) → K4 v3 v4 σ
set_option maxRecDepth 100000 in
set_option maxHeartbeats 4000000 in
theorem tq_X2_smoothOnes_b30 {p : Program} {l : Launch} {e : Env} {s : State} {m : MethodId} {args : Array Value} {below : List Frame} {meth : Method} {c : Code} {D : va_G} {cyI cyZ cyS : ClassId} {ad : Nat → Nat} {r : Nat} {Q : Int32 → gq_M → Prop} {K4 : Int32 → Int32 → gq_M → Prop} (C : gq_C p s m args meth c cX2_smoothOnes 3 RX2 wsX2_smoothOnes D (gc_T cyI cyZ cyS) 84 ad (some .int)) (hr : gr_r r) (hK4 : ∀ (y1 : Int32) (y2 : Int32) (τ : gq_M), K4 y1 y2 τ → gq_G p l e rq_X2_smoothOnes s m args below meth c (gq_Ri below args s D (gc_T cyI cyZ cyS) 84 ad (gc_S cyI cyZ cyS ad) Q) D 84 ad (gc_S cyI cyZ cyS ad) 3 τ 4 [(0, .ref (ad r)), (1, .int y1), (2, .int y2)] []) (x2 : Int32) (s0 : Int32) (s1 : Int32) (σ : gq_M) (h : wq_X2_smoothOnes_b30 r Q K4 x2 s0 s1 σ) : gq_G p l e rq_X2_smoothOnes s m args below meth c (gq_Ri below args s D (gc_T cyI cyZ cyS) 84 ad (gc_S cyI cyZ cyS ad) Q) D 84 ad (gc_S cyI cyZ cyS ad) 3 σ 30 [(0, .ref (ad r)), (2, .int x2)] [.int s1, .int s0] := by
  unfold wq_X2_smoothOnes_b30 at h
  refine gq_ior C dX2_smoothOnes_30 ?_
  refine gq_topi (fun v3 qv3 => ?_)
  have h := h v3 qv3
  refine gq_istore_n (L' := [(0, .ref (ad r)), (1, .int v3), (2, .int x2)]) C [1, 0, 2] dX2_smoothOnes_31 (by decide) rfl ?_
  obtain ⟨v4, qv4⟩ : ∃ y : Int32, y = (x2 + 1) := ⟨_, rfl⟩
  have h := h v4 qv4
  refine gq_iinc (j := 2) (v := v4) (L' := [(0, .ref (ad r)), (1, .int v3), (2, .int v4)]) C [1, 2, 0] dX2_smoothOnes_32 rfl (by rw [qv4]; rfl) (by decide) rfl ?_
  refine gq_goto (tgt := 4) C dX2_smoothOnes_35 (by decide) ?_
  exact hK4 _ _ _ h
def wq_X2_smoothOnes_l4 (r : Nat) (Q : Int32 → gq_M → Prop) (K38 : Int32 → gq_M → Prop) : Nat → Int32 → Int32 → gq_M → Prop
  | 0, _, _, _ => False
  | n + 1, x1, x2, σ => (((σ.1 r 5) ≤ x2 → K38 x1 σ) ∧ (¬ (σ.1 r 5) ≤ x2 → vp_in x2 10 ∧ ((¬ (σ.1 (r + 2) x2.toNatClampNeg) = 2 → wq_X2_smoothOnes_b30 r Q (wq_X2_smoothOnes_l4 r Q K38 n) x2 x1 0 σ) ∧ ((σ.1 (r + 2) x2.toNatClampNeg) = 2 → wq_X2_smoothOnes_b30 r Q (wq_X2_smoothOnes_l4 r Q K38 n) x2 x1 ((1 : Int32) <<< (x2 &&& 31)) σ))))
set_option maxRecDepth 100000 in
set_option maxHeartbeats 4000000 in
theorem tq_X2_smoothOnes_l4 {p : Program} {l : Launch} {e : Env} {s : State} {m : MethodId} {args : Array Value} {below : List Frame} {meth : Method} {c : Code} {D : va_G} {cyI cyZ cyS : ClassId} {ad : Nat → Nat} {r : Nat} {Q : Int32 → gq_M → Prop} {K38 : Int32 → gq_M → Prop} (C : gq_C p s m args meth c cX2_smoothOnes 3 RX2 wsX2_smoothOnes D (gc_T cyI cyZ cyS) 84 ad (some .int)) (hr : gr_r r) (hK38 : ∀ (y1 : Int32) (τ : gq_M), K38 y1 τ → gq_G p l e rq_X2_smoothOnes s m args below meth c (gq_Ri below args s D (gc_T cyI cyZ cyS) 84 ad (gc_S cyI cyZ cyS ad) Q) D 84 ad (gc_S cyI cyZ cyS ad) 3 τ 38 [(0, .ref (ad r)), (1, .int y1)] []) : ∀ (n : Nat) (x1 : Int32) (x2 : Int32) (σ : gq_M), wq_X2_smoothOnes_l4 r Q K38 n x1 x2 σ → gq_G p l e rq_X2_smoothOnes s m args below meth c (gq_Ri below args s D (gc_T cyI cyZ cyS) 84 ad (gc_S cyI cyZ cyS ad) Q) D 84 ad (gc_S cyI cyZ cyS ad) 3 σ 4 [(0, .ref (ad r)), (1, .int x1), (2, .int x2)] [] := by
  intro n
  induction n with
  | zero =>
    intro x1 x2 σ h
    exact absurd h (fun q => q)
  | succ n ih =>
    intro x1 x2 σ h
    unfold wq_X2_smoothOnes_l4 at h
    refine gq_iload_n (j := 2) C dX2_smoothOnes_4 rfl ?_
    refine gq_aload_n (j := 0) C dX2_smoothOnes_5 rfl ?_
    refine gq_get (v := .int (σ.1 r 5)) (i := r) C (gcs_X2 hr) rfl iq_X2_smoothOnes_X2 5 (by decide) fq_X2_smoothOnes_27 rfl dX2_smoothOnes_6 ?_
    refine gq_icmp_ge (tgt := 38) C dX2_smoothOnes_9 (by decide) (fun c1 => ?_) (fun c1 => ?_)
    · have h := h.1 c1
      refine gq_sub [0, 1] rfl ?_
      exact hK38 _ _ h
    · have h := h.2 c1
      refine gq_iload_n (j := 1) C dX2_smoothOnes_12 rfl ?_
      refine gq_aload_n (j := 0) C dX2_smoothOnes_13 rfl ?_
      refine gq_get (v := .ref (ad (r + 2))) (i := r) C (gcs_X2 hr) rfl iq_X2_smoothOnes_X2 1 (by decide) fq_X2_smoothOnes_15 rfl dX2_smoothOnes_14 ?_
      refine gq_iload_n (j := 2) C dX2_smoothOnes_17 rfl ?_
      refine gq_iald (i := (r + 2)) (j := x2.toNatClampNeg) C (gcs_X2_2 hr) 0 rfl rfl h.1 dX2_smoothOnes_18 ?_
      have h := h.2
      refine gq_iconst (v := 2) C dX2_smoothOnes_19 (by decide) ?_
      refine gq_icmp_ne (tgt := 29) C dX2_smoothOnes_20 (by decide) (fun c2 => ?_) (fun c2 => ?_)
      · have h := h.1 c2
        refine gq_iconst (v := 0) C dX2_smoothOnes_29 (by decide) ?_
        refine gq_sub [0, 2] rfl ?_
        exact tq_X2_smoothOnes_b30 C hr (ih) _ _ _ _ h
      · have h := h.2 c2
        refine gq_iconst (v := 1) C dX2_smoothOnes_23 (by decide) ?_
        refine gq_iload_n (j := 2) C dX2_smoothOnes_24 rfl ?_
        refine gq_ishl C dX2_smoothOnes_25 ?_
        refine gq_goto (tgt := 30) C dX2_smoothOnes_26 (by decide) ?_
        refine gq_sub [0, 2] rfl ?_
        exact tq_X2_smoothOnes_b30 C hr (ih) _ _ _ _ h
def wq_X2_smoothOnes (r : Nat) (σ : gq_M) (Q : Int32 → gq_M → Prop) : Prop := (∃ n7, wq_X2_smoothOnes_l4 r Q (fun e5 σ6 => Q e5 σ6) n7 0 0 σ)
set_option maxRecDepth 100000 in
set_option maxHeartbeats 4000000 in
theorem tq_X2_smoothOnes {p : Program} {l : Launch} {e : Env} {s : State} {m : MethodId} {args : Array Value} {below : List Frame} {meth : Method} {c : Code} {D : va_G} {cyI cyZ cyS : ClassId} {ad : Nat → Nat} {r : Nat} {Q : Int32 → gq_M → Prop} (C : gq_C p s m args meth c cX2_smoothOnes 3 RX2 wsX2_smoothOnes D (gc_T cyI cyZ cyS) 84 ad (some .int)) (hr : gr_r r) (σ : gq_M) (h : wq_X2_smoothOnes r σ Q) : gq_G p l e rq_X2_smoothOnes s m args below meth c (gq_Ri below args s D (gc_T cyI cyZ cyS) 84 ad (gc_S cyI cyZ cyS ad) Q) D 84 ad (gc_S cyI cyZ cyS ad) 3 σ 0 [(0, .ref (ad r))] [] := by
  unfold wq_X2_smoothOnes at h
  refine gq_iconst (v := 0) C dX2_smoothOnes_0 (by decide) ?_
  refine gq_istore_n (L' := [(0, .ref (ad r)), (1, .int 0)]) C [1, 0] dX2_smoothOnes_1 (by decide) rfl ?_
  refine gq_iconst (v := 0) C dX2_smoothOnes_2 (by decide) ?_
  refine gq_istore_n (L' := [(0, .ref (ad r)), (1, .int 0), (2, .int 0)]) C [1, 2, 0] dX2_smoothOnes_3 (by decide) rfl ?_
  obtain ⟨n7, h⟩ := h
  refine tq_X2_smoothOnes_l4 C hr (fun e5 σ6 h => ?_) n7 _ _ _ h
  refine gq_iload_n (j := 1) C dX2_smoothOnes_38 rfl ?_
  exact gq_iret C h dX2_smoothOnes_39
theorem mq_X2_smoothOnes {l : Launch} {D : va_G} {cyI cyZ cyS : ClassId} {ad : Nat → Nat} (hap : gq_ap 84 ad) {r : Nat} (hr : gr_r r) (σ : gq_M) (Q : Int32 → gq_M → Prop) (h : wq_X2_smoothOnes r σ Q) : Met l yX2_smoothOnes wsX2_smoothOnes rq_X2_smoothOnes (va_Pc [.ref (ad r)] (gq_P D (gc_T cyI cyZ cyS) 84 ad (gc_S cyI cyZ cyS ad) σ)) (va_Qi Q (gq_P D (gc_T cyI cyZ cyS) 84 ad (gc_S cyI cyZ cyS ad)) (gq_A 84 ad)) 0 0 (gq_A 84 ad) :=
  gq_met hap (by decide) rfl rfl (Nat.le_of_ble_eq_true rfl) (fun _ _ _ _ _ _ _ C => tq_X2_smoothOnes C hr σ h)
abbrev rq_X2_costShut : Room := { frames := 0, cells := 0, slots := 0, locals := 0 }
theorem dq_X2_costShut : gq_dsc yX2_costShut 3 := by unfold gq_dsc; decide +kernel
theorem iq_X2_costShut_X2 : ∀ w ∈ u_ws RX2 TX2 7, w ∈ wsX2_costShut := by decide +kernel
theorem fq_X2_costShut_15 : Cond.fieldLink RX2 15 (TX2 1).1 (TX2 1).2.1 (TX2 1).2.2.1 ∈ wsX2_costShut := by decide +kernel
theorem fq_X2_costShut_9 : Cond.fieldLink RX2 9 (TX2 0).1 (TX2 0).2.1 (TX2 0).2.2.1 ∈ wsX2_costShut := by decide +kernel
def wq_X2_costShut_b50 (r : Nat) (Q : Int32 → gq_M → Prop) (x5 : Int32) (σ : gq_M) : Prop := ((1 ≤ x5 → Q x5 σ) ∧ (¬ 1 ≤ x5 → Q 1 σ))
set_option maxRecDepth 100000 in
set_option maxHeartbeats 4000000 in
theorem tq_X2_costShut_b50 {p : Program} {l : Launch} {e : Env} {s : State} {m : MethodId} {args : Array Value} {below : List Frame} {meth : Method} {c : Code} {D : va_G} {cyI cyZ cyS : ClassId} {ad : Nat → Nat} {r : Nat} {Q : Int32 → gq_M → Prop} (C : gq_C p s m args meth c cX2_costShut 6 RX2 wsX2_costShut D (gc_T cyI cyZ cyS) 84 ad (some .int)) (hr : gr_r r) (x5 : Int32) (σ : gq_M) (h : wq_X2_costShut_b50 r Q x5 σ) : gq_G p l e rq_X2_costShut s m args below meth c (gq_Ri below args s D (gc_T cyI cyZ cyS) 84 ad (gc_S cyI cyZ cyS ad) Q) D 84 ad (gc_S cyI cyZ cyS ad) 6 σ 50 [(0, .ref (ad r)), (5, .int x5)] [] := by
  unfold wq_X2_costShut_b50 at h
  refine gq_iload (j := 1) C dX2_costShut_50 rfl ?_
  refine gq_iconst (v := 1) C dX2_costShut_52 (by decide) ?_
  refine gq_icmp_ge (tgt := 60) C dX2_costShut_53 (by decide) (fun c6 => ?_) (fun c6 => ?_)
  · have h := h.1 c6
    refine gq_iload (j := 1) C dX2_costShut_60 rfl ?_
    exact gq_iret C h dX2_costShut_62
  · have h := h.2 c6
    refine gq_iconst (v := 1) C dX2_costShut_56 (by decide) ?_
    refine gq_goto (tgt := 62) C dX2_costShut_57 (by decide) ?_
    exact gq_iret C h dX2_costShut_62
def wq_X2_costShut_b38 (r : Nat) (Q : Int32 → gq_M → Prop) (x1 : Int32) (x3 : Int32) (x5 : Int32) (σ : gq_M) : Prop := ((¬ ((x3 >>> (x1 &&& 31)) &&& 1) = 1 → wq_X2_costShut_b50 r Q x5 σ) ∧ (((x3 >>> (x1 &&& 31)) &&& 1) = 1 → ∀ v7, v7 = (x5 + (-2)) → wq_X2_costShut_b50 r Q v7 σ))
set_option maxRecDepth 100000 in
set_option maxHeartbeats 4000000 in
theorem tq_X2_costShut_b38 {p : Program} {l : Launch} {e : Env} {s : State} {m : MethodId} {args : Array Value} {below : List Frame} {meth : Method} {c : Code} {D : va_G} {cyI cyZ cyS : ClassId} {ad : Nat → Nat} {r : Nat} {Q : Int32 → gq_M → Prop} (C : gq_C p s m args meth c cX2_costShut 6 RX2 wsX2_costShut D (gc_T cyI cyZ cyS) 84 ad (some .int)) (hr : gr_r r) (x1 : Int32) (x3 : Int32) (x5 : Int32) (σ : gq_M) (h : wq_X2_costShut_b38 r Q x1 x3 x5 σ) : gq_G p l e rq_X2_costShut s m args below meth c (gq_Ri below args s D (gc_T cyI cyZ cyS) 84 ad (gc_S cyI cyZ cyS ad) Q) D 84 ad (gc_S cyI cyZ cyS ad) 6 σ 38 [(0, .ref (ad r)), (1, .int x1), (3, .int x3), (5, .int x5)] [] := by
  unfold wq_X2_costShut_b38 at h
  refine gq_iload_n (j := 2) C dX2_costShut_38 rfl ?_
  refine gq_iload_n (j := 1) C dX2_costShut_39 rfl ?_
  refine gq_ishr C dX2_costShut_40 ?_
  refine gq_iconst (v := 1) C dX2_costShut_41 (by decide) ?_
  refine gq_iand C dX2_costShut_42 ?_
  refine gq_iconst (v := 1) C dX2_costShut_43 (by decide) ?_
  refine gq_icmp_ne (tgt := 50) C dX2_costShut_44 (by decide) (fun c5 => ?_) (fun c5 => ?_)
  · have h := h.1 c5
    refine gq_sub [0, 3] rfl ?_
    exact tq_X2_costShut_b50 C hr _ _ h
  · have h := h.2 c5
    obtain ⟨v7, qv7⟩ : ∃ y : Int32, y = (x5 + (-2)) := ⟨_, rfl⟩
    have h := h v7 qv7
    refine gq_iinc (j := 3) (v := v7) (L' := [(0, .ref (ad r)), (1, .int x1), (3, .int x3), (5, .int v7)]) C [1, 2, 3, 0] dX2_costShut_47 rfl (by rw [qv7]; rfl) (by decide) rfl ?_
    refine gq_sub [0, 3] rfl ?_
    exact tq_X2_costShut_b50 C hr _ _ h
def wq_X2_costShut (r : Nat) (a1 : Int32) (a2 : Int32) (a3 : Int32) (σ : gq_M) (Q : Int32 → gq_M → Prop) : Prop := vp_in a1 10 ∧ ∀ v1, v1 = (σ.1 (r + 2) a1.toNatClampNeg) → ((¬ v1 = 3 → vp_in a1 10 ∧ ∀ v3, v3 = ((σ.1 (r + 1) a1.toNatClampNeg) + a2) → ((¬ v1 = 1 → wq_X2_costShut_b38 r Q a1 a3 v3 σ) ∧ (v1 = 1 → ∀ v8, v8 = (v3 / 2) → wq_X2_costShut_b38 r Q a1 a3 v8 σ))) ∧ (v1 = 3 → Q 1 σ))
set_option maxRecDepth 100000 in
set_option maxHeartbeats 4000000 in
theorem tq_X2_costShut {p : Program} {l : Launch} {e : Env} {s : State} {m : MethodId} {args : Array Value} {below : List Frame} {meth : Method} {c : Code} {D : va_G} {cyI cyZ cyS : ClassId} {ad : Nat → Nat} {r : Nat} {Q : Int32 → gq_M → Prop} (C : gq_C p s m args meth c cX2_costShut 6 RX2 wsX2_costShut D (gc_T cyI cyZ cyS) 84 ad (some .int)) (hr : gr_r r) (a1 : Int32) (a2 : Int32) (a3 : Int32) (σ : gq_M) (h : wq_X2_costShut r a1 a2 a3 σ Q) : gq_G p l e rq_X2_costShut s m args below meth c (gq_Ri below args s D (gc_T cyI cyZ cyS) 84 ad (gc_S cyI cyZ cyS ad) Q) D 84 ad (gc_S cyI cyZ cyS ad) 6 σ 0 [(0, .ref (ad r)), (1, .int a1), (2, .int a2), (3, .int a3)] [] := by
  unfold wq_X2_costShut at h
  refine gq_aload_n (j := 0) C dX2_costShut_0 rfl ?_
  refine gq_get (v := .ref (ad (r + 2))) (i := r) C (gcs_X2 hr) rfl iq_X2_costShut_X2 1 (by decide) fq_X2_costShut_15 rfl dX2_costShut_1 ?_
  refine gq_iload_n (j := 1) C dX2_costShut_4 rfl ?_
  refine gq_iald (i := (r + 2)) (j := a1.toNatClampNeg) C (gcs_X2_2 hr) 0 rfl rfl h.1 dX2_costShut_5 ?_
  have h := h.2
  refine gq_topi (fun v1 qv1 => ?_)
  have h := h v1 qv1
  refine gq_istore (L' := [(0, .ref (ad r)), (1, .int a1), (2, .int a2), (3, .int a3), (4, .int v1)]) C [1, 2, 3, 4, 0] dX2_costShut_6 (by decide) rfl ?_
  refine gq_iload (j := 4) C dX2_costShut_8 rfl ?_
  refine gq_iconst (v := 3) C dX2_costShut_10 (by decide) ?_
  refine gq_icmp_ne (tgt := 16) C dX2_costShut_11 (by decide) (fun c2 => ?_) (fun c2 => ?_)
  · have h := h.1 c2
    refine gq_aload_n (j := 0) C dX2_costShut_16 rfl ?_
    refine gq_get (v := .ref (ad (r + 1))) (i := r) C (gcs_X2 hr) rfl iq_X2_costShut_X2 0 (by decide) fq_X2_costShut_9 rfl dX2_costShut_17 ?_
    refine gq_iload_n (j := 1) C dX2_costShut_20 rfl ?_
    refine gq_iald (i := (r + 1)) (j := a1.toNatClampNeg) C (gcs_X2_1 hr) 0 rfl rfl h.1 dX2_costShut_21 ?_
    have h := h.2
    refine gq_iload_n (j := 2) C dX2_costShut_22 rfl ?_
    refine gq_iadd C dX2_costShut_23 ?_
    refine gq_topi (fun v3 qv3 => ?_)
    have h := h v3 qv3
    refine gq_istore (L' := [(0, .ref (ad r)), (1, .int a1), (2, .int a2), (3, .int a3), (4, .int v1), (5, .int v3)]) C [1, 2, 3, 4, 5, 0] dX2_costShut_24 (by decide) rfl ?_
    refine gq_iload (j := 4) C dX2_costShut_26 rfl ?_
    refine gq_iconst (v := 1) C dX2_costShut_28 (by decide) ?_
    refine gq_icmp_ne (tgt := 38) C dX2_costShut_29 (by decide) (fun c4 => ?_) (fun c4 => ?_)
    · have h := h.1 c4
      refine gq_sub [0, 1, 3, 5] rfl ?_
      exact tq_X2_costShut_b38 C hr _ _ _ _ h
    · have h := h.2 c4
      refine gq_iload (j := 5) C dX2_costShut_32 rfl ?_
      refine gq_iconst (v := 2) C dX2_costShut_34 (by decide) ?_
      refine gq_idiv C dX2_costShut_35 (by decide) ?_
      refine gq_topi (fun v8 qv8 => ?_)
      have h := h v8 qv8
      refine gq_istore (L' := [(0, .ref (ad r)), (1, .int a1), (2, .int a2), (3, .int a3), (4, .int v1), (5, .int v8)]) C [1, 2, 3, 4, 5, 0] dX2_costShut_36 (by decide) rfl ?_
      refine gq_sub [0, 1, 3, 5] rfl ?_
      exact tq_X2_costShut_b38 C hr _ _ _ _ h
  · have h := h.2 c2
    refine gq_iconst (v := 1) C dX2_costShut_14 (by decide) ?_
    exact gq_iret C h dX2_costShut_15
theorem mq_X2_costShut {l : Launch} {D : va_G} {cyI cyZ cyS : ClassId} {ad : Nat → Nat} (hap : gq_ap 84 ad) {r : Nat} (hr : gr_r r) (a1 : Int32) (a2 : Int32) (a3 : Int32) (σ : gq_M) (Q : Int32 → gq_M → Prop) (h : wq_X2_costShut r a1 a2 a3 σ Q) : Met l yX2_costShut wsX2_costShut rq_X2_costShut (va_Pc [.ref (ad r), .int a1, .int a2, .int a3] (gq_P D (gc_T cyI cyZ cyS) 84 ad (gc_S cyI cyZ cyS ad) σ)) (va_Qi Q (gq_P D (gc_T cyI cyZ cyS) 84 ad (gc_S cyI cyZ cyS ad)) (gq_A 84 ad)) 0 0 (gq_A 84 ad) :=
  gq_met hap (by decide) rfl rfl (Nat.le_of_ble_eq_true rfl) (fun _ _ _ _ _ _ _ C => tq_X2_costShut C hr a1 a2 a3 σ h)
abbrev rq_X2_tollFor : Room := { frames := 0, cells := 0, slots := 0, locals := 0 }
theorem dq_X2_tollFor : gq_dsc yX2_tollFor 2 := by unfold gq_dsc; decide +kernel
def wq_X2_tollFor (a1 : Int32) (a2 : Int32) (σ : gq_M) (Q : Int32 → gq_M → Prop) : Prop := ((a1 = 1 → Q (a2 / 2) σ) ∧ (¬ a1 = 1 → ((a1 = 2 → Q (a2 + 1) σ) ∧ (¬ a1 = 2 → Q a2 σ))))
set_option maxRecDepth 100000 in
set_option maxHeartbeats 4000000 in
theorem tq_X2_tollFor {p : Program} {l : Launch} {e : Env} {s : State} {m : MethodId} {args : Array Value} {below : List Frame} {meth : Method} {c : Code} {D : va_G} {cyI cyZ cyS : ClassId} {ad : Nat → Nat} {Q : Int32 → gq_M → Prop} (C : gq_C p s m args meth c cX2_tollFor 2 RX2 wsX2_tollFor D (gc_T cyI cyZ cyS) 84 ad (some .int)) (a1 : Int32) (a2 : Int32) (σ : gq_M) (h : wq_X2_tollFor a1 a2 σ Q) : gq_G p l e rq_X2_tollFor s m args below meth c (gq_Ri below args s D (gc_T cyI cyZ cyS) 84 ad (gc_S cyI cyZ cyS ad) Q) D 84 ad (gc_S cyI cyZ cyS ad) 2 σ 0 [(0, .int a1), (1, .int a2)] [] := by
  unfold wq_X2_tollFor at h
  refine gq_iload_n (j := 0) C dX2_tollFor_0 rfl ?_
  by_cases c1 : a1 = 1
  · have h := h.1 c1
    refine gq_look (tgt := 28) (off := 27) C dX2_tollFor_1 (by decide) (by rw [c1]; decide) (by decide) ?_
    refine gq_iload_n (j := 1) C dX2_tollFor_28 rfl ?_
    refine gq_iconst (v := 2) C dX2_tollFor_29 (by decide) ?_
    refine gq_idiv C dX2_tollFor_30 (by decide) ?_
    exact gq_iret C h dX2_tollFor_31
  · have h := h.2 c1
    by_cases c2 : a1 = 2
    · have h := h.1 c2
      refine gq_look (tgt := 32) (off := 31) C dX2_tollFor_1 (by decide) (by rw [c2]; decide) (by decide) ?_
      refine gq_iload_n (j := 1) C dX2_tollFor_32 rfl ?_
      refine gq_iconst (v := 1) C dX2_tollFor_33 (by decide) ?_
      refine gq_iadd C dX2_tollFor_34 ?_
      exact gq_iret C h dX2_tollFor_35
    · have h := h.2 c2
      refine gq_look (tgt := 36) (off := 35) C dX2_tollFor_1 (by decide) (by show Op.lookupswitch.offset [(1, 27), (2, 31)] _ _ = _; rw [lv_osw (k := 1) (a := 1) c1 (by decide), lv_osw (k := 2) (a := 2) c2 (by decide)]; rfl) (by decide) ?_
      refine gq_iload_n (j := 1) C dX2_tollFor_36 rfl ?_
      exact gq_iret C h dX2_tollFor_37
theorem mq_X2_tollFor {l : Launch} {D : va_G} {cyI cyZ cyS : ClassId} {ad : Nat → Nat} (hap : gq_ap 84 ad) (a1 : Int32) (a2 : Int32) (σ : gq_M) (Q : Int32 → gq_M → Prop) (h : wq_X2_tollFor a1 a2 σ Q) : Met l yX2_tollFor wsX2_tollFor rq_X2_tollFor (va_Pc [.int a1, .int a2] (gq_P D (gc_T cyI cyZ cyS) 84 ad (gc_S cyI cyZ cyS ad) σ)) (va_Qi Q (gq_P D (gc_T cyI cyZ cyS) 84 ad (gc_S cyI cyZ cyS ad)) (gq_A 84 ad)) 0 0 (gq_A 84 ad) :=
  gq_met hap (by decide) rfl rfl (Nat.le_of_ble_eq_true rfl) (fun _ _ _ _ _ _ _ C => tq_X2_tollFor C a1 a2 σ h)
abbrev rq_X1_farthestOn : Room := { frames := 1, cells := 0, slots := 0, locals := 25 }
theorem dq_X1_farthestOn : gq_dsc yX1_farthestOn 2 := by unfold gq_dsc; decide +kernel
theorem iq_X1_farthestOn_X1 : ∀ w ∈ u_ws RX1 TX1 4, w ∈ wsX1_farthestOn := by decide +kernel
theorem fq_X1_farthestOn_19 : Cond.fieldLink RX1 19 (TX1 0).1 (TX1 0).2.1 (TX1 0).2.2.1 ∈ wsX1_farthestOn := by decide +kernel
theorem iq_X1_farthestOn_X2 : ∀ w ∈ u_ws RX2 TX2 7, w ∈ wsX1_farthestOn := by decide +kernel
theorem fq_X1_farthestOn_41 : Cond.fieldLink RX1 41 (TX2 5).1 (TX2 5).2.1 (TX2 5).2.2.1 ∈ wsX1_farthestOn := by decide +kernel
theorem fq_X1_farthestOn_51 : Cond.fieldLink RX1 51 (TX2 1).1 (TX2 1).2.1 (TX2 1).2.2.1 ∈ wsX1_farthestOn := by decide +kernel
def wq_X1_farthestOn_b76 (Q : Int32 → gq_M → Prop) (K14 : Int32 → Int32 → Int32 → Int32 → Int32 → gq_M → Prop) (x1 : Int32) (x2 : Int32) (x3 : Int32) (x5 : Int32) (s0 : Int32) (σ : gq_M) : Prop := ∀ v10, v10 = (x5 + 1) → K14 x1 x2 x3 s0 v10 σ
set_option maxRecDepth 100000 in
set_option maxHeartbeats 4000000 in
theorem tq_X1_farthestOn_b76 {p : Program} {l : Launch} {e : Env} {s : State} {m : MethodId} {args : Array Value} {below : List Frame} {meth : Method} {c : Code} {D : va_G} {cyI cyZ cyS : ClassId} {ad : Nat → Nat} {Q : Int32 → gq_M → Prop} {K14 : Int32 → Int32 → Int32 → Int32 → Int32 → gq_M → Prop} (C : gq_C p s m args meth c cX1_farthestOn 7 RX1 wsX1_farthestOn D (gc_T cyI cyZ cyS) 84 ad (some .int)) (hK14 : ∀ (y1 : Int32) (y2 : Int32) (y3 : Int32) (y4 : Int32) (y5 : Int32) (τ : gq_M), K14 y1 y2 y3 y4 y5 τ → gq_G p l e rq_X1_farthestOn s m args below meth c (gq_Ri below args s D (gc_T cyI cyZ cyS) 84 ad (gc_S cyI cyZ cyS ad) Q) D 84 ad (gc_S cyI cyZ cyS ad) 7 τ 14 [(0, .ref (ad 15)), (1, .int y1), (2, .int y2), (3, .int y3), (4, .int y4), (5, .int y5)] []) (x1 : Int32) (x2 : Int32) (x3 : Int32) (x5 : Int32) (s0 : Int32) (σ : gq_M) (h : wq_X1_farthestOn_b76 Q K14 x1 x2 x3 x5 s0 σ) : gq_G p l e rq_X1_farthestOn s m args below meth c (gq_Ri below args s D (gc_T cyI cyZ cyS) 84 ad (gc_S cyI cyZ cyS ad) Q) D 84 ad (gc_S cyI cyZ cyS ad) 7 σ 76 [(0, .ref (ad 15)), (1, .int x1), (2, .int x2), (3, .int x3), (5, .int x5)] [.int s0] := by
  unfold wq_X1_farthestOn_b76 at h
  refine gq_istore (L' := [(0, .ref (ad 15)), (1, .int x1), (2, .int x2), (3, .int x3), (4, .int s0), (5, .int x5)]) C [1, 2, 3, 4, 0, 5] dX1_farthestOn_76 (by decide) rfl ?_
  obtain ⟨v10, qv10⟩ : ∃ y : Int32, y = (x5 + 1) := ⟨_, rfl⟩
  have h := h v10 qv10
  refine gq_iinc (j := 5) (v := v10) (L' := [(0, .ref (ad 15)), (1, .int x1), (2, .int x2), (3, .int x3), (4, .int s0), (5, .int v10)]) C [1, 2, 3, 4, 5, 0] dX1_farthestOn_78 rfl (by rw [qv10]; rfl) (by decide) rfl ?_
  refine gq_goto (tgt := 14) C dX1_farthestOn_81 (by decide) ?_
  exact hK14 _ _ _ _ _ _ h
def wq_X1_farthestOn_l14 (Q : Int32 → gq_M → Prop) (K84 : gq_M → Prop) : Nat → Int32 → Int32 → Int32 → Int32 → Int32 → gq_M → Prop
  | 0, _, _, _, _, _, _ => False
  | n + 1, x1, x2, x3, x4, x5, σ => (((σ.1 9 5) ≤ x5 → K84 σ) ∧ (¬ (σ.1 9 5) ≤ x5 → wq_X2_costShut 9 x5 0 x3 σ (fun r4 σ5 => wq_X2_tollFor x1 r4 σ5 (fun r6 σ7 => ((r6 ≤ x4 → vp_in x5 10 ∧ ((¬ (σ7.1 11 x5.toNatClampNeg) = 3 → wq_X1_farthestOn_b76 Q (wq_X1_farthestOn_l14 Q K84 n) x1 x2 x3 x5 (x4 - r6) σ7) ∧ ((σ7.1 11 x5.toNatClampNeg) = 3 → wq_X1_farthestOn_b76 Q (wq_X1_farthestOn_l14 Q K84 n) x1 x2 x3 x5 x2 σ7))) ∧ (¬ r6 ≤ x4 → Q x5 σ7))))))
set_option maxRecDepth 100000 in
set_option maxHeartbeats 4000000 in
theorem tq_X1_farthestOn_l14 {p : Program} {l : Launch} {e : Env} {s : State} {m : MethodId} {args : Array Value} {below : List Frame} {meth : Method} {c : Code} {D : va_G} {cyI cyZ cyS : ClassId} {ad : Nat → Nat} {Q : Int32 → gq_M → Prop} {K84 : gq_M → Prop} (C : gq_C p s m args meth c cX1_farthestOn 7 RX1 wsX1_farthestOn D (gc_T cyI cyZ cyS) 84 ad (some .int)) (hK84 : ∀ (τ : gq_M), K84 τ → gq_G p l e rq_X1_farthestOn s m args below meth c (gq_Ri below args s D (gc_T cyI cyZ cyS) 84 ad (gc_S cyI cyZ cyS ad) Q) D 84 ad (gc_S cyI cyZ cyS ad) 7 τ 84 [(0, .ref (ad 15))] []) : ∀ (n : Nat) (x1 : Int32) (x2 : Int32) (x3 : Int32) (x4 : Int32) (x5 : Int32) (σ : gq_M), wq_X1_farthestOn_l14 Q K84 n x1 x2 x3 x4 x5 σ → gq_G p l e rq_X1_farthestOn s m args below meth c (gq_Ri below args s D (gc_T cyI cyZ cyS) 84 ad (gc_S cyI cyZ cyS ad) Q) D 84 ad (gc_S cyI cyZ cyS ad) 7 σ 14 [(0, .ref (ad 15)), (1, .int x1), (2, .int x2), (3, .int x3), (4, .int x4), (5, .int x5)] [] := by
  intro n
  induction n with
  | zero =>
    intro x1 x2 x3 x4 x5 σ h
    exact absurd h (fun q => q)
  | succ n ih =>
    intro x1 x2 x3 x4 x5 σ h
    unfold wq_X1_farthestOn_l14 at h
    refine gq_iload (j := 5) C dX1_farthestOn_14 rfl ?_
    refine gq_aload_n (j := 0) C dX1_farthestOn_16 rfl ?_
    refine gq_get (v := .ref (ad 9)) (i := 15) C gcs_15 rfl iq_X1_farthestOn_X1 0 (by decide) fq_X1_farthestOn_19 rfl dX1_farthestOn_17 ?_
    refine gq_get (v := .int (σ.1 9 5)) (i := 9) C (gcs_X2 gr_9) rfl iq_X1_farthestOn_X2 5 (by decide) fq_X1_farthestOn_41 rfl dX1_farthestOn_20 ?_
    refine gq_icmp_ge (tgt := 84) C dX1_farthestOn_23 (by decide) (fun c3 => ?_) (fun c3 => ?_)
    · have h := h.1 c3
      refine gq_sub [0] rfl ?_
      exact hK84  _ h
    · have h := h.2 c3
      refine gq_iload_n (j := 1) C dX1_farthestOn_26 rfl ?_
      refine gq_aload_n (j := 0) C dX1_farthestOn_27 rfl ?_
      refine gq_get (v := .ref (ad 9)) (i := 15) C gcs_15 rfl iq_X1_farthestOn_X1 0 (by decide) fq_X1_farthestOn_19 rfl dX1_farthestOn_28 ?_
      refine gq_iload (j := 5) C dX1_farthestOn_31 rfl ?_
      refine gq_iconst (v := 0) C dX1_farthestOn_33 (by decide) ?_
      refine gq_iload_n (j := 3) C dX1_farthestOn_34 rfl ?_
      refine gq_vi (i := 9) C (gcs_X2 gr_9) rfl [.int x5, .int 0, .int x3] (mq_X2_costShut C.2.2.1 gr_9 x5 0 x3 σ _ h) gX1_farthestOn_X2_costShut rfl rfl dq_X2_costShut ⟨rfl, rfl, by decide, by decide⟩ rfl rfl (Nat.le_of_ble_eq_true rfl) dX1_farthestOn_35 (fun r4 σ5 h => ?_)
      refine gq_si C [.int x1, .int r4] (mq_X2_tollFor C.2.2.1 x1 r4 σ5 _ h) gX1_farthestOn_X2_tollFor rfl dq_X2_tollFor ⟨rfl, rfl, by decide, by decide⟩ rfl rfl (Nat.le_of_ble_eq_true rfl) dX1_farthestOn_38 (fun r6 σ7 h => ?_)
      refine gq_istore (L' := [(0, .ref (ad 15)), (1, .int x1), (2, .int x2), (3, .int x3), (4, .int x4), (5, .int x5), (6, .int r6)]) C [1, 2, 3, 4, 5, 6, 0] dX1_farthestOn_41 (by decide) rfl ?_
      refine gq_iload (j := 6) C dX1_farthestOn_43 rfl ?_
      refine gq_iload (j := 4) C dX1_farthestOn_45 rfl ?_
      refine gq_icmp_le (tgt := 53) C dX1_farthestOn_47 (by decide) (fun c8 => ?_) (fun c8 => ?_)
      · have h := h.1 c8
        refine gq_aload_n (j := 0) C dX1_farthestOn_53 rfl ?_
        refine gq_get (v := .ref (ad 9)) (i := 15) C gcs_15 rfl iq_X1_farthestOn_X1 0 (by decide) fq_X1_farthestOn_19 rfl dX1_farthestOn_54 ?_
        refine gq_get (v := .ref (ad 11)) (i := 9) C (gcs_X2 gr_9) rfl iq_X1_farthestOn_X2 1 (by decide) fq_X1_farthestOn_51 rfl dX1_farthestOn_57 ?_
        refine gq_iload (j := 5) C dX1_farthestOn_60 rfl ?_
        refine gq_iald (i := 11) (j := x5.toNatClampNeg) C (gcs_X2_2 gr_9) 0 rfl rfl h.1 dX1_farthestOn_62 ?_
        have h := h.2
        refine gq_iconst (v := 3) C dX1_farthestOn_63 (by decide) ?_
        refine gq_icmp_ne (tgt := 71) C dX1_farthestOn_64 (by decide) (fun c9 => ?_) (fun c9 => ?_)
        · have h := h.1 c9
          refine gq_iload (j := 4) C dX1_farthestOn_71 rfl ?_
          refine gq_iload (j := 6) C dX1_farthestOn_73 rfl ?_
          refine gq_isub C dX1_farthestOn_75 ?_
          refine gq_sub [0, 1, 2, 3, 5] rfl ?_
          exact tq_X1_farthestOn_b76 C (ih) _ _ _ _ _ _ h
        · have h := h.2 c9
          refine gq_iload_n (j := 2) C dX1_farthestOn_67 rfl ?_
          refine gq_goto (tgt := 76) C dX1_farthestOn_68 (by decide) ?_
          refine gq_sub [0, 1, 2, 3, 5] rfl ?_
          exact tq_X1_farthestOn_b76 C (ih) _ _ _ _ _ _ h
      · have h := h.2 c8
        refine gq_iload (j := 5) C dX1_farthestOn_50 rfl ?_
        exact gq_iret C h dX1_farthestOn_52
def wq_X1_farthestOn (a1 : Int32) (a2 : Int32) (σ : gq_M) (Q : Int32 → gq_M → Prop) : Prop := wq_X2_smoothOnes 9 σ (fun r1 σ2 => (∃ n12, wq_X1_farthestOn_l14 Q (fun σ11 => Q (σ11.1 9 5) σ11) n12 a1 a2 r1 a2 0 σ2))
set_option maxRecDepth 100000 in
set_option maxHeartbeats 4000000 in
theorem tq_X1_farthestOn {p : Program} {l : Launch} {e : Env} {s : State} {m : MethodId} {args : Array Value} {below : List Frame} {meth : Method} {c : Code} {D : va_G} {cyI cyZ cyS : ClassId} {ad : Nat → Nat} {Q : Int32 → gq_M → Prop} (C : gq_C p s m args meth c cX1_farthestOn 7 RX1 wsX1_farthestOn D (gc_T cyI cyZ cyS) 84 ad (some .int)) (a1 : Int32) (a2 : Int32) (σ : gq_M) (h : wq_X1_farthestOn a1 a2 σ Q) : gq_G p l e rq_X1_farthestOn s m args below meth c (gq_Ri below args s D (gc_T cyI cyZ cyS) 84 ad (gc_S cyI cyZ cyS ad) Q) D 84 ad (gc_S cyI cyZ cyS ad) 7 σ 0 [(0, .ref (ad 15)), (1, .int a1), (2, .int a2)] [] := by
  unfold wq_X1_farthestOn at h
  refine gq_aload_n (j := 0) C dX1_farthestOn_0 rfl ?_
  refine gq_get (v := .ref (ad 9)) (i := 15) C gcs_15 rfl iq_X1_farthestOn_X1 0 (by decide) fq_X1_farthestOn_19 rfl dX1_farthestOn_1 ?_
  refine gq_vi (i := 9) C (gcs_X2 gr_9) rfl [] (mq_X2_smoothOnes C.2.2.1 gr_9 σ _ h) gX1_farthestOn_X2_smoothOnes rfl rfl dq_X2_smoothOnes ⟨rfl, rfl, by decide, by decide⟩ rfl rfl (Nat.le_of_ble_eq_true rfl) dX1_farthestOn_4 (fun r1 σ2 h => ?_)
  refine gq_istore_n (L' := [(0, .ref (ad 15)), (1, .int a1), (2, .int a2), (3, .int r1)]) C [1, 2, 3, 0] dX1_farthestOn_7 (by decide) rfl ?_
  refine gq_iload_n (j := 2) C dX1_farthestOn_8 rfl ?_
  refine gq_istore (L' := [(0, .ref (ad 15)), (1, .int a1), (2, .int a2), (3, .int r1), (4, .int a2)]) C [1, 2, 3, 4, 0] dX1_farthestOn_9 (by decide) rfl ?_
  refine gq_iconst (v := 0) C dX1_farthestOn_11 (by decide) ?_
  refine gq_istore (L' := [(0, .ref (ad 15)), (1, .int a1), (2, .int a2), (3, .int r1), (4, .int a2), (5, .int 0)]) C [1, 2, 3, 4, 5, 0] dX1_farthestOn_12 (by decide) rfl ?_
  obtain ⟨n12, h⟩ := h
  refine tq_X1_farthestOn_l14 C (fun σ11 h => ?_) n12 _ _ _ _ _ _ h
  refine gq_aload_n (j := 0) C dX1_farthestOn_84 rfl ?_
  refine gq_get (v := .ref (ad 9)) (i := 15) C gcs_15 rfl iq_X1_farthestOn_X1 0 (by decide) fq_X1_farthestOn_19 rfl dX1_farthestOn_85 ?_
  refine gq_get (v := .int (σ11.1 9 5)) (i := 9) C (gcs_X2 gr_9) rfl iq_X1_farthestOn_X2 5 (by decide) fq_X1_farthestOn_41 rfl dX1_farthestOn_88 ?_
  exact gq_iret C h dX1_farthestOn_91
theorem mq_X1_farthestOn {l : Launch} {D : va_G} {cyI cyZ cyS : ClassId} {ad : Nat → Nat} (hap : gq_ap 84 ad) (a1 : Int32) (a2 : Int32) (σ : gq_M) (Q : Int32 → gq_M → Prop) (h : wq_X1_farthestOn a1 a2 σ Q) : Met l yX1_farthestOn wsX1_farthestOn rq_X1_farthestOn (va_Pc [.ref (ad 15), .int a1, .int a2] (gq_P D (gc_T cyI cyZ cyS) 84 ad (gc_S cyI cyZ cyS ad) σ)) (va_Qi Q (gq_P D (gc_T cyI cyZ cyS) 84 ad (gc_S cyI cyZ cyS ad)) (gq_A 84 ad)) 0 0 (gq_A 84 ad) :=
  gq_met hap (by decide) rfl rfl (Nat.le_of_ble_eq_true rfl) (fun _ _ _ _ _ _ _ C => tq_X1_farthestOn C a1 a2 σ h)
abbrev rq_X1_isOne : Room := { frames := 2, cells := 0, slots := 0, locals := 51 }
theorem dq_X1_isOne : gq_dsc yX1_isOne 2 := by unfold gq_dsc; decide +kernel
theorem iq_X1_isOne_X1 : ∀ w ∈ u_ws RX1 TX1 4, w ∈ wsX1_isOne := by decide +kernel
theorem fq_X1_isOne_23 : Cond.fieldLink RX1 23 (TX1 3).1 (TX1 3).2.1 (TX1 3).2.2.1 ∈ wsX1_isOne := by decide +kernel
theorem fq_X1_isOne_9 : Cond.fieldLink RX1 9 (TX1 1).1 (TX1 1).2.1 (TX1 1).2.2.1 ∈ wsX1_isOne := by decide +kernel
theorem fq_X1_isOne_15 : Cond.fieldLink RX1 15 (TX1 2).1 (TX1 2).2.1 (TX1 2).2.2.1 ∈ wsX1_isOne := by decide +kernel
def wq_X1_isOne_b35 (Q : Int32 → gq_M → Prop) (K10 : Int32 → Int32 → gq_M → Prop) (x3 : Int32) (x4 : Int32) (s0 : Int32) (σ : gq_M) : Prop := vp_in x4 6 ∧ ((s0 = (σ.1 17 x4.toNatClampNeg) → ∀ v6, v6 = (x4 + 1) → K10 x3 v6 σ) ∧ (¬ s0 = (σ.1 17 x4.toNatClampNeg) → Q 0 σ))
set_option maxRecDepth 100000 in
set_option maxHeartbeats 4000000 in
theorem tq_X1_isOne_b35 {p : Program} {l : Launch} {e : Env} {s : State} {m : MethodId} {args : Array Value} {below : List Frame} {meth : Method} {c : Code} {D : va_G} {cyI cyZ cyS : ClassId} {ad : Nat → Nat} {Q : Int32 → gq_M → Prop} {K10 : Int32 → Int32 → gq_M → Prop} (C : gq_C p s m args meth c cX1_isOne 5 RX1 wsX1_isOne D (gc_T cyI cyZ cyS) 84 ad (some .boolean)) (hK10 : ∀ (y3 : Int32) (y4 : Int32) (τ : gq_M), K10 y3 y4 τ → gq_G p l e rq_X1_isOne s m args below meth c (gq_Ri below args s D (gc_T cyI cyZ cyS) 84 ad (gc_S cyI cyZ cyS ad) Q) D 84 ad (gc_S cyI cyZ cyS ad) 5 τ 10 [(0, .ref (ad 15)), (3, .int y3), (4, .int y4)] []) (x3 : Int32) (x4 : Int32) (s0 : Int32) (σ : gq_M) (h : wq_X1_isOne_b35 Q K10 x3 x4 s0 σ) : gq_G p l e rq_X1_isOne s m args below meth c (gq_Ri below args s D (gc_T cyI cyZ cyS) 84 ad (gc_S cyI cyZ cyS ad) Q) D 84 ad (gc_S cyI cyZ cyS ad) 5 σ 35 [(0, .ref (ad 15)), (3, .int x3), (4, .int x4)] [.int s0] := by
  unfold wq_X1_isOne_b35 at h
  refine gq_aload_n (j := 0) C dX1_isOne_35 rfl ?_
  refine gq_get (v := .ref (ad 17)) (i := 15) C gcs_15 rfl iq_X1_isOne_X1 2 (by decide) fq_X1_isOne_15 rfl dX1_isOne_36 ?_
  refine gq_iload (j := 2) C dX1_isOne_39 rfl ?_
  refine gq_zald (i := 17) (j := x4.toNatClampNeg) C gcs_17 1 rfl rfl h.1 dX1_isOne_41 ?_
  have h := h.2
  refine gq_icmp_eq (tgt := 47) C dX1_isOne_42 (by decide) (fun c5 => ?_) (fun c5 => ?_)
  · have h := h.1 c5
    obtain ⟨v6, qv6⟩ : ∃ y : Int32, y = (x4 + 1) := ⟨_, rfl⟩
    have h := h v6 qv6
    refine gq_iinc (j := 2) (v := v6) (L' := [(0, .ref (ad 15)), (3, .int x3), (4, .int v6)]) C [1, 2, 0] dX1_isOne_47 rfl (by rw [qv6]; rfl) (by decide) rfl ?_
    refine gq_goto (tgt := 10) C dX1_isOne_50 (by decide) ?_
    exact hK10 _ _ _ h
  · have h := h.2 c5
    refine gq_iconst (v := 0) C dX1_isOne_45 (by decide) ?_
    exact gq_zret C (Or.inl rfl) h dX1_isOne_46
def wq_X1_isOne_l10 (Q : Int32 → gq_M → Prop) (K53 : gq_M → Prop) : Nat → Int32 → Int32 → gq_M → Prop
  | 0, _, _, _ => False
  | n + 1, x3, x4, σ => (((σ.1 15 3) ≤ x4 → K53 σ) ∧ (¬ (σ.1 15 3) ≤ x4 → vp_in x4 6 ∧ ((x3 < (σ.1 16 x4.toNatClampNeg) → wq_X1_isOne_b35 Q (wq_X1_isOne_l10 Q K53 n) x3 x4 0 σ) ∧ (¬ x3 < (σ.1 16 x4.toNatClampNeg) → wq_X1_isOne_b35 Q (wq_X1_isOne_l10 Q K53 n) x3 x4 1 σ))))
set_option maxRecDepth 100000 in
set_option maxHeartbeats 4000000 in
theorem tq_X1_isOne_l10 {p : Program} {l : Launch} {e : Env} {s : State} {m : MethodId} {args : Array Value} {below : List Frame} {meth : Method} {c : Code} {D : va_G} {cyI cyZ cyS : ClassId} {ad : Nat → Nat} {Q : Int32 → gq_M → Prop} {K53 : gq_M → Prop} (C : gq_C p s m args meth c cX1_isOne 5 RX1 wsX1_isOne D (gc_T cyI cyZ cyS) 84 ad (some .boolean)) (hK53 : ∀ (τ : gq_M), K53 τ → gq_G p l e rq_X1_isOne s m args below meth c (gq_Ri below args s D (gc_T cyI cyZ cyS) 84 ad (gc_S cyI cyZ cyS ad) Q) D 84 ad (gc_S cyI cyZ cyS ad) 5 τ 53 [(0, .ref (ad 15))] []) : ∀ (n : Nat) (x3 : Int32) (x4 : Int32) (σ : gq_M), wq_X1_isOne_l10 Q K53 n x3 x4 σ → gq_G p l e rq_X1_isOne s m args below meth c (gq_Ri below args s D (gc_T cyI cyZ cyS) 84 ad (gc_S cyI cyZ cyS ad) Q) D 84 ad (gc_S cyI cyZ cyS ad) 5 σ 10 [(0, .ref (ad 15)), (3, .int x3), (4, .int x4)] [] := by
  intro n
  induction n with
  | zero =>
    intro x3 x4 σ h
    exact absurd h (fun q => q)
  | succ n ih =>
    intro x3 x4 σ h
    unfold wq_X1_isOne_l10 at h
    refine gq_iload (j := 2) C dX1_isOne_10 rfl ?_
    refine gq_aload_n (j := 0) C dX1_isOne_12 rfl ?_
    refine gq_get (v := .int (σ.1 15 3)) (i := 15) C gcs_15 rfl iq_X1_isOne_X1 3 (by decide) fq_X1_isOne_23 rfl dX1_isOne_13 ?_
    refine gq_icmp_ge (tgt := 53) C dX1_isOne_16 (by decide) (fun c3 => ?_) (fun c3 => ?_)
    · have h := h.1 c3
      refine gq_sub [0] rfl ?_
      exact hK53  _ h
    · have h := h.2 c3
      refine gq_iload_n (j := 1) C dX1_isOne_19 rfl ?_
      refine gq_aload_n (j := 0) C dX1_isOne_20 rfl ?_
      refine gq_get (v := .ref (ad 16)) (i := 15) C gcs_15 rfl iq_X1_isOne_X1 1 (by decide) fq_X1_isOne_9 rfl dX1_isOne_21 ?_
      refine gq_iload (j := 2) C dX1_isOne_24 rfl ?_
      refine gq_iald (i := 16) (j := x4.toNatClampNeg) C gcs_16 0 rfl rfl h.1 dX1_isOne_26 ?_
      have h := h.2
      refine gq_icmp_lt (tgt := 34) C dX1_isOne_27 (by decide) (fun c4 => ?_) (fun c4 => ?_)
      · have h := h.1 c4
        refine gq_iconst (v := 0) C dX1_isOne_34 (by decide) ?_
        exact tq_X1_isOne_b35 C (ih) _ _ _ _ h
      · have h := h.2 c4
        refine gq_iconst (v := 1) C dX1_isOne_30 (by decide) ?_
        refine gq_goto (tgt := 35) C dX1_isOne_31 (by decide) ?_
        exact tq_X1_isOne_b35 C (ih) _ _ _ _ h
def wq_X1_isOne (a1 : Int32) (a2 : Int32) (σ : gq_M) (Q : Int32 → gq_M → Prop) : Prop := wq_X1_farthestOn a1 a2 σ (fun r1 σ2 => (∃ n8, wq_X1_isOne_l10 Q (fun σ7 => Q 1 σ7) n8 r1 0 σ2))
set_option maxRecDepth 100000 in
set_option maxHeartbeats 4000000 in
theorem tq_X1_isOne {p : Program} {l : Launch} {e : Env} {s : State} {m : MethodId} {args : Array Value} {below : List Frame} {meth : Method} {c : Code} {D : va_G} {cyI cyZ cyS : ClassId} {ad : Nat → Nat} {Q : Int32 → gq_M → Prop} (C : gq_C p s m args meth c cX1_isOne 5 RX1 wsX1_isOne D (gc_T cyI cyZ cyS) 84 ad (some .boolean)) (a1 : Int32) (a2 : Int32) (σ : gq_M) (h : wq_X1_isOne a1 a2 σ Q) : gq_G p l e rq_X1_isOne s m args below meth c (gq_Ri below args s D (gc_T cyI cyZ cyS) 84 ad (gc_S cyI cyZ cyS ad) Q) D 84 ad (gc_S cyI cyZ cyS ad) 5 σ 0 [(0, .ref (ad 15)), (1, .int a1), (2, .int a2)] [] := by
  unfold wq_X1_isOne at h
  refine gq_aload_n (j := 0) C dX1_isOne_0 rfl ?_
  refine gq_iload_n (j := 1) C dX1_isOne_1 rfl ?_
  refine gq_iload_n (j := 2) C dX1_isOne_2 rfl ?_
  refine gq_vi (i := 15) C gcs_15 rfl [.int a1, .int a2] (mq_X1_farthestOn C.2.2.1 a1 a2 σ _ h) gX1_isOne_X1_farthestOn rfl rfl dq_X1_farthestOn ⟨rfl, rfl, by decide, by decide⟩ rfl rfl (Nat.le_of_ble_eq_true rfl) dX1_isOne_3 (fun r1 σ2 h => ?_)
  refine gq_istore_n (L' := [(0, .ref (ad 15)), (1, .int a1), (2, .int a2), (3, .int r1)]) C [1, 2, 3, 0] dX1_isOne_6 (by decide) rfl ?_
  refine gq_iconst (v := 0) C dX1_isOne_7 (by decide) ?_
  refine gq_istore (L' := [(0, .ref (ad 15)), (1, .int a1), (2, .int a2), (3, .int r1), (4, .int 0)]) C [1, 2, 3, 4, 0] dX1_isOne_8 (by decide) rfl ?_
  obtain ⟨n8, h⟩ := h
  refine gq_sub [0, 3, 4] rfl ?_
  refine tq_X1_isOne_l10 C (fun σ7 h => ?_) n8 _ _ _ h
  refine gq_iconst (v := 1) C dX1_isOne_53 (by decide) ?_
  exact gq_zret C (Or.inr rfl) h dX1_isOne_54
theorem mq_X1_isOne {l : Launch} {D : va_G} {cyI cyZ cyS : ClassId} {ad : Nat → Nat} (hap : gq_ap 84 ad) (a1 : Int32) (a2 : Int32) (σ : gq_M) (Q : Int32 → gq_M → Prop) (h : wq_X1_isOne a1 a2 σ Q) : Met l yX1_isOne wsX1_isOne rq_X1_isOne (va_Pc [.ref (ad 15), .int a1, .int a2] (gq_P D (gc_T cyI cyZ cyS) 84 ad (gc_S cyI cyZ cyS ad) σ)) (va_Qi Q (gq_P D (gc_T cyI cyZ cyS) 84 ad (gc_S cyI cyZ cyS ad)) (gq_A 84 ad)) 0 0 (gq_A 84 ad) :=
  gq_met hap (by decide) rfl rfl (Nat.le_of_ble_eq_true rfl) (fun _ _ _ _ _ _ _ C => tq_X1_isOne C a1 a2 σ h)
abbrev rq_X1_howMany : Room := { frames := 3, cells := 0, slots := 0, locals := 75 }
theorem dq_X1_howMany : gq_dsc yX1_howMany 0 := by unfold gq_dsc; decide +kernel
def wq_X1_howMany_b32 (Q : Int32 → gq_M → Prop) (K11 : Int32 → Int32 → Int32 → gq_M → Prop) (x2 : Int32) (x3 : Int32) (s0 : Int32) (s1 : Int32) (σ : gq_M) : Prop := ∀ v6, v6 = (s0 + s1) → ∀ v7, v7 = (x3 + 1) → K11 v6 x2 v7 σ
set_option maxRecDepth 100000 in
set_option maxHeartbeats 4000000 in
theorem tq_X1_howMany_b32 {p : Program} {l : Launch} {e : Env} {s : State} {m : MethodId} {args : Array Value} {below : List Frame} {meth : Method} {c : Code} {D : va_G} {cyI cyZ cyS : ClassId} {ad : Nat → Nat} {Q : Int32 → gq_M → Prop} {K11 : Int32 → Int32 → Int32 → gq_M → Prop} (C : gq_C p s m args meth c cX1_howMany 4 RX1 wsX1_howMany D (gc_T cyI cyZ cyS) 84 ad (some .int)) (hK11 : ∀ (y1 : Int32) (y2 : Int32) (y3 : Int32) (τ : gq_M), K11 y1 y2 y3 τ → gq_G p l e rq_X1_howMany s m args below meth c (gq_Ri below args s D (gc_T cyI cyZ cyS) 84 ad (gc_S cyI cyZ cyS ad) Q) D 84 ad (gc_S cyI cyZ cyS ad) 4 τ 11 [(0, .ref (ad 15)), (1, .int y1), (2, .int y2), (3, .int y3)] []) (x2 : Int32) (x3 : Int32) (s0 : Int32) (s1 : Int32) (σ : gq_M) (h : wq_X1_howMany_b32 Q K11 x2 x3 s0 s1 σ) : gq_G p l e rq_X1_howMany s m args below meth c (gq_Ri below args s D (gc_T cyI cyZ cyS) 84 ad (gc_S cyI cyZ cyS ad) Q) D 84 ad (gc_S cyI cyZ cyS ad) 4 σ 32 [(0, .ref (ad 15)), (2, .int x2), (3, .int x3)] [.int s1, .int s0] := by
  unfold wq_X1_howMany_b32 at h
  refine gq_iadd C dX1_howMany_32 ?_
  refine gq_topi (fun v6 qv6 => ?_)
  have h := h v6 qv6
  refine gq_istore_n (L' := [(0, .ref (ad 15)), (1, .int v6), (2, .int x2), (3, .int x3)]) C [1, 0, 2, 3] dX1_howMany_33 (by decide) rfl ?_
  obtain ⟨v7, qv7⟩ : ∃ y : Int32, y = (x3 + 1) := ⟨_, rfl⟩
  have h := h v7 qv7
  refine gq_iinc (j := 3) (v := v7) (L' := [(0, .ref (ad 15)), (1, .int v6), (2, .int x2), (3, .int v7)]) C [1, 2, 3, 0] dX1_howMany_34 rfl (by rw [qv7]; rfl) (by decide) rfl ?_
  refine gq_goto (tgt := 11) C dX1_howMany_37 (by decide) ?_
  exact hK11 _ _ _ _ h
def wq_X1_howMany_l11 (Q : Int32 → gq_M → Prop) (K40 : Int32 → Int32 → gq_M → Prop) : Nat → Int32 → Int32 → Int32 → gq_M → Prop
  | 0, _, _, _, _ => False
  | n + 1, x1, x2, x3, σ => ((9 < x3 → K40 x1 x2 σ) ∧ (¬ 9 < x3 → wq_X1_isOne x2 x3 σ (fun r3 σ4 => ((r3 = 0 → wq_X1_howMany_b32 Q (wq_X1_howMany_l11 Q K40 n) x2 x3 x1 0 σ4) ∧ (¬ r3 = 0 → wq_X1_howMany_b32 Q (wq_X1_howMany_l11 Q K40 n) x2 x3 x1 1 σ4)))))
set_option maxRecDepth 100000 in
set_option maxHeartbeats 4000000 in
theorem tq_X1_howMany_l11 {p : Program} {l : Launch} {e : Env} {s : State} {m : MethodId} {args : Array Value} {below : List Frame} {meth : Method} {c : Code} {D : va_G} {cyI cyZ cyS : ClassId} {ad : Nat → Nat} {Q : Int32 → gq_M → Prop} {K40 : Int32 → Int32 → gq_M → Prop} (C : gq_C p s m args meth c cX1_howMany 4 RX1 wsX1_howMany D (gc_T cyI cyZ cyS) 84 ad (some .int)) (hK40 : ∀ (y1 : Int32) (y2 : Int32) (τ : gq_M), K40 y1 y2 τ → gq_G p l e rq_X1_howMany s m args below meth c (gq_Ri below args s D (gc_T cyI cyZ cyS) 84 ad (gc_S cyI cyZ cyS ad) Q) D 84 ad (gc_S cyI cyZ cyS ad) 4 τ 40 [(0, .ref (ad 15)), (1, .int y1), (2, .int y2)] []) : ∀ (n : Nat) (x1 : Int32) (x2 : Int32) (x3 : Int32) (σ : gq_M), wq_X1_howMany_l11 Q K40 n x1 x2 x3 σ → gq_G p l e rq_X1_howMany s m args below meth c (gq_Ri below args s D (gc_T cyI cyZ cyS) 84 ad (gc_S cyI cyZ cyS ad) Q) D 84 ad (gc_S cyI cyZ cyS ad) 4 σ 11 [(0, .ref (ad 15)), (1, .int x1), (2, .int x2), (3, .int x3)] [] := by
  intro n
  induction n with
  | zero =>
    intro x1 x2 x3 σ h
    exact absurd h (fun q => q)
  | succ n ih =>
    intro x1 x2 x3 σ h
    unfold wq_X1_howMany_l11 at h
    refine gq_iload_n (j := 3) C dX1_howMany_11 rfl ?_
    refine gq_bipush (v := 9) C dX1_howMany_12 (by decide) ?_
    refine gq_icmp_gt (tgt := 40) C dX1_howMany_14 (by decide) (fun c2 => ?_) (fun c2 => ?_)
    · have h := h.1 c2
      refine gq_sub [0, 1, 2] rfl ?_
      exact hK40 _ _ _ h
    · have h := h.2 c2
      refine gq_iload_n (j := 1) C dX1_howMany_17 rfl ?_
      refine gq_aload_n (j := 0) C dX1_howMany_18 rfl ?_
      refine gq_iload_n (j := 2) C dX1_howMany_19 rfl ?_
      refine gq_iload_n (j := 3) C dX1_howMany_20 rfl ?_
      refine gq_vi (i := 15) C gcs_15 rfl [.int x2, .int x3] (mq_X1_isOne C.2.2.1 x2 x3 σ _ h) gX1_howMany_X1_isOne rfl rfl dq_X1_isOne ⟨rfl, rfl, by decide, by decide⟩ rfl rfl (Nat.le_of_ble_eq_true rfl) dX1_howMany_21 (fun r3 σ4 h => ?_)
      refine gq_if_eq (tgt := 31) C dX1_howMany_24 (by decide) (fun c5 => ?_) (fun c5 => ?_)
      · have h := h.1 c5
        refine gq_iconst (v := 0) C dX1_howMany_31 (by decide) ?_
        refine gq_sub [0, 2, 3] rfl ?_
        exact tq_X1_howMany_b32 C (ih) _ _ _ _ _ h
      · have h := h.2 c5
        refine gq_iconst (v := 1) C dX1_howMany_27 (by decide) ?_
        refine gq_goto (tgt := 32) C dX1_howMany_28 (by decide) ?_
        refine gq_sub [0, 2, 3] rfl ?_
        exact tq_X1_howMany_b32 C (ih) _ _ _ _ _ h
def wq_X1_howMany_l4 (Q : Int32 → gq_M → Prop) (K46 : Int32 → gq_M → Prop) : Nat → Int32 → Int32 → gq_M → Prop
  | 0, _, _, _ => False
  | n + 1, x1, x2, σ => ((4 ≤ x2 → K46 x1 σ) ∧ (¬ 4 ≤ x2 → (∃ n12, wq_X1_howMany_l11 Q (fun e8 e9 σ10 => ∀ v11, v11 = (e9 + 1) → wq_X1_howMany_l4 Q K46 n e8 v11 σ10) n12 x1 x2 1 σ)))
set_option maxRecDepth 100000 in
set_option maxHeartbeats 4000000 in
theorem tq_X1_howMany_l4 {p : Program} {l : Launch} {e : Env} {s : State} {m : MethodId} {args : Array Value} {below : List Frame} {meth : Method} {c : Code} {D : va_G} {cyI cyZ cyS : ClassId} {ad : Nat → Nat} {Q : Int32 → gq_M → Prop} {K46 : Int32 → gq_M → Prop} (C : gq_C p s m args meth c cX1_howMany 4 RX1 wsX1_howMany D (gc_T cyI cyZ cyS) 84 ad (some .int)) (hK46 : ∀ (y1 : Int32) (τ : gq_M), K46 y1 τ → gq_G p l e rq_X1_howMany s m args below meth c (gq_Ri below args s D (gc_T cyI cyZ cyS) 84 ad (gc_S cyI cyZ cyS ad) Q) D 84 ad (gc_S cyI cyZ cyS ad) 4 τ 46 [(0, .ref (ad 15)), (1, .int y1)] []) : ∀ (n : Nat) (x1 : Int32) (x2 : Int32) (σ : gq_M), wq_X1_howMany_l4 Q K46 n x1 x2 σ → gq_G p l e rq_X1_howMany s m args below meth c (gq_Ri below args s D (gc_T cyI cyZ cyS) 84 ad (gc_S cyI cyZ cyS ad) Q) D 84 ad (gc_S cyI cyZ cyS ad) 4 σ 4 [(0, .ref (ad 15)), (1, .int x1), (2, .int x2)] [] := by
  intro n
  induction n with
  | zero =>
    intro x1 x2 σ h
    exact absurd h (fun q => q)
  | succ n ih =>
    intro x1 x2 σ h
    unfold wq_X1_howMany_l4 at h
    refine gq_iload_n (j := 2) C dX1_howMany_4 rfl ?_
    refine gq_iconst (v := 4) C dX1_howMany_5 (by decide) ?_
    refine gq_icmp_ge (tgt := 46) C dX1_howMany_6 (by decide) (fun c1 => ?_) (fun c1 => ?_)
    · have h := h.1 c1
      refine gq_sub [0, 1] rfl ?_
      exact hK46 _ _ h
    · have h := h.2 c1
      refine gq_iconst (v := 1) C dX1_howMany_9 (by decide) ?_
      refine gq_istore_n (L' := [(0, .ref (ad 15)), (1, .int x1), (2, .int x2), (3, .int 1)]) C [1, 2, 3, 0] dX1_howMany_10 (by decide) rfl ?_
      obtain ⟨n12, h⟩ := h
      refine tq_X1_howMany_l11 C (fun e8 e9 σ10 h => ?_) n12 _ _ _ _ h
      obtain ⟨v11, qv11⟩ : ∃ y : Int32, y = (e9 + 1) := ⟨_, rfl⟩
      have h := h v11 qv11
      refine gq_iinc (j := 2) (v := v11) (L' := [(0, .ref (ad 15)), (1, .int e8), (2, .int v11)]) C [1, 2, 0] dX1_howMany_40 rfl (by rw [qv11]; rfl) (by decide) rfl ?_
      refine gq_goto (tgt := 4) C dX1_howMany_43 (by decide) ?_
      exact ih _ _ _ h
def wq_X1_howMany (σ : gq_M) (Q : Int32 → gq_M → Prop) : Prop := (∃ n15, wq_X1_howMany_l4 Q (fun e13 σ14 => Q e13 σ14) n15 0 0 σ)
set_option maxRecDepth 100000 in
set_option maxHeartbeats 4000000 in
theorem tq_X1_howMany {p : Program} {l : Launch} {e : Env} {s : State} {m : MethodId} {args : Array Value} {below : List Frame} {meth : Method} {c : Code} {D : va_G} {cyI cyZ cyS : ClassId} {ad : Nat → Nat} {Q : Int32 → gq_M → Prop} (C : gq_C p s m args meth c cX1_howMany 4 RX1 wsX1_howMany D (gc_T cyI cyZ cyS) 84 ad (some .int)) (σ : gq_M) (h : wq_X1_howMany σ Q) : gq_G p l e rq_X1_howMany s m args below meth c (gq_Ri below args s D (gc_T cyI cyZ cyS) 84 ad (gc_S cyI cyZ cyS ad) Q) D 84 ad (gc_S cyI cyZ cyS ad) 4 σ 0 [(0, .ref (ad 15))] [] := by
  unfold wq_X1_howMany at h
  refine gq_iconst (v := 0) C dX1_howMany_0 (by decide) ?_
  refine gq_istore_n (L' := [(0, .ref (ad 15)), (1, .int 0)]) C [1, 0] dX1_howMany_1 (by decide) rfl ?_
  refine gq_iconst (v := 0) C dX1_howMany_2 (by decide) ?_
  refine gq_istore_n (L' := [(0, .ref (ad 15)), (1, .int 0), (2, .int 0)]) C [1, 2, 0] dX1_howMany_3 (by decide) rfl ?_
  obtain ⟨n15, h⟩ := h
  refine tq_X1_howMany_l4 C (fun e13 σ14 h => ?_) n15 _ _ _ h
  refine gq_iload_n (j := 1) C dX1_howMany_46 rfl ?_
  exact gq_iret C h dX1_howMany_47
theorem mq_X1_howMany {l : Launch} {D : va_G} {cyI cyZ cyS : ClassId} {ad : Nat → Nat} (hap : gq_ap 84 ad) (σ : gq_M) (Q : Int32 → gq_M → Prop) (h : wq_X1_howMany σ Q) : Met l yX1_howMany wsX1_howMany rq_X1_howMany (va_Pc [.ref (ad 15)] (gq_P D (gc_T cyI cyZ cyS) 84 ad (gc_S cyI cyZ cyS ad) σ)) (va_Qi Q (gq_P D (gc_T cyI cyZ cyS) 84 ad (gc_S cyI cyZ cyS ad)) (gq_A 84 ad)) 0 0 (gq_A 84 ad) :=
  gq_met hap (by decide) rfl rfl (Nat.le_of_ble_eq_true rfl) (fun _ _ _ _ _ _ _ C => tq_X1_howMany C σ h)
