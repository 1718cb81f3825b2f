/-! ===== walks of X6_road, X6_pleat, X6_traveller, X6_step, X6_rest, X6_grease, X6_freeze, X6_thaw, X6_undo, X6_reachIn, X6_reach, X6_fewest, X6_comesWith, J6_bitCount_0f7a4 (by wip/gen) ===== -/
abbrev rq_X6_road : Room := { frames := 5, cells := 0, slots := 0, locals := 113 }
theorem dq_X6_road : gq_dsc yX6_road 0 := by unfold gq_dsc; decide +kernel
theorem iq_X6_road_X6 : ∀ w ∈ u_ws RX6 TX6 13, w ∈ wsX6_road := by decide +kernel
theorem fq_X6_road_12 : Cond.fieldLink RX6 12 (TX6 0).1 (TX6 0).2.1 (TX6 0).2.2.1 ∈ wsX6_road := by decide +kernel
theorem fq_X6_road_19 : Cond.fieldLink RX6 19 (TX6 1).1 (TX6 1).2.1 (TX6 1).2.2.1 ∈ wsX6_road := by decide +kernel
theorem fq_X6_road_23 : Cond.fieldLink RX6 23 (TX6 2).1 (TX6 2).2.1 (TX6 2).2.2.1 ∈ wsX6_road := by decide +kernel
theorem fq_X6_road_31 : Cond.fieldLink RX6 31 (TX6 3).1 (TX6 3).2.1 (TX6 3).2.2.1 ∈ wsX6_road := by decide +kernel
theorem fq_X6_road_41 : Cond.fieldLink RX6 41 (TX6 5).1 (TX6 5).2.1 (TX6 5).2.2.1 ∈ wsX6_road := by decide +kernel
theorem iq_X6_road_X0 : ∀ w ∈ u_ws RX0 TX0 3, w ∈ wsX6_road := by decide +kernel
theorem fq_X6_road_89 : Cond.fieldLink RX6 89 (TX0 2).1 (TX0 2).2.1 (TX0 2).2.2.1 ∈ wsX6_road := by decide +kernel
theorem fq_X6_road_49 : Cond.fieldLink RX6 49 (TX6 7).1 (TX6 7).2.1 (TX6 7).2.2.1 ∈ wsX6_road := by decide +kernel
theorem iq_X6_road_X2 : ∀ w ∈ u_ws RX2 TX2 7, w ∈ wsX6_road := by decide +kernel
theorem fq_X6_road_90 : Cond.fieldLink RX6 90 (TX2 5).1 (TX2 5).2.1 (TX2 5).2.2.1 ∈ wsX6_road := by decide +kernel
theorem fq_X6_road_93 : Cond.fieldLink RX6 93 (TX2 6).1 (TX2 6).2.1 (TX2 6).2.2.1 ∈ wsX6_road := by decide +kernel
def wq_X6_road_l48 (Q : Int32 → gq_M → Prop) (K66 : gq_M → Prop) : Nat → Int32 → gq_M → Prop
  | 0, _, _ => False
  | n + 1, x1, σ => ((2 ≤ x1 → K66 σ) ∧ (¬ 2 ≤ x1 → vp_in x1 2 ∧ ∀ v9, v9 = (x1 + 1) → wq_X6_road_l48 Q K66 n v9 (gq_put σ 27 x1.toNatClampNeg (vp_nar .boolean 0))))
set_option maxRecDepth 100000 in
set_option maxHeartbeats 4000000 in
theorem tq_X6_road_l48 {p : Program} {l : Launch} {e : Env} {s : State} {m : MethodId} {args : Array Value} {below : List Frame} {meth : Method} {c : Code} {D : va_G} {cyI cyZ cyS : ClassId} {ad : Nat → Nat} {Q : Int32 → gq_M → Prop} {K66 : gq_M → Prop} (C : gq_C p s m args meth c cX6_road 2 RX6 wsX6_road D (gc_T cyI cyZ cyS) 84 ad (some .int)) (hK66 : ∀ (τ : gq_M), K66 τ → gq_G p l e rq_X6_road s m args below meth c (gq_Ri below args s D (gc_T cyI cyZ cyS) 84 ad (gc_S cyI cyZ cyS ad) Q) D 84 ad (gc_S cyI cyZ cyS ad) 2 τ 66 [(0, .ref (ad 0))] []) : ∀ (n : Nat) (x1 : Int32) (σ : gq_M), wq_X6_road_l48 Q K66 n x1 σ → gq_G p l e rq_X6_road s m args below meth c (gq_Ri below args s D (gc_T cyI cyZ cyS) 84 ad (gc_S cyI cyZ cyS ad) Q) D 84 ad (gc_S cyI cyZ cyS ad) 2 σ 48 [(0, .ref (ad 0)), (1, .int x1)] [] := by
  intro n
  induction n with
  | zero =>
    intro x1 σ h
    exact absurd h (fun q => q)
  | succ n ih =>
    intro x1 σ h
    unfold wq_X6_road_l48 at h
    refine gq_iload_n (j := 1) C dX6_road_48 rfl ?_
    refine gq_iconst (v := 2) C dX6_road_49 (by decide) ?_
    refine gq_icmp_ge (tgt := 66) C dX6_road_50 (by decide) (fun c8 => ?_) (fun c8 => ?_)
    · have h := h.1 c8
      refine gq_sub [0] rfl ?_
      exact hK66  _ h
    · have h := h.2 c8
      refine gq_aload_n (j := 0) C dX6_road_53 rfl ?_
      refine gq_get (v := .ref (ad 27)) (i := 0) C gcs_0 rfl iq_X6_road_X6 7 (by decide) fq_X6_road_49 rfl dX6_road_54 ?_
      refine gq_iload_n (j := 1) C dX6_road_57 rfl ?_
      refine gq_iconst (v := 0) C dX6_road_58 (by decide) ?_
      refine gq_zast (i := 27) (j := x1.toNatClampNeg) C gcs_27 1 rfl rfl h.1 dX6_road_59 ?_
      have h := h.2
      obtain ⟨v9, qv9⟩ : ∃ y : Int32, y = (x1 + 1) := ⟨_, rfl⟩
      have h := h v9 qv9
      refine gq_iinc (j := 1) (v := v9) (L' := [(0, .ref (ad 0)), (1, .int v9)]) C [1, 0] dX6_road_60 rfl (by rw [qv9]; rfl) (by decide) rfl ?_
      refine gq_goto (tgt := 48) C dX6_road_63 (by decide) ?_
      exact ih _ _ h
def wq_X6_road (σ : gq_M) (Q : Int32 → gq_M → Prop) : Prop := wq_X3_readInto 3 σ (fun r1 σ2 => ((r1 = (-9) → wq_X3_readInto 9 σ2 (fun r4 σ5 => wq_X4_begin 30 σ5 (fun σ7 => (∃ n11, wq_X6_road_l48 Q (fun σ10 => Q ((10 * (σ10.1 9 5)) + (σ10.1 9 6)) σ10) n11 0 (gq_put σ7 24 2 0))))) ∧ (¬ r1 = (-9) → Q (-3) σ2)))
set_option maxRecDepth 100000 in
set_option maxHeartbeats 4000000 in
theorem tq_X6_road {p : Program} {l : Launch} {e : Env} {s : State} {m : MethodId} {args : Array Value} {below : List Frame} {meth : Method} {c : Code} {D : va_G} {cyI cyZ cyS : ClassId} {ad : Nat → Nat} {Q : Int32 → gq_M → Prop} (C : gq_C p s m args meth c cX6_road 2 RX6 wsX6_road D (gc_T cyI cyZ cyS) 84 ad (some .int)) (σ : gq_M) (h : wq_X6_road σ Q) : gq_G p l e rq_X6_road s m args below meth c (gq_Ri below args s D (gc_T cyI cyZ cyS) 84 ad (gc_S cyI cyZ cyS ad) Q) D 84 ad (gc_S cyI cyZ cyS ad) 2 σ 0 [(0, .ref (ad 0))] [] := by
  unfold wq_X6_road at h
  refine gq_aload_n (j := 0) C dX6_road_0 rfl ?_
  refine gq_get (v := .ref (ad 1)) (i := 0) C gcs_0 rfl iq_X6_road_X6 0 (by decide) fq_X6_road_12 rfl dX6_road_1 ?_
  refine gq_aload_n (j := 0) C dX6_road_4 rfl ?_
  refine gq_get (v := .ref (ad 3)) (i := 0) C gcs_0 rfl iq_X6_road_X6 1 (by decide) fq_X6_road_19 rfl dX6_road_5 ?_
  refine gq_vi (i := 1) C gcs_1 rfl [.ref (ad 3)] (mq_X3_readInto C.2.2.1 gr_3 σ _ h) gX6_road_X3_readInto rfl rfl dq_X3_readInto ⟨rfl, rfl, by decide, by decide⟩ rfl rfl (Nat.le_of_ble_eq_true rfl) dX6_road_8 (fun r1 σ2 h => ?_)
  refine gq_bipush (v := (-9)) C dX6_road_11 (by decide) ?_
  refine gq_icmp_eq (tgt := 19) C dX6_road_13 (by decide) (fun c3 => ?_) (fun c3 => ?_)
  · have h := h.1 c3
    refine gq_aload_n (j := 0) C dX6_road_19 rfl ?_
    refine gq_get (v := .ref (ad 1)) (i := 0) C gcs_0 rfl iq_X6_road_X6 0 (by decide) fq_X6_road_12 rfl dX6_road_20 ?_
    refine gq_aload_n (j := 0) C dX6_road_23 rfl ?_
    refine gq_get (v := .ref (ad 9)) (i := 0) C gcs_0 rfl iq_X6_road_X6 2 (by decide) fq_X6_road_23 rfl dX6_road_24 ?_
    refine gq_vi (i := 1) C gcs_1 rfl [.ref (ad 9)] (mq_X3_readInto C.2.2.1 gr_9 σ2 _ h) gX6_road_X3_readInto rfl rfl dq_X3_readInto ⟨rfl, rfl, by decide, by decide⟩ rfl rfl (Nat.le_of_ble_eq_true rfl) dX6_road_27 (fun r4 σ5 h => ?_)
    refine gq_pop C dX6_road_30 rfl ?_
    refine gq_aload_n (j := 0) C dX6_road_31 rfl ?_
    refine gq_get (v := .ref (ad 30)) (i := 0) C gcs_0 rfl iq_X6_road_X6 3 (by decide) fq_X6_road_31 rfl dX6_road_32 ?_
    refine gq_vv (i := 30) C (gcs_X4 gs_30) rfl [] (mq_X4_begin C.2.2.1 gs_30 σ5 _ h) gX6_road_X4_begin rfl rfl dq_X4_begin ⟨rfl, rfl, by decide, by decide⟩ rfl rfl (Nat.le_of_ble_eq_true rfl) dX6_road_35 (fun σ7 h => ?_)
    refine gq_aload_n (j := 0) C dX6_road_38 rfl ?_
    refine gq_get (v := .ref (ad 24)) (i := 0) C gcs_0 rfl iq_X6_road_X6 5 (by decide) fq_X6_road_41 rfl dX6_road_39 ?_
    refine gq_iconst (v := 0) C dX6_road_42 (by decide) ?_
    refine gq_puti (i := 24) C gcs_24 rfl iq_X6_road_X0 tyX0 tyX0_ok nmX0 2 (by decide) fq_X6_road_89 rfl rfl rfl (fun _ _ => Nat.le_of_ble_eq_true rfl) gs_X0_2 dX6_road_43 ?_
    refine gq_iconst (v := 0) C dX6_road_46 (by decide) ?_
    refine gq_istore_n (L' := [(0, .ref (ad 0)), (1, .int 0)]) C [1, 0] dX6_road_47 (by decide) rfl ?_
    obtain ⟨n11, h⟩ := h
    refine tq_X6_road_l48 C (fun σ10 h => ?_) n11 _ _ h
    refine gq_bipush (v := 10) C dX6_road_66 (by decide) ?_
    refine gq_aload_n (j := 0) C dX6_road_68 rfl ?_
    refine gq_get (v := .ref (ad 9)) (i := 0) C gcs_0 rfl iq_X6_road_X6 2 (by decide) fq_X6_road_23 rfl dX6_road_69 ?_
    refine gq_get (v := .int (σ10.1 9 5)) (i := 9) C (gcs_X2 gr_9) rfl iq_X6_road_X2 5 (by decide) fq_X6_road_90 rfl dX6_road_72 ?_
    refine gq_imul C dX6_road_75 ?_
    refine gq_aload_n (j := 0) C dX6_road_76 rfl ?_
    refine gq_get (v := .ref (ad 9)) (i := 0) C gcs_0 rfl iq_X6_road_X6 2 (by decide) fq_X6_road_23 rfl dX6_road_77 ?_
    refine gq_get (v := .int (σ10.1 9 6)) (i := 9) C (gcs_X2 gr_9) rfl iq_X6_road_X2 6 (by decide) fq_X6_road_93 rfl dX6_road_80 ?_
    refine gq_iadd C dX6_road_83 ?_
    exact gq_iret C h dX6_road_84
  · have h := h.2 c3
    refine gq_bipush (v := (-3)) C dX6_road_16 (by decide) ?_
    exact gq_iret C h dX6_road_18
theorem mq_X6_road {l : Launch} {D : va_G} {cyI cyZ cyS : ClassId} {ad : Nat → Nat} (hap : gq_ap 84 ad) (σ : gq_M) (Q : Int32 → gq_M → Prop) (h : wq_X6_road σ Q) : Met l yX6_road wsX6_road rq_X6_road (va_Pc [.ref (ad 0)] (gq_P D (gc_T cyI cyZ cyS) 84 ad (gc_S cyI cyZ cyS ad) σ)) (va_Qi Q (gq_P D (gc_T cyI cyZ cyS) 84 ad (gc_S cyI cyZ cyS ad)) (gq_A 84 ad)) 0 0 (gq_A 84 ad) :=
  gq_met hap (by decide) rfl rfl (Nat.le_of_ble_eq_true rfl) (fun _ _ _ _ _ _ _ C => tq_X6_road C σ h)
abbrev rq_X6_pleat : Room := { frames := 2, cells := 0, slots := 0, locals := 46 }
theorem dq_X6_pleat : gq_dsc yX6_pleat 2 := by unfold gq_dsc; decide +kernel
theorem iq_X6_pleat_X6 : ∀ w ∈ u_ws RX6 TX6 13, w ∈ wsX6_pleat := by decide +kernel
theorem fq_X6_pleat_23 : Cond.fieldLink RX6 23 (TX6 2).1 (TX6 2).2.1 (TX6 2).2.2.1 ∈ wsX6_pleat := by decide +kernel
theorem iq_X6_pleat_X2 : ∀ w ∈ u_ws RX2 TX2 7, w ∈ wsX6_pleat := by decide +kernel
theorem fq_X6_pleat_100 : Cond.fieldLink RX6 100 (TX2 0).1 (TX2 0).2.1 (TX2 0).2.2.1 ∈ wsX6_pleat := by decide +kernel
theorem fq_X6_pleat_103 : Cond.fieldLink RX6 103 (TX2 1).1 (TX2 1).2.1 (TX2 1).2.2.1 ∈ wsX6_pleat := by decide +kernel
theorem fq_X6_pleat_31 : Cond.fieldLink RX6 31 (TX6 3).1 (TX6 3).2.1 (TX6 3).2.2.1 ∈ wsX6_pleat := by decide +kernel
theorem iq_X6_pleat_X4 : ∀ w ∈ u_ws RX4 TX4 7, w ∈ wsX6_pleat := by decide +kernel
theorem fq_X6_pleat_109 : Cond.fieldLink RX6 109 (TX4 3).1 (TX4 3).2.1 (TX4 3).2.2.1 ∈ wsX6_pleat := by decide +kernel
theorem fq_X6_pleat_112 : Cond.fieldLink RX6 112 (TX4 4).1 (TX4 4).2.1 (TX4 4).2.2.1 ∈ wsX6_pleat := by decide +kernel
def wq_X6_pleat (a1 : Int32) (a2 : Int32) (σ : gq_M) (Q : Int32 → gq_M → Prop) : Prop := wq_X2_hasPleat 9 a1 σ (fun r1 σ2 => ((¬ r1 = 0 → ((a2 = 0 → vp_in a1 10 ∧ Q (σ2.1 10 a1.toNatClampNeg) σ2) ∧ (¬ a2 = 0 → ((a2 = 1 → vp_in a1 10 ∧ Q (σ2.1 11 a1.toNatClampNeg) σ2) ∧ (¬ a2 = 1 → ((a2 = 2 → wq_X4_costOf 30 a1 σ2 (fun r7 σ8 => Q r7 σ8)) ∧ (¬ a2 = 2 → ((a2 = 3 → Q (((σ2.1 30 3) >>> (a1 &&& 31)) &&& 1) σ2) ∧ (¬ a2 = 3 → ((a2 = 4 → Q (((σ2.1 30 4) >>> (a1 &&& 31)) &&& 1) σ2) ∧ (¬ a2 = 4 → Q (-2) σ2))))))))))) ∧ (r1 = 0 → Q (-1) σ2)))
set_option maxRecDepth 100000 in
set_option maxHeartbeats 4000000 in
theorem tq_X6_pleat {p : Program} {l : Launch} {e : Env} {s : State} {m : MethodId} {args : Array Value} {below : List Frame} {meth : Method} {c : Code} {D : va_G} {cyI cyZ cyS : ClassId} {ad : Nat → Nat} {Q : Int32 → gq_M → Prop} (C : gq_C p s m args meth c cX6_pleat 3 RX6 wsX6_pleat D (gc_T cyI cyZ cyS) 84 ad (some .int)) (a1 : Int32) (a2 : Int32) (σ : gq_M) (h : wq_X6_pleat a1 a2 σ Q) : gq_G p l e rq_X6_pleat s m args below meth c (gq_Ri below args s D (gc_T cyI cyZ cyS) 84 ad (gc_S cyI cyZ cyS ad) Q) D 84 ad (gc_S cyI cyZ cyS ad) 3 σ 0 [(0, .ref (ad 0)), (1, .int a1), (2, .int a2)] [] := by
  unfold wq_X6_pleat at h
  refine gq_aload_n (j := 0) C dX6_pleat_0 rfl ?_
  refine gq_get (v := .ref (ad 9)) (i := 0) C gcs_0 rfl iq_X6_pleat_X6 2 (by decide) fq_X6_pleat_23 rfl dX6_pleat_1 ?_
  refine gq_iload_n (j := 1) C dX6_pleat_4 rfl ?_
  refine gq_vi (i := 9) C (gcs_X2 gr_9) rfl [.int a1] (mq_X2_hasPleat C.2.2.1 gr_9 a1 σ _ h) gX6_pleat_X2_hasPleat rfl rfl dq_X2_hasPleat ⟨rfl, rfl, by decide, by decide⟩ rfl rfl (Nat.le_of_ble_eq_true rfl) dX6_pleat_5 (fun r1 σ2 h => ?_)
  refine gq_if_ne (tgt := 13) C dX6_pleat_8 (by decide) (fun c3 => ?_) (fun c3 => ?_)
  · have h := h.1 c3
    refine gq_iload_n (j := 2) C dX6_pleat_13 rfl ?_
    by_cases c4 : a2 = 0
    · have h := h.1 c4
      refine gq_tin (tgt := 48) C 0 dX6_pleat_14 (by rw [c4]; decide) (by decide) (by decide) rfl (by decide) ?_
      refine gq_aload_n (j := 0) C dX6_pleat_48 rfl ?_
      refine gq_get (v := .ref (ad 9)) (i := 0) C gcs_0 rfl iq_X6_pleat_X6 2 (by decide) fq_X6_pleat_23 rfl dX6_pleat_49 ?_
      refine gq_get (v := .ref (ad 10)) (i := 9) C (gcs_X2 gr_9) rfl iq_X6_pleat_X2 0 (by decide) fq_X6_pleat_100 rfl dX6_pleat_52 ?_
      refine gq_iload_n (j := 1) C dX6_pleat_55 rfl ?_
      refine gq_iald (i := 10) (j := a1.toNatClampNeg) C (gcs_X2_1 gr_9) 0 rfl rfl h.1 dX6_pleat_56 ?_
      have h := h.2
      exact gq_iret C h dX6_pleat_57
    · have h := h.2 c4
      by_cases c5 : a2 = 1
      · have h := h.1 c5
        refine gq_tin (tgt := 58) C 1 dX6_pleat_14 (by rw [c5]; decide) (by decide) (by decide) rfl (by decide) ?_
        refine gq_aload_n (j := 0) C dX6_pleat_58 rfl ?_
        refine gq_get (v := .ref (ad 9)) (i := 0) C gcs_0 rfl iq_X6_pleat_X6 2 (by decide) fq_X6_pleat_23 rfl dX6_pleat_59 ?_
        refine gq_get (v := .ref (ad 11)) (i := 9) C (gcs_X2 gr_9) rfl iq_X6_pleat_X2 1 (by decide) fq_X6_pleat_103 rfl dX6_pleat_62 ?_
        refine gq_iload_n (j := 1) C dX6_pleat_65 rfl ?_
        refine gq_iald (i := 11) (j := a1.toNatClampNeg) C (gcs_X2_2 gr_9) 0 rfl rfl h.1 dX6_pleat_66 ?_
        have h := h.2
        exact gq_iret C h dX6_pleat_67
      · have h := h.2 c5
        by_cases c6 : a2 = 2
        · have h := h.1 c6
          refine gq_tin (tgt := 68) C 2 dX6_pleat_14 (by rw [c6]; decide) (by decide) (by decide) rfl (by decide) ?_
          refine gq_aload_n (j := 0) C dX6_pleat_68 rfl ?_
          refine gq_get (v := .ref (ad 30)) (i := 0) C gcs_0 rfl iq_X6_pleat_X6 3 (by decide) fq_X6_pleat_31 rfl dX6_pleat_69 ?_
          refine gq_iload_n (j := 1) C dX6_pleat_72 rfl ?_
          refine gq_vi (i := 30) C (gcs_X4 gs_30) rfl [.int a1] (mq_X4_costOf C.2.2.1 gs_30 a1 σ2 _ h) gX6_pleat_X4_costOf rfl rfl dq_X4_costOf ⟨rfl, rfl, by decide, by decide⟩ rfl rfl (Nat.le_of_ble_eq_true rfl) dX6_pleat_73 (fun r7 σ8 h => ?_)
          exact gq_iret C h dX6_pleat_76
        · have h := h.2 c6
          by_cases c9 : a2 = 3
          · have h := h.1 c9
            refine gq_tin (tgt := 77) C 3 dX6_pleat_14 (by rw [c9]; decide) (by decide) (by decide) rfl (by decide) ?_
            refine gq_aload_n (j := 0) C dX6_pleat_77 rfl ?_
            refine gq_get (v := .ref (ad 30)) (i := 0) C gcs_0 rfl iq_X6_pleat_X6 3 (by decide) fq_X6_pleat_31 rfl dX6_pleat_78 ?_
            refine gq_get (v := .int (σ2.1 30 3)) (i := 30) C (gcs_X4 gs_30) rfl iq_X6_pleat_X4 3 (by decide) fq_X6_pleat_109 rfl dX6_pleat_81 ?_
            refine gq_iload_n (j := 1) C dX6_pleat_84 rfl ?_
            refine gq_ishr C dX6_pleat_85 ?_
            refine gq_iconst (v := 1) C dX6_pleat_86 (by decide) ?_
            refine gq_iand C dX6_pleat_87 ?_
            exact gq_iret C h dX6_pleat_88
          · have h := h.2 c9
            by_cases c10 : a2 = 4
            · have h := h.1 c10
              refine gq_tin (tgt := 89) C 4 dX6_pleat_14 (by rw [c10]; decide) (by decide) (by decide) rfl (by decide) ?_
              refine gq_aload_n (j := 0) C dX6_pleat_89 rfl ?_
              refine gq_get (v := .ref (ad 30)) (i := 0) C gcs_0 rfl iq_X6_pleat_X6 3 (by decide) fq_X6_pleat_31 rfl dX6_pleat_90 ?_
              refine gq_get (v := .int (σ2.1 30 4)) (i := 30) C (gcs_X4 gs_30) rfl iq_X6_pleat_X4 4 (by decide) fq_X6_pleat_112 rfl dX6_pleat_93 ?_
              refine gq_iload_n (j := 1) C dX6_pleat_96 rfl ?_
              refine gq_ishr C dX6_pleat_97 ?_
              refine gq_iconst (v := 1) C dX6_pleat_98 (by decide) ?_
              refine gq_iand C dX6_pleat_99 ?_
              exact gq_iret C h dX6_pleat_100
            · have h := h.2 c10
              refine gq_tout (tgt := 101) C dX6_pleat_14 (by have b0 := lv_neT (k := 0) (a := 0) c4 (by decide); have b1 := lv_neT (k := 1) (a := 1) c5 (by decide); have b2 := lv_neT (k := 2) (a := 2) c6 (by decide); have b3 := lv_neT (k := 3) (a := 3) c9 (by decide); have b4 := lv_neT (k := 4) (a := 4) c10 (by decide); omega) (by decide) ?_
              refine gq_bipush (v := (-2)) C dX6_pleat_101 (by decide) ?_
              exact gq_iret C h dX6_pleat_103
  · have h := h.2 c3
    refine gq_iconst (v := (-1)) C dX6_pleat_11 (by decide) ?_
    exact gq_iret C h dX6_pleat_12
theorem mq_X6_pleat {l : Launch} {D : va_G} {cyI cyZ cyS : ClassId} {ad : Nat → Nat} (hap : gq_ap 84 ad) (a1 : Int32) (a2 : Int32) (σ : gq_M) (Q : Int32 → gq_M → Prop) (h : wq_X6_pleat a1 a2 σ Q) : Met l yX6_pleat wsX6_pleat rq_X6_pleat (va_Pc [.ref (ad 0), .int a1, .int a2] (gq_P D (gc_T cyI cyZ cyS) 84 ad (gc_S cyI cyZ cyS ad) σ)) (va_Qi Q (gq_P D (gc_T cyI cyZ cyS) 84 ad (gc_S cyI cyZ cyS ad)) (gq_A 84 ad)) 0 0 (gq_A 84 ad) :=
  gq_met hap (by decide) rfl rfl (Nat.le_of_ble_eq_true rfl) (fun _ _ _ _ _ _ _ C => tq_X6_pleat C a1 a2 σ h)
abbrev rq_X6_traveller : Room := { frames := 3, cells := 0, slots := 0, locals := 69 }
theorem dq_X6_traveller : gq_dsc yX6_traveller 2 := by unfold gq_dsc; decide +kernel
theorem iq_X6_traveller_X6 : ∀ w ∈ u_ws RX6 TX6 13, w ∈ wsX6_traveller := by decide +kernel
theorem fq_X6_traveller_23 : Cond.fieldLink RX6 23 (TX6 2).1 (TX6 2).2.1 (TX6 2).2.2.1 ∈ wsX6_traveller := by decide +kernel
theorem fq_X6_traveller_31 : Cond.fieldLink RX6 31 (TX6 3).1 (TX6 3).2.1 (TX6 3).2.2.1 ∈ wsX6_traveller := by decide +kernel
theorem iq_X6_traveller_X4 : ∀ w ∈ u_ws RX4 TX4 7, w ∈ wsX6_traveller := by decide +kernel
theorem fq_X6_traveller_118 : Cond.fieldLink RX6 118 (TX4 1).1 (TX4 1).2.1 (TX4 1).2.2.1 ∈ wsX6_traveller := by decide +kernel
theorem iq_X6_traveller_X2 : ∀ w ∈ u_ws RX2 TX2 7, w ∈ wsX6_traveller := by decide +kernel
theorem fq_X6_traveller_121 : Cond.fieldLink RX6 121 (TX2 3).1 (TX2 3).2.1 (TX2 3).2.2.1 ∈ wsX6_traveller := by decide +kernel
theorem fq_X6_traveller_124 : Cond.fieldLink RX6 124 (TX2 4).1 (TX2 4).2.1 (TX2 4).2.2.1 ∈ wsX6_traveller := by decide +kernel
theorem fq_X6_traveller_127 : Cond.fieldLink RX6 127 (TX4 2).1 (TX4 2).2.1 (TX4 2).2.2.1 ∈ wsX6_traveller := by decide +kernel
def wq_X6_traveller (a1 : Int32) (a2 : Int32) (σ : gq_M) (Q : Int32 → gq_M → Prop) : Prop := wq_X2_hasTraveller 9 a1 σ (fun r1 σ2 => ((¬ r1 = 0 → ((a2 = 0 → vp_in a1 5 ∧ Q (σ2.1 31 a1.toNatClampNeg) σ2) ∧ (¬ a2 = 0 → ((a2 = 1 → vp_in a1 5 ∧ Q (σ2.1 13 a1.toNatClampNeg) σ2) ∧ (¬ a2 = 1 → ((a2 = 2 → vp_in a1 5 ∧ Q (σ2.1 14 a1.toNatClampNeg) σ2) ∧ (¬ a2 = 2 → ((a2 = 3 → vp_in a1 5 ∧ Q (σ2.1 32 a1.toNatClampNeg) σ2) ∧ (¬ a2 = 3 → ((a2 = 4 → wq_X4_tollBeside 30 a1 0 σ2 (fun r9 σ10 => Q r9 σ10)) ∧ (¬ a2 = 4 → ((a2 = 5 → wq_X4_tollBeside 30 a1 1 σ2 (fun r12 σ13 => Q r12 σ13)) ∧ (¬ a2 = 5 → Q (-2) σ2))))))))))))) ∧ (r1 = 0 → Q (-1) σ2)))
set_option maxRecDepth 100000 in
set_option maxHeartbeats 4000000 in
theorem tq_X6_traveller {p : Program} {l : Launch} {e : Env} {s : State} {m : MethodId} {args : Array Value} {below : List Frame} {meth : Method} {c : Code} {D : va_G} {cyI cyZ cyS : ClassId} {ad : Nat → Nat} {Q : Int32 → gq_M → Prop} (C : gq_C p s m args meth c cX6_traveller 3 RX6 wsX6_traveller D (gc_T cyI cyZ cyS) 84 ad (some .int)) (a1 : Int32) (a2 : Int32) (σ : gq_M) (h : wq_X6_traveller a1 a2 σ Q) : gq_G p l e rq_X6_traveller s m args below meth c (gq_Ri below args s D (gc_T cyI cyZ cyS) 84 ad (gc_S cyI cyZ cyS ad) Q) D 84 ad (gc_S cyI cyZ cyS ad) 3 σ 0 [(0, .ref (ad 0)), (1, .int a1), (2, .int a2)] [] := by
  unfold wq_X6_traveller at h
  refine gq_aload_n (j := 0) C dX6_traveller_0 rfl ?_
  refine gq_get (v := .ref (ad 9)) (i := 0) C gcs_0 rfl iq_X6_traveller_X6 2 (by decide) fq_X6_traveller_23 rfl dX6_traveller_1 ?_
  refine gq_iload_n (j := 1) C dX6_traveller_4 rfl ?_
  refine gq_vi (i := 9) C (gcs_X2 gr_9) rfl [.int a1] (mq_X2_hasTraveller C.2.2.1 gr_9 a1 σ _ h) gX6_traveller_X2_hasTraveller rfl rfl dq_X2_hasTraveller ⟨rfl, rfl, by decide, by decide⟩ rfl rfl (Nat.le_of_ble_eq_true rfl) dX6_traveller_5 (fun r1 σ2 h => ?_)
  refine gq_if_ne (tgt := 13) C dX6_traveller_8 (by decide) (fun c3 => ?_) (fun c3 => ?_)
  · have h := h.1 c3
    refine gq_iload_n (j := 2) C dX6_traveller_13 rfl ?_
    by_cases c4 : a2 = 0
    · have h := h.1 c4
      refine gq_tin (tgt := 52) C 0 dX6_traveller_14 (by rw [c4]; decide) (by decide) (by decide) rfl (by decide) ?_
      refine gq_aload_n (j := 0) C dX6_traveller_52 rfl ?_
      refine gq_get (v := .ref (ad 30)) (i := 0) C gcs_0 rfl iq_X6_traveller_X6 3 (by decide) fq_X6_traveller_31 rfl dX6_traveller_53 ?_
      refine gq_get (v := .ref (ad 31)) (i := 30) C (gcs_X4 gs_30) rfl iq_X6_traveller_X4 1 (by decide) fq_X6_traveller_118 rfl dX6_traveller_56 ?_
      refine gq_iload_n (j := 1) C dX6_traveller_59 rfl ?_
      refine gq_iald (i := 31) (j := a1.toNatClampNeg) C (gcs_X4_1 gs_30) 0 rfl rfl h.1 dX6_traveller_60 ?_
      have h := h.2
      exact gq_iret C h dX6_traveller_61
    · have h := h.2 c4
      by_cases c5 : a2 = 1
      · have h := h.1 c5
        refine gq_tin (tgt := 62) C 1 dX6_traveller_14 (by rw [c5]; decide) (by decide) (by decide) rfl (by decide) ?_
        refine gq_aload_n (j := 0) C dX6_traveller_62 rfl ?_
        refine gq_get (v := .ref (ad 9)) (i := 0) C gcs_0 rfl iq_X6_traveller_X6 2 (by decide) fq_X6_traveller_23 rfl dX6_traveller_63 ?_
        refine gq_get (v := .ref (ad 13)) (i := 9) C (gcs_X2 gr_9) rfl iq_X6_traveller_X2 3 (by decide) fq_X6_traveller_121 rfl dX6_traveller_66 ?_
        refine gq_iload_n (j := 1) C dX6_traveller_69 rfl ?_
        refine gq_iald (i := 13) (j := a1.toNatClampNeg) C (gcs_X2_4 gr_9) 0 rfl rfl h.1 dX6_traveller_70 ?_
        have h := h.2
        exact gq_iret C h dX6_traveller_71
      · have h := h.2 c5
        by_cases c6 : a2 = 2
        · have h := h.1 c6
          refine gq_tin (tgt := 72) C 2 dX6_traveller_14 (by rw [c6]; decide) (by decide) (by decide) rfl (by decide) ?_
          refine gq_aload_n (j := 0) C dX6_traveller_72 rfl ?_
          refine gq_get (v := .ref (ad 9)) (i := 0) C gcs_0 rfl iq_X6_traveller_X6 2 (by decide) fq_X6_traveller_23 rfl dX6_traveller_73 ?_
          refine gq_get (v := .ref (ad 14)) (i := 9) C (gcs_X2 gr_9) rfl iq_X6_traveller_X2 4 (by decide) fq_X6_traveller_124 rfl dX6_traveller_76 ?_
          refine gq_iload_n (j := 1) C dX6_traveller_79 rfl ?_
          refine gq_iald (i := 14) (j := a1.toNatClampNeg) C (gcs_X2_5 gr_9) 0 rfl rfl h.1 dX6_traveller_80 ?_
          have h := h.2
          exact gq_iret C h dX6_traveller_81
        · have h := h.2 c6
          by_cases c7 : a2 = 3
          · have h := h.1 c7
            refine gq_tin (tgt := 82) C 3 dX6_traveller_14 (by rw [c7]; decide) (by decide) (by decide) rfl (by decide) ?_
            refine gq_aload_n (j := 0) C dX6_traveller_82 rfl ?_
            refine gq_get (v := .ref (ad 30)) (i := 0) C gcs_0 rfl iq_X6_traveller_X6 3 (by decide) fq_X6_traveller_31 rfl dX6_traveller_83 ?_
            refine gq_get (v := .ref (ad 32)) (i := 30) C (gcs_X4 gs_30) rfl iq_X6_traveller_X4 2 (by decide) fq_X6_traveller_127 rfl dX6_traveller_86 ?_
            refine gq_iload_n (j := 1) C dX6_traveller_89 rfl ?_
            refine gq_iald (i := 32) (j := a1.toNatClampNeg) C (gcs_X4_2 gs_30) 0 rfl rfl h.1 dX6_traveller_90 ?_
            have h := h.2
            exact gq_iret C h dX6_traveller_91
          · have h := h.2 c7
            by_cases c8 : a2 = 4
            · have h := h.1 c8
              refine gq_tin (tgt := 92) C 4 dX6_traveller_14 (by rw [c8]; decide) (by decide) (by decide) rfl (by decide) ?_
              refine gq_aload_n (j := 0) C dX6_traveller_92 rfl ?_
              refine gq_get (v := .ref (ad 30)) (i := 0) C gcs_0 rfl iq_X6_traveller_X6 3 (by decide) fq_X6_traveller_31 rfl dX6_traveller_93 ?_
              refine gq_iload_n (j := 1) C dX6_traveller_96 rfl ?_
              refine gq_iconst (v := 0) C dX6_traveller_97 (by decide) ?_
              refine gq_vi (i := 30) C (gcs_X4 gs_30) rfl [.int a1, .int 0] (mq_X4_tollBeside C.2.2.1 gs_30 a1 0 σ2 _ h) gX6_traveller_X4_tollBeside rfl rfl dq_X4_tollBeside ⟨rfl, rfl, by decide, by decide⟩ rfl rfl (Nat.le_of_ble_eq_true rfl) dX6_traveller_98 (fun r9 σ10 h => ?_)
              exact gq_iret C h dX6_traveller_101
            · have h := h.2 c8
              by_cases c11 : a2 = 5
              · have h := h.1 c11
                refine gq_tin (tgt := 102) C 5 dX6_traveller_14 (by rw [c11]; decide) (by decide) (by decide) rfl (by decide) ?_
                refine gq_aload_n (j := 0) C dX6_traveller_102 rfl ?_
                refine gq_get (v := .ref (ad 30)) (i := 0) C gcs_0 rfl iq_X6_traveller_X6 3 (by decide) fq_X6_traveller_31 rfl dX6_traveller_103 ?_
                refine gq_iload_n (j := 1) C dX6_traveller_106 rfl ?_
                refine gq_iconst (v := 1) C dX6_traveller_107 (by decide) ?_
                refine gq_vi (i := 30) C (gcs_X4 gs_30) rfl [.int a1, .int 1] (mq_X4_tollBeside C.2.2.1 gs_30 a1 1 σ2 _ h) gX6_traveller_X4_tollBeside rfl rfl dq_X4_tollBeside ⟨rfl, rfl, by decide, by decide⟩ rfl rfl (Nat.le_of_ble_eq_true rfl) dX6_traveller_108 (fun r12 σ13 h => ?_)
                exact gq_iret C h dX6_traveller_111
              · have h := h.2 c11
                refine gq_tout (tgt := 112) C dX6_traveller_14 (by have b0 := lv_neT (k := 0) (a := 0) c4 (by decide); have b1 := lv_neT (k := 1) (a := 1) c5 (by decide); have b2 := lv_neT (k := 2) (a := 2) c6 (by decide); have b3 := lv_neT (k := 3) (a := 3) c7 (by decide); have b4 := lv_neT (k := 4) (a := 4) c8 (by decide); have b5 := lv_neT (k := 5) (a := 5) c11 (by decide); omega) (by decide) ?_
                refine gq_bipush (v := (-2)) C dX6_traveller_112 (by decide) ?_
                exact gq_iret C h dX6_traveller_114
  · have h := h.2 c3
    refine gq_iconst (v := (-1)) C dX6_traveller_11 (by decide) ?_
    exact gq_iret C h dX6_traveller_12
theorem mq_X6_traveller {l : Launch} {D : va_G} {cyI cyZ cyS : ClassId} {ad : Nat → Nat} (hap : gq_ap 84 ad) (a1 : Int32) (a2 : Int32) (σ : gq_M) (Q : Int32 → gq_M → Prop) (h : wq_X6_traveller a1 a2 σ Q) : Met l yX6_traveller wsX6_traveller rq_X6_traveller (va_Pc [.ref (ad 0), .int a1, .int a2] (gq_P D (gc_T cyI cyZ cyS) 84 ad (gc_S cyI cyZ cyS ad) σ)) (va_Qi Q (gq_P D (gc_T cyI cyZ cyS) 84 ad (gc_S cyI cyZ cyS ad)) (gq_A 84 ad)) 0 0 (gq_A 84 ad) :=
  gq_met hap (by decide) rfl rfl (Nat.le_of_ble_eq_true rfl) (fun _ _ _ _ _ _ _ C => tq_X6_traveller C a1 a2 σ h)
abbrev rq_X6_step : Room := { frames := 4, cells := 0, slots := 0, locals := 93 }
theorem dq_X6_step : gq_dsc yX6_step 2 := by unfold gq_dsc; decide +kernel
theorem iq_X6_step_X6 : ∀ w ∈ u_ws RX6 TX6 13, w ∈ wsX6_step := by decide +kernel
theorem fq_X6_step_23 : Cond.fieldLink RX6 23 (TX6 2).1 (TX6 2).2.1 (TX6 2).2.2.1 ∈ wsX6_step := by decide +kernel
theorem fq_X6_step_31 : Cond.fieldLink RX6 31 (TX6 3).1 (TX6 3).2.1 (TX6 3).2.2.1 ∈ wsX6_step := by decide +kernel
theorem fq_X6_step_41 : Cond.fieldLink RX6 41 (TX6 5).1 (TX6 5).2.1 (TX6 5).2.2.1 ∈ wsX6_step := by decide +kernel
theorem iq_X6_step_X4 : ∀ w ∈ u_ws RX4 TX4 7, w ∈ wsX6_step := by decide +kernel
theorem fq_X6_step_118 : Cond.fieldLink RX6 118 (TX4 1).1 (TX4 1).2.1 (TX4 1).2.2.1 ∈ wsX6_step := by decide +kernel
def wq_X6_step (a1 : Int32) (a2 : Int32) (σ : gq_M) (Q : Int32 → gq_M → Prop) : Prop := wq_X2_hasTraveller 9 a1 σ (fun r1 σ2 => ((¬ r1 = 0 → wq_X4_canStep 30 a1 a2 σ2 (fun r4 σ5 => ((¬ r4 = 0 → wq_X0_remember 30 σ5 (fun σ8 => wq_X4_doStep 30 a1 a2 σ8 (fun σ10 => vp_in a1 5 ∧ Q (σ10.1 31 a1.toNatClampNeg) σ10))) ∧ (r4 = 0 → Q (-3) σ5)))) ∧ (r1 = 0 → Q (-1) σ2)))
set_option maxRecDepth 100000 in
set_option maxHeartbeats 4000000 in
theorem tq_X6_step {p : Program} {l : Launch} {e : Env} {s : State} {m : MethodId} {args : Array Value} {below : List Frame} {meth : Method} {c : Code} {D : va_G} {cyI cyZ cyS : ClassId} {ad : Nat → Nat} {Q : Int32 → gq_M → Prop} (C : gq_C p s m args meth c cX6_step 3 RX6 wsX6_step D (gc_T cyI cyZ cyS) 84 ad (some .int)) (a1 : Int32) (a2 : Int32) (σ : gq_M) (h : wq_X6_step a1 a2 σ Q) : gq_G p l e rq_X6_step s m args below meth c (gq_Ri below args s D (gc_T cyI cyZ cyS) 84 ad (gc_S cyI cyZ cyS ad) Q) D 84 ad (gc_S cyI cyZ cyS ad) 3 σ 0 [(0, .ref (ad 0)), (1, .int a1), (2, .int a2)] [] := by
  unfold wq_X6_step at h
  refine gq_aload_n (j := 0) C dX6_step_0 rfl ?_
  refine gq_get (v := .ref (ad 9)) (i := 0) C gcs_0 rfl iq_X6_step_X6 2 (by decide) fq_X6_step_23 rfl dX6_step_1 ?_
  refine gq_iload_n (j := 1) C dX6_step_4 rfl ?_
  refine gq_vi (i := 9) C (gcs_X2 gr_9) rfl [.int a1] (mq_X2_hasTraveller C.2.2.1 gr_9 a1 σ _ h) gX6_step_X2_hasTraveller rfl rfl dq_X2_hasTraveller ⟨rfl, rfl, by decide, by decide⟩ rfl rfl (Nat.le_of_ble_eq_true rfl) dX6_step_5 (fun r1 σ2 h => ?_)
  refine gq_if_ne (tgt := 13) C dX6_step_8 (by decide) (fun c3 => ?_) (fun c3 => ?_)
  · have h := h.1 c3
    refine gq_aload_n (j := 0) C dX6_step_13 rfl ?_
    refine gq_get (v := .ref (ad 30)) (i := 0) C gcs_0 rfl iq_X6_step_X6 3 (by decide) fq_X6_step_31 rfl dX6_step_14 ?_
    refine gq_iload_n (j := 1) C dX6_step_17 rfl ?_
    refine gq_iload_n (j := 2) C dX6_step_18 rfl ?_
    refine gq_vi (i := 30) C (gcs_X4 gs_30) rfl [.int a1, .int a2] (mq_X4_canStep C.2.2.1 gs_30 a1 a2 σ2 _ h) gX6_step_X4_canStep rfl rfl dq_X4_canStep ⟨rfl, rfl, by decide, by decide⟩ rfl rfl (Nat.le_of_ble_eq_true rfl) dX6_step_19 (fun r4 σ5 h => ?_)
    refine gq_if_ne (tgt := 28) C dX6_step_22 (by decide) (fun c6 => ?_) (fun c6 => ?_)
    · have h := h.1 c6
      refine gq_aload_n (j := 0) C dX6_step_28 rfl ?_
      refine gq_get (v := .ref (ad 24)) (i := 0) C gcs_0 rfl iq_X6_step_X6 5 (by decide) fq_X6_step_41 rfl dX6_step_29 ?_
      refine gq_aload_n (j := 0) C dX6_step_32 rfl ?_
      refine gq_get (v := .ref (ad 30)) (i := 0) C gcs_0 rfl iq_X6_step_X6 3 (by decide) fq_X6_step_31 rfl dX6_step_33 ?_
      refine gq_vv (i := 24) C gcs_24 rfl [.ref (ad 30)] (mq_X0_remember C.2.2.1 gs_30 σ5 _ h) gX6_step_X0_remember rfl rfl dq_X0_remember ⟨rfl, rfl, by decide, by decide⟩ rfl rfl (Nat.le_of_ble_eq_true rfl) dX6_step_36 (fun σ8 h => ?_)
      refine gq_aload_n (j := 0) C dX6_step_39 rfl ?_
      refine gq_get (v := .ref (ad 30)) (i := 0) C gcs_0 rfl iq_X6_step_X6 3 (by decide) fq_X6_step_31 rfl dX6_step_40 ?_
      refine gq_iload_n (j := 1) C dX6_step_43 rfl ?_
      refine gq_iload_n (j := 2) C dX6_step_44 rfl ?_
      refine gq_vv (i := 30) C (gcs_X4 gs_30) rfl [.int a1, .int a2] (mq_X4_doStep C.2.2.1 gs_30 a1 a2 σ8 _ h) gX6_step_X4_doStep rfl rfl dq_X4_doStep ⟨rfl, rfl, by decide, by decide⟩ rfl rfl (Nat.le_of_ble_eq_true rfl) dX6_step_45 (fun σ10 h => ?_)
      refine gq_aload_n (j := 0) C dX6_step_48 rfl ?_
      refine gq_get (v := .ref (ad 30)) (i := 0) C gcs_0 rfl iq_X6_step_X6 3 (by decide) fq_X6_step_31 rfl dX6_step_49 ?_
      refine gq_get (v := .ref (ad 31)) (i := 30) C (gcs_X4 gs_30) rfl iq_X6_step_X4 1 (by decide) fq_X6_step_118 rfl dX6_step_52 ?_
      refine gq_iload_n (j := 1) C dX6_step_55 rfl ?_
      refine gq_iald (i := 31) (j := a1.toNatClampNeg) C (gcs_X4_1 gs_30) 0 rfl rfl h.1 dX6_step_56 ?_
      have h := h.2
      exact gq_iret C h dX6_step_57
    · have h := h.2 c6
      refine gq_bipush (v := (-3)) C dX6_step_25 (by decide) ?_
      exact gq_iret C h dX6_step_27
  · have h := h.2 c3
    refine gq_iconst (v := (-1)) C dX6_step_11 (by decide) ?_
    exact gq_iret C h dX6_step_12
theorem mq_X6_step {l : Launch} {D : va_G} {cyI cyZ cyS : ClassId} {ad : Nat → Nat} (hap : gq_ap 84 ad) (a1 : Int32) (a2 : Int32) (σ : gq_M) (Q : Int32 → gq_M → Prop) (h : wq_X6_step a1 a2 σ Q) : Met l yX6_step wsX6_step rq_X6_step (va_Pc [.ref (ad 0), .int a1, .int a2] (gq_P D (gc_T cyI cyZ cyS) 84 ad (gc_S cyI cyZ cyS ad) σ)) (va_Qi Q (gq_P D (gc_T cyI cyZ cyS) 84 ad (gc_S cyI cyZ cyS ad)) (gq_A 84 ad)) 0 0 (gq_A 84 ad) :=
  gq_met hap (by decide) rfl rfl (Nat.le_of_ble_eq_true rfl) (fun _ _ _ _ _ _ _ C => tq_X6_step C a1 a2 σ h)
abbrev rq_X6_rest : Room := { frames := 3, cells := 0, slots := 0, locals := 63 }
theorem dq_X6_rest : gq_dsc yX6_rest 1 := by unfold gq_dsc; decide +kernel
theorem iq_X6_rest_X6 : ∀ w ∈ u_ws RX6 TX6 13, w ∈ wsX6_rest := by decide +kernel
theorem fq_X6_rest_23 : Cond.fieldLink RX6 23 (TX6 2).1 (TX6 2).2.1 (TX6 2).2.2.1 ∈ wsX6_rest := by decide +kernel
theorem fq_X6_rest_41 : Cond.fieldLink RX6 41 (TX6 5).1 (TX6 5).2.1 (TX6 5).2.2.1 ∈ wsX6_rest := by decide +kernel
theorem fq_X6_rest_31 : Cond.fieldLink RX6 31 (TX6 3).1 (TX6 3).2.1 (TX6 3).2.2.1 ∈ wsX6_rest := by decide +kernel
theorem iq_X6_rest_X4 : ∀ w ∈ u_ws RX4 TX4 7, w ∈ wsX6_rest := by decide +kernel
theorem fq_X6_rest_127 : Cond.fieldLink RX6 127 (TX4 2).1 (TX4 2).2.1 (TX4 2).2.2.1 ∈ wsX6_rest := by decide +kernel
def wq_X6_rest (a1 : Int32) (σ : gq_M) (Q : Int32 → gq_M → Prop) : Prop := wq_X2_hasTraveller 9 a1 σ (fun r1 σ2 => ((¬ r1 = 0 → wq_X0_remember 30 σ2 (fun σ5 => wq_X4_doRest 30 a1 σ5 (fun σ7 => vp_in a1 5 ∧ Q (σ7.1 32 a1.toNatClampNeg) σ7))) ∧ (r1 = 0 → Q (-1) σ2)))
set_option maxRecDepth 100000 in
set_option maxHeartbeats 4000000 in
theorem tq_X6_rest {p : Program} {l : Launch} {e : Env} {s : State} {m : MethodId} {args : Array Value} {below : List Frame} {meth : Method} {c : Code} {D : va_G} {cyI cyZ cyS : ClassId} {ad : Nat → Nat} {Q : Int32 → gq_M → Prop} (C : gq_C p s m args meth c cX6_rest 2 RX6 wsX6_rest D (gc_T cyI cyZ cyS) 84 ad (some .int)) (a1 : Int32) (σ : gq_M) (h : wq_X6_rest a1 σ Q) : gq_G p l e rq_X6_rest s m args below meth c (gq_Ri below args s D (gc_T cyI cyZ cyS) 84 ad (gc_S cyI cyZ cyS ad) Q) D 84 ad (gc_S cyI cyZ cyS ad) 2 σ 0 [(0, .ref (ad 0)), (1, .int a1)] [] := by
  unfold wq_X6_rest at h
  refine gq_aload_n (j := 0) C dX6_rest_0 rfl ?_
  refine gq_get (v := .ref (ad 9)) (i := 0) C gcs_0 rfl iq_X6_rest_X6 2 (by decide) fq_X6_rest_23 rfl dX6_rest_1 ?_
  refine gq_iload_n (j := 1) C dX6_rest_4 rfl ?_
  refine gq_vi (i := 9) C (gcs_X2 gr_9) rfl [.int a1] (mq_X2_hasTraveller C.2.2.1 gr_9 a1 σ _ h) gX6_rest_X2_hasTraveller rfl rfl dq_X2_hasTraveller ⟨rfl, rfl, by decide, by decide⟩ rfl rfl (Nat.le_of_ble_eq_true rfl) dX6_rest_5 (fun r1 σ2 h => ?_)
  refine gq_if_ne (tgt := 13) C dX6_rest_8 (by decide) (fun c3 => ?_) (fun c3 => ?_)
  · have h := h.1 c3
    refine gq_aload_n (j := 0) C dX6_rest_13 rfl ?_
    refine gq_get (v := .ref (ad 24)) (i := 0) C gcs_0 rfl iq_X6_rest_X6 5 (by decide) fq_X6_rest_41 rfl dX6_rest_14 ?_
    refine gq_aload_n (j := 0) C dX6_rest_17 rfl ?_
    refine gq_get (v := .ref (ad 30)) (i := 0) C gcs_0 rfl iq_X6_rest_X6 3 (by decide) fq_X6_rest_31 rfl dX6_rest_18 ?_
    refine gq_vv (i := 24) C gcs_24 rfl [.ref (ad 30)] (mq_X0_remember C.2.2.1 gs_30 σ2 _ h) gX6_rest_X0_remember rfl rfl dq_X0_remember ⟨rfl, rfl, by decide, by decide⟩ rfl rfl (Nat.le_of_ble_eq_true rfl) dX6_rest_21 (fun σ5 h => ?_)
    refine gq_aload_n (j := 0) C dX6_rest_24 rfl ?_
    refine gq_get (v := .ref (ad 30)) (i := 0) C gcs_0 rfl iq_X6_rest_X6 3 (by decide) fq_X6_rest_31 rfl dX6_rest_25 ?_
    refine gq_iload_n (j := 1) C dX6_rest_28 rfl ?_
    refine gq_vv (i := 30) C (gcs_X4 gs_30) rfl [.int a1] (mq_X4_doRest C.2.2.1 gs_30 a1 σ5 _ h) gX6_rest_X4_doRest rfl rfl dq_X4_doRest ⟨rfl, rfl, by decide, by decide⟩ rfl rfl (Nat.le_of_ble_eq_true rfl) dX6_rest_29 (fun σ7 h => ?_)
    refine gq_aload_n (j := 0) C dX6_rest_32 rfl ?_
    refine gq_get (v := .ref (ad 30)) (i := 0) C gcs_0 rfl iq_X6_rest_X6 3 (by decide) fq_X6_rest_31 rfl dX6_rest_33 ?_
    refine gq_get (v := .ref (ad 32)) (i := 30) C (gcs_X4 gs_30) rfl iq_X6_rest_X4 2 (by decide) fq_X6_rest_127 rfl dX6_rest_36 ?_
    refine gq_iload_n (j := 1) C dX6_rest_39 rfl ?_
    refine gq_iald (i := 32) (j := a1.toNatClampNeg) C (gcs_X4_2 gs_30) 0 rfl rfl h.1 dX6_rest_40 ?_
    have h := h.2
    exact gq_iret C h dX6_rest_41
  · have h := h.2 c3
    refine gq_iconst (v := (-1)) C dX6_rest_11 (by decide) ?_
    exact gq_iret C h dX6_rest_12
theorem mq_X6_rest {l : Launch} {D : va_G} {cyI cyZ cyS : ClassId} {ad : Nat → Nat} (hap : gq_ap 84 ad) (a1 : Int32) (σ : gq_M) (Q : Int32 → gq_M → Prop) (h : wq_X6_rest a1 σ Q) : Met l yX6_rest wsX6_rest rq_X6_rest (va_Pc [.ref (ad 0), .int a1] (gq_P D (gc_T cyI cyZ cyS) 84 ad (gc_S cyI cyZ cyS ad) σ)) (va_Qi Q (gq_P D (gc_T cyI cyZ cyS) 84 ad (gc_S cyI cyZ cyS ad)) (gq_A 84 ad)) 0 0 (gq_A 84 ad) :=
  gq_met hap (by decide) rfl rfl (Nat.le_of_ble_eq_true rfl) (fun _ _ _ _ _ _ _ C => tq_X6_rest C a1 σ h)
abbrev rq_X6_grease : Room := { frames := 2, cells := 0, slots := 0, locals := 46 }
theorem dq_X6_grease : gq_dsc yX6_grease 1 := by unfold gq_dsc; decide +kernel
theorem iq_X6_grease_X6 : ∀ w ∈ u_ws RX6 TX6 13, w ∈ wsX6_grease := by decide +kernel
theorem fq_X6_grease_23 : Cond.fieldLink RX6 23 (TX6 2).1 (TX6 2).2.1 (TX6 2).2.2.1 ∈ wsX6_grease := by decide +kernel
theorem fq_X6_grease_31 : Cond.fieldLink RX6 31 (TX6 3).1 (TX6 3).2.1 (TX6 3).2.2.1 ∈ wsX6_grease := by decide +kernel
theorem fq_X6_grease_41 : Cond.fieldLink RX6 41 (TX6 5).1 (TX6 5).2.1 (TX6 5).2.2.1 ∈ wsX6_grease := by decide +kernel
def wq_X6_grease (a1 : Int32) (σ : gq_M) (Q : Int32 → gq_M → Prop) : Prop := wq_X2_hasPleat 9 a1 σ (fun r1 σ2 => ((¬ r1 = 0 → wq_X4_canGrease 30 a1 σ2 (fun r4 σ5 => ((¬ r4 = 0 → wq_X0_remember 30 σ5 (fun σ8 => wq_X4_doGrease 30 a1 σ8 (fun σ10 => wq_X4_costOf 30 a1 σ10 (fun r11 σ12 => Q r11 σ12)))) ∧ (r4 = 0 → Q (-3) σ5)))) ∧ (r1 = 0 → Q (-1) σ2)))
set_option maxRecDepth 100000 in
set_option maxHeartbeats 4000000 in
theorem tq_X6_grease {p : Program} {l : Launch} {e : Env} {s : State} {m : MethodId} {args : Array Value} {below : List Frame} {meth : Method} {c : Code} {D : va_G} {cyI cyZ cyS : ClassId} {ad : Nat → Nat} {Q : Int32 → gq_M → Prop} (C : gq_C p s m args meth c cX6_grease 2 RX6 wsX6_grease D (gc_T cyI cyZ cyS) 84 ad (some .int)) (a1 : Int32) (σ : gq_M) (h : wq_X6_grease a1 σ Q) : gq_G p l e rq_X6_grease s m args below meth c (gq_Ri below args s D (gc_T cyI cyZ cyS) 84 ad (gc_S cyI cyZ cyS ad) Q) D 84 ad (gc_S cyI cyZ cyS ad) 2 σ 0 [(0, .ref (ad 0)), (1, .int a1)] [] := by
  unfold wq_X6_grease at h
  refine gq_aload_n (j := 0) C dX6_grease_0 rfl ?_
  refine gq_get (v := .ref (ad 9)) (i := 0) C gcs_0 rfl iq_X6_grease_X6 2 (by decide) fq_X6_grease_23 rfl dX6_grease_1 ?_
  refine gq_iload_n (j := 1) C dX6_grease_4 rfl ?_
  refine gq_vi (i := 9) C (gcs_X2 gr_9) rfl [.int a1] (mq_X2_hasPleat C.2.2.1 gr_9 a1 σ _ h) gX6_grease_X2_hasPleat rfl rfl dq_X2_hasPleat ⟨rfl, rfl, by decide, by decide⟩ rfl rfl (Nat.le_of_ble_eq_true rfl) dX6_grease_5 (fun r1 σ2 h => ?_)
  refine gq_if_ne (tgt := 13) C dX6_grease_8 (by decide) (fun c3 => ?_) (fun c3 => ?_)
  · have h := h.1 c3
    refine gq_aload_n (j := 0) C dX6_grease_13 rfl ?_
    refine gq_get (v := .ref (ad 30)) (i := 0) C gcs_0 rfl iq_X6_grease_X6 3 (by decide) fq_X6_grease_31 rfl dX6_grease_14 ?_
    refine gq_iload_n (j := 1) C dX6_grease_17 rfl ?_
    refine gq_vi (i := 30) C (gcs_X4 gs_30) rfl [.int a1] (mq_X4_canGrease C.2.2.1 gs_30 a1 σ2 _ h) gX6_grease_X4_canGrease rfl rfl dq_X4_canGrease ⟨rfl, rfl, by decide, by decide⟩ rfl rfl (Nat.le_of_ble_eq_true rfl) dX6_grease_18 (fun r4 σ5 h => ?_)
    refine gq_if_ne (tgt := 27) C dX6_grease_21 (by decide) (fun c6 => ?_) (fun c6 => ?_)
    · have h := h.1 c6
      refine gq_aload_n (j := 0) C dX6_grease_27 rfl ?_
      refine gq_get (v := .ref (ad 24)) (i := 0) C gcs_0 rfl iq_X6_grease_X6 5 (by decide) fq_X6_grease_41 rfl dX6_grease_28 ?_
      refine gq_aload_n (j := 0) C dX6_grease_31 rfl ?_
      refine gq_get (v := .ref (ad 30)) (i := 0) C gcs_0 rfl iq_X6_grease_X6 3 (by decide) fq_X6_grease_31 rfl dX6_grease_32 ?_
      refine gq_vv (i := 24) C gcs_24 rfl [.ref (ad 30)] (mq_X0_remember C.2.2.1 gs_30 σ5 _ h) gX6_grease_X0_remember rfl rfl dq_X0_remember ⟨rfl, rfl, by decide, by decide⟩ rfl rfl (Nat.le_of_ble_eq_true rfl) dX6_grease_35 (fun σ8 h => ?_)
      refine gq_aload_n (j := 0) C dX6_grease_38 rfl ?_
      refine gq_get (v := .ref (ad 30)) (i := 0) C gcs_0 rfl iq_X6_grease_X6 3 (by decide) fq_X6_grease_31 rfl dX6_grease_39 ?_
      refine gq_iload_n (j := 1) C dX6_grease_42 rfl ?_
      refine gq_vv (i := 30) C (gcs_X4 gs_30) rfl [.int a1] (mq_X4_doGrease C.2.2.1 gs_30 a1 σ8 _ h) gX6_grease_X4_doGrease rfl rfl dq_X4_doGrease ⟨rfl, rfl, by decide, by decide⟩ rfl rfl (Nat.le_of_ble_eq_true rfl) dX6_grease_43 (fun σ10 h => ?_)
      refine gq_aload_n (j := 0) C dX6_grease_46 rfl ?_
      refine gq_get (v := .ref (ad 30)) (i := 0) C gcs_0 rfl iq_X6_grease_X6 3 (by decide) fq_X6_grease_31 rfl dX6_grease_47 ?_
      refine gq_iload_n (j := 1) C dX6_grease_50 rfl ?_
      refine gq_vi (i := 30) C (gcs_X4 gs_30) rfl [.int a1] (mq_X4_costOf C.2.2.1 gs_30 a1 σ10 _ h) gX6_grease_X4_costOf rfl rfl dq_X4_costOf ⟨rfl, rfl, by decide, by decide⟩ rfl rfl (Nat.le_of_ble_eq_true rfl) dX6_grease_51 (fun r11 σ12 h => ?_)
      exact gq_iret C h dX6_grease_54
    · have h := h.2 c6
      refine gq_bipush (v := (-3)) C dX6_grease_24 (by decide) ?_
      exact gq_iret C h dX6_grease_26
  · have h := h.2 c3
    refine gq_iconst (v := (-1)) C dX6_grease_11 (by decide) ?_
    exact gq_iret C h dX6_grease_12
theorem mq_X6_grease {l : Launch} {D : va_G} {cyI cyZ cyS : ClassId} {ad : Nat → Nat} (hap : gq_ap 84 ad) (a1 : Int32) (σ : gq_M) (Q : Int32 → gq_M → Prop) (h : wq_X6_grease a1 σ Q) : Met l yX6_grease wsX6_grease rq_X6_grease (va_Pc [.ref (ad 0), .int a1] (gq_P D (gc_T cyI cyZ cyS) 84 ad (gc_S cyI cyZ cyS ad) σ)) (va_Qi Q (gq_P D (gc_T cyI cyZ cyS) 84 ad (gc_S cyI cyZ cyS ad)) (gq_A 84 ad)) 0 0 (gq_A 84 ad) :=
  gq_met hap (by decide) rfl rfl (Nat.le_of_ble_eq_true rfl) (fun _ _ _ _ _ _ _ C => tq_X6_grease C a1 σ h)
abbrev rq_X6_freeze : Room := { frames := 2, cells := 0, slots := 0, locals := 43 }
theorem dq_X6_freeze : gq_dsc yX6_freeze 0 := by unfold gq_dsc; decide +kernel
theorem iq_X6_freeze_X6 : ∀ w ∈ u_ws RX6 TX6 13, w ∈ wsX6_freeze := by decide +kernel
theorem fq_X6_freeze_31 : Cond.fieldLink RX6 31 (TX6 3).1 (TX6 3).2.1 (TX6 3).2.2.1 ∈ wsX6_freeze := by decide +kernel
theorem fq_X6_freeze_41 : Cond.fieldLink RX6 41 (TX6 5).1 (TX6 5).2.1 (TX6 5).2.2.1 ∈ wsX6_freeze := by decide +kernel
theorem iq_X6_freeze_X4 : ∀ w ∈ u_ws RX4 TX4 7, w ∈ wsX6_freeze := by decide +kernel
theorem fq_X6_freeze_160 : Cond.fieldLink RX6 160 (TX4 5).1 (TX4 5).2.1 (TX4 5).2.2.1 ∈ wsX6_freeze := by decide +kernel
def wq_X6_freeze (σ : gq_M) (Q : Int32 → gq_M → Prop) : Prop := wq_X4_canFreeze 30 σ (fun r1 σ2 => ((¬ r1 = 0 → wq_X0_remember 30 σ2 (fun σ5 => Q (((gq_put σ5 30 5 ((σ5.1 30 5) + 1))).1 30 5) (gq_put σ5 30 5 ((σ5.1 30 5) + 1)))) ∧ (r1 = 0 → Q (-3) σ2)))
set_option maxRecDepth 100000 in
set_option maxHeartbeats 4000000 in
theorem tq_X6_freeze {p : Program} {l : Launch} {e : Env} {s : State} {m : MethodId} {args : Array Value} {below : List Frame} {meth : Method} {c : Code} {D : va_G} {cyI cyZ cyS : ClassId} {ad : Nat → Nat} {Q : Int32 → gq_M → Prop} (C : gq_C p s m args meth c cX6_freeze 1 RX6 wsX6_freeze D (gc_T cyI cyZ cyS) 84 ad (some .int)) (σ : gq_M) (h : wq_X6_freeze σ Q) : gq_G p l e rq_X6_freeze s m args below meth c (gq_Ri below args s D (gc_T cyI cyZ cyS) 84 ad (gc_S cyI cyZ cyS ad) Q) D 84 ad (gc_S cyI cyZ cyS ad) 1 σ 0 [(0, .ref (ad 0))] [] := by
  unfold wq_X6_freeze at h
  refine gq_aload_n (j := 0) C dX6_freeze_0 rfl ?_
  refine gq_get (v := .ref (ad 30)) (i := 0) C gcs_0 rfl iq_X6_freeze_X6 3 (by decide) fq_X6_freeze_31 rfl dX6_freeze_1 ?_
  refine gq_vi (i := 30) C (gcs_X4 gs_30) rfl [] (mq_X4_canFreeze C.2.2.1 gs_30 σ _ h) gX6_freeze_X4_canFreeze rfl rfl dq_X4_canFreeze ⟨rfl, rfl, by decide, by decide⟩ rfl rfl (Nat.le_of_ble_eq_true rfl) dX6_freeze_4 (fun r1 σ2 h => ?_)
  refine gq_if_ne (tgt := 13) C dX6_freeze_7 (by decide) (fun c3 => ?_) (fun c3 => ?_)
  · have h := h.1 c3
    refine gq_aload_n (j := 0) C dX6_freeze_13 rfl ?_
    refine gq_get (v := .ref (ad 24)) (i := 0) C gcs_0 rfl iq_X6_freeze_X6 5 (by decide) fq_X6_freeze_41 rfl dX6_freeze_14 ?_
    refine gq_aload_n (j := 0) C dX6_freeze_17 rfl ?_
    refine gq_get (v := .ref (ad 30)) (i := 0) C gcs_0 rfl iq_X6_freeze_X6 3 (by decide) fq_X6_freeze_31 rfl dX6_freeze_18 ?_
    refine gq_vv (i := 24) C gcs_24 rfl [.ref (ad 30)] (mq_X0_remember C.2.2.1 gs_30 σ2 _ h) gX6_freeze_X0_remember rfl rfl dq_X0_remember ⟨rfl, rfl, by decide, by decide⟩ rfl rfl (Nat.le_of_ble_eq_true rfl) dX6_freeze_21 (fun σ5 h => ?_)
    refine gq_aload_n (j := 0) C dX6_freeze_24 rfl ?_
    refine gq_get (v := .ref (ad 30)) (i := 0) C gcs_0 rfl iq_X6_freeze_X6 3 (by decide) fq_X6_freeze_31 rfl dX6_freeze_25 ?_
    refine gq_dup C dX6_freeze_28 rfl ?_
    refine gq_get (v := .int (σ5.1 30 5)) (i := 30) C (gcs_X4 gs_30) rfl iq_X6_freeze_X4 5 (by decide) fq_X6_freeze_160 rfl dX6_freeze_29 ?_
    refine gq_iconst (v := 1) C dX6_freeze_32 (by decide) ?_
    refine gq_iadd C dX6_freeze_33 ?_
    refine gq_puti (i := 30) C (gcs_X4 gs_30) rfl iq_X6_freeze_X4 tyX4 tyX4_ok nmX4 5 (by decide) fq_X6_freeze_160 rfl rfl rfl (fun _ _ => Nat.le_of_ble_eq_true rfl) gs_X4_5 dX6_freeze_34 ?_
    refine gq_aload_n (j := 0) C dX6_freeze_37 rfl ?_
    refine gq_get (v := .ref (ad 30)) (i := 0) C gcs_0 rfl iq_X6_freeze_X6 3 (by decide) fq_X6_freeze_31 rfl dX6_freeze_38 ?_
    refine gq_get (v := .int (((gq_put σ5 30 5 ((σ5.1 30 5) + 1))).1 30 5)) (i := 30) C (gcs_X4 gs_30) rfl iq_X6_freeze_X4 5 (by decide) fq_X6_freeze_160 rfl dX6_freeze_41 ?_
    exact gq_iret C h dX6_freeze_44
  · have h := h.2 c3
    refine gq_bipush (v := (-3)) C dX6_freeze_10 (by decide) ?_
    exact gq_iret C h dX6_freeze_12
theorem mq_X6_freeze {l : Launch} {D : va_G} {cyI cyZ cyS : ClassId} {ad : Nat → Nat} (hap : gq_ap 84 ad) (σ : gq_M) (Q : Int32 → gq_M → Prop) (h : wq_X6_freeze σ Q) : Met l yX6_freeze wsX6_freeze rq_X6_freeze (va_Pc [.ref (ad 0)] (gq_P D (gc_T cyI cyZ cyS) 84 ad (gc_S cyI cyZ cyS ad) σ)) (va_Qi Q (gq_P D (gc_T cyI cyZ cyS) 84 ad (gc_S cyI cyZ cyS ad)) (gq_A 84 ad)) 0 0 (gq_A 84 ad) :=
  gq_met hap (by decide) rfl rfl (Nat.le_of_ble_eq_true rfl) (fun _ _ _ _ _ _ _ C => tq_X6_freeze C σ h)
abbrev rq_X6_thaw : Room := { frames := 2, cells := 0, slots := 0, locals := 43 }
theorem dq_X6_thaw : gq_dsc yX6_thaw 0 := by unfold gq_dsc; decide +kernel
theorem iq_X6_thaw_X6 : ∀ w ∈ u_ws RX6 TX6 13, w ∈ wsX6_thaw := by decide +kernel
theorem fq_X6_thaw_31 : Cond.fieldLink RX6 31 (TX6 3).1 (TX6 3).2.1 (TX6 3).2.2.1 ∈ wsX6_thaw := by decide +kernel
theorem iq_X6_thaw_X4 : ∀ w ∈ u_ws RX4 TX4 7, w ∈ wsX6_thaw := by decide +kernel
theorem fq_X6_thaw_160 : Cond.fieldLink RX6 160 (TX4 5).1 (TX4 5).2.1 (TX4 5).2.2.1 ∈ wsX6_thaw := by decide +kernel
theorem fq_X6_thaw_41 : Cond.fieldLink RX6 41 (TX6 5).1 (TX6 5).2.1 (TX6 5).2.2.1 ∈ wsX6_thaw := by decide +kernel
def wq_X6_thaw (σ : gq_M) (Q : Int32 → gq_M → Prop) : Prop := ((¬ (σ.1 30 5) = 0 → wq_X0_remember 30 σ (fun σ3 => ∀ v4, v4 = (σ3.1 30 5) → Q v4 (gq_put σ3 30 5 0))) ∧ ((σ.1 30 5) = 0 → Q (-3) σ))
set_option maxRecDepth 100000 in
set_option maxHeartbeats 4000000 in
theorem tq_X6_thaw {p : Program} {l : Launch} {e : Env} {s : State} {m : MethodId} {args : Array Value} {below : List Frame} {meth : Method} {c : Code} {D : va_G} {cyI cyZ cyS : ClassId} {ad : Nat → Nat} {Q : Int32 → gq_M → Prop} (C : gq_C p s m args meth c cX6_thaw 2 RX6 wsX6_thaw D (gc_T cyI cyZ cyS) 84 ad (some .int)) (σ : gq_M) (h : wq_X6_thaw σ Q) : gq_G p l e rq_X6_thaw s m args below meth c (gq_Ri below args s D (gc_T cyI cyZ cyS) 84 ad (gc_S cyI cyZ cyS ad) Q) D 84 ad (gc_S cyI cyZ cyS ad) 2 σ 0 [(0, .ref (ad 0))] [] := by
  unfold wq_X6_thaw at h
  refine gq_aload_n (j := 0) C dX6_thaw_0 rfl ?_
  refine gq_get (v := .ref (ad 30)) (i := 0) C gcs_0 rfl iq_X6_thaw_X6 3 (by decide) fq_X6_thaw_31 rfl dX6_thaw_1 ?_
  refine gq_get (v := .int (σ.1 30 5)) (i := 30) C (gcs_X4 gs_30) rfl iq_X6_thaw_X4 5 (by decide) fq_X6_thaw_160 rfl dX6_thaw_4 ?_
  refine gq_if_ne (tgt := 13) C dX6_thaw_7 (by decide) (fun c1 => ?_) (fun c1 => ?_)
  · have h := h.1 c1
    refine gq_aload_n (j := 0) C dX6_thaw_13 rfl ?_
    refine gq_get (v := .ref (ad 24)) (i := 0) C gcs_0 rfl iq_X6_thaw_X6 5 (by decide) fq_X6_thaw_41 rfl dX6_thaw_14 ?_
    refine gq_aload_n (j := 0) C dX6_thaw_17 rfl ?_
    refine gq_get (v := .ref (ad 30)) (i := 0) C gcs_0 rfl iq_X6_thaw_X6 3 (by decide) fq_X6_thaw_31 rfl dX6_thaw_18 ?_
    refine gq_vv (i := 24) C gcs_24 rfl [.ref (ad 30)] (mq_X0_remember C.2.2.1 gs_30 σ _ h) gX6_thaw_X0_remember rfl rfl dq_X0_remember ⟨rfl, rfl, by decide, by decide⟩ rfl rfl (Nat.le_of_ble_eq_true rfl) dX6_thaw_21 (fun σ3 h => ?_)
    refine gq_aload_n (j := 0) C dX6_thaw_24 rfl ?_
    refine gq_get (v := .ref (ad 30)) (i := 0) C gcs_0 rfl iq_X6_thaw_X6 3 (by decide) fq_X6_thaw_31 rfl dX6_thaw_25 ?_
    refine gq_get (v := .int (σ3.1 30 5)) (i := 30) C (gcs_X4 gs_30) rfl iq_X6_thaw_X4 5 (by decide) fq_X6_thaw_160 rfl dX6_thaw_28 ?_
    refine gq_topi (fun v4 qv4 => ?_)
    have h := h v4 qv4
    refine gq_istore_n (L' := [(0, .ref (ad 0)), (1, .int v4)]) C [1, 0] dX6_thaw_31 (by decide) rfl ?_
    refine gq_aload_n (j := 0) C dX6_thaw_32 rfl ?_
    refine gq_get (v := .ref (ad 30)) (i := 0) C gcs_0 rfl iq_X6_thaw_X6 3 (by decide) fq_X6_thaw_31 rfl dX6_thaw_33 ?_
    refine gq_iconst (v := 0) C dX6_thaw_36 (by decide) ?_
    refine gq_puti (i := 30) C (gcs_X4 gs_30) rfl iq_X6_thaw_X4 tyX4 tyX4_ok nmX4 5 (by decide) fq_X6_thaw_160 rfl rfl rfl (fun _ _ => Nat.le_of_ble_eq_true rfl) gs_X4_5 dX6_thaw_37 ?_
    refine gq_iload_n (j := 1) C dX6_thaw_40 rfl ?_
    exact gq_iret C h dX6_thaw_41
  · have h := h.2 c1
    refine gq_bipush (v := (-3)) C dX6_thaw_10 (by decide) ?_
    exact gq_iret C h dX6_thaw_12
theorem mq_X6_thaw {l : Launch} {D : va_G} {cyI cyZ cyS : ClassId} {ad : Nat → Nat} (hap : gq_ap 84 ad) (σ : gq_M) (Q : Int32 → gq_M → Prop) (h : wq_X6_thaw σ Q) : Met l yX6_thaw wsX6_thaw rq_X6_thaw (va_Pc [.ref (ad 0)] (gq_P D (gc_T cyI cyZ cyS) 84 ad (gc_S cyI cyZ cyS ad) σ)) (va_Qi Q (gq_P D (gc_T cyI cyZ cyS) 84 ad (gc_S cyI cyZ cyS ad)) (gq_A 84 ad)) 0 0 (gq_A 84 ad) :=
  gq_met hap (by decide) rfl rfl (Nat.le_of_ble_eq_true rfl) (fun _ _ _ _ _ _ _ C => tq_X6_thaw C σ h)
abbrev rq_X6_undo : Room := { frames := 2, cells := 0, slots := 0, locals := 43 }
theorem dq_X6_undo : gq_dsc yX6_undo 0 := by unfold gq_dsc; decide +kernel
theorem iq_X6_undo_X6 : ∀ w ∈ u_ws RX6 TX6 13, w ∈ wsX6_undo := by decide +kernel
theorem fq_X6_undo_41 : Cond.fieldLink RX6 41 (TX6 5).1 (TX6 5).2.1 (TX6 5).2.2.1 ∈ wsX6_undo := by decide +kernel
theorem iq_X6_undo_X0 : ∀ w ∈ u_ws RX0 TX0 3, w ∈ wsX6_undo := by decide +kernel
theorem fq_X6_undo_89 : Cond.fieldLink RX6 89 (TX0 2).1 (TX0 2).2.1 (TX0 2).2.2.1 ∈ wsX6_undo := by decide +kernel
theorem fq_X6_undo_31 : Cond.fieldLink RX6 31 (TX6 3).1 (TX6 3).2.1 (TX6 3).2.2.1 ∈ wsX6_undo := by decide +kernel
def wq_X6_undo (σ : gq_M) (Q : Int32 → gq_M → Prop) : Prop := ((¬ (σ.1 24 2) = 0 → wq_X0_takeBack 30 σ (fun σ3 => Q (σ3.1 24 2) σ3)) ∧ ((σ.1 24 2) = 0 → Q (-3) σ))
set_option maxRecDepth 100000 in
set_option maxHeartbeats 4000000 in
theorem tq_X6_undo {p : Program} {l : Launch} {e : Env} {s : State} {m : MethodId} {args : Array Value} {below : List Frame} {meth : Method} {c : Code} {D : va_G} {cyI cyZ cyS : ClassId} {ad : Nat → Nat} {Q : Int32 → gq_M → Prop} (C : gq_C p s m args meth c cX6_undo 1 RX6 wsX6_undo D (gc_T cyI cyZ cyS) 84 ad (some .int)) (σ : gq_M) (h : wq_X6_undo σ Q) : gq_G p l e rq_X6_undo s m args below meth c (gq_Ri below args s D (gc_T cyI cyZ cyS) 84 ad (gc_S cyI cyZ cyS ad) Q) D 84 ad (gc_S cyI cyZ cyS ad) 1 σ 0 [(0, .ref (ad 0))] [] := by
  unfold wq_X6_undo at h
  refine gq_aload_n (j := 0) C dX6_undo_0 rfl ?_
  refine gq_get (v := .ref (ad 24)) (i := 0) C gcs_0 rfl iq_X6_undo_X6 5 (by decide) fq_X6_undo_41 rfl dX6_undo_1 ?_
  refine gq_get (v := .int (σ.1 24 2)) (i := 24) C gcs_24 rfl iq_X6_undo_X0 2 (by decide) fq_X6_undo_89 rfl dX6_undo_4 ?_
  refine gq_if_ne (tgt := 13) C dX6_undo_7 (by decide) (fun c1 => ?_) (fun c1 => ?_)
  · have h := h.1 c1
    refine gq_aload_n (j := 0) C dX6_undo_13 rfl ?_
    refine gq_get (v := .ref (ad 24)) (i := 0) C gcs_0 rfl iq_X6_undo_X6 5 (by decide) fq_X6_undo_41 rfl dX6_undo_14 ?_
    refine gq_aload_n (j := 0) C dX6_undo_17 rfl ?_
    refine gq_get (v := .ref (ad 30)) (i := 0) C gcs_0 rfl iq_X6_undo_X6 3 (by decide) fq_X6_undo_31 rfl dX6_undo_18 ?_
    refine gq_vv (i := 24) C gcs_24 rfl [.ref (ad 30)] (mq_X0_takeBack C.2.2.1 gs_30 σ _ h) gX6_undo_X0_takeBack rfl rfl dq_X0_takeBack ⟨rfl, rfl, by decide, by decide⟩ rfl rfl (Nat.le_of_ble_eq_true rfl) dX6_undo_21 (fun σ3 h => ?_)
    refine gq_aload_n (j := 0) C dX6_undo_24 rfl ?_
    refine gq_get (v := .ref (ad 24)) (i := 0) C gcs_0 rfl iq_X6_undo_X6 5 (by decide) fq_X6_undo_41 rfl dX6_undo_25 ?_
    refine gq_get (v := .int (σ3.1 24 2)) (i := 24) C gcs_24 rfl iq_X6_undo_X0 2 (by decide) fq_X6_undo_89 rfl dX6_undo_28 ?_
    exact gq_iret C h dX6_undo_31
  · have h := h.2 c1
    refine gq_bipush (v := (-3)) C dX6_undo_10 (by decide) ?_
    exact gq_iret C h dX6_undo_12
theorem mq_X6_undo {l : Launch} {D : va_G} {cyI cyZ cyS : ClassId} {ad : Nat → Nat} (hap : gq_ap 84 ad) (σ : gq_M) (Q : Int32 → gq_M → Prop) (h : wq_X6_undo σ Q) : Met l yX6_undo wsX6_undo rq_X6_undo (va_Pc [.ref (ad 0)] (gq_P D (gc_T cyI cyZ cyS) 84 ad (gc_S cyI cyZ cyS ad) σ)) (va_Qi Q (gq_P D (gc_T cyI cyZ cyS) 84 ad (gc_S cyI cyZ cyS ad)) (gq_A 84 ad)) 0 0 (gq_A 84 ad) :=
  gq_met hap (by decide) rfl rfl (Nat.le_of_ble_eq_true rfl) (fun _ _ _ _ _ _ _ C => tq_X6_undo C σ h)
abbrev rq_X6_reachIn : Room := { frames := 3, cells := 0, slots := 0, locals := 74 }
theorem dq_X6_reachIn : gq_dsc yX6_reachIn 2 := by unfold gq_dsc; decide +kernel
theorem iq_X6_reachIn_X6 : ∀ w ∈ u_ws RX6 TX6 13, w ∈ wsX6_reachIn := by decide +kernel
theorem fq_X6_reachIn_56 : Cond.fieldLink RX6 56 (TX6 8).1 (TX6 8).2.1 (TX6 8).2.2.1 ∈ wsX6_reachIn := by decide +kernel
theorem iq_X6_reachIn_X4 : ∀ w ∈ u_ws RX4 TX4 7, w ∈ wsX6_reachIn := by decide +kernel
theorem fq_X6_reachIn_109 : Cond.fieldLink RX6 109 (TX4 3).1 (TX4 3).2.1 (TX4 3).2.2.1 ∈ wsX6_reachIn := by decide +kernel
def wq_X6_reachIn (z1 : Nat) (a2 : Int32) (σ : gq_M) (Q : Int32 → gq_M → Prop) : Prop := wq_X5_prepare z1 a2 (σ.1 z1 3) 0 σ (fun σ2 => wq_X5_places σ2 (fun r3 σ4 => Q r3 σ4))
set_option maxRecDepth 100000 in
set_option maxHeartbeats 4000000 in
theorem tq_X6_reachIn {p : Program} {l : Launch} {e : Env} {s : State} {m : MethodId} {args : Array Value} {below : List Frame} {meth : Method} {c : Code} {D : va_G} {cyI cyZ cyS : ClassId} {ad : Nat → Nat} {z1 : Nat} {Q : Int32 → gq_M → Prop} (C : gq_C p s m args meth c cX6_reachIn 3 RX6 wsX6_reachIn D (gc_T cyI cyZ cyS) 84 ad (some .int)) (hz1 : gs_z z1) (a2 : Int32) (σ : gq_M) (h : wq_X6_reachIn z1 a2 σ Q) : gq_G p l e rq_X6_reachIn s m args below meth c (gq_Ri below args s D (gc_T cyI cyZ cyS) 84 ad (gc_S cyI cyZ cyS ad) Q) D 84 ad (gc_S cyI cyZ cyS ad) 3 σ 0 [(0, .ref (ad 0)), (1, .ref (ad z1)), (2, .int a2)] [] := by
  unfold wq_X6_reachIn at h
  refine gq_aload_n (j := 0) C dX6_reachIn_0 rfl ?_
  refine gq_get (v := .ref (ad 18)) (i := 0) C gcs_0 rfl iq_X6_reachIn_X6 8 (by decide) fq_X6_reachIn_56 rfl dX6_reachIn_1 ?_
  refine gq_aload_n (j := 1) C dX6_reachIn_4 rfl ?_
  refine gq_iload_n (j := 2) C dX6_reachIn_5 rfl ?_
  refine gq_aload_n (j := 1) C dX6_reachIn_6 rfl ?_
  refine gq_get (v := .int (σ.1 z1 3)) (i := z1) C (gcs_X4 hz1) rfl iq_X6_reachIn_X4 3 (by decide) fq_X6_reachIn_109 rfl dX6_reachIn_7 ?_
  refine gq_iconst (v := 0) C dX6_reachIn_10 (by decide) ?_
  refine gq_vv (i := 18) C gcs_18 rfl [.ref (ad z1), .int a2, .int (σ.1 z1 3), .int 0] (mq_X5_prepare C.2.2.1 hz1 a2 (σ.1 z1 3) 0 σ _ h) gX6_reachIn_X5_prepare rfl rfl dq_X5_prepare ⟨rfl, rfl, by decide, by decide⟩ rfl rfl (Nat.le_of_ble_eq_true rfl) dX6_reachIn_11 (fun σ2 h => ?_)
  refine gq_aload_n (j := 0) C dX6_reachIn_14 rfl ?_
  refine gq_get (v := .ref (ad 18)) (i := 0) C gcs_0 rfl iq_X6_reachIn_X6 8 (by decide) fq_X6_reachIn_56 rfl dX6_reachIn_15 ?_
  refine gq_vi (i := 18) C gcs_18 rfl [] (mq_X5_places C.2.2.1 σ2 _ h) gX6_reachIn_X5_places rfl rfl dq_X5_places ⟨rfl, rfl, by decide, by decide⟩ rfl rfl (Nat.le_of_ble_eq_true rfl) dX6_reachIn_18 (fun r3 σ4 h => ?_)
  exact gq_iret C h dX6_reachIn_21
theorem mq_X6_reachIn {l : Launch} {D : va_G} {cyI cyZ cyS : ClassId} {ad : Nat → Nat} (hap : gq_ap 84 ad) {z1 : Nat} (hz1 : gs_z z1) (a2 : Int32) (σ : gq_M) (Q : Int32 → gq_M → Prop) (h : wq_X6_reachIn z1 a2 σ Q) : Met l yX6_reachIn wsX6_reachIn rq_X6_reachIn (va_Pc [.ref (ad 0), .ref (ad z1), .int a2] (gq_P D (gc_T cyI cyZ cyS) 84 ad (gc_S cyI cyZ cyS ad) σ)) (va_Qi Q (gq_P D (gc_T cyI cyZ cyS) 84 ad (gc_S cyI cyZ cyS ad)) (gq_A 84 ad)) 0 0 (gq_A 84 ad) :=
  gq_met hap (by decide) rfl rfl (Nat.le_of_ble_eq_true rfl) (fun _ _ _ _ _ _ _ C => tq_X6_reachIn C hz1 a2 σ h)
abbrev rq_X6_reach : Room := { frames := 4, cells := 0, slots := 0, locals := 96 }
theorem dq_X6_reach : gq_dsc yX6_reach 1 := by unfold gq_dsc; decide +kernel
theorem iq_X6_reach_X6 : ∀ w ∈ u_ws RX6 TX6 13, w ∈ wsX6_reach := by decide +kernel
theorem fq_X6_reach_23 : Cond.fieldLink RX6 23 (TX6 2).1 (TX6 2).2.1 (TX6 2).2.2.1 ∈ wsX6_reach := by decide +kernel
theorem fq_X6_reach_31 : Cond.fieldLink RX6 31 (TX6 3).1 (TX6 3).2.1 (TX6 3).2.2.1 ∈ wsX6_reach := by decide +kernel
def wq_X6_reach (a1 : Int32) (σ : gq_M) (Q : Int32 → gq_M → Prop) : Prop := wq_X2_hasTraveller 9 a1 σ (fun r1 σ2 => ((¬ r1 = 0 → wq_X6_reachIn 30 a1 σ2 (fun r4 σ5 => Q r4 σ5)) ∧ (r1 = 0 → Q (-1) σ2)))
set_option maxRecDepth 100000 in
set_option maxHeartbeats 4000000 in
theorem tq_X6_reach {p : Program} {l : Launch} {e : Env} {s : State} {m : MethodId} {args : Array Value} {below : List Frame} {meth : Method} {c : Code} {D : va_G} {cyI cyZ cyS : ClassId} {ad : Nat → Nat} {Q : Int32 → gq_M → Prop} (C : gq_C p s m args meth c cX6_reach 2 RX6 wsX6_reach D (gc_T cyI cyZ cyS) 84 ad (some .int)) (a1 : Int32) (σ : gq_M) (h : wq_X6_reach a1 σ Q) : gq_G p l e rq_X6_reach s m args below meth c (gq_Ri below args s D (gc_T cyI cyZ cyS) 84 ad (gc_S cyI cyZ cyS ad) Q) D 84 ad (gc_S cyI cyZ cyS ad) 2 σ 0 [(0, .ref (ad 0)), (1, .int a1)] [] := by
  unfold wq_X6_reach at h
  refine gq_aload_n (j := 0) C dX6_reach_0 rfl ?_
  refine gq_get (v := .ref (ad 9)) (i := 0) C gcs_0 rfl iq_X6_reach_X6 2 (by decide) fq_X6_reach_23 rfl dX6_reach_1 ?_
  refine gq_iload_n (j := 1) C dX6_reach_4 rfl ?_
  refine gq_vi (i := 9) C (gcs_X2 gr_9) rfl [.int a1] (mq_X2_hasTraveller C.2.2.1 gr_9 a1 σ _ h) gX6_reach_X2_hasTraveller rfl rfl dq_X2_hasTraveller ⟨rfl, rfl, by decide, by decide⟩ rfl rfl (Nat.le_of_ble_eq_true rfl) dX6_reach_5 (fun r1 σ2 h => ?_)
  refine gq_if_ne (tgt := 13) C dX6_reach_8 (by decide) (fun c3 => ?_) (fun c3 => ?_)
  · have h := h.1 c3
    refine gq_aload_n (j := 0) C dX6_reach_13 rfl ?_
    refine gq_aload_n (j := 0) C dX6_reach_14 rfl ?_
    refine gq_get (v := .ref (ad 30)) (i := 0) C gcs_0 rfl iq_X6_reach_X6 3 (by decide) fq_X6_reach_31 rfl dX6_reach_15 ?_
    refine gq_iload_n (j := 1) C dX6_reach_18 rfl ?_
    refine gq_vi (i := 0) C gcs_0 rfl [.ref (ad 30), .int a1] (mq_X6_reachIn C.2.2.1 gs_30 a1 σ2 _ h) gX6_reach_X6_reachIn rfl rfl dq_X6_reachIn ⟨rfl, rfl, by decide, by decide⟩ rfl rfl (Nat.le_of_ble_eq_true rfl) dX6_reach_19 (fun r4 σ5 h => ?_)
    exact gq_iret C h dX6_reach_22
  · have h := h.2 c3
    refine gq_iconst (v := (-1)) C dX6_reach_11 (by decide) ?_
    exact gq_iret C h dX6_reach_12
theorem mq_X6_reach {l : Launch} {D : va_G} {cyI cyZ cyS : ClassId} {ad : Nat → Nat} (hap : gq_ap 84 ad) (a1 : Int32) (σ : gq_M) (Q : Int32 → gq_M → Prop) (h : wq_X6_reach a1 σ Q) : Met l yX6_reach wsX6_reach rq_X6_reach (va_Pc [.ref (ad 0), .int a1] (gq_P D (gc_T cyI cyZ cyS) 84 ad (gc_S cyI cyZ cyS ad) σ)) (va_Qi Q (gq_P D (gc_T cyI cyZ cyS) 84 ad (gc_S cyI cyZ cyS ad)) (gq_A 84 ad)) 0 0 (gq_A 84 ad) :=
  gq_met hap (by decide) rfl rfl (Nat.le_of_ble_eq_true rfl) (fun _ _ _ _ _ _ _ C => tq_X6_reach C a1 σ h)
abbrev rq_X6_fewest : Room := { frames := 5, cells := 0, slots := 0, locals := 110 }
theorem dq_X6_fewest : gq_dsc yX6_fewest 2 := by unfold gq_dsc; decide +kernel
theorem iq_X6_fewest_X6 : ∀ w ∈ u_ws RX6 TX6 13, w ∈ wsX6_fewest := by decide +kernel
theorem fq_X6_fewest_23 : Cond.fieldLink RX6 23 (TX6 2).1 (TX6 2).2.1 (TX6 2).2.2.1 ∈ wsX6_fewest := by decide +kernel
theorem fq_X6_fewest_56 : Cond.fieldLink RX6 56 (TX6 8).1 (TX6 8).2.1 (TX6 8).2.2.1 ∈ wsX6_fewest := by decide +kernel
theorem fq_X6_fewest_31 : Cond.fieldLink RX6 31 (TX6 3).1 (TX6 3).2.1 (TX6 3).2.2.1 ∈ wsX6_fewest := by decide +kernel
theorem iq_X6_fewest_X4 : ∀ w ∈ u_ws RX4 TX4 7, w ∈ wsX6_fewest := by decide +kernel
theorem fq_X6_fewest_109 : Cond.fieldLink RX6 109 (TX4 3).1 (TX4 3).2.1 (TX4 3).2.2.1 ∈ wsX6_fewest := by decide +kernel
def wq_X6_fewest (a1 : Int32) (a2 : Int32) (σ : gq_M) (Q : Int32 → gq_M → Prop) : Prop := wq_X2_hasTraveller 9 a1 σ (fun r1 σ2 => ((r1 = 0 → Q (-1) σ2) ∧ (¬ r1 = 0 → wq_X2_hasPlace 9 a2 σ2 (fun r4 σ5 => ((¬ r4 = 0 → wq_X5_prepare 30 a1 (σ5.1 30 3) 0 σ5 (fun σ8 => wq_X5_movesTo a2 σ8 (fun r9 σ10 => Q r9 σ10))) ∧ (r4 = 0 → Q (-1) σ5))))))
set_option maxRecDepth 100000 in
set_option maxHeartbeats 4000000 in
theorem tq_X6_fewest {p : Program} {l : Launch} {e : Env} {s : State} {m : MethodId} {args : Array Value} {below : List Frame} {meth : Method} {c : Code} {D : va_G} {cyI cyZ cyS : ClassId} {ad : Nat → Nat} {Q : Int32 → gq_M → Prop} (C : gq_C p s m args meth c cX6_fewest 3 RX6 wsX6_fewest D (gc_T cyI cyZ cyS) 84 ad (some .int)) (a1 : Int32) (a2 : Int32) (σ : gq_M) (h : wq_X6_fewest a1 a2 σ Q) : gq_G p l e rq_X6_fewest s m args below meth c (gq_Ri below args s D (gc_T cyI cyZ cyS) 84 ad (gc_S cyI cyZ cyS ad) Q) D 84 ad (gc_S cyI cyZ cyS ad) 3 σ 0 [(0, .ref (ad 0)), (1, .int a1), (2, .int a2)] [] := by
  unfold wq_X6_fewest at h
  refine gq_aload_n (j := 0) C dX6_fewest_0 rfl ?_
  refine gq_get (v := .ref (ad 9)) (i := 0) C gcs_0 rfl iq_X6_fewest_X6 2 (by decide) fq_X6_fewest_23 rfl dX6_fewest_1 ?_
  refine gq_iload_n (j := 1) C dX6_fewest_4 rfl ?_
  refine gq_vi (i := 9) C (gcs_X2 gr_9) rfl [.int a1] (mq_X2_hasTraveller C.2.2.1 gr_9 a1 σ _ h) gX6_fewest_X2_hasTraveller rfl rfl dq_X2_hasTraveller ⟨rfl, rfl, by decide, by decide⟩ rfl rfl (Nat.le_of_ble_eq_true rfl) dX6_fewest_5 (fun r1 σ2 h => ?_)
  refine gq_if_eq (tgt := 22) C dX6_fewest_8 (by decide) (fun c3 => ?_) (fun c3 => ?_)
  · have h := h.1 c3
    refine gq_iconst (v := (-1)) C dX6_fewest_22 (by decide) ?_
    exact gq_iret C h dX6_fewest_23
  · have h := h.2 c3
    refine gq_aload_n (j := 0) C dX6_fewest_11 rfl ?_
    refine gq_get (v := .ref (ad 9)) (i := 0) C gcs_0 rfl iq_X6_fewest_X6 2 (by decide) fq_X6_fewest_23 rfl dX6_fewest_12 ?_
    refine gq_iload_n (j := 2) C dX6_fewest_15 rfl ?_
    refine gq_vi (i := 9) C (gcs_X2 gr_9) rfl [.int a2] (mq_X2_hasPlace C.2.2.1 gr_9 a2 σ2 _ h) gX6_fewest_X2_hasPlace rfl rfl dq_X2_hasPlace ⟨rfl, rfl, by decide, by decide⟩ rfl rfl (Nat.le_of_ble_eq_true rfl) dX6_fewest_16 (fun r4 σ5 h => ?_)
    refine gq_if_ne (tgt := 24) C dX6_fewest_19 (by decide) (fun c6 => ?_) (fun c6 => ?_)
    · have h := h.1 c6
      refine gq_aload_n (j := 0) C dX6_fewest_24 rfl ?_
      refine gq_get (v := .ref (ad 18)) (i := 0) C gcs_0 rfl iq_X6_fewest_X6 8 (by decide) fq_X6_fewest_56 rfl dX6_fewest_25 ?_
      refine gq_aload_n (j := 0) C dX6_fewest_28 rfl ?_
      refine gq_get (v := .ref (ad 30)) (i := 0) C gcs_0 rfl iq_X6_fewest_X6 3 (by decide) fq_X6_fewest_31 rfl dX6_fewest_29 ?_
      refine gq_iload_n (j := 1) C dX6_fewest_32 rfl ?_
      refine gq_aload_n (j := 0) C dX6_fewest_33 rfl ?_
      refine gq_get (v := .ref (ad 30)) (i := 0) C gcs_0 rfl iq_X6_fewest_X6 3 (by decide) fq_X6_fewest_31 rfl dX6_fewest_34 ?_
      refine gq_get (v := .int (σ5.1 30 3)) (i := 30) C (gcs_X4 gs_30) rfl iq_X6_fewest_X4 3 (by decide) fq_X6_fewest_109 rfl dX6_fewest_37 ?_
      refine gq_iconst (v := 0) C dX6_fewest_40 (by decide) ?_
      refine gq_vv (i := 18) C gcs_18 rfl [.ref (ad 30), .int a1, .int (σ5.1 30 3), .int 0] (mq_X5_prepare C.2.2.1 gs_30 a1 (σ5.1 30 3) 0 σ5 _ h) gX6_fewest_X5_prepare rfl rfl dq_X5_prepare ⟨rfl, rfl, by decide, by decide⟩ rfl rfl (Nat.le_of_ble_eq_true rfl) dX6_fewest_41 (fun σ8 h => ?_)
      refine gq_aload_n (j := 0) C dX6_fewest_44 rfl ?_
      refine gq_get (v := .ref (ad 18)) (i := 0) C gcs_0 rfl iq_X6_fewest_X6 8 (by decide) fq_X6_fewest_56 rfl dX6_fewest_45 ?_
      refine gq_iload_n (j := 2) C dX6_fewest_48 rfl ?_
      refine gq_vi (i := 18) C gcs_18 rfl [.int a2] (mq_X5_movesTo C.2.2.1 a2 σ8 _ h) gX6_fewest_X5_movesTo rfl rfl dq_X5_movesTo ⟨rfl, rfl, by decide, by decide⟩ rfl rfl (Nat.le_of_ble_eq_true rfl) dX6_fewest_49 (fun r9 σ10 h => ?_)
      exact gq_iret C h dX6_fewest_52
    · have h := h.2 c6
      refine gq_iconst (v := (-1)) C dX6_fewest_22 (by decide) ?_
      exact gq_iret C h dX6_fewest_23
theorem mq_X6_fewest {l : Launch} {D : va_G} {cyI cyZ cyS : ClassId} {ad : Nat → Nat} (hap : gq_ap 84 ad) (a1 : Int32) (a2 : Int32) (σ : gq_M) (Q : Int32 → gq_M → Prop) (h : wq_X6_fewest a1 a2 σ Q) : Met l yX6_fewest wsX6_fewest rq_X6_fewest (va_Pc [.ref (ad 0), .int a1, .int a2] (gq_P D (gc_T cyI cyZ cyS) 84 ad (gc_S cyI cyZ cyS ad) σ)) (va_Qi Q (gq_P D (gc_T cyI cyZ cyS) 84 ad (gc_S cyI cyZ cyS ad)) (gq_A 84 ad)) 0 0 (gq_A 84 ad) :=
  gq_met hap (by decide) rfl rfl (Nat.le_of_ble_eq_true rfl) (fun _ _ _ _ _ _ _ C => tq_X6_fewest C a1 a2 σ h)
abbrev rq_X6_comesWith : Room := { frames := 3, cells := 0, slots := 0, locals := 74 }
theorem dq_X6_comesWith : gq_dsc yX6_comesWith 4 := by unfold gq_dsc; decide +kernel
theorem iq_X6_comesWith_X6 : ∀ w ∈ u_ws RX6 TX6 13, w ∈ wsX6_comesWith := by decide +kernel
theorem fq_X6_comesWith_56 : Cond.fieldLink RX6 56 (TX6 8).1 (TX6 8).2.1 (TX6 8).2.2.1 ∈ wsX6_comesWith := by decide +kernel
theorem fq_X6_comesWith_31 : Cond.fieldLink RX6 31 (TX6 3).1 (TX6 3).2.1 (TX6 3).2.2.1 ∈ wsX6_comesWith := by decide +kernel
def wq_X6_comesWith (a1 : Int32) (a2 : Int32) (a3 : Int32) (a4 : Int32) (σ : gq_M) (Q : Int32 → gq_M → Prop) : Prop := wq_X5_prepare 30 a1 a3 a4 σ (fun σ2 => wq_X5_places σ2 (fun r3 σ4 => ((¬ ((r3 >>> (a2 &&& 31)) &&& 1) = 1 → Q 0 σ4) ∧ (((r3 >>> (a2 &&& 31)) &&& 1) = 1 → Q 1 σ4))))
set_option maxRecDepth 100000 in
set_option maxHeartbeats 4000000 in
theorem tq_X6_comesWith {p : Program} {l : Launch} {e : Env} {s : State} {m : MethodId} {args : Array Value} {below : List Frame} {meth : Method} {c : Code} {D : va_G} {cyI cyZ cyS : ClassId} {ad : Nat → Nat} {Q : Int32 → gq_M → Prop} (C : gq_C p s m args meth c cX6_comesWith 5 RX6 wsX6_comesWith D (gc_T cyI cyZ cyS) 84 ad (some .boolean)) (a1 : Int32) (a2 : Int32) (a3 : Int32) (a4 : Int32) (σ : gq_M) (h : wq_X6_comesWith a1 a2 a3 a4 σ Q) : gq_G p l e rq_X6_comesWith s m args below meth c (gq_Ri below args s D (gc_T cyI cyZ cyS) 84 ad (gc_S cyI cyZ cyS ad) Q) D 84 ad (gc_S cyI cyZ cyS ad) 5 σ 0 [(0, .ref (ad 0)), (1, .int a1), (2, .int a2), (3, .int a3), (4, .int a4)] [] := by
  unfold wq_X6_comesWith at h
  refine gq_aload_n (j := 0) C dX6_comesWith_0 rfl ?_
  refine gq_get (v := .ref (ad 18)) (i := 0) C gcs_0 rfl iq_X6_comesWith_X6 8 (by decide) fq_X6_comesWith_56 rfl dX6_comesWith_1 ?_
  refine gq_aload_n (j := 0) C dX6_comesWith_4 rfl ?_
  refine gq_get (v := .ref (ad 30)) (i := 0) C gcs_0 rfl iq_X6_comesWith_X6 3 (by decide) fq_X6_comesWith_31 rfl dX6_comesWith_5 ?_
  refine gq_iload_n (j := 1) C dX6_comesWith_8 rfl ?_
  refine gq_iload_n (j := 3) C dX6_comesWith_9 rfl ?_
  refine gq_iload (j := 4) C dX6_comesWith_10 rfl ?_
  refine gq_vv (i := 18) C gcs_18 rfl [.ref (ad 30), .int a1, .int a3, .int a4] (mq_X5_prepare C.2.2.1 gs_30 a1 a3 a4 σ _ h) gX6_comesWith_X5_prepare rfl rfl dq_X5_prepare ⟨rfl, rfl, by decide, by decide⟩ rfl rfl (Nat.le_of_ble_eq_true rfl) dX6_comesWith_12 (fun σ2 h => ?_)
  refine gq_aload_n (j := 0) C dX6_comesWith_15 rfl ?_
  refine gq_get (v := .ref (ad 18)) (i := 0) C gcs_0 rfl iq_X6_comesWith_X6 8 (by decide) fq_X6_comesWith_56 rfl dX6_comesWith_16 ?_
  refine gq_vi (i := 18) C gcs_18 rfl [] (mq_X5_places C.2.2.1 σ2 _ h) gX6_comesWith_X5_places rfl rfl dq_X5_places ⟨rfl, rfl, by decide, by decide⟩ rfl rfl (Nat.le_of_ble_eq_true rfl) dX6_comesWith_19 (fun r3 σ4 h => ?_)
  refine gq_iload_n (j := 2) C dX6_comesWith_22 rfl ?_
  refine gq_ishr C dX6_comesWith_23 ?_
  refine gq_iconst (v := 1) C dX6_comesWith_24 (by decide) ?_
  refine gq_iand C dX6_comesWith_25 ?_
  refine gq_iconst (v := 1) C dX6_comesWith_26 (by decide) ?_
  refine gq_icmp_ne (tgt := 34) C dX6_comesWith_27 (by decide) (fun c5 => ?_) (fun c5 => ?_)
  · have h := h.1 c5
    refine gq_iconst (v := 0) C dX6_comesWith_34 (by decide) ?_
    exact gq_zret C (Or.inl rfl) h dX6_comesWith_35
  · have h := h.2 c5
    refine gq_iconst (v := 1) C dX6_comesWith_30 (by decide) ?_
    refine gq_goto (tgt := 35) C dX6_comesWith_31 (by decide) ?_
    exact gq_zret C (Or.inr rfl) h dX6_comesWith_35
theorem mq_X6_comesWith {l : Launch} {D : va_G} {cyI cyZ cyS : ClassId} {ad : Nat → Nat} (hap : gq_ap 84 ad) (a1 : Int32) (a2 : Int32) (a3 : Int32) (a4 : Int32) (σ : gq_M) (Q : Int32 → gq_M → Prop) (h : wq_X6_comesWith a1 a2 a3 a4 σ Q) : Met l yX6_comesWith wsX6_comesWith rq_X6_comesWith (va_Pc [.ref (ad 0), .int a1, .int a2, .int a3, .int a4] (gq_P D (gc_T cyI cyZ cyS) 84 ad (gc_S cyI cyZ cyS ad) σ)) (va_Qi Q (gq_P D (gc_T cyI cyZ cyS) 84 ad (gc_S cyI cyZ cyS ad)) (gq_A 84 ad)) 0 0 (gq_A 84 ad) :=
  gq_met hap (by decide) rfl rfl (Nat.le_of_ble_eq_true rfl) (fun _ _ _ _ _ _ _ C => tq_X6_comesWith C a1 a2 a3 a4 σ h)
abbrev rq_J6_bitCount_0f7a4 : Room := { frames := 0, cells := 0, slots := 0, locals := 0 }
theorem dq_J6_bitCount_0f7a4 : gq_dsc yJ6_bitCount_0f7a4 1 := by unfold gq_dsc; decide +kernel
def wq_J6_bitCount_0f7a4 (a1 : Int32) (σ : gq_M) (Q : Int32 → gq_M → Prop) : Prop := ∀ v1, v1 = (a1 - (((a1).toUInt32 >>> (((1 : Int32)).toUInt32 &&& Int32.toUInt32 31)).toInt32 &&& 1431655765)) → ∀ v2, v2 = ((v1 &&& 858993459) + (((v1).toUInt32 >>> (((2 : Int32)).toUInt32 &&& Int32.toUInt32 31)).toInt32 &&& 858993459)) → ∀ v3, v3 = ((v2 + ((v2).toUInt32 >>> (((4 : Int32)).toUInt32 &&& Int32.toUInt32 31)).toInt32) &&& 252645135) → ∀ v4, v4 = (v3 + ((v3).toUInt32 >>> (((8 : Int32)).toUInt32 &&& Int32.toUInt32 31)).toInt32) → ∀ v5, v5 = (v4 + ((v4).toUInt32 >>> (((16 : Int32)).toUInt32 &&& Int32.toUInt32 31)).toInt32) → Q (v5 &&& 63) σ
set_option maxRecDepth 100000 in
set_option maxHeartbeats 4000000 in
theorem tq_J6_bitCount_0f7a4 {p : Program} {l : Launch} {e : Env} {s : State} {m : MethodId} {args : Array Value} {below : List Frame} {meth : Method} {c : Code} {D : va_G} {cyI cyZ cyS : ClassId} {ad : Nat → Nat} {Q : Int32 → gq_M → Prop} (C : gq_C p s m args meth c cJ6_bitCount_0f7a4 1 RJ6 wsJ6_bitCount_0f7a4 D (gc_T cyI cyZ cyS) 84 ad (some .int)) (a1 : Int32) (σ : gq_M) (h : wq_J6_bitCount_0f7a4 a1 σ Q) : gq_G p l e rq_J6_bitCount_0f7a4 s m args below meth c (gq_Ri below args s D (gc_T cyI cyZ cyS) 84 ad (gc_S cyI cyZ cyS ad) Q) D 84 ad (gc_S cyI cyZ cyS ad) 1 σ 0 [(0, .int a1)] [] := by
  unfold wq_J6_bitCount_0f7a4 at h
  refine gq_iload_n (j := 0) C dJ6_bitCount_0f7a4_0 rfl ?_
  refine gq_iload_n (j := 0) C dJ6_bitCount_0f7a4_1 rfl ?_
  refine gq_iconst (v := 1) C dJ6_bitCount_0f7a4_2 (by decide) ?_
  refine gq_iushr C dJ6_bitCount_0f7a4_3 ?_
  refine gq_ldcw (v := 1431655765) C (by decide +kernel) dJ6_bitCount_0f7a4_4 ?_
  refine gq_iand C dJ6_bitCount_0f7a4_7 ?_
  refine gq_isub C dJ6_bitCount_0f7a4_8 ?_
  refine gq_topi (fun v1 qv1 => ?_)
  have h := h v1 qv1
  refine gq_istore_n (L' := [(0, .int v1)]) C [0] dJ6_bitCount_0f7a4_9 (by decide) rfl ?_
  refine gq_iload_n (j := 0) C dJ6_bitCount_0f7a4_10 rfl ?_
  refine gq_ldcw (v := 858993459) C (by decide +kernel) dJ6_bitCount_0f7a4_11 ?_
  refine gq_iand C dJ6_bitCount_0f7a4_14 ?_
  refine gq_iload_n (j := 0) C dJ6_bitCount_0f7a4_15 rfl ?_
  refine gq_iconst (v := 2) C dJ6_bitCount_0f7a4_16 (by decide) ?_
  refine gq_iushr C dJ6_bitCount_0f7a4_17 ?_
  refine gq_ldcw (v := 858993459) C (by decide +kernel) dJ6_bitCount_0f7a4_18 ?_
  refine gq_iand C dJ6_bitCount_0f7a4_21 ?_
  refine gq_iadd C dJ6_bitCount_0f7a4_22 ?_
  refine gq_topi (fun v2 qv2 => ?_)
  have h := h v2 qv2
  refine gq_istore_n (L' := [(0, .int v2)]) C [0] dJ6_bitCount_0f7a4_23 (by decide) rfl ?_
  refine gq_iload_n (j := 0) C dJ6_bitCount_0f7a4_24 rfl ?_
  refine gq_iload_n (j := 0) C dJ6_bitCount_0f7a4_25 rfl ?_
  refine gq_iconst (v := 4) C dJ6_bitCount_0f7a4_26 (by decide) ?_
  refine gq_iushr C dJ6_bitCount_0f7a4_27 ?_
  refine gq_iadd C dJ6_bitCount_0f7a4_28 ?_
  refine gq_ldcw (v := 252645135) C (by decide +kernel) dJ6_bitCount_0f7a4_29 ?_
  refine gq_iand C dJ6_bitCount_0f7a4_32 ?_
  refine gq_topi (fun v3 qv3 => ?_)
  have h := h v3 qv3
  refine gq_istore_n (L' := [(0, .int v3)]) C [0] dJ6_bitCount_0f7a4_33 (by decide) rfl ?_
  refine gq_iload_n (j := 0) C dJ6_bitCount_0f7a4_34 rfl ?_
  refine gq_iload_n (j := 0) C dJ6_bitCount_0f7a4_35 rfl ?_
  refine gq_bipush (v := 8) C dJ6_bitCount_0f7a4_36 (by decide) ?_
  refine gq_iushr C dJ6_bitCount_0f7a4_38 ?_
  refine gq_iadd C dJ6_bitCount_0f7a4_39 ?_
  refine gq_topi (fun v4 qv4 => ?_)
  have h := h v4 qv4
  refine gq_istore_n (L' := [(0, .int v4)]) C [0] dJ6_bitCount_0f7a4_40 (by decide) rfl ?_
  refine gq_iload_n (j := 0) C dJ6_bitCount_0f7a4_41 rfl ?_
  refine gq_iload_n (j := 0) C dJ6_bitCount_0f7a4_42 rfl ?_
  refine gq_bipush (v := 16) C dJ6_bitCount_0f7a4_43 (by decide) ?_
  refine gq_iushr C dJ6_bitCount_0f7a4_45 ?_
  refine gq_iadd C dJ6_bitCount_0f7a4_46 ?_
  refine gq_topi (fun v5 qv5 => ?_)
  have h := h v5 qv5
  refine gq_istore_n (L' := [(0, .int v5)]) C [0] dJ6_bitCount_0f7a4_47 (by decide) rfl ?_
  refine gq_iload_n (j := 0) C dJ6_bitCount_0f7a4_48 rfl ?_
  refine gq_bipush (v := 63) C dJ6_bitCount_0f7a4_49 (by decide) ?_
  refine gq_iand C dJ6_bitCount_0f7a4_51 ?_
  exact gq_iret C h dJ6_bitCount_0f7a4_52
theorem mq_J6_bitCount_0f7a4 {l : Launch} {D : va_G} {cyI cyZ cyS : ClassId} {ad : Nat → Nat} (hap : gq_ap 84 ad) (a1 : Int32) (σ : gq_M) (Q : Int32 → gq_M → Prop) (h : wq_J6_bitCount_0f7a4 a1 σ Q) : Met l yJ6_bitCount_0f7a4 wsJ6_bitCount_0f7a4 rq_J6_bitCount_0f7a4 (va_Pc [.int a1] (gq_P D (gc_T cyI cyZ cyS) 84 ad (gc_S cyI cyZ cyS ad) σ)) (va_Qi Q (gq_P D (gc_T cyI cyZ cyS) 84 ad (gc_S cyI cyZ cyS ad)) (gq_A 84 ad)) 0 0 (gq_A 84 ad) :=
  gq_met hap (by decide) rfl rfl (Nat.le_of_ble_eq_true rfl) (fun _ _ _ _ _ _ _ C => tq_J6_bitCount_0f7a4 C a1 σ h)
