/-! ===== walks of X7_restOn, X7_pleat, X7_paysFor, X7_traveller, X7_keepAct, X7_step, X7_rest, X7_grease, X7_freeze, X7_thaw, X7_undo, X7_meetState (by wip/gen) ===== -/
abbrev rq_X7_restOn : Room := { frames := 2, cells := 0, slots := 0, locals := 44 }
theorem dq_X7_restOn : gq_dsc yX7_restOn 2 := by unfold gq_dsc; decide +kernel
theorem iq_X7_restOn_X7 : ∀ w ∈ u_ws RX7 TX7 30, w ∈ wsX7_restOn := by decide +kernel
theorem fq_X7_restOn_22 : Cond.fieldLink RX7 22 (TX7 6).1 (TX7 6).2.1 (TX7 6).2.2.1 ∈ wsX7_restOn := by decide +kernel
def wq_X7_restOn (a1 : Int32) (a2 : Int32) (σ : gq_M) (Q : gq_M → Prop) : Prop := ∀ v1, v1 = (14 * a1) → vp_in ((v1 + 5) + a2) 28 ∧ wq_X7_rested a2 (σ.1 5 (((v1 + 5) + a2)).toNatClampNeg) σ (fun r2 σ3 => vp_in ((v1 + 5) + a2) 28 ∧ vp_in (v1 + 11) 28 ∧ vp_in (v1 + 13) 28 ∧ vp_in (v1 + 13) 28 ∧ Q (gq_put (gq_put (gq_put σ3 5 (((v1 + 5) + a2)).toNatClampNeg r2) 5 ((v1 + 11)).toNatClampNeg 0) 5 ((v1 + 13)).toNatClampNeg (((gq_put (gq_put σ3 5 (((v1 + 5) + a2)).toNatClampNeg r2) 5 ((v1 + 11)).toNatClampNeg 0).1 5 ((v1 + 13)).toNatClampNeg) + 1)))
set_option maxRecDepth 100000 in
set_option maxHeartbeats 4000000 in
theorem tq_X7_restOn {p : Program} {l : Launch} {e : Env} {s : State} {m : MethodId} {args : Array Value} {below : List Frame} {meth : Method} {c : Code} {D : va_G} {cyI cyZ : ClassId} {ad : Nat → Nat} {Q : gq_M → Prop} (C : gq_C p s m args meth c cX7_restOn 4 RX7 wsX7_restOn D (gm_T cyI cyZ) 17 ad none) (a1 : Int32) (a2 : Int32) (σ : gq_M) (h : wq_X7_restOn a1 a2 σ Q) : gq_G p l e rq_X7_restOn s m args below meth c (gq_Rv below args s D (gm_T cyI cyZ) 17 ad (gm_S cyI cyZ ad) Q) D 17 ad (gm_S cyI cyZ ad) 4 σ 0 [(0, .ref (ad 0)), (1, .int a1), (2, .int a2)] [] := by
  unfold wq_X7_restOn at h
  refine gq_bipush (v := 14) C dX7_restOn_0 (by decide) ?_
  refine gq_iload_n (j := 1) C dX7_restOn_2 rfl ?_
  refine gq_imul C dX7_restOn_3 ?_
  refine gq_topi (fun v1 qv1 => ?_)
  have h := h v1 qv1
  refine gq_istore_n (L' := [(0, .ref (ad 0)), (1, .int a1), (2, .int a2), (3, .int v1)]) C [1, 2, 3, 0] dX7_restOn_4 (by decide) rfl ?_
  refine gq_aload_n (j := 0) C dX7_restOn_5 rfl ?_
  refine gq_get (v := .ref (ad 5)) (i := 0) C gms_0 rfl iq_X7_restOn_X7 6 (by decide) fq_X7_restOn_22 rfl dX7_restOn_6 ?_
  refine gq_iload_n (j := 3) C dX7_restOn_9 rfl ?_
  refine gq_iconst (v := 5) C dX7_restOn_10 (by decide) ?_
  refine gq_iadd C dX7_restOn_11 ?_
  refine gq_iload_n (j := 2) C dX7_restOn_12 rfl ?_
  refine gq_iadd C dX7_restOn_13 ?_
  refine gq_aload_n (j := 0) C dX7_restOn_14 rfl ?_
  refine gq_iload_n (j := 2) C dX7_restOn_15 rfl ?_
  refine gq_aload_n (j := 0) C dX7_restOn_16 rfl ?_
  refine gq_get (v := .ref (ad 5)) (i := 0) C gms_0 rfl iq_X7_restOn_X7 6 (by decide) fq_X7_restOn_22 rfl dX7_restOn_17 ?_
  refine gq_iload_n (j := 3) C dX7_restOn_20 rfl ?_
  refine gq_iconst (v := 5) C dX7_restOn_21 (by decide) ?_
  refine gq_iadd C dX7_restOn_22 ?_
  refine gq_iload_n (j := 2) C dX7_restOn_23 rfl ?_
  refine gq_iadd C dX7_restOn_24 ?_
  refine gq_iald (i := 5) (j := (((v1 + 5) + a2)).toNatClampNeg) C gms_5 0 rfl rfl h.1 dX7_restOn_25 ?_
  have h := h.2
  refine gq_vi (i := 0) C gms_0 rfl [.int a2, .int (σ.1 5 (((v1 + 5) + a2)).toNatClampNeg)] (mq_X7_rested C.2.2.1 a2 (σ.1 5 (((v1 + 5) + a2)).toNatClampNeg) σ _ h) gX7_restOn_X7_rested rfl rfl dq_X7_rested ⟨rfl, rfl, by decide, by decide⟩ rfl rfl (Nat.le_of_ble_eq_true rfl) dX7_restOn_26 (fun r2 σ3 h => ?_)
  refine gq_iast (i := 5) (j := (((v1 + 5) + a2)).toNatClampNeg) C gms_5 0 rfl rfl h.1 dX7_restOn_29 ?_
  have h := h.2
  refine gq_aload_n (j := 0) C dX7_restOn_30 rfl ?_
  refine gq_get (v := .ref (ad 5)) (i := 0) C gms_0 rfl iq_X7_restOn_X7 6 (by decide) fq_X7_restOn_22 rfl dX7_restOn_31 ?_
  refine gq_iload_n (j := 3) C dX7_restOn_34 rfl ?_
  refine gq_bipush (v := 11) C dX7_restOn_35 (by decide) ?_
  refine gq_iadd C dX7_restOn_37 ?_
  refine gq_iconst (v := 0) C dX7_restOn_38 (by decide) ?_
  refine gq_iast (i := 5) (j := ((v1 + 11)).toNatClampNeg) C gms_5 0 rfl rfl h.1 dX7_restOn_39 ?_
  have h := h.2
  refine gq_aload_n (j := 0) C dX7_restOn_40 rfl ?_
  refine gq_get (v := .ref (ad 5)) (i := 0) C gms_0 rfl iq_X7_restOn_X7 6 (by decide) fq_X7_restOn_22 rfl dX7_restOn_41 ?_
  refine gq_iload_n (j := 3) C dX7_restOn_44 rfl ?_
  refine gq_bipush (v := 13) C dX7_restOn_45 (by decide) ?_
  refine gq_iadd C dX7_restOn_47 ?_
  refine gq_dup2 C dX7_restOn_48 rfl rfl ?_
  refine gq_iald (i := 5) (j := ((v1 + 13)).toNatClampNeg) C gms_5 0 rfl rfl h.1 dX7_restOn_49 ?_
  have h := h.2
  refine gq_iconst (v := 1) C dX7_restOn_50 (by decide) ?_
  refine gq_iadd C dX7_restOn_51 ?_
  refine gq_iast (i := 5) (j := ((v1 + 13)).toNatClampNeg) C gms_5 0 rfl rfl h.1 dX7_restOn_52 ?_
  have h := h.2
  exact gq_vret C h dX7_restOn_53
theorem mq_X7_restOn {l : Launch} {D : va_G} {cyI cyZ : ClassId} {ad : Nat → Nat} (hap : gq_ap 17 ad) (a1 : Int32) (a2 : Int32) (σ : gq_M) (Q : gq_M → Prop) (h : wq_X7_restOn a1 a2 σ Q) : Met l yX7_restOn wsX7_restOn rq_X7_restOn (va_Pc [.ref (ad 0), .int a1, .int a2] (gq_P D (gm_T cyI cyZ) 17 ad (gm_S cyI cyZ ad) σ)) (va_Qv Q (gq_P D (gm_T cyI cyZ) 17 ad (gm_S cyI cyZ ad)) (gq_A 17 ad)) 0 0 (gq_A 17 ad) :=
  gq_met hap (by decide) rfl rfl (Nat.le_of_ble_eq_true rfl) (fun _ _ _ _ _ _ _ C => tq_X7_restOn C a1 a2 σ h)
abbrev rq_X7_pleat : Room := { frames := 2, cells := 0, slots := 0, locals := 47 }
theorem dq_X7_pleat : gq_dsc yX7_pleat 2 := by unfold gq_dsc; decide +kernel
theorem iq_X7_pleat_X7 : ∀ w ∈ u_ws RX7 TX7 30, w ∈ wsX7_pleat := by decide +kernel
theorem fq_X7_pleat_7 : Cond.fieldLink RX7 7 (TX7 2).1 (TX7 2).2.1 (TX7 2).2.2.1 ∈ wsX7_pleat := by decide +kernel
theorem fq_X7_pleat_13 : Cond.fieldLink RX7 13 (TX7 3).1 (TX7 3).2.1 (TX7 3).2.2.1 ∈ wsX7_pleat := by decide +kernel
theorem fq_X7_pleat_22 : Cond.fieldLink RX7 22 (TX7 6).1 (TX7 6).2.1 (TX7 6).2.2.1 ∈ wsX7_pleat := by decide +kernel
def wq_X7_pleat (a1 : Int32) (a2 : Int32) (σ : gq_M) (Q : Int32 → gq_M → Prop) : Prop := wq_X7_isPleat a1 σ (fun r1 σ2 => ((¬ r1 = 0 → ((a2 = 0 → vp_in a1 10 ∧ Q (σ2.1 1 a1.toNatClampNeg) σ2) ∧ (¬ a2 = 0 → ((a2 = 1 → vp_in a1 10 ∧ Q (σ2.1 2 a1.toNatClampNeg) σ2) ∧ (¬ a2 = 1 → ((a2 = 2 → wq_X7_costs a1 (σ2.1 5 11) (σ2.1 5 10) (σ2.1 5 12) σ2 (fun r7 σ8 => Q r7 σ8)) ∧ (¬ a2 = 2 → ((a2 = 3 → Q (((σ2.1 5 10) >>> (a1 &&& 31)) &&& 1) σ2) ∧ (¬ a2 = 3 → ((a2 = 4 → ((¬ (σ2.1 5 11) = (a1 + 1) → Q 0 σ2) ∧ ((σ2.1 5 11) = (a1 + 1) → Q 1 σ2))) ∧ (¬ a2 = 4 → Q (-2) σ2))))))))))) ∧ (r1 = 0 → Q (-1) σ2)))
set_option maxRecDepth 100000 in
set_option maxHeartbeats 4000000 in
theorem tq_X7_pleat {p : Program} {l : Launch} {e : Env} {s : State} {m : MethodId} {args : Array Value} {below : List Frame} {meth : Method} {c : Code} {D : va_G} {cyI cyZ : ClassId} {ad : Nat → Nat} {Q : Int32 → gq_M → Prop} (C : gq_C p s m args meth c cX7_pleat 3 RX7 wsX7_pleat D (gm_T cyI cyZ) 17 ad (some .int)) (a1 : Int32) (a2 : Int32) (σ : gq_M) (h : wq_X7_pleat a1 a2 σ Q) : gq_G p l e rq_X7_pleat s m args below meth c (gq_Ri below args s D (gm_T cyI cyZ) 17 ad (gm_S cyI cyZ ad) Q) D 17 ad (gm_S cyI cyZ ad) 3 σ 0 [(0, .ref (ad 0)), (1, .int a1), (2, .int a2)] [] := by
  unfold wq_X7_pleat at h
  refine gq_aload_n (j := 0) C dX7_pleat_0 rfl ?_
  refine gq_iload_n (j := 1) C dX7_pleat_1 rfl ?_
  refine gq_vi (i := 0) C gms_0 rfl [.int a1] (mq_X7_isPleat C.2.2.1 a1 σ _ h) gX7_pleat_X7_isPleat rfl rfl dq_X7_isPleat ⟨rfl, rfl, by decide, by decide⟩ rfl rfl (Nat.le_of_ble_eq_true rfl) dX7_pleat_2 (fun r1 σ2 h => ?_)
  refine gq_if_ne (tgt := 10) C dX7_pleat_5 (by decide) (fun c3 => ?_) (fun c3 => ?_)
  · have h := h.1 c3
    refine gq_iload_n (j := 2) C dX7_pleat_10 rfl ?_
    by_cases c4 : a2 = 0
    · have h := h.1 c4
      refine gq_tin (tgt := 44) C 0 dX7_pleat_11 (by rw [c4]; decide) (by decide) (by decide) rfl (by decide) ?_
      refine gq_aload_n (j := 0) C dX7_pleat_44 rfl ?_
      refine gq_get (v := .ref (ad 1)) (i := 0) C gms_0 rfl iq_X7_pleat_X7 2 (by decide) fq_X7_pleat_7 rfl dX7_pleat_45 ?_
      refine gq_iload_n (j := 1) C dX7_pleat_48 rfl ?_
      refine gq_iald (i := 1) (j := a1.toNatClampNeg) C gms_1 0 rfl rfl h.1 dX7_pleat_49 ?_
      have h := h.2
      exact gq_iret C h dX7_pleat_50
    · have h := h.2 c4
      by_cases c5 : a2 = 1
      · have h := h.1 c5
        refine gq_tin (tgt := 51) C 1 dX7_pleat_11 (by rw [c5]; decide) (by decide) (by decide) rfl (by decide) ?_
        refine gq_aload_n (j := 0) C dX7_pleat_51 rfl ?_
        refine gq_get (v := .ref (ad 2)) (i := 0) C gms_0 rfl iq_X7_pleat_X7 3 (by decide) fq_X7_pleat_13 rfl dX7_pleat_52 ?_
        refine gq_iload_n (j := 1) C dX7_pleat_55 rfl ?_
        refine gq_iald (i := 2) (j := a1.toNatClampNeg) C gms_2 0 rfl rfl h.1 dX7_pleat_56 ?_
        have h := h.2
        exact gq_iret C h dX7_pleat_57
      · have h := h.2 c5
        by_cases c6 : a2 = 2
        · have h := h.1 c6
          refine gq_tin (tgt := 58) C 2 dX7_pleat_11 (by rw [c6]; decide) (by decide) (by decide) rfl (by decide) ?_
          refine gq_aload_n (j := 0) C dX7_pleat_58 rfl ?_
          refine gq_iload_n (j := 1) C dX7_pleat_59 rfl ?_
          refine gq_aload_n (j := 0) C dX7_pleat_60 rfl ?_
          refine gq_get (v := .ref (ad 5)) (i := 0) C gms_0 rfl iq_X7_pleat_X7 6 (by decide) fq_X7_pleat_22 rfl dX7_pleat_61 ?_
          refine gq_bipush (v := 11) C dX7_pleat_64 (by decide) ?_
          refine gq_iald (i := 5) (j := 11) C gms_5 0 rfl (by decide) (vp_in_iff.mpr ⟨by decide, by decide⟩) dX7_pleat_66 ?_
          refine gq_aload_n (j := 0) C dX7_pleat_67 rfl ?_
          refine gq_get (v := .ref (ad 5)) (i := 0) C gms_0 rfl iq_X7_pleat_X7 6 (by decide) fq_X7_pleat_22 rfl dX7_pleat_68 ?_
          refine gq_bipush (v := 10) C dX7_pleat_71 (by decide) ?_
          refine gq_iald (i := 5) (j := 10) C gms_5 0 rfl (by decide) (vp_in_iff.mpr ⟨by decide, by decide⟩) dX7_pleat_73 ?_
          refine gq_aload_n (j := 0) C dX7_pleat_74 rfl ?_
          refine gq_get (v := .ref (ad 5)) (i := 0) C gms_0 rfl iq_X7_pleat_X7 6 (by decide) fq_X7_pleat_22 rfl dX7_pleat_75 ?_
          refine gq_bipush (v := 12) C dX7_pleat_78 (by decide) ?_
          refine gq_iald (i := 5) (j := 12) C gms_5 0 rfl (by decide) (vp_in_iff.mpr ⟨by decide, by decide⟩) dX7_pleat_80 ?_
          refine gq_vi (i := 0) C gms_0 rfl [.int a1, .int (σ2.1 5 11), .int (σ2.1 5 10), .int (σ2.1 5 12)] (mq_X7_costs C.2.2.1 a1 (σ2.1 5 11) (σ2.1 5 10) (σ2.1 5 12) σ2 _ h) gX7_pleat_X7_costs rfl rfl dq_X7_costs ⟨rfl, rfl, by decide, by decide⟩ rfl rfl (Nat.le_of_ble_eq_true rfl) dX7_pleat_81 (fun r7 σ8 h => ?_)
          exact gq_iret C h dX7_pleat_84
        · have h := h.2 c6
          by_cases c9 : a2 = 3
          · have h := h.1 c9
            refine gq_tin (tgt := 85) C 3 dX7_pleat_11 (by rw [c9]; decide) (by decide) (by decide) rfl (by decide) ?_
            refine gq_aload_n (j := 0) C dX7_pleat_85 rfl ?_
            refine gq_get (v := .ref (ad 5)) (i := 0) C gms_0 rfl iq_X7_pleat_X7 6 (by decide) fq_X7_pleat_22 rfl dX7_pleat_86 ?_
            refine gq_bipush (v := 10) C dX7_pleat_89 (by decide) ?_
            refine gq_iald (i := 5) (j := 10) C gms_5 0 rfl (by decide) (vp_in_iff.mpr ⟨by decide, by decide⟩) dX7_pleat_91 ?_
            refine gq_iload_n (j := 1) C dX7_pleat_92 rfl ?_
            refine gq_ishr C dX7_pleat_93 ?_
            refine gq_iconst (v := 1) C dX7_pleat_94 (by decide) ?_
            refine gq_iand C dX7_pleat_95 ?_
            exact gq_iret C h dX7_pleat_96
          · have h := h.2 c9
            by_cases c10 : a2 = 4
            · have h := h.1 c10
              refine gq_tin (tgt := 97) C 4 dX7_pleat_11 (by rw [c10]; decide) (by decide) (by decide) rfl (by decide) ?_
              refine gq_aload_n (j := 0) C dX7_pleat_97 rfl ?_
              refine gq_get (v := .ref (ad 5)) (i := 0) C gms_0 rfl iq_X7_pleat_X7 6 (by decide) fq_X7_pleat_22 rfl dX7_pleat_98 ?_
              refine gq_bipush (v := 11) C dX7_pleat_101 (by decide) ?_
              refine gq_iald (i := 5) (j := 11) C gms_5 0 rfl (by decide) (vp_in_iff.mpr ⟨by decide, by decide⟩) dX7_pleat_103 ?_
              refine gq_iload_n (j := 1) C dX7_pleat_104 rfl ?_
              refine gq_iconst (v := 1) C dX7_pleat_105 (by decide) ?_
              refine gq_iadd C dX7_pleat_106 ?_
              refine gq_icmp_ne (tgt := 114) C dX7_pleat_107 (by decide) (fun c11 => ?_) (fun c11 => ?_)
              · have h := h.1 c11
                refine gq_iconst (v := 0) C dX7_pleat_114 (by decide) ?_
                exact gq_iret C h dX7_pleat_115
              · have h := h.2 c11
                refine gq_iconst (v := 1) C dX7_pleat_110 (by decide) ?_
                refine gq_goto (tgt := 115) C dX7_pleat_111 (by decide) ?_
                exact gq_iret C h dX7_pleat_115
            · have h := h.2 c10
              refine gq_tout (tgt := 116) C dX7_pleat_11 (by have b0 := lv_neT (k := 0) (a := 0) c4 (by decide); have b1 := lv_neT (k := 1) (a := 1) c5 (by decide); have b2 := lv_neT (k := 2) (a := 2) c6 (by decide); have b3 := lv_neT (k := 3) (a := 3) c9 (by decide); have b4 := lv_neT (k := 4) (a := 4) c10 (by decide); omega) (by decide) ?_
              refine gq_bipush (v := (-2)) C dX7_pleat_116 (by decide) ?_
              exact gq_iret C h dX7_pleat_118
  · have h := h.2 c3
    refine gq_iconst (v := (-1)) C dX7_pleat_8 (by decide) ?_
    exact gq_iret C h dX7_pleat_9
theorem mq_X7_pleat {l : Launch} {D : va_G} {cyI cyZ : ClassId} {ad : Nat → Nat} (hap : gq_ap 17 ad) (a1 : Int32) (a2 : Int32) (σ : gq_M) (Q : Int32 → gq_M → Prop) (h : wq_X7_pleat a1 a2 σ Q) : Met l yX7_pleat wsX7_pleat rq_X7_pleat (va_Pc [.ref (ad 0), .int a1, .int a2] (gq_P D (gm_T cyI cyZ) 17 ad (gm_S cyI cyZ ad) σ)) (va_Qi Q (gq_P D (gm_T cyI cyZ) 17 ad (gm_S cyI cyZ ad)) (gq_A 17 ad)) 0 0 (gq_A 17 ad) :=
  gq_met hap (by decide) rfl rfl (Nat.le_of_ble_eq_true rfl) (fun _ _ _ _ _ _ _ C => tq_X7_pleat C a1 a2 σ h)
abbrev rq_X7_paysFor : Room := { frames := 3, cells := 0, slots := 0, locals := 71 }
theorem dq_X7_paysFor : gq_dsc yX7_paysFor 2 := by unfold gq_dsc; decide +kernel
theorem iq_X7_paysFor_X7 : ∀ w ∈ u_ws RX7 TX7 30, w ∈ wsX7_paysFor := by decide +kernel
theorem fq_X7_paysFor_22 : Cond.fieldLink RX7 22 (TX7 6).1 (TX7 6).2.1 (TX7 6).2.2.1 ∈ wsX7_paysFor := by decide +kernel
def wq_X7_paysFor (a1 : Int32) (a2 : Int32) (σ : gq_M) (Q : Int32 → gq_M → Prop) : Prop := vp_in a1 28 ∧ wq_X7_pleatOf (σ.1 5 a1.toNatClampNeg) a2 σ (fun r1 σ2 => ((¬ r1 = (-9) → wq_X7_paysOn 0 a1 r1 σ2 (fun r4 σ5 => Q r4 σ5)) ∧ (r1 = (-9) → Q (-9) σ2)))
set_option maxRecDepth 100000 in
set_option maxHeartbeats 4000000 in
theorem tq_X7_paysFor {p : Program} {l : Launch} {e : Env} {s : State} {m : MethodId} {args : Array Value} {below : List Frame} {meth : Method} {c : Code} {D : va_G} {cyI cyZ : ClassId} {ad : Nat → Nat} {Q : Int32 → gq_M → Prop} (C : gq_C p s m args meth c cX7_paysFor 4 RX7 wsX7_paysFor D (gm_T cyI cyZ) 17 ad (some .int)) (a1 : Int32) (a2 : Int32) (σ : gq_M) (h : wq_X7_paysFor a1 a2 σ Q) : gq_G p l e rq_X7_paysFor s m args below meth c (gq_Ri below args s D (gm_T cyI cyZ) 17 ad (gm_S cyI cyZ ad) Q) D 17 ad (gm_S cyI cyZ ad) 4 σ 0 [(0, .ref (ad 0)), (1, .int a1), (2, .int a2)] [] := by
  unfold wq_X7_paysFor at h
  refine gq_aload_n (j := 0) C dX7_paysFor_0 rfl ?_
  refine gq_aload_n (j := 0) C dX7_paysFor_1 rfl ?_
  refine gq_get (v := .ref (ad 5)) (i := 0) C gms_0 rfl iq_X7_paysFor_X7 6 (by decide) fq_X7_paysFor_22 rfl dX7_paysFor_2 ?_
  refine gq_iload_n (j := 1) C dX7_paysFor_5 rfl ?_
  refine gq_iald (i := 5) (j := a1.toNatClampNeg) C gms_5 0 rfl rfl h.1 dX7_paysFor_6 ?_
  have h := h.2
  refine gq_iload_n (j := 2) C dX7_paysFor_7 rfl ?_
  refine gq_vi (i := 0) C gms_0 rfl [.int (σ.1 5 a1.toNatClampNeg), .int a2] (mq_X7_pleatOf C.2.2.1 (σ.1 5 a1.toNatClampNeg) a2 σ _ h) gX7_paysFor_X7_pleatOf rfl rfl dq_X7_pleatOf ⟨rfl, rfl, by decide, by decide⟩ rfl rfl (Nat.le_of_ble_eq_true rfl) dX7_paysFor_8 (fun r1 σ2 h => ?_)
  refine gq_istore_n (L' := [(0, .ref (ad 0)), (1, .int a1), (2, .int a2), (3, .int r1)]) C [1, 2, 3, 0] dX7_paysFor_11 (by decide) rfl ?_
  refine gq_iload_n (j := 3) C dX7_paysFor_12 rfl ?_
  refine gq_bipush (v := (-9)) C dX7_paysFor_13 (by decide) ?_
  refine gq_icmp_ne (tgt := 23) C dX7_paysFor_15 (by decide) (fun c3 => ?_) (fun c3 => ?_)
  · have h := h.1 c3
    refine gq_aload_n (j := 0) C dX7_paysFor_23 rfl ?_
    refine gq_iconst (v := 0) C dX7_paysFor_24 (by decide) ?_
    refine gq_iload_n (j := 1) C dX7_paysFor_25 rfl ?_
    refine gq_iload_n (j := 3) C dX7_paysFor_26 rfl ?_
    refine gq_vi (i := 0) C gms_0 rfl [.int 0, .int a1, .int r1] (mq_X7_paysOn C.2.2.1 0 a1 r1 σ2 _ h) gX7_paysFor_X7_paysOn rfl rfl dq_X7_paysOn ⟨rfl, rfl, by decide, by decide⟩ rfl rfl (Nat.le_of_ble_eq_true rfl) dX7_paysFor_27 (fun r4 σ5 h => ?_)
    exact gq_iret C h dX7_paysFor_30
  · have h := h.2 c3
    refine gq_bipush (v := (-9)) C dX7_paysFor_18 (by decide) ?_
    refine gq_goto (tgt := 30) C dX7_paysFor_20 (by decide) ?_
    exact gq_iret C h dX7_paysFor_30
theorem mq_X7_paysFor {l : Launch} {D : va_G} {cyI cyZ : ClassId} {ad : Nat → Nat} (hap : gq_ap 17 ad) (a1 : Int32) (a2 : Int32) (σ : gq_M) (Q : Int32 → gq_M → Prop) (h : wq_X7_paysFor a1 a2 σ Q) : Met l yX7_paysFor wsX7_paysFor rq_X7_paysFor (va_Pc [.ref (ad 0), .int a1, .int a2] (gq_P D (gm_T cyI cyZ) 17 ad (gm_S cyI cyZ ad) σ)) (va_Qi Q (gq_P D (gm_T cyI cyZ) 17 ad (gm_S cyI cyZ ad)) (gq_A 17 ad)) 0 0 (gq_A 17 ad) :=
  gq_met hap (by decide) rfl rfl (Nat.le_of_ble_eq_true rfl) (fun _ _ _ _ _ _ _ C => tq_X7_paysFor C a1 a2 σ h)
abbrev rq_X7_traveller : Room := { frames := 4, cells := 0, slots := 0, locals := 94 }
theorem dq_X7_traveller : gq_dsc yX7_traveller 2 := by unfold gq_dsc; decide +kernel
theorem iq_X7_traveller_X7 : ∀ w ∈ u_ws RX7 TX7 30, w ∈ wsX7_traveller := by decide +kernel
theorem fq_X7_traveller_22 : Cond.fieldLink RX7 22 (TX7 6).1 (TX7 6).2.1 (TX7 6).2.2.1 ∈ wsX7_traveller := by decide +kernel
theorem fq_X7_traveller_16 : Cond.fieldLink RX7 16 (TX7 4).1 (TX7 4).2.1 (TX7 4).2.2.1 ∈ wsX7_traveller := by decide +kernel
theorem fq_X7_traveller_19 : Cond.fieldLink RX7 19 (TX7 5).1 (TX7 5).2.1 (TX7 5).2.2.1 ∈ wsX7_traveller := by decide +kernel
def wq_X7_traveller (a1 : Int32) (a2 : Int32) (σ : gq_M) (Q : Int32 → gq_M → Prop) : Prop := wq_X7_isTraveller a1 σ (fun r1 σ2 => ((¬ r1 = 0 → ((a2 = 0 → vp_in a1 28 ∧ Q (σ2.1 5 a1.toNatClampNeg) σ2) ∧ (¬ a2 = 0 → ((a2 = 1 → vp_in a1 5 ∧ Q (σ2.1 3 a1.toNatClampNeg) σ2) ∧ (¬ a2 = 1 → ((a2 = 2 → vp_in a1 5 ∧ Q (σ2.1 4 a1.toNatClampNeg) σ2) ∧ (¬ a2 = 2 → ((a2 = 3 → vp_in (5 + a1) 28 ∧ Q (σ2.1 5 ((5 + a1)).toNatClampNeg) σ2) ∧ (¬ a2 = 3 → ((a2 = 4 → wq_X7_paysFor a1 0 σ2 (fun r9 σ10 => Q r9 σ10)) ∧ (¬ a2 = 4 → ((a2 = 5 → wq_X7_paysFor a1 1 σ2 (fun r12 σ13 => Q r12 σ13)) ∧ (¬ a2 = 5 → Q (-2) σ2))))))))))))) ∧ (r1 = 0 → Q (-1) σ2)))
set_option maxRecDepth 100000 in
set_option maxHeartbeats 4000000 in
theorem tq_X7_traveller {p : Program} {l : Launch} {e : Env} {s : State} {m : MethodId} {args : Array Value} {below : List Frame} {meth : Method} {c : Code} {D : va_G} {cyI cyZ : ClassId} {ad : Nat → Nat} {Q : Int32 → gq_M → Prop} (C : gq_C p s m args meth c cX7_traveller 3 RX7 wsX7_traveller D (gm_T cyI cyZ) 17 ad (some .int)) (a1 : Int32) (a2 : Int32) (σ : gq_M) (h : wq_X7_traveller a1 a2 σ Q) : gq_G p l e rq_X7_traveller s m args below meth c (gq_Ri below args s D (gm_T cyI cyZ) 17 ad (gm_S cyI cyZ ad) Q) D 17 ad (gm_S cyI cyZ ad) 3 σ 0 [(0, .ref (ad 0)), (1, .int a1), (2, .int a2)] [] := by
  unfold wq_X7_traveller at h
  refine gq_aload_n (j := 0) C dX7_traveller_0 rfl ?_
  refine gq_iload_n (j := 1) C dX7_traveller_1 rfl ?_
  refine gq_vi (i := 0) C gms_0 rfl [.int a1] (mq_X7_isTraveller C.2.2.1 a1 σ _ h) gX7_traveller_X7_isTraveller rfl rfl dq_X7_isTraveller ⟨rfl, rfl, by decide, by decide⟩ rfl rfl (Nat.le_of_ble_eq_true rfl) dX7_traveller_2 (fun r1 σ2 h => ?_)
  refine gq_if_ne (tgt := 10) C dX7_traveller_5 (by decide) (fun c3 => ?_) (fun c3 => ?_)
  · have h := h.1 c3
    refine gq_iload_n (j := 2) C dX7_traveller_10 rfl ?_
    by_cases c4 : a2 = 0
    · have h := h.1 c4
      refine gq_tin (tgt := 48) C 0 dX7_traveller_11 (by rw [c4]; decide) (by decide) (by decide) rfl (by decide) ?_
      refine gq_aload_n (j := 0) C dX7_traveller_48 rfl ?_
      refine gq_get (v := .ref (ad 5)) (i := 0) C gms_0 rfl iq_X7_traveller_X7 6 (by decide) fq_X7_traveller_22 rfl dX7_traveller_49 ?_
      refine gq_iload_n (j := 1) C dX7_traveller_52 rfl ?_
      refine gq_iald (i := 5) (j := a1.toNatClampNeg) C gms_5 0 rfl rfl h.1 dX7_traveller_53 ?_
      have h := h.2
      exact gq_iret C h dX7_traveller_54
    · have h := h.2 c4
      by_cases c5 : a2 = 1
      · have h := h.1 c5
        refine gq_tin (tgt := 55) C 1 dX7_traveller_11 (by rw [c5]; decide) (by decide) (by decide) rfl (by decide) ?_
        refine gq_aload_n (j := 0) C dX7_traveller_55 rfl ?_
        refine gq_get (v := .ref (ad 3)) (i := 0) C gms_0 rfl iq_X7_traveller_X7 4 (by decide) fq_X7_traveller_16 rfl dX7_traveller_56 ?_
        refine gq_iload_n (j := 1) C dX7_traveller_59 rfl ?_
        refine gq_iald (i := 3) (j := a1.toNatClampNeg) C gms_3 0 rfl rfl h.1 dX7_traveller_60 ?_
        have h := h.2
        exact gq_iret C h dX7_traveller_61
      · have h := h.2 c5
        by_cases c6 : a2 = 2
        · have h := h.1 c6
          refine gq_tin (tgt := 62) C 2 dX7_traveller_11 (by rw [c6]; decide) (by decide) (by decide) rfl (by decide) ?_
          refine gq_aload_n (j := 0) C dX7_traveller_62 rfl ?_
          refine gq_get (v := .ref (ad 4)) (i := 0) C gms_0 rfl iq_X7_traveller_X7 5 (by decide) fq_X7_traveller_19 rfl dX7_traveller_63 ?_
          refine gq_iload_n (j := 1) C dX7_traveller_66 rfl ?_
          refine gq_iald (i := 4) (j := a1.toNatClampNeg) C gms_4 0 rfl rfl h.1 dX7_traveller_67 ?_
          have h := h.2
          exact gq_iret C h dX7_traveller_68
        · have h := h.2 c6
          by_cases c7 : a2 = 3
          · have h := h.1 c7
            refine gq_tin (tgt := 69) C 3 dX7_traveller_11 (by rw [c7]; decide) (by decide) (by decide) rfl (by decide) ?_
            refine gq_aload_n (j := 0) C dX7_traveller_69 rfl ?_
            refine gq_get (v := .ref (ad 5)) (i := 0) C gms_0 rfl iq_X7_traveller_X7 6 (by decide) fq_X7_traveller_22 rfl dX7_traveller_70 ?_
            refine gq_iconst (v := 5) C dX7_traveller_73 (by decide) ?_
            refine gq_iload_n (j := 1) C dX7_traveller_74 rfl ?_
            refine gq_iadd C dX7_traveller_75 ?_
            refine gq_iald (i := 5) (j := ((5 + a1)).toNatClampNeg) C gms_5 0 rfl rfl h.1 dX7_traveller_76 ?_
            have h := h.2
            exact gq_iret C h dX7_traveller_77
          · have h := h.2 c7
            by_cases c8 : a2 = 4
            · have h := h.1 c8
              refine gq_tin (tgt := 78) C 4 dX7_traveller_11 (by rw [c8]; decide) (by decide) (by decide) rfl (by decide) ?_
              refine gq_aload_n (j := 0) C dX7_traveller_78 rfl ?_
              refine gq_iload_n (j := 1) C dX7_traveller_79 rfl ?_
              refine gq_iconst (v := 0) C dX7_traveller_80 (by decide) ?_
              refine gq_vi (i := 0) C gms_0 rfl [.int a1, .int 0] (mq_X7_paysFor C.2.2.1 a1 0 σ2 _ h) gX7_traveller_X7_paysFor rfl rfl dq_X7_paysFor ⟨rfl, rfl, by decide, by decide⟩ rfl rfl (Nat.le_of_ble_eq_true rfl) dX7_traveller_81 (fun r9 σ10 h => ?_)
              exact gq_iret C h dX7_traveller_84
            · have h := h.2 c8
              by_cases c11 : a2 = 5
              · have h := h.1 c11
                refine gq_tin (tgt := 85) C 5 dX7_traveller_11 (by rw [c11]; decide) (by decide) (by decide) rfl (by decide) ?_
                refine gq_aload_n (j := 0) C dX7_traveller_85 rfl ?_
                refine gq_iload_n (j := 1) C dX7_traveller_86 rfl ?_
                refine gq_iconst (v := 1) C dX7_traveller_87 (by decide) ?_
                refine gq_vi (i := 0) C gms_0 rfl [.int a1, .int 1] (mq_X7_paysFor C.2.2.1 a1 1 σ2 _ h) gX7_traveller_X7_paysFor rfl rfl dq_X7_paysFor ⟨rfl, rfl, by decide, by decide⟩ rfl rfl (Nat.le_of_ble_eq_true rfl) dX7_traveller_88 (fun r12 σ13 h => ?_)
                exact gq_iret C h dX7_traveller_91
              · have h := h.2 c11
                refine gq_tout (tgt := 92) C dX7_traveller_11 (by have b0 := lv_neT (k := 0) (a := 0) c4 (by decide); have b1 := lv_neT (k := 1) (a := 1) c5 (by decide); have b2 := lv_neT (k := 2) (a := 2) c6 (by decide); have b3 := lv_neT (k := 3) (a := 3) c7 (by decide); have b4 := lv_neT (k := 4) (a := 4) c8 (by decide); have b5 := lv_neT (k := 5) (a := 5) c11 (by decide); omega) (by decide) ?_
                refine gq_bipush (v := (-2)) C dX7_traveller_92 (by decide) ?_
                exact gq_iret C h dX7_traveller_94
  · have h := h.2 c3
    refine gq_iconst (v := (-1)) C dX7_traveller_8 (by decide) ?_
    exact gq_iret C h dX7_traveller_9
theorem mq_X7_traveller {l : Launch} {D : va_G} {cyI cyZ : ClassId} {ad : Nat → Nat} (hap : gq_ap 17 ad) (a1 : Int32) (a2 : Int32) (σ : gq_M) (Q : Int32 → gq_M → Prop) (h : wq_X7_traveller a1 a2 σ Q) : Met l yX7_traveller wsX7_traveller rq_X7_traveller (va_Pc [.ref (ad 0), .int a1, .int a2] (gq_P D (gm_T cyI cyZ) 17 ad (gm_S cyI cyZ ad) σ)) (va_Qi Q (gq_P D (gm_T cyI cyZ) 17 ad (gm_S cyI cyZ ad)) (gq_A 17 ad)) 0 0 (gq_A 17 ad) :=
  gq_met hap (by decide) rfl rfl (Nat.le_of_ble_eq_true rfl) (fun _ _ _ _ _ _ _ C => tq_X7_traveller C a1 a2 σ h)
abbrev rq_X7_keepAct : Room := { frames := 0, cells := 0, slots := 0, locals := 0 }
theorem dq_X7_keepAct : gq_dsc yX7_keepAct 0 := by unfold gq_dsc; decide +kernel
theorem iq_X7_keepAct_X7 : ∀ w ∈ u_ws RX7 TX7 30, w ∈ wsX7_keepAct := by decide +kernel
theorem fq_X7_keepAct_34 : Cond.fieldLink RX7 34 (TX7 18).1 (TX7 18).2.1 (TX7 18).2.2.1 ∈ wsX7_keepAct := by decide +kernel
theorem fq_X7_keepAct_143 : Cond.fieldLink RX7 143 (TX7 17).1 (TX7 17).2.1 (TX7 17).2.2.1 ∈ wsX7_keepAct := by decide +kernel
theorem fq_X7_keepAct_22 : Cond.fieldLink RX7 22 (TX7 6).1 (TX7 6).2.1 (TX7 6).2.2.1 ∈ wsX7_keepAct := by decide +kernel
theorem fq_X7_keepAct_102 : Cond.fieldLink RX7 102 (TX7 16).1 (TX7 16).2.1 (TX7 16).2.2.1 ∈ wsX7_keepAct := by decide +kernel
def wq_X7_keepAct_l2 (Q : gq_M → Prop) (K34 : gq_M → Prop) : Nat → Int32 → gq_M → Prop
  | 0, _, _ => False
  | n + 1, x1, σ => ((14 ≤ x1 → K34 σ) ∧ (¬ 14 ≤ x1 → vp_in x1 28 ∧ vp_in ((14 * (σ.1 0 17)) + x1) 196 ∧ ∀ v2, v2 = (x1 + 1) → wq_X7_keepAct_l2 Q K34 n v2 (gq_put σ 9 (((14 * (σ.1 0 17)) + x1)).toNatClampNeg (σ.1 5 x1.toNatClampNeg))))
set_option maxRecDepth 100000 in
set_option maxHeartbeats 4000000 in
theorem tq_X7_keepAct_l2 {p : Program} {l : Launch} {e : Env} {s : State} {m : MethodId} {args : Array Value} {below : List Frame} {meth : Method} {c : Code} {D : va_G} {cyI cyZ : ClassId} {ad : Nat → Nat} {Q : gq_M → Prop} {K34 : gq_M → Prop} (C : gq_C p s m args meth c cX7_keepAct 2 RX7 wsX7_keepAct D (gm_T cyI cyZ) 17 ad none) (hK34 : ∀ (τ : gq_M), K34 τ → gq_G p l e rq_X7_keepAct s m args below meth c (gq_Rv below args s D (gm_T cyI cyZ) 17 ad (gm_S cyI cyZ ad) Q) D 17 ad (gm_S cyI cyZ ad) 2 τ 34 [(0, .ref (ad 0))] []) : ∀ (n : Nat) (x1 : Int32) (σ : gq_M), wq_X7_keepAct_l2 Q K34 n x1 σ → gq_G p l e rq_X7_keepAct s m args below meth c (gq_Rv below args s D (gm_T cyI cyZ) 17 ad (gm_S cyI cyZ ad) Q) D 17 ad (gm_S cyI cyZ ad) 2 σ 2 [(0, .ref (ad 0)), (1, .int x1)] [] := by
  intro n
  induction n with
  | zero =>
    intro x1 σ h
    exact absurd h (fun q => q)
  | succ n ih =>
    intro x1 σ h
    unfold wq_X7_keepAct_l2 at h
    refine gq_iload_n (j := 1) C dX7_keepAct_2 rfl ?_
    refine gq_bipush (v := 14) C dX7_keepAct_3 (by decide) ?_
    refine gq_icmp_ge (tgt := 34) C dX7_keepAct_5 (by decide) (fun c1 => ?_) (fun c1 => ?_)
    · have h := h.1 c1
      refine gq_sub [0] rfl ?_
      exact hK34  _ h
    · have h := h.2 c1
      refine gq_aload_n (j := 0) C dX7_keepAct_8 rfl ?_
      refine gq_get (v := .ref (ad 9)) (i := 0) C gms_0 rfl iq_X7_keepAct_X7 18 (by decide) fq_X7_keepAct_34 rfl dX7_keepAct_9 ?_
      refine gq_bipush (v := 14) C dX7_keepAct_12 (by decide) ?_
      refine gq_aload_n (j := 0) C dX7_keepAct_14 rfl ?_
      refine gq_get (v := .int (σ.1 0 17)) (i := 0) C gms_0 rfl iq_X7_keepAct_X7 17 (by decide) fq_X7_keepAct_143 rfl dX7_keepAct_15 ?_
      refine gq_imul C dX7_keepAct_18 ?_
      refine gq_iload_n (j := 1) C dX7_keepAct_19 rfl ?_
      refine gq_iadd C dX7_keepAct_20 ?_
      refine gq_aload_n (j := 0) C dX7_keepAct_21 rfl ?_
      refine gq_get (v := .ref (ad 5)) (i := 0) C gms_0 rfl iq_X7_keepAct_X7 6 (by decide) fq_X7_keepAct_22 rfl dX7_keepAct_22 ?_
      refine gq_iload_n (j := 1) C dX7_keepAct_25 rfl ?_
      refine gq_iald (i := 5) (j := x1.toNatClampNeg) C gms_5 0 rfl rfl h.1 dX7_keepAct_26 ?_
      have h := h.2
      refine gq_iast (i := 9) (j := (((14 * (σ.1 0 17)) + x1)).toNatClampNeg) C gms_9 0 rfl rfl h.1 dX7_keepAct_27 ?_
      have h := h.2
      obtain ⟨v2, qv2⟩ : ∃ y : Int32, y = (x1 + 1) := ⟨_, rfl⟩
      have h := h v2 qv2
      refine gq_iinc (j := 1) (v := v2) (L' := [(0, .ref (ad 0)), (1, .int v2)]) C [1, 0] dX7_keepAct_28 rfl (by rw [qv2]; rfl) (by decide) rfl ?_
      refine gq_goto (tgt := 2) C dX7_keepAct_31 (by decide) ?_
      exact ih _ _ h
def wq_X7_keepAct_b68 (Q : gq_M → Prop) (s1 : Int32) (σ : gq_M) : Prop := Q (gq_put σ 0 16 s1)
set_option maxRecDepth 100000 in
set_option maxHeartbeats 4000000 in
theorem tq_X7_keepAct_b68 {p : Program} {l : Launch} {e : Env} {s : State} {m : MethodId} {args : Array Value} {below : List Frame} {meth : Method} {c : Code} {D : va_G} {cyI cyZ : ClassId} {ad : Nat → Nat} {Q : gq_M → Prop} (C : gq_C p s m args meth c cX7_keepAct 2 RX7 wsX7_keepAct D (gm_T cyI cyZ) 17 ad none) (s1 : Int32) (σ : gq_M) (h : wq_X7_keepAct_b68 Q s1 σ) : gq_G p l e rq_X7_keepAct s m args below meth c (gq_Rv below args s D (gm_T cyI cyZ) 17 ad (gm_S cyI cyZ ad) Q) D 17 ad (gm_S cyI cyZ ad) 2 σ 68 [(0, .ref (ad 0))] [.int s1, .ref (ad 0)] := by
  unfold wq_X7_keepAct_b68 at h
  refine gq_puti (i := 0) C gms_0 rfl iq_X7_keepAct_X7 tyX7 tyX7_ok nmX7 16 (by decide) fq_X7_keepAct_102 rfl rfl rfl (fun _ _ => Nat.le_of_ble_eq_true rfl) gs_X7_16 dX7_keepAct_68 ?_
  exact gq_vret C h dX7_keepAct_71
def wq_X7_keepAct (σ : gq_M) (Q : gq_M → Prop) : Prop := (∃ n5, wq_X7_keepAct_l2 Q (fun σ3 => ((14 ≤ (((gq_put σ3 0 17 (((σ3.1 0 17) + 1) - ((σ3.1 0 17) + 1) / 14 * 14))).1 0 16) → wq_X7_keepAct_b68 Q 14 (gq_put σ3 0 17 (((σ3.1 0 17) + 1) - ((σ3.1 0 17) + 1) / 14 * 14))) ∧ (¬ 14 ≤ (((gq_put σ3 0 17 (((σ3.1 0 17) + 1) - ((σ3.1 0 17) + 1) / 14 * 14))).1 0 16) → wq_X7_keepAct_b68 Q ((((gq_put σ3 0 17 (((σ3.1 0 17) + 1) - ((σ3.1 0 17) + 1) / 14 * 14))).1 0 16) + 1) (gq_put σ3 0 17 (((σ3.1 0 17) + 1) - ((σ3.1 0 17) + 1) / 14 * 14))))) n5 0 σ)
set_option maxRecDepth 100000 in
set_option maxHeartbeats 4000000 in
theorem tq_X7_keepAct {p : Program} {l : Launch} {e : Env} {s : State} {m : MethodId} {args : Array Value} {below : List Frame} {meth : Method} {c : Code} {D : va_G} {cyI cyZ : ClassId} {ad : Nat → Nat} {Q : gq_M → Prop} (C : gq_C p s m args meth c cX7_keepAct 2 RX7 wsX7_keepAct D (gm_T cyI cyZ) 17 ad none) (σ : gq_M) (h : wq_X7_keepAct σ Q) : gq_G p l e rq_X7_keepAct s m args below meth c (gq_Rv below args s D (gm_T cyI cyZ) 17 ad (gm_S cyI cyZ ad) Q) D 17 ad (gm_S cyI cyZ ad) 2 σ 0 [(0, .ref (ad 0))] [] := by
  unfold wq_X7_keepAct at h
  refine gq_iconst (v := 0) C dX7_keepAct_0 (by decide) ?_
  refine gq_istore_n (L' := [(0, .ref (ad 0)), (1, .int 0)]) C [1, 0] dX7_keepAct_1 (by decide) rfl ?_
  obtain ⟨n5, h⟩ := h
  refine tq_X7_keepAct_l2 C (fun σ3 h => ?_) n5 _ _ h
  refine gq_aload_n (j := 0) C dX7_keepAct_34 rfl ?_
  refine gq_aload_n (j := 0) C dX7_keepAct_35 rfl ?_
  refine gq_get (v := .int (σ3.1 0 17)) (i := 0) C gms_0 rfl iq_X7_keepAct_X7 17 (by decide) fq_X7_keepAct_143 rfl dX7_keepAct_36 ?_
  refine gq_iconst (v := 1) C dX7_keepAct_39 (by decide) ?_
  refine gq_iadd C dX7_keepAct_40 ?_
  refine gq_bipush (v := 14) C dX7_keepAct_41 (by decide) ?_
  refine gq_irem C dX7_keepAct_43 (by decide) ?_
  refine gq_puti (i := 0) C gms_0 rfl iq_X7_keepAct_X7 tyX7 tyX7_ok nmX7 17 (by decide) fq_X7_keepAct_143 rfl rfl rfl (fun _ _ => Nat.le_of_ble_eq_true rfl) gs_X7_17 dX7_keepAct_44 ?_
  refine gq_aload_n (j := 0) C dX7_keepAct_47 rfl ?_
  refine gq_aload_n (j := 0) C dX7_keepAct_48 rfl ?_
  refine gq_get (v := .int (((gq_put σ3 0 17 (((σ3.1 0 17) + 1) - ((σ3.1 0 17) + 1) / 14 * 14))).1 0 16)) (i := 0) C gms_0 rfl iq_X7_keepAct_X7 16 (by decide) fq_X7_keepAct_102 rfl dX7_keepAct_49 ?_
  refine gq_bipush (v := 14) C dX7_keepAct_52 (by decide) ?_
  refine gq_icmp_ge (tgt := 66) C dX7_keepAct_54 (by decide) (fun c4 => ?_) (fun c4 => ?_)
  · have h := h.1 c4
    refine gq_bipush (v := 14) C dX7_keepAct_66 (by decide) ?_
    exact tq_X7_keepAct_b68 C _ _ h
  · have h := h.2 c4
    refine gq_aload_n (j := 0) C dX7_keepAct_57 rfl ?_
    refine gq_get (v := .int (((gq_put σ3 0 17 (((σ3.1 0 17) + 1) - ((σ3.1 0 17) + 1) / 14 * 14))).1 0 16)) (i := 0) C gms_0 rfl iq_X7_keepAct_X7 16 (by decide) fq_X7_keepAct_102 rfl dX7_keepAct_58 ?_
    refine gq_iconst (v := 1) C dX7_keepAct_61 (by decide) ?_
    refine gq_iadd C dX7_keepAct_62 ?_
    refine gq_goto (tgt := 68) C dX7_keepAct_63 (by decide) ?_
    exact tq_X7_keepAct_b68 C _ _ h
theorem mq_X7_keepAct {l : Launch} {D : va_G} {cyI cyZ : ClassId} {ad : Nat → Nat} (hap : gq_ap 17 ad) (σ : gq_M) (Q : gq_M → Prop) (h : wq_X7_keepAct σ Q) : Met l yX7_keepAct wsX7_keepAct rq_X7_keepAct (va_Pc [.ref (ad 0)] (gq_P D (gm_T cyI cyZ) 17 ad (gm_S cyI cyZ ad) σ)) (va_Qv Q (gq_P D (gm_T cyI cyZ) 17 ad (gm_S cyI cyZ ad)) (gq_A 17 ad)) 0 0 (gq_A 17 ad) :=
  gq_met hap (by decide) rfl rfl (Nat.le_of_ble_eq_true rfl) (fun _ _ _ _ _ _ _ C => tq_X7_keepAct C σ h)
abbrev rq_X7_step : Room := { frames := 4, cells := 0, slots := 0, locals := 96 }
theorem dq_X7_step : gq_dsc yX7_step 2 := by unfold gq_dsc; decide +kernel
theorem iq_X7_step_X7 : ∀ w ∈ u_ws RX7 TX7 30, w ∈ wsX7_step := by decide +kernel
theorem fq_X7_step_22 : Cond.fieldLink RX7 22 (TX7 6).1 (TX7 6).2.1 (TX7 6).2.2.1 ∈ wsX7_step := by decide +kernel
def wq_X7_step (a1 : Int32) (a2 : Int32) (σ : gq_M) (Q : Int32 → gq_M → Prop) : Prop := wq_X7_isTraveller a1 σ (fun r1 σ2 => ((¬ r1 = 0 → wq_X7_canStep 0 a1 a2 σ2 (fun r4 σ5 => ((¬ r4 = 0 → wq_X7_keepAct σ5 (fun σ8 => wq_X7_stepOn 0 a1 a2 σ8 (fun σ10 => vp_in a1 28 ∧ Q (σ10.1 5 a1.toNatClampNeg) σ10))) ∧ (r4 = 0 → Q (-3) σ5)))) ∧ (r1 = 0 → Q (-1) σ2)))
set_option maxRecDepth 100000 in
set_option maxHeartbeats 4000000 in
theorem tq_X7_step {p : Program} {l : Launch} {e : Env} {s : State} {m : MethodId} {args : Array Value} {below : List Frame} {meth : Method} {c : Code} {D : va_G} {cyI cyZ : ClassId} {ad : Nat → Nat} {Q : Int32 → gq_M → Prop} (C : gq_C p s m args meth c cX7_step 3 RX7 wsX7_step D (gm_T cyI cyZ) 17 ad (some .int)) (a1 : Int32) (a2 : Int32) (σ : gq_M) (h : wq_X7_step a1 a2 σ Q) : gq_G p l e rq_X7_step s m args below meth c (gq_Ri below args s D (gm_T cyI cyZ) 17 ad (gm_S cyI cyZ ad) Q) D 17 ad (gm_S cyI cyZ ad) 3 σ 0 [(0, .ref (ad 0)), (1, .int a1), (2, .int a2)] [] := by
  unfold wq_X7_step at h
  refine gq_aload_n (j := 0) C dX7_step_0 rfl ?_
  refine gq_iload_n (j := 1) C dX7_step_1 rfl ?_
  refine gq_vi (i := 0) C gms_0 rfl [.int a1] (mq_X7_isTraveller C.2.2.1 a1 σ _ h) gX7_step_X7_isTraveller rfl rfl dq_X7_isTraveller ⟨rfl, rfl, by decide, by decide⟩ rfl rfl (Nat.le_of_ble_eq_true rfl) dX7_step_2 (fun r1 σ2 h => ?_)
  refine gq_if_ne (tgt := 10) C dX7_step_5 (by decide) (fun c3 => ?_) (fun c3 => ?_)
  · have h := h.1 c3
    refine gq_aload_n (j := 0) C dX7_step_10 rfl ?_
    refine gq_iconst (v := 0) C dX7_step_11 (by decide) ?_
    refine gq_iload_n (j := 1) C dX7_step_12 rfl ?_
    refine gq_iload_n (j := 2) C dX7_step_13 rfl ?_
    refine gq_vi (i := 0) C gms_0 rfl [.int 0, .int a1, .int a2] (mq_X7_canStep C.2.2.1 0 a1 a2 σ2 _ h) gX7_step_X7_canStep rfl rfl dq_X7_canStep ⟨rfl, rfl, by decide, by decide⟩ rfl rfl (Nat.le_of_ble_eq_true rfl) dX7_step_14 (fun r4 σ5 h => ?_)
    refine gq_if_ne (tgt := 23) C dX7_step_17 (by decide) (fun c6 => ?_) (fun c6 => ?_)
    · have h := h.1 c6
      refine gq_aload_n (j := 0) C dX7_step_23 rfl ?_
      refine gq_vv (i := 0) C gms_0 rfl [] (mq_X7_keepAct C.2.2.1 σ5 _ h) gX7_step_X7_keepAct rfl rfl dq_X7_keepAct ⟨rfl, rfl, by decide, by decide⟩ rfl rfl (Nat.le_of_ble_eq_true rfl) dX7_step_24 (fun σ8 h => ?_)
      refine gq_aload_n (j := 0) C dX7_step_27 rfl ?_
      refine gq_iconst (v := 0) C dX7_step_28 (by decide) ?_
      refine gq_iload_n (j := 1) C dX7_step_29 rfl ?_
      refine gq_iload_n (j := 2) C dX7_step_30 rfl ?_
      refine gq_vv (i := 0) C gms_0 rfl [.int 0, .int a1, .int a2] (mq_X7_stepOn C.2.2.1 0 a1 a2 σ8 _ h) gX7_step_X7_stepOn rfl rfl dq_X7_stepOn ⟨rfl, rfl, by decide, by decide⟩ rfl rfl (Nat.le_of_ble_eq_true rfl) dX7_step_31 (fun σ10 h => ?_)
      refine gq_aload_n (j := 0) C dX7_step_34 rfl ?_
      refine gq_get (v := .ref (ad 5)) (i := 0) C gms_0 rfl iq_X7_step_X7 6 (by decide) fq_X7_step_22 rfl dX7_step_35 ?_
      refine gq_iload_n (j := 1) C dX7_step_38 rfl ?_
      refine gq_iald (i := 5) (j := a1.toNatClampNeg) C gms_5 0 rfl rfl h.1 dX7_step_39 ?_
      have h := h.2
      exact gq_iret C h dX7_step_40
    · have h := h.2 c6
      refine gq_bipush (v := (-3)) C dX7_step_20 (by decide) ?_
      exact gq_iret C h dX7_step_22
  · have h := h.2 c3
    refine gq_iconst (v := (-1)) C dX7_step_8 (by decide) ?_
    exact gq_iret C h dX7_step_9
theorem mq_X7_step {l : Launch} {D : va_G} {cyI cyZ : ClassId} {ad : Nat → Nat} (hap : gq_ap 17 ad) (a1 : Int32) (a2 : Int32) (σ : gq_M) (Q : Int32 → gq_M → Prop) (h : wq_X7_step a1 a2 σ Q) : Met l yX7_step wsX7_step rq_X7_step (va_Pc [.ref (ad 0), .int a1, .int a2] (gq_P D (gm_T cyI cyZ) 17 ad (gm_S cyI cyZ ad) σ)) (va_Qi Q (gq_P D (gm_T cyI cyZ) 17 ad (gm_S cyI cyZ ad)) (gq_A 17 ad)) 0 0 (gq_A 17 ad) :=
  gq_met hap (by decide) rfl rfl (Nat.le_of_ble_eq_true rfl) (fun _ _ _ _ _ _ _ C => tq_X7_step C a1 a2 σ h)
abbrev rq_X7_rest : Room := { frames := 3, cells := 0, slots := 0, locals := 67 }
theorem dq_X7_rest : gq_dsc yX7_rest 1 := by unfold gq_dsc; decide +kernel
theorem iq_X7_rest_X7 : ∀ w ∈ u_ws RX7 TX7 30, w ∈ wsX7_rest := by decide +kernel
theorem fq_X7_rest_22 : Cond.fieldLink RX7 22 (TX7 6).1 (TX7 6).2.1 (TX7 6).2.2.1 ∈ wsX7_rest := by decide +kernel
def wq_X7_rest (a1 : Int32) (σ : gq_M) (Q : Int32 → gq_M → Prop) : Prop := wq_X7_isTraveller a1 σ (fun r1 σ2 => ((¬ r1 = 0 → wq_X7_keepAct σ2 (fun σ5 => wq_X7_restOn 0 a1 σ5 (fun σ7 => vp_in (5 + a1) 28 ∧ Q (σ7.1 5 ((5 + a1)).toNatClampNeg) σ7))) ∧ (r1 = 0 → Q (-1) σ2)))
set_option maxRecDepth 100000 in
set_option maxHeartbeats 4000000 in
theorem tq_X7_rest {p : Program} {l : Launch} {e : Env} {s : State} {m : MethodId} {args : Array Value} {below : List Frame} {meth : Method} {c : Code} {D : va_G} {cyI cyZ : ClassId} {ad : Nat → Nat} {Q : Int32 → gq_M → Prop} (C : gq_C p s m args meth c cX7_rest 2 RX7 wsX7_rest D (gm_T cyI cyZ) 17 ad (some .int)) (a1 : Int32) (σ : gq_M) (h : wq_X7_rest a1 σ Q) : gq_G p l e rq_X7_rest s m args below meth c (gq_Ri below args s D (gm_T cyI cyZ) 17 ad (gm_S cyI cyZ ad) Q) D 17 ad (gm_S cyI cyZ ad) 2 σ 0 [(0, .ref (ad 0)), (1, .int a1)] [] := by
  unfold wq_X7_rest at h
  refine gq_aload_n (j := 0) C dX7_rest_0 rfl ?_
  refine gq_iload_n (j := 1) C dX7_rest_1 rfl ?_
  refine gq_vi (i := 0) C gms_0 rfl [.int a1] (mq_X7_isTraveller C.2.2.1 a1 σ _ h) gX7_rest_X7_isTraveller rfl rfl dq_X7_isTraveller ⟨rfl, rfl, by decide, by decide⟩ rfl rfl (Nat.le_of_ble_eq_true rfl) dX7_rest_2 (fun r1 σ2 h => ?_)
  refine gq_if_ne (tgt := 10) C dX7_rest_5 (by decide) (fun c3 => ?_) (fun c3 => ?_)
  · have h := h.1 c3
    refine gq_aload_n (j := 0) C dX7_rest_10 rfl ?_
    refine gq_vv (i := 0) C gms_0 rfl [] (mq_X7_keepAct C.2.2.1 σ2 _ h) gX7_rest_X7_keepAct rfl rfl dq_X7_keepAct ⟨rfl, rfl, by decide, by decide⟩ rfl rfl (Nat.le_of_ble_eq_true rfl) dX7_rest_11 (fun σ5 h => ?_)
    refine gq_aload_n (j := 0) C dX7_rest_14 rfl ?_
    refine gq_iconst (v := 0) C dX7_rest_15 (by decide) ?_
    refine gq_iload_n (j := 1) C dX7_rest_16 rfl ?_
    refine gq_vv (i := 0) C gms_0 rfl [.int 0, .int a1] (mq_X7_restOn C.2.2.1 0 a1 σ5 _ h) gX7_rest_X7_restOn rfl rfl dq_X7_restOn ⟨rfl, rfl, by decide, by decide⟩ rfl rfl (Nat.le_of_ble_eq_true rfl) dX7_rest_17 (fun σ7 h => ?_)
    refine gq_aload_n (j := 0) C dX7_rest_20 rfl ?_
    refine gq_get (v := .ref (ad 5)) (i := 0) C gms_0 rfl iq_X7_rest_X7 6 (by decide) fq_X7_rest_22 rfl dX7_rest_21 ?_
    refine gq_iconst (v := 5) C dX7_rest_24 (by decide) ?_
    refine gq_iload_n (j := 1) C dX7_rest_25 rfl ?_
    refine gq_iadd C dX7_rest_26 ?_
    refine gq_iald (i := 5) (j := ((5 + a1)).toNatClampNeg) C gms_5 0 rfl rfl h.1 dX7_rest_27 ?_
    have h := h.2
    exact gq_iret C h dX7_rest_28
  · have h := h.2 c3
    refine gq_iconst (v := (-1)) C dX7_rest_8 (by decide) ?_
    exact gq_iret C h dX7_rest_9
theorem mq_X7_rest {l : Launch} {D : va_G} {cyI cyZ : ClassId} {ad : Nat → Nat} (hap : gq_ap 17 ad) (a1 : Int32) (σ : gq_M) (Q : Int32 → gq_M → Prop) (h : wq_X7_rest a1 σ Q) : Met l yX7_rest wsX7_rest rq_X7_rest (va_Pc [.ref (ad 0), .int a1] (gq_P D (gm_T cyI cyZ) 17 ad (gm_S cyI cyZ ad) σ)) (va_Qi Q (gq_P D (gm_T cyI cyZ) 17 ad (gm_S cyI cyZ ad)) (gq_A 17 ad)) 0 0 (gq_A 17 ad) :=
  gq_met hap (by decide) rfl rfl (Nat.le_of_ble_eq_true rfl) (fun _ _ _ _ _ _ _ C => tq_X7_rest C a1 σ h)
abbrev rq_X7_grease : Room := { frames := 2, cells := 0, slots := 0, locals := 47 }
theorem dq_X7_grease : gq_dsc yX7_grease 1 := by unfold gq_dsc; decide +kernel
theorem iq_X7_grease_X7 : ∀ w ∈ u_ws RX7 TX7 30, w ∈ wsX7_grease := by decide +kernel
theorem fq_X7_grease_22 : Cond.fieldLink RX7 22 (TX7 6).1 (TX7 6).2.1 (TX7 6).2.2.1 ∈ wsX7_grease := by decide +kernel
def wq_X7_grease (a1 : Int32) (σ : gq_M) (Q : Int32 → gq_M → Prop) : Prop := wq_X7_isPleat a1 σ (fun r1 σ2 => ((¬ r1 = 0 → wq_X7_has (σ2.1 5 10) a1 σ2 (fun r4 σ5 => ((r4 = 0 → wq_X7_keepAct σ5 (fun σ8 => wq_X7_costs a1 ((gq_put σ8 5 10 ((σ8.1 5 10) ||| ((1 : Int32) <<< (a1 &&& 31)))).1 5 11) ((gq_put σ8 5 10 ((σ8.1 5 10) ||| ((1 : Int32) <<< (a1 &&& 31)))).1 5 10) ((gq_put σ8 5 10 ((σ8.1 5 10) ||| ((1 : Int32) <<< (a1 &&& 31)))).1 5 12) (gq_put σ8 5 10 ((σ8.1 5 10) ||| ((1 : Int32) <<< (a1 &&& 31)))) (fun r9 σ10 => Q r9 σ10))) ∧ (¬ r4 = 0 → Q (-3) σ5)))) ∧ (r1 = 0 → Q (-1) σ2)))
set_option maxRecDepth 100000 in
set_option maxHeartbeats 4000000 in
theorem tq_X7_grease {p : Program} {l : Launch} {e : Env} {s : State} {m : MethodId} {args : Array Value} {below : List Frame} {meth : Method} {c : Code} {D : va_G} {cyI cyZ : ClassId} {ad : Nat → Nat} {Q : Int32 → gq_M → Prop} (C : gq_C p s m args meth c cX7_grease 2 RX7 wsX7_grease D (gm_T cyI cyZ) 17 ad (some .int)) (a1 : Int32) (σ : gq_M) (h : wq_X7_grease a1 σ Q) : gq_G p l e rq_X7_grease s m args below meth c (gq_Ri below args s D (gm_T cyI cyZ) 17 ad (gm_S cyI cyZ ad) Q) D 17 ad (gm_S cyI cyZ ad) 2 σ 0 [(0, .ref (ad 0)), (1, .int a1)] [] := by
  unfold wq_X7_grease at h
  refine gq_aload_n (j := 0) C dX7_grease_0 rfl ?_
  refine gq_iload_n (j := 1) C dX7_grease_1 rfl ?_
  refine gq_vi (i := 0) C gms_0 rfl [.int a1] (mq_X7_isPleat C.2.2.1 a1 σ _ h) gX7_grease_X7_isPleat rfl rfl dq_X7_isPleat ⟨rfl, rfl, by decide, by decide⟩ rfl rfl (Nat.le_of_ble_eq_true rfl) dX7_grease_2 (fun r1 σ2 h => ?_)
  refine gq_if_ne (tgt := 10) C dX7_grease_5 (by decide) (fun c3 => ?_) (fun c3 => ?_)
  · have h := h.1 c3
    refine gq_aload_n (j := 0) C dX7_grease_10 rfl ?_
    refine gq_get (v := .ref (ad 5)) (i := 0) C gms_0 rfl iq_X7_grease_X7 6 (by decide) fq_X7_grease_22 rfl dX7_grease_11 ?_
    refine gq_bipush (v := 10) C dX7_grease_14 (by decide) ?_
    refine gq_iald (i := 5) (j := 10) C gms_5 0 rfl (by decide) (vp_in_iff.mpr ⟨by decide, by decide⟩) dX7_grease_16 ?_
    refine gq_iload_n (j := 1) C dX7_grease_17 rfl ?_
    refine gq_si C [.int (σ2.1 5 10), .int a1] (mq_X7_has C.2.2.1 (σ2.1 5 10) a1 σ2 _ h) gX7_grease_X7_has rfl dq_X7_has ⟨rfl, rfl, by decide, by decide⟩ rfl rfl (Nat.le_of_ble_eq_true rfl) dX7_grease_18 (fun r4 σ5 h => ?_)
    refine gq_if_eq (tgt := 27) C dX7_grease_21 (by decide) (fun c6 => ?_) (fun c6 => ?_)
    · have h := h.1 c6
      refine gq_aload_n (j := 0) C dX7_grease_27 rfl ?_
      refine gq_vv (i := 0) C gms_0 rfl [] (mq_X7_keepAct C.2.2.1 σ5 _ h) gX7_grease_X7_keepAct rfl rfl dq_X7_keepAct ⟨rfl, rfl, by decide, by decide⟩ rfl rfl (Nat.le_of_ble_eq_true rfl) dX7_grease_28 (fun σ8 h => ?_)
      refine gq_aload_n (j := 0) C dX7_grease_31 rfl ?_
      refine gq_get (v := .ref (ad 5)) (i := 0) C gms_0 rfl iq_X7_grease_X7 6 (by decide) fq_X7_grease_22 rfl dX7_grease_32 ?_
      refine gq_bipush (v := 10) C dX7_grease_35 (by decide) ?_
      refine gq_dup2 C dX7_grease_37 rfl rfl ?_
      refine gq_iald (i := 5) (j := 10) C gms_5 0 rfl (by decide) (vp_in_iff.mpr ⟨by decide, by decide⟩) dX7_grease_38 ?_
      refine gq_iconst (v := 1) C dX7_grease_39 (by decide) ?_
      refine gq_iload_n (j := 1) C dX7_grease_40 rfl ?_
      refine gq_ishl C dX7_grease_41 ?_
      refine gq_ior C dX7_grease_42 ?_
      refine gq_iast (i := 5) (j := 10) C gms_5 0 rfl (by decide) (vp_in_iff.mpr ⟨by decide, by decide⟩) dX7_grease_43 ?_
      refine gq_aload_n (j := 0) C dX7_grease_44 rfl ?_
      refine gq_iload_n (j := 1) C dX7_grease_45 rfl ?_
      refine gq_aload_n (j := 0) C dX7_grease_46 rfl ?_
      refine gq_get (v := .ref (ad 5)) (i := 0) C gms_0 rfl iq_X7_grease_X7 6 (by decide) fq_X7_grease_22 rfl dX7_grease_47 ?_
      refine gq_bipush (v := 11) C dX7_grease_50 (by decide) ?_
      refine gq_iald (i := 5) (j := 11) C gms_5 0 rfl (by decide) (vp_in_iff.mpr ⟨by decide, by decide⟩) dX7_grease_52 ?_
      refine gq_aload_n (j := 0) C dX7_grease_53 rfl ?_
      refine gq_get (v := .ref (ad 5)) (i := 0) C gms_0 rfl iq_X7_grease_X7 6 (by decide) fq_X7_grease_22 rfl dX7_grease_54 ?_
      refine gq_bipush (v := 10) C dX7_grease_57 (by decide) ?_
      refine gq_iald (i := 5) (j := 10) C gms_5 0 rfl (by decide) (vp_in_iff.mpr ⟨by decide, by decide⟩) dX7_grease_59 ?_
      refine gq_aload_n (j := 0) C dX7_grease_60 rfl ?_
      refine gq_get (v := .ref (ad 5)) (i := 0) C gms_0 rfl iq_X7_grease_X7 6 (by decide) fq_X7_grease_22 rfl dX7_grease_61 ?_
      refine gq_bipush (v := 12) C dX7_grease_64 (by decide) ?_
      refine gq_iald (i := 5) (j := 12) C gms_5 0 rfl (by decide) (vp_in_iff.mpr ⟨by decide, by decide⟩) dX7_grease_66 ?_
      refine gq_vi (i := 0) C gms_0 rfl [.int a1, .int ((gq_put σ8 5 10 ((σ8.1 5 10) ||| ((1 : Int32) <<< (a1 &&& 31)))).1 5 11), .int ((gq_put σ8 5 10 ((σ8.1 5 10) ||| ((1 : Int32) <<< (a1 &&& 31)))).1 5 10), .int ((gq_put σ8 5 10 ((σ8.1 5 10) ||| ((1 : Int32) <<< (a1 &&& 31)))).1 5 12)] (mq_X7_costs C.2.2.1 a1 ((gq_put σ8 5 10 ((σ8.1 5 10) ||| ((1 : Int32) <<< (a1 &&& 31)))).1 5 11) ((gq_put σ8 5 10 ((σ8.1 5 10) ||| ((1 : Int32) <<< (a1 &&& 31)))).1 5 10) ((gq_put σ8 5 10 ((σ8.1 5 10) ||| ((1 : Int32) <<< (a1 &&& 31)))).1 5 12) (gq_put σ8 5 10 ((σ8.1 5 10) ||| ((1 : Int32) <<< (a1 &&& 31)))) _ h) gX7_grease_X7_costs rfl rfl dq_X7_costs ⟨rfl, rfl, by decide, by decide⟩ rfl rfl (Nat.le_of_ble_eq_true rfl) dX7_grease_67 (fun r9 σ10 h => ?_)
      exact gq_iret C h dX7_grease_70
    · have h := h.2 c6
      refine gq_bipush (v := (-3)) C dX7_grease_24 (by decide) ?_
      exact gq_iret C h dX7_grease_26
  · have h := h.2 c3
    refine gq_iconst (v := (-1)) C dX7_grease_8 (by decide) ?_
    exact gq_iret C h dX7_grease_9
theorem mq_X7_grease {l : Launch} {D : va_G} {cyI cyZ : ClassId} {ad : Nat → Nat} (hap : gq_ap 17 ad) (a1 : Int32) (σ : gq_M) (Q : Int32 → gq_M → Prop) (h : wq_X7_grease a1 σ Q) : Met l yX7_grease wsX7_grease rq_X7_grease (va_Pc [.ref (ad 0), .int a1] (gq_P D (gm_T cyI cyZ) 17 ad (gm_S cyI cyZ ad) σ)) (va_Qi Q (gq_P D (gm_T cyI cyZ) 17 ad (gm_S cyI cyZ ad)) (gq_A 17 ad)) 0 0 (gq_A 17 ad) :=
  gq_met hap (by decide) rfl rfl (Nat.le_of_ble_eq_true rfl) (fun _ _ _ _ _ _ _ C => tq_X7_grease C a1 σ h)
abbrev rq_X7_freeze : Room := { frames := 1, cells := 0, slots := 0, locals := 21 }
theorem dq_X7_freeze : gq_dsc yX7_freeze 0 := by unfold gq_dsc; decide +kernel
theorem iq_X7_freeze_X7 : ∀ w ∈ u_ws RX7 TX7 30, w ∈ wsX7_freeze := by decide +kernel
theorem fq_X7_freeze_22 : Cond.fieldLink RX7 22 (TX7 6).1 (TX7 6).2.1 (TX7 6).2.2.1 ∈ wsX7_freeze := by decide +kernel
def wq_X7_freeze (σ : gq_M) (Q : Int32 → gq_M → Prop) : Prop := ((¬ (σ.1 5 12) = 5 → wq_X7_keepAct σ (fun σ3 => Q ((gq_put σ3 5 12 ((σ3.1 5 12) + 1)).1 5 12) (gq_put σ3 5 12 ((σ3.1 5 12) + 1)))) ∧ ((σ.1 5 12) = 5 → Q (-3) σ))
set_option maxRecDepth 100000 in
set_option maxHeartbeats 4000000 in
theorem tq_X7_freeze {p : Program} {l : Launch} {e : Env} {s : State} {m : MethodId} {args : Array Value} {below : List Frame} {meth : Method} {c : Code} {D : va_G} {cyI cyZ : ClassId} {ad : Nat → Nat} {Q : Int32 → gq_M → Prop} (C : gq_C p s m args meth c cX7_freeze 1 RX7 wsX7_freeze D (gm_T cyI cyZ) 17 ad (some .int)) (σ : gq_M) (h : wq_X7_freeze σ Q) : gq_G p l e rq_X7_freeze s m args below meth c (gq_Ri below args s D (gm_T cyI cyZ) 17 ad (gm_S cyI cyZ ad) Q) D 17 ad (gm_S cyI cyZ ad) 1 σ 0 [(0, .ref (ad 0))] [] := by
  unfold wq_X7_freeze at h
  refine gq_aload_n (j := 0) C dX7_freeze_0 rfl ?_
  refine gq_get (v := .ref (ad 5)) (i := 0) C gms_0 rfl iq_X7_freeze_X7 6 (by decide) fq_X7_freeze_22 rfl dX7_freeze_1 ?_
  refine gq_bipush (v := 12) C dX7_freeze_4 (by decide) ?_
  refine gq_iald (i := 5) (j := 12) C gms_5 0 rfl (by decide) (vp_in_iff.mpr ⟨by decide, by decide⟩) dX7_freeze_6 ?_
  refine gq_iconst (v := 5) C dX7_freeze_7 (by decide) ?_
  refine gq_icmp_ne (tgt := 14) C dX7_freeze_8 (by decide) (fun c1 => ?_) (fun c1 => ?_)
  · have h := h.1 c1
    refine gq_aload_n (j := 0) C dX7_freeze_14 rfl ?_
    refine gq_vv (i := 0) C gms_0 rfl [] (mq_X7_keepAct C.2.2.1 σ _ h) gX7_freeze_X7_keepAct rfl rfl dq_X7_keepAct ⟨rfl, rfl, by decide, by decide⟩ rfl rfl (Nat.le_of_ble_eq_true rfl) dX7_freeze_15 (fun σ3 h => ?_)
    refine gq_aload_n (j := 0) C dX7_freeze_18 rfl ?_
    refine gq_get (v := .ref (ad 5)) (i := 0) C gms_0 rfl iq_X7_freeze_X7 6 (by decide) fq_X7_freeze_22 rfl dX7_freeze_19 ?_
    refine gq_bipush (v := 12) C dX7_freeze_22 (by decide) ?_
    refine gq_dup2 C dX7_freeze_24 rfl rfl ?_
    refine gq_iald (i := 5) (j := 12) C gms_5 0 rfl (by decide) (vp_in_iff.mpr ⟨by decide, by decide⟩) dX7_freeze_25 ?_
    refine gq_iconst (v := 1) C dX7_freeze_26 (by decide) ?_
    refine gq_iadd C dX7_freeze_27 ?_
    refine gq_iast (i := 5) (j := 12) C gms_5 0 rfl (by decide) (vp_in_iff.mpr ⟨by decide, by decide⟩) dX7_freeze_28 ?_
    refine gq_aload_n (j := 0) C dX7_freeze_29 rfl ?_
    refine gq_get (v := .ref (ad 5)) (i := 0) C gms_0 rfl iq_X7_freeze_X7 6 (by decide) fq_X7_freeze_22 rfl dX7_freeze_30 ?_
    refine gq_bipush (v := 12) C dX7_freeze_33 (by decide) ?_
    refine gq_iald (i := 5) (j := 12) C gms_5 0 rfl (by decide) (vp_in_iff.mpr ⟨by decide, by decide⟩) dX7_freeze_35 ?_
    exact gq_iret C h dX7_freeze_36
  · have h := h.2 c1
    refine gq_bipush (v := (-3)) C dX7_freeze_11 (by decide) ?_
    exact gq_iret C h dX7_freeze_13
theorem mq_X7_freeze {l : Launch} {D : va_G} {cyI cyZ : ClassId} {ad : Nat → Nat} (hap : gq_ap 17 ad) (σ : gq_M) (Q : Int32 → gq_M → Prop) (h : wq_X7_freeze σ Q) : Met l yX7_freeze wsX7_freeze rq_X7_freeze (va_Pc [.ref (ad 0)] (gq_P D (gm_T cyI cyZ) 17 ad (gm_S cyI cyZ ad) σ)) (va_Qi Q (gq_P D (gm_T cyI cyZ) 17 ad (gm_S cyI cyZ ad)) (gq_A 17 ad)) 0 0 (gq_A 17 ad) :=
  gq_met hap (by decide) rfl rfl (Nat.le_of_ble_eq_true rfl) (fun _ _ _ _ _ _ _ C => tq_X7_freeze C σ h)
abbrev rq_X7_thaw : Room := { frames := 1, cells := 0, slots := 0, locals := 21 }
theorem dq_X7_thaw : gq_dsc yX7_thaw 0 := by unfold gq_dsc; decide +kernel
theorem iq_X7_thaw_X7 : ∀ w ∈ u_ws RX7 TX7 30, w ∈ wsX7_thaw := by decide +kernel
theorem fq_X7_thaw_22 : Cond.fieldLink RX7 22 (TX7 6).1 (TX7 6).2.1 (TX7 6).2.2.1 ∈ wsX7_thaw := by decide +kernel
def wq_X7_thaw (σ : gq_M) (Q : Int32 → gq_M → Prop) : Prop := ((¬ (σ.1 5 12) = 0 → wq_X7_keepAct σ (fun σ3 => ∀ v4, v4 = (σ3.1 5 12) → Q v4 (gq_put σ3 5 12 0))) ∧ ((σ.1 5 12) = 0 → Q (-3) σ))
set_option maxRecDepth 100000 in
set_option maxHeartbeats 4000000 in
theorem tq_X7_thaw {p : Program} {l : Launch} {e : Env} {s : State} {m : MethodId} {args : Array Value} {below : List Frame} {meth : Method} {c : Code} {D : va_G} {cyI cyZ : ClassId} {ad : Nat → Nat} {Q : Int32 → gq_M → Prop} (C : gq_C p s m args meth c cX7_thaw 2 RX7 wsX7_thaw D (gm_T cyI cyZ) 17 ad (some .int)) (σ : gq_M) (h : wq_X7_thaw σ Q) : gq_G p l e rq_X7_thaw s m args below meth c (gq_Ri below args s D (gm_T cyI cyZ) 17 ad (gm_S cyI cyZ ad) Q) D 17 ad (gm_S cyI cyZ ad) 2 σ 0 [(0, .ref (ad 0))] [] := by
  unfold wq_X7_thaw at h
  refine gq_aload_n (j := 0) C dX7_thaw_0 rfl ?_
  refine gq_get (v := .ref (ad 5)) (i := 0) C gms_0 rfl iq_X7_thaw_X7 6 (by decide) fq_X7_thaw_22 rfl dX7_thaw_1 ?_
  refine gq_bipush (v := 12) C dX7_thaw_4 (by decide) ?_
  refine gq_iald (i := 5) (j := 12) C gms_5 0 rfl (by decide) (vp_in_iff.mpr ⟨by decide, by decide⟩) dX7_thaw_6 ?_
  refine gq_if_ne (tgt := 13) C dX7_thaw_7 (by decide) (fun c1 => ?_) (fun c1 => ?_)
  · have h := h.1 c1
    refine gq_aload_n (j := 0) C dX7_thaw_13 rfl ?_
    refine gq_vv (i := 0) C gms_0 rfl [] (mq_X7_keepAct C.2.2.1 σ _ h) gX7_thaw_X7_keepAct rfl rfl dq_X7_keepAct ⟨rfl, rfl, by decide, by decide⟩ rfl rfl (Nat.le_of_ble_eq_true rfl) dX7_thaw_14 (fun σ3 h => ?_)
    refine gq_aload_n (j := 0) C dX7_thaw_17 rfl ?_
    refine gq_get (v := .ref (ad 5)) (i := 0) C gms_0 rfl iq_X7_thaw_X7 6 (by decide) fq_X7_thaw_22 rfl dX7_thaw_18 ?_
    refine gq_bipush (v := 12) C dX7_thaw_21 (by decide) ?_
    refine gq_iald (i := 5) (j := 12) C gms_5 0 rfl (by decide) (vp_in_iff.mpr ⟨by decide, by decide⟩) dX7_thaw_23 ?_
    refine gq_topi (fun v4 qv4 => ?_)
    have h := h v4 qv4
    refine gq_istore_n (L' := [(0, .ref (ad 0)), (1, .int v4)]) C [1, 0] dX7_thaw_24 (by decide) rfl ?_
    refine gq_aload_n (j := 0) C dX7_thaw_25 rfl ?_
    refine gq_get (v := .ref (ad 5)) (i := 0) C gms_0 rfl iq_X7_thaw_X7 6 (by decide) fq_X7_thaw_22 rfl dX7_thaw_26 ?_
    refine gq_bipush (v := 12) C dX7_thaw_29 (by decide) ?_
    refine gq_iconst (v := 0) C dX7_thaw_31 (by decide) ?_
    refine gq_iast (i := 5) (j := 12) C gms_5 0 rfl (by decide) (vp_in_iff.mpr ⟨by decide, by decide⟩) dX7_thaw_32 ?_
    refine gq_iload_n (j := 1) C dX7_thaw_33 rfl ?_
    exact gq_iret C h dX7_thaw_34
  · have h := h.2 c1
    refine gq_bipush (v := (-3)) C dX7_thaw_10 (by decide) ?_
    exact gq_iret C h dX7_thaw_12
theorem mq_X7_thaw {l : Launch} {D : va_G} {cyI cyZ : ClassId} {ad : Nat → Nat} (hap : gq_ap 17 ad) (σ : gq_M) (Q : Int32 → gq_M → Prop) (h : wq_X7_thaw σ Q) : Met l yX7_thaw wsX7_thaw rq_X7_thaw (va_Pc [.ref (ad 0)] (gq_P D (gm_T cyI cyZ) 17 ad (gm_S cyI cyZ ad) σ)) (va_Qi Q (gq_P D (gm_T cyI cyZ) 17 ad (gm_S cyI cyZ ad)) (gq_A 17 ad)) 0 0 (gq_A 17 ad) :=
  gq_met hap (by decide) rfl rfl (Nat.le_of_ble_eq_true rfl) (fun _ _ _ _ _ _ _ C => tq_X7_thaw C σ h)
abbrev rq_X7_undo : Room := { frames := 0, cells := 0, slots := 0, locals := 0 }
theorem dq_X7_undo : gq_dsc yX7_undo 0 := by unfold gq_dsc; decide +kernel
theorem iq_X7_undo_X7 : ∀ w ∈ u_ws RX7 TX7 30, w ∈ wsX7_undo := by decide +kernel
theorem fq_X7_undo_102 : Cond.fieldLink RX7 102 (TX7 16).1 (TX7 16).2.1 (TX7 16).2.2.1 ∈ wsX7_undo := by decide +kernel
theorem fq_X7_undo_143 : Cond.fieldLink RX7 143 (TX7 17).1 (TX7 17).2.1 (TX7 17).2.2.1 ∈ wsX7_undo := by decide +kernel
theorem fq_X7_undo_22 : Cond.fieldLink RX7 22 (TX7 6).1 (TX7 6).2.1 (TX7 6).2.2.1 ∈ wsX7_undo := by decide +kernel
theorem fq_X7_undo_34 : Cond.fieldLink RX7 34 (TX7 18).1 (TX7 18).2.1 (TX7 18).2.2.1 ∈ wsX7_undo := by decide +kernel
def wq_X7_undo_l36 (Q : Int32 → gq_M → Prop) (K68 : gq_M → Prop) : Nat → Int32 → gq_M → Prop
  | 0, _, _ => False
  | n + 1, x1, σ => ((14 ≤ x1 → K68 σ) ∧ (¬ 14 ≤ x1 → vp_in ((14 * (σ.1 0 17)) + x1) 196 ∧ vp_in x1 28 ∧ ∀ v3, v3 = (x1 + 1) → wq_X7_undo_l36 Q K68 n v3 (gq_put σ 5 x1.toNatClampNeg (σ.1 9 (((14 * (σ.1 0 17)) + x1)).toNatClampNeg))))
set_option maxRecDepth 100000 in
set_option maxHeartbeats 4000000 in
theorem tq_X7_undo_l36 {p : Program} {l : Launch} {e : Env} {s : State} {m : MethodId} {args : Array Value} {below : List Frame} {meth : Method} {c : Code} {D : va_G} {cyI cyZ : ClassId} {ad : Nat → Nat} {Q : Int32 → gq_M → Prop} {K68 : gq_M → Prop} (C : gq_C p s m args meth c cX7_undo 2 RX7 wsX7_undo D (gm_T cyI cyZ) 17 ad (some .int)) (hK68 : ∀ (τ : gq_M), K68 τ → gq_G p l e rq_X7_undo s m args below meth c (gq_Ri below args s D (gm_T cyI cyZ) 17 ad (gm_S cyI cyZ ad) Q) D 17 ad (gm_S cyI cyZ ad) 2 τ 68 [(0, .ref (ad 0))] []) : ∀ (n : Nat) (x1 : Int32) (σ : gq_M), wq_X7_undo_l36 Q K68 n x1 σ → gq_G p l e rq_X7_undo s m args below meth c (gq_Ri below args s D (gm_T cyI cyZ) 17 ad (gm_S cyI cyZ ad) Q) D 17 ad (gm_S cyI cyZ ad) 2 σ 36 [(0, .ref (ad 0)), (1, .int x1)] [] := by
  intro n
  induction n with
  | zero =>
    intro x1 σ h
    exact absurd h (fun q => q)
  | succ n ih =>
    intro x1 σ h
    unfold wq_X7_undo_l36 at h
    refine gq_iload_n (j := 1) C dX7_undo_36 rfl ?_
    refine gq_bipush (v := 14) C dX7_undo_37 (by decide) ?_
    refine gq_icmp_ge (tgt := 68) C dX7_undo_39 (by decide) (fun c2 => ?_) (fun c2 => ?_)
    · have h := h.1 c2
      refine gq_sub [0] rfl ?_
      exact hK68  _ h
    · have h := h.2 c2
      refine gq_aload_n (j := 0) C dX7_undo_42 rfl ?_
      refine gq_get (v := .ref (ad 5)) (i := 0) C gms_0 rfl iq_X7_undo_X7 6 (by decide) fq_X7_undo_22 rfl dX7_undo_43 ?_
      refine gq_iload_n (j := 1) C dX7_undo_46 rfl ?_
      refine gq_aload_n (j := 0) C dX7_undo_47 rfl ?_
      refine gq_get (v := .ref (ad 9)) (i := 0) C gms_0 rfl iq_X7_undo_X7 18 (by decide) fq_X7_undo_34 rfl dX7_undo_48 ?_
      refine gq_bipush (v := 14) C dX7_undo_51 (by decide) ?_
      refine gq_aload_n (j := 0) C dX7_undo_53 rfl ?_
      refine gq_get (v := .int (σ.1 0 17)) (i := 0) C gms_0 rfl iq_X7_undo_X7 17 (by decide) fq_X7_undo_143 rfl dX7_undo_54 ?_
      refine gq_imul C dX7_undo_57 ?_
      refine gq_iload_n (j := 1) C dX7_undo_58 rfl ?_
      refine gq_iadd C dX7_undo_59 ?_
      refine gq_iald (i := 9) (j := (((14 * (σ.1 0 17)) + x1)).toNatClampNeg) C gms_9 0 rfl rfl h.1 dX7_undo_60 ?_
      have h := h.2
      refine gq_iast (i := 5) (j := x1.toNatClampNeg) C gms_5 0 rfl rfl h.1 dX7_undo_61 ?_
      have h := h.2
      obtain ⟨v3, qv3⟩ : ∃ y : Int32, y = (x1 + 1) := ⟨_, rfl⟩
      have h := h v3 qv3
      refine gq_iinc (j := 1) (v := v3) (L' := [(0, .ref (ad 0)), (1, .int v3)]) C [1, 0] dX7_undo_62 rfl (by rw [qv3]; rfl) (by decide) rfl ?_
      refine gq_goto (tgt := 36) C dX7_undo_65 (by decide) ?_
      exact ih _ _ h
def wq_X7_undo (σ : gq_M) (Q : Int32 → gq_M → Prop) : Prop := ((¬ (σ.1 0 16) = 0 → (∃ n5, wq_X7_undo_l36 Q (fun σ4 => Q (σ4.1 0 16) σ4) n5 0 (gq_put (gq_put σ 0 16 ((σ.1 0 16) - 1)) 0 17 (((((gq_put σ 0 16 ((σ.1 0 16) - 1))).1 0 17) + 13) - ((((gq_put σ 0 16 ((σ.1 0 16) - 1))).1 0 17) + 13) / 14 * 14)))) ∧ ((σ.1 0 16) = 0 → Q (-3) σ))
set_option maxRecDepth 100000 in
set_option maxHeartbeats 4000000 in
theorem tq_X7_undo {p : Program} {l : Launch} {e : Env} {s : State} {m : MethodId} {args : Array Value} {below : List Frame} {meth : Method} {c : Code} {D : va_G} {cyI cyZ : ClassId} {ad : Nat → Nat} {Q : Int32 → gq_M → Prop} (C : gq_C p s m args meth c cX7_undo 2 RX7 wsX7_undo D (gm_T cyI cyZ) 17 ad (some .int)) (σ : gq_M) (h : wq_X7_undo σ Q) : gq_G p l e rq_X7_undo s m args below meth c (gq_Ri below args s D (gm_T cyI cyZ) 17 ad (gm_S cyI cyZ ad) Q) D 17 ad (gm_S cyI cyZ ad) 2 σ 0 [(0, .ref (ad 0))] [] := by
  unfold wq_X7_undo at h
  refine gq_aload_n (j := 0) C dX7_undo_0 rfl ?_
  refine gq_get (v := .int (σ.1 0 16)) (i := 0) C gms_0 rfl iq_X7_undo_X7 16 (by decide) fq_X7_undo_102 rfl dX7_undo_1 ?_
  refine gq_if_ne (tgt := 10) C dX7_undo_4 (by decide) (fun c1 => ?_) (fun c1 => ?_)
  · have h := h.1 c1
    refine gq_aload_n (j := 0) C dX7_undo_10 rfl ?_
    refine gq_dup C dX7_undo_11 rfl ?_
    refine gq_get (v := .int (σ.1 0 16)) (i := 0) C gms_0 rfl iq_X7_undo_X7 16 (by decide) fq_X7_undo_102 rfl dX7_undo_12 ?_
    refine gq_iconst (v := 1) C dX7_undo_15 (by decide) ?_
    refine gq_isub C dX7_undo_16 ?_
    refine gq_puti (i := 0) C gms_0 rfl iq_X7_undo_X7 tyX7 tyX7_ok nmX7 16 (by decide) fq_X7_undo_102 rfl rfl rfl (fun _ _ => Nat.le_of_ble_eq_true rfl) gs_X7_16 dX7_undo_17 ?_
    refine gq_aload_n (j := 0) C dX7_undo_20 rfl ?_
    refine gq_aload_n (j := 0) C dX7_undo_21 rfl ?_
    refine gq_get (v := .int (((gq_put σ 0 16 ((σ.1 0 16) - 1))).1 0 17)) (i := 0) C gms_0 rfl iq_X7_undo_X7 17 (by decide) fq_X7_undo_143 rfl dX7_undo_22 ?_
    refine gq_bipush (v := 13) C dX7_undo_25 (by decide) ?_
    refine gq_iadd C dX7_undo_27 ?_
    refine gq_bipush (v := 14) C dX7_undo_28 (by decide) ?_
    refine gq_irem C dX7_undo_30 (by decide) ?_
    refine gq_puti (i := 0) C gms_0 rfl iq_X7_undo_X7 tyX7 tyX7_ok nmX7 17 (by decide) fq_X7_undo_143 rfl rfl rfl (fun _ _ => Nat.le_of_ble_eq_true rfl) gs_X7_17 dX7_undo_31 ?_
    refine gq_iconst (v := 0) C dX7_undo_34 (by decide) ?_
    refine gq_istore_n (L' := [(0, .ref (ad 0)), (1, .int 0)]) C [1, 0] dX7_undo_35 (by decide) rfl ?_
    obtain ⟨n5, h⟩ := h
    refine tq_X7_undo_l36 C (fun σ4 h => ?_) n5 _ _ h
    refine gq_aload_n (j := 0) C dX7_undo_68 rfl ?_
    refine gq_get (v := .int (σ4.1 0 16)) (i := 0) C gms_0 rfl iq_X7_undo_X7 16 (by decide) fq_X7_undo_102 rfl dX7_undo_69 ?_
    exact gq_iret C h dX7_undo_72
  · have h := h.2 c1
    refine gq_bipush (v := (-3)) C dX7_undo_7 (by decide) ?_
    exact gq_iret C h dX7_undo_9
theorem mq_X7_undo {l : Launch} {D : va_G} {cyI cyZ : ClassId} {ad : Nat → Nat} (hap : gq_ap 17 ad) (σ : gq_M) (Q : Int32 → gq_M → Prop) (h : wq_X7_undo σ Q) : Met l yX7_undo wsX7_undo rq_X7_undo (va_Pc [.ref (ad 0)] (gq_P D (gm_T cyI cyZ) 17 ad (gm_S cyI cyZ ad) σ)) (va_Qi Q (gq_P D (gm_T cyI cyZ) 17 ad (gm_S cyI cyZ ad)) (gq_A 17 ad)) 0 0 (gq_A 17 ad) :=
  gq_met hap (by decide) rfl rfl (Nat.le_of_ble_eq_true rfl) (fun _ _ _ _ _ _ _ C => tq_X7_undo C σ h)
abbrev rq_X7_meetState : Room := { frames := 0, cells := 0, slots := 0, locals := 0 }
theorem dq_X7_meetState : gq_dsc yX7_meetState 4 := by unfold gq_dsc; decide +kernel
theorem iq_X7_meetState_X7 : ∀ w ∈ u_ws RX7 TX7 30, w ∈ wsX7_meetState := by decide +kernel
theorem fq_X7_meetState_37 : Cond.fieldLink RX7 37 (TX7 19).1 (TX7 19).2.1 (TX7 19).2.2.1 ∈ wsX7_meetState := by decide +kernel
theorem fq_X7_meetState_40 : Cond.fieldLink RX7 40 (TX7 20).1 (TX7 20).2.1 (TX7 20).2.2.1 ∈ wsX7_meetState := by decide +kernel
theorem fq_X7_meetState_161 : Cond.fieldLink RX7 161 (TX7 21).1 (TX7 21).2.1 (TX7 21).2.2.1 ∈ wsX7_meetState := by decide +kernel
def wq_X7_meetState (a1 : Int32) (a2 : Int32) (a3 : Int32) (a4 : Int32) (σ : gq_M) (Q : gq_M → Prop) : Prop := ∀ v1, v1 = (((110 * a1) + (11 * a2)) + a3) → vp_in v1 1210 ∧ ((¬ (σ.1 10 v1.toNatClampNeg) = (-9) → Q σ) ∧ ((σ.1 10 v1.toNatClampNeg) = (-9) → vp_in v1 1210 ∧ vp_in (((gq_put σ 10 v1.toNatClampNeg a4)).1 0 21) 1210 ∧ Q (gq_put (gq_put (gq_put σ 10 v1.toNatClampNeg a4) 11 ((((gq_put σ 10 v1.toNatClampNeg a4)).1 0 21)).toNatClampNeg v1) 0 21 ((((gq_put (gq_put σ 10 v1.toNatClampNeg a4) 11 ((((gq_put σ 10 v1.toNatClampNeg a4)).1 0 21)).toNatClampNeg v1)).1 0 21) + 1))))
set_option maxRecDepth 100000 in
set_option maxHeartbeats 4000000 in
theorem tq_X7_meetState {p : Program} {l : Launch} {e : Env} {s : State} {m : MethodId} {args : Array Value} {below : List Frame} {meth : Method} {c : Code} {D : va_G} {cyI cyZ : ClassId} {ad : Nat → Nat} {Q : gq_M → Prop} (C : gq_C p s m args meth c cX7_meetState 6 RX7 wsX7_meetState D (gm_T cyI cyZ) 17 ad none) (a1 : Int32) (a2 : Int32) (a3 : Int32) (a4 : Int32) (σ : gq_M) (h : wq_X7_meetState a1 a2 a3 a4 σ Q) : gq_G p l e rq_X7_meetState s m args below meth c (gq_Rv below args s D (gm_T cyI cyZ) 17 ad (gm_S cyI cyZ ad) Q) D 17 ad (gm_S cyI cyZ ad) 6 σ 0 [(0, .ref (ad 0)), (1, .int a1), (2, .int a2), (3, .int a3), (4, .int a4)] [] := by
  unfold wq_X7_meetState at h
  refine gq_bipush (v := 110) C dX7_meetState_0 (by decide) ?_
  refine gq_iload_n (j := 1) C dX7_meetState_2 rfl ?_
  refine gq_imul C dX7_meetState_3 ?_
  refine gq_bipush (v := 11) C dX7_meetState_4 (by decide) ?_
  refine gq_iload_n (j := 2) C dX7_meetState_6 rfl ?_
  refine gq_imul C dX7_meetState_7 ?_
  refine gq_iadd C dX7_meetState_8 ?_
  refine gq_iload_n (j := 3) C dX7_meetState_9 rfl ?_
  refine gq_iadd C dX7_meetState_10 ?_
  refine gq_topi (fun v1 qv1 => ?_)
  have h := h v1 qv1
  refine gq_istore (L' := [(0, .ref (ad 0)), (1, .int a1), (2, .int a2), (3, .int a3), (4, .int a4), (5, .int v1)]) C [1, 2, 3, 4, 5, 0] dX7_meetState_11 (by decide) rfl ?_
  refine gq_aload_n (j := 0) C dX7_meetState_13 rfl ?_
  refine gq_get (v := .ref (ad 10)) (i := 0) C gms_0 rfl iq_X7_meetState_X7 19 (by decide) fq_X7_meetState_37 rfl dX7_meetState_14 ?_
  refine gq_iload (j := 5) C dX7_meetState_17 rfl ?_
  refine gq_iald (i := 10) (j := v1.toNatClampNeg) C gms_10 0 rfl rfl h.1 dX7_meetState_19 ?_
  have h := h.2
  refine gq_bipush (v := (-9)) C dX7_meetState_20 (by decide) ?_
  refine gq_icmp_ne (tgt := 55) C dX7_meetState_22 (by decide) (fun c2 => ?_) (fun c2 => ?_)
  · have h := h.1 c2
    exact gq_vret C h dX7_meetState_55
  · have h := h.2 c2
    refine gq_aload_n (j := 0) C dX7_meetState_25 rfl ?_
    refine gq_get (v := .ref (ad 10)) (i := 0) C gms_0 rfl iq_X7_meetState_X7 19 (by decide) fq_X7_meetState_37 rfl dX7_meetState_26 ?_
    refine gq_iload (j := 5) C dX7_meetState_29 rfl ?_
    refine gq_iload (j := 4) C dX7_meetState_31 rfl ?_
    refine gq_iast (i := 10) (j := v1.toNatClampNeg) C gms_10 0 rfl rfl h.1 dX7_meetState_33 ?_
    have h := h.2
    refine gq_aload_n (j := 0) C dX7_meetState_34 rfl ?_
    refine gq_get (v := .ref (ad 11)) (i := 0) C gms_0 rfl iq_X7_meetState_X7 20 (by decide) fq_X7_meetState_40 rfl dX7_meetState_35 ?_
    refine gq_aload_n (j := 0) C dX7_meetState_38 rfl ?_
    refine gq_get (v := .int (((gq_put σ 10 v1.toNatClampNeg a4)).1 0 21)) (i := 0) C gms_0 rfl iq_X7_meetState_X7 21 (by decide) fq_X7_meetState_161 rfl dX7_meetState_39 ?_
    refine gq_iload (j := 5) C dX7_meetState_42 rfl ?_
    refine gq_iast (i := 11) (j := ((((gq_put σ 10 v1.toNatClampNeg a4)).1 0 21)).toNatClampNeg) C gms_11 0 rfl rfl h.1 dX7_meetState_44 ?_
    have h := h.2
    refine gq_aload_n (j := 0) C dX7_meetState_45 rfl ?_
    refine gq_dup C dX7_meetState_46 rfl ?_
    refine gq_get (v := .int (((gq_put (gq_put σ 10 v1.toNatClampNeg a4) 11 ((((gq_put σ 10 v1.toNatClampNeg a4)).1 0 21)).toNatClampNeg v1)).1 0 21)) (i := 0) C gms_0 rfl iq_X7_meetState_X7 21 (by decide) fq_X7_meetState_161 rfl dX7_meetState_47 ?_
    refine gq_iconst (v := 1) C dX7_meetState_50 (by decide) ?_
    refine gq_iadd C dX7_meetState_51 ?_
    refine gq_puti (i := 0) C gms_0 rfl iq_X7_meetState_X7 tyX7 tyX7_ok nmX7 21 (by decide) fq_X7_meetState_161 rfl rfl rfl (fun _ _ => Nat.le_of_ble_eq_true rfl) gs_X7_21 dX7_meetState_52 ?_
    exact gq_vret C h dX7_meetState_55
theorem mq_X7_meetState {l : Launch} {D : va_G} {cyI cyZ : ClassId} {ad : Nat → Nat} (hap : gq_ap 17 ad) (a1 : Int32) (a2 : Int32) (a3 : Int32) (a4 : Int32) (σ : gq_M) (Q : gq_M → Prop) (h : wq_X7_meetState a1 a2 a3 a4 σ Q) : Met l yX7_meetState wsX7_meetState rq_X7_meetState (va_Pc [.ref (ad 0), .int a1, .int a2, .int a3, .int a4] (gq_P D (gm_T cyI cyZ) 17 ad (gm_S cyI cyZ ad) σ)) (va_Qv Q (gq_P D (gm_T cyI cyZ) 17 ad (gm_S cyI cyZ ad)) (gq_A 17 ad)) 0 0 (gq_A 17 ad) :=
  gq_met hap (by decide) rfl rfl (Nat.le_of_ble_eq_true rfl) (fun _ _ _ _ _ _ _ C => tq_X7_meetState C a1 a2 a3 a4 σ h)
