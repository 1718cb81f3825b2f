/-! ===== walks of X4_freezeIfItCan, X4_doTold, X4_doDrawn, X4_placesTogether, X4_placesTaken, X4_windTogether, X5_modeAt, X5_prepare, J7_fill_53178, X5_beginAt (by wip/gen) ===== -/
abbrev rq_X4_freezeIfItCan : Room := { frames := 1, cells := 0, slots := 0, locals := 20 }
theorem dq_X4_freezeIfItCan : gq_dsc yX4_freezeIfItCan 0 := by unfold gq_dsc; decide +kernel
theorem iq_X4_freezeIfItCan_X4 : ∀ w ∈ u_ws RX4 TX4 7, w ∈ wsX4_freezeIfItCan := by decide +kernel
theorem fq_X4_freezeIfItCan_44 : Cond.fieldLink RX4 44 (TX4 5).1 (TX4 5).2.1 (TX4 5).2.2.1 ∈ wsX4_freezeIfItCan := by decide +kernel
def wq_X4_freezeIfItCan (z : Nat) (σ : gq_M) (Q : Int32 → gq_M → Prop) : Prop := wq_X4_canFreeze z σ (fun r1 σ2 => ((r1 = 0 → (gq_b r1 ∧ Q r1 σ2)) ∧ (¬ r1 = 0 → (gq_b r1 ∧ Q r1 (gq_put σ2 z 5 ((σ2.1 z 5) + 1))))))
set_option maxRecDepth 100000 in
set_option maxHeartbeats 4000000 in
theorem tq_X4_freezeIfItCan {p : Program} {l : Launch} {e : Env} {s : State} {m : MethodId} {args : Array Value} {below : List Frame} {meth : Method} {c : Code} {D : va_G} {cyI cyZ cyS : ClassId} {ad : Nat → Nat} {z : Nat} {Q : Int32 → gq_M → Prop} (C : gq_C p s m args meth c cX4_freezeIfItCan 2 RX4 wsX4_freezeIfItCan D (gc_T cyI cyZ cyS) 84 ad (some .boolean)) (hz : gs_z z) (σ : gq_M) (h : wq_X4_freezeIfItCan z σ Q) : gq_G p l e rq_X4_freezeIfItCan s m args below meth c (gq_Ri below args s D (gc_T cyI cyZ cyS) 84 ad (gc_S cyI cyZ cyS ad) Q) D 84 ad (gc_S cyI cyZ cyS ad) 2 σ 0 [(0, .ref (ad z))] [] := by
  unfold wq_X4_freezeIfItCan at h
  refine gq_aload_n (j := 0) C dX4_freezeIfItCan_0 rfl ?_
  refine gq_vi (i := z) C (gcs_X4 hz) rfl [] (mq_X4_canFreeze C.2.2.1 hz σ _ h) gX4_freezeIfItCan_X4_canFreeze rfl rfl dq_X4_canFreeze ⟨rfl, rfl, by decide, by decide⟩ rfl rfl (Nat.le_of_ble_eq_true rfl) dX4_freezeIfItCan_1 (fun r1 σ2 h => ?_)
  refine gq_istore_n (L' := [(0, .ref (ad z)), (1, .int r1)]) C [1, 0] dX4_freezeIfItCan_4 (by decide) rfl ?_
  refine gq_iload_n (j := 1) C dX4_freezeIfItCan_5 rfl ?_
  refine gq_if_eq (tgt := 19) C dX4_freezeIfItCan_6 (by decide) (fun c3 => ?_) (fun c3 => ?_)
  · have h := h.1 c3
    refine gq_iload_n (j := 1) C dX4_freezeIfItCan_19 rfl ?_
    exact gq_zret C h.1 h.2 dX4_freezeIfItCan_20
  · have h := h.2 c3
    refine gq_aload_n (j := 0) C dX4_freezeIfItCan_9 rfl ?_
    refine gq_dup C dX4_freezeIfItCan_10 rfl ?_
    refine gq_get (v := .int (σ2.1 z 5)) (i := z) C (gcs_X4 hz) rfl iq_X4_freezeIfItCan_X4 5 (by decide) fq_X4_freezeIfItCan_44 rfl dX4_freezeIfItCan_11 ?_
    refine gq_iconst (v := 1) C dX4_freezeIfItCan_14 (by decide) ?_
    refine gq_iadd C dX4_freezeIfItCan_15 ?_
    refine gq_puti (i := z) C (gcs_X4 hz) rfl iq_X4_freezeIfItCan_X4 tyX4 tyX4_ok nmX4 5 (by decide) fq_X4_freezeIfItCan_44 rfl rfl rfl (fun _ _ => Nat.le_of_ble_eq_true rfl) gs_X4_5 dX4_freezeIfItCan_16 ?_
    refine gq_iload_n (j := 1) C dX4_freezeIfItCan_19 rfl ?_
    exact gq_zret C h.1 h.2 dX4_freezeIfItCan_20
theorem mq_X4_freezeIfItCan {l : Launch} {D : va_G} {cyI cyZ cyS : ClassId} {ad : Nat → Nat} (hap : gq_ap 84 ad) {z : Nat} (hz : gs_z z) (σ : gq_M) (Q : Int32 → gq_M → Prop) (h : wq_X4_freezeIfItCan z σ Q) : Met l yX4_freezeIfItCan wsX4_freezeIfItCan rq_X4_freezeIfItCan (va_Pc [.ref (ad z)] (gq_P D (gc_T cyI cyZ cyS) 84 ad (gc_S cyI cyZ cyS ad) σ)) (va_Qi Q (gq_P D (gc_T cyI cyZ cyS) 84 ad (gc_S cyI cyZ cyS ad)) (gq_A 84 ad)) 0 0 (gq_A 84 ad) :=
  gq_met hap (by decide) rfl rfl (Nat.le_of_ble_eq_true rfl) (fun _ _ _ _ _ _ _ C => tq_X4_freezeIfItCan C hz σ h)
abbrev rq_X4_doTold : Room := { frames := 5, cells := 0, slots := 0, locals := 116 }
theorem dq_X4_doTold : gq_dsc yX4_doTold 3 := by unfold gq_dsc; decide +kernel
theorem iq_X4_doTold_X4 : ∀ w ∈ u_ws RX4 TX4 7, w ∈ wsX4_doTold := by decide +kernel
theorem fq_X4_doTold_18 : Cond.fieldLink RX4 18 (TX4 0).1 (TX4 0).2.1 (TX4 0).2.2.1 ∈ wsX4_doTold := by decide +kernel
theorem fq_X4_doTold_9 : Cond.fieldLink RX4 9 (TX4 1).1 (TX4 1).2.1 (TX4 1).2.2.1 ∈ wsX4_doTold := by decide +kernel
def wq_X4_doTold_b53 (z : Nat) (Q : Int32 → gq_M → Prop) (s1 : Int32) (s2 : Int32) (σ : gq_M) : Prop := wq_X4_stepIfItCan z s1 s2 σ (fun r4 σ5 => ((r4 = 0 → Q 0 σ5) ∧ (¬ r4 = 0 → Q 1 σ5)))
set_option maxRecDepth 100000 in
set_option maxHeartbeats 4000000 in
theorem tq_X4_doTold_b53 {p : Program} {l : Launch} {e : Env} {s : State} {m : MethodId} {args : Array Value} {below : List Frame} {meth : Method} {c : Code} {D : va_G} {cyI cyZ cyS : ClassId} {ad : Nat → Nat} {z : Nat} {Q : Int32 → gq_M → Prop} (C : gq_C p s m args meth c cX4_doTold 4 RX4 wsX4_doTold D (gc_T cyI cyZ cyS) 84 ad (some .boolean)) (hz : gs_z z) (s1 : Int32) (s2 : Int32) (σ : gq_M) (h : wq_X4_doTold_b53 z Q s1 s2 σ) : gq_G p l e rq_X4_doTold s m args below meth c (gq_Ri below args s D (gc_T cyI cyZ cyS) 84 ad (gc_S cyI cyZ cyS ad) Q) D 84 ad (gc_S cyI cyZ cyS ad) 4 σ 53 [(0, .ref (ad z))] [.int s2, .int s1, .ref (ad z)] := by
  unfold wq_X4_doTold_b53 at h
  refine gq_vi (i := z) C (gcs_X4 hz) rfl [.int s1, .int s2] (mq_X4_stepIfItCan C.2.2.1 hz s1 s2 σ _ h) gX4_doTold_X4_stepIfItCan rfl rfl dq_X4_stepIfItCan ⟨rfl, rfl, by decide, by decide⟩ rfl rfl (Nat.le_of_ble_eq_true rfl) dX4_doTold_53 (fun r4 σ5 h => ?_)
  refine gq_if_eq (tgt := 63) C dX4_doTold_56 (by decide) (fun c6 => ?_) (fun c6 => ?_)
  · have h := h.1 c6
    refine gq_iconst (v := 0) C dX4_doTold_63 (by decide) ?_
    exact gq_zret C (Or.inl rfl) h dX4_doTold_64
  · have h := h.2 c6
    refine gq_iconst (v := 1) C dX4_doTold_59 (by decide) ?_
    refine gq_goto (tgt := 64) C dX4_doTold_60 (by decide) ?_
    exact gq_zret C (Or.inr rfl) h dX4_doTold_64
def wq_X4_doTold (z : Nat) (a1 : Int32) (a2 : Int32) (a3 : Int32) (σ : gq_M) (Q : Int32 → gq_M → Prop) : Prop := ((a1 = 1 → ((1 < a3 → Q 0 σ) ∧ (¬ 1 < a3 → ((¬ a3 = 1 → wq_X4_doTold_b53 z Q a2 0 σ) ∧ (a3 = 1 → wq_X4_doTold_b53 z Q a2 1 σ))))) ∧ (¬ a1 = 1 → ((a1 = 2 → ((¬ a2 = 0 → Q 0 σ) ∧ (a2 = 0 → wq_X4_restIfItCan z a3 σ (fun r9 σ10 => ((r9 = 0 → Q 0 σ10) ∧ (¬ r9 = 0 → Q 1 σ10)))))) ∧ (¬ a1 = 2 → ((a1 = 3 → ((¬ a2 = 0 → Q 0 σ) ∧ (a2 = 0 → wq_X4_greaseIfItCan z a3 σ (fun r14 σ15 => ((r14 = 0 → Q 0 σ15) ∧ (¬ r14 = 0 → Q 1 σ15)))))) ∧ (¬ a1 = 3 → ((a1 = 4 → ((¬ a2 = 0 → Q 0 σ) ∧ (a2 = 0 → ((¬ a3 = 0 → Q 0 σ) ∧ (a3 = 0 → wq_X4_freezeIfItCan z σ (fun r20 σ21 => ((r20 = 0 → Q 0 σ21) ∧ (¬ r20 = 0 → Q 1 σ21)))))))) ∧ (¬ a1 = 4 → ((a1 = 5 → wq_X2_hasTraveller 9 a2 σ (fun r24 σ25 => ((r24 = 0 → Q 0 σ25) ∧ (¬ r24 = 0 → vp_in a2 5 ∧ ((¬ (σ25.1 (z + 1) a2.toNatClampNeg) = a3 → Q 0 σ25) ∧ ((σ25.1 (z + 1) a2.toNatClampNeg) = a3 → Q 1 σ25)))))) ∧ (¬ a1 = 5 → Q 0 σ))))))))))
set_option maxRecDepth 100000 in
set_option maxHeartbeats 4000000 in
theorem tq_X4_doTold {p : Program} {l : Launch} {e : Env} {s : State} {m : MethodId} {args : Array Value} {below : List Frame} {meth : Method} {c : Code} {D : va_G} {cyI cyZ cyS : ClassId} {ad : Nat → Nat} {z : Nat} {Q : Int32 → gq_M → Prop} (C : gq_C p s m args meth c cX4_doTold 4 RX4 wsX4_doTold D (gc_T cyI cyZ cyS) 84 ad (some .boolean)) (hz : gs_z z) (a1 : Int32) (a2 : Int32) (a3 : Int32) (σ : gq_M) (h : wq_X4_doTold z a1 a2 a3 σ Q) : gq_G p l e rq_X4_doTold s m args below meth c (gq_Ri below args s D (gc_T cyI cyZ cyS) 84 ad (gc_S cyI cyZ cyS ad) Q) D 84 ad (gc_S cyI cyZ cyS ad) 4 σ 0 [(0, .ref (ad z)), (1, .int a1), (2, .int a2), (3, .int a3)] [] := by
  unfold wq_X4_doTold at h
  refine gq_iload_n (j := 1) C dX4_doTold_0 rfl ?_
  by_cases c1 : a1 = 1
  · have h := h.1 c1
    refine gq_tin (tgt := 36) C 1 dX4_doTold_1 (by rw [c1]; decide) (by decide) (by decide) rfl (by decide) ?_
    refine gq_iload_n (j := 3) C dX4_doTold_36 rfl ?_
    refine gq_iconst (v := 1) C dX4_doTold_37 (by decide) ?_
    refine gq_icmp_gt (tgt := 63) C dX4_doTold_38 (by decide) (fun c2 => ?_) (fun c2 => ?_)
    · have h := h.1 c2
      refine gq_iconst (v := 0) C dX4_doTold_63 (by decide) ?_
      exact gq_zret C (Or.inl rfl) h dX4_doTold_64
    · have h := h.2 c2
      refine gq_aload_n (j := 0) C dX4_doTold_41 rfl ?_
      refine gq_iload_n (j := 2) C dX4_doTold_42 rfl ?_
      refine gq_iload_n (j := 3) C dX4_doTold_43 rfl ?_
      refine gq_iconst (v := 1) C dX4_doTold_44 (by decide) ?_
      refine gq_icmp_ne (tgt := 52) C dX4_doTold_45 (by decide) (fun c3 => ?_) (fun c3 => ?_)
      · have h := h.1 c3
        refine gq_iconst (v := 0) C dX4_doTold_52 (by decide) ?_
        refine gq_sub [0] rfl ?_
        exact tq_X4_doTold_b53 C hz _ _ _ h
      · have h := h.2 c3
        refine gq_iconst (v := 1) C dX4_doTold_48 (by decide) ?_
        refine gq_goto (tgt := 53) C dX4_doTold_49 (by decide) ?_
        refine gq_sub [0] rfl ?_
        exact tq_X4_doTold_b53 C hz _ _ _ h
  · have h := h.2 c1
    by_cases c7 : a1 = 2
    · have h := h.1 c7
      refine gq_tin (tgt := 65) C 2 dX4_doTold_1 (by rw [c7]; decide) (by decide) (by decide) rfl (by decide) ?_
      refine gq_iload_n (j := 2) C dX4_doTold_65 rfl ?_
      refine gq_if_ne (tgt := 81) C dX4_doTold_66 (by decide) (fun c8 => ?_) (fun c8 => ?_)
      · have h := h.1 c8
        refine gq_iconst (v := 0) C dX4_doTold_81 (by decide) ?_
        exact gq_zret C (Or.inl rfl) h dX4_doTold_82
      · have h := h.2 c8
        refine gq_aload_n (j := 0) C dX4_doTold_69 rfl ?_
        refine gq_iload_n (j := 3) C dX4_doTold_70 rfl ?_
        refine gq_vi (i := z) C (gcs_X4 hz) rfl [.int a3] (mq_X4_restIfItCan C.2.2.1 hz a3 σ _ h) gX4_doTold_X4_restIfItCan rfl rfl dq_X4_restIfItCan ⟨rfl, rfl, by decide, by decide⟩ rfl rfl (Nat.le_of_ble_eq_true rfl) dX4_doTold_71 (fun r9 σ10 h => ?_)
        refine gq_if_eq (tgt := 81) C dX4_doTold_74 (by decide) (fun c11 => ?_) (fun c11 => ?_)
        · have h := h.1 c11
          refine gq_iconst (v := 0) C dX4_doTold_81 (by decide) ?_
          exact gq_zret C (Or.inl rfl) h dX4_doTold_82
        · have h := h.2 c11
          refine gq_iconst (v := 1) C dX4_doTold_77 (by decide) ?_
          refine gq_goto (tgt := 82) C dX4_doTold_78 (by decide) ?_
          exact gq_zret C (Or.inr rfl) h dX4_doTold_82
    · have h := h.2 c7
      by_cases c12 : a1 = 3
      · have h := h.1 c12
        refine gq_tin (tgt := 83) C 3 dX4_doTold_1 (by rw [c12]; decide) (by decide) (by decide) rfl (by decide) ?_
        refine gq_iload_n (j := 2) C dX4_doTold_83 rfl ?_
        refine gq_if_ne (tgt := 99) C dX4_doTold_84 (by decide) (fun c13 => ?_) (fun c13 => ?_)
        · have h := h.1 c13
          refine gq_iconst (v := 0) C dX4_doTold_99 (by decide) ?_
          exact gq_zret C (Or.inl rfl) h dX4_doTold_100
        · have h := h.2 c13
          refine gq_aload_n (j := 0) C dX4_doTold_87 rfl ?_
          refine gq_iload_n (j := 3) C dX4_doTold_88 rfl ?_
          refine gq_vi (i := z) C (gcs_X4 hz) rfl [.int a3] (mq_X4_greaseIfItCan C.2.2.1 hz a3 σ _ h) gX4_doTold_X4_greaseIfItCan rfl rfl dq_X4_greaseIfItCan ⟨rfl, rfl, by decide, by decide⟩ rfl rfl (Nat.le_of_ble_eq_true rfl) dX4_doTold_89 (fun r14 σ15 h => ?_)
          refine gq_if_eq (tgt := 99) C dX4_doTold_92 (by decide) (fun c16 => ?_) (fun c16 => ?_)
          · have h := h.1 c16
            refine gq_iconst (v := 0) C dX4_doTold_99 (by decide) ?_
            exact gq_zret C (Or.inl rfl) h dX4_doTold_100
          · have h := h.2 c16
            refine gq_iconst (v := 1) C dX4_doTold_95 (by decide) ?_
            refine gq_goto (tgt := 100) C dX4_doTold_96 (by decide) ?_
            exact gq_zret C (Or.inr rfl) h dX4_doTold_100
      · have h := h.2 c12
        by_cases c17 : a1 = 4
        · have h := h.1 c17
          refine gq_tin (tgt := 101) C 4 dX4_doTold_1 (by rw [c17]; decide) (by decide) (by decide) rfl (by decide) ?_
          refine gq_iload_n (j := 2) C dX4_doTold_101 rfl ?_
          refine gq_if_ne (tgt := 120) C dX4_doTold_102 (by decide) (fun c18 => ?_) (fun c18 => ?_)
          · have h := h.1 c18
            refine gq_iconst (v := 0) C dX4_doTold_120 (by decide) ?_
            exact gq_zret C (Or.inl rfl) h dX4_doTold_121
          · have h := h.2 c18
            refine gq_iload_n (j := 3) C dX4_doTold_105 rfl ?_
            refine gq_if_ne (tgt := 120) C dX4_doTold_106 (by decide) (fun c19 => ?_) (fun c19 => ?_)
            · have h := h.1 c19
              refine gq_iconst (v := 0) C dX4_doTold_120 (by decide) ?_
              exact gq_zret C (Or.inl rfl) h dX4_doTold_121
            · have h := h.2 c19
              refine gq_aload_n (j := 0) C dX4_doTold_109 rfl ?_
              refine gq_vi (i := z) C (gcs_X4 hz) rfl [] (mq_X4_freezeIfItCan C.2.2.1 hz σ _ h) gX4_doTold_X4_freezeIfItCan rfl rfl dq_X4_freezeIfItCan ⟨rfl, rfl, by decide, by decide⟩ rfl rfl (Nat.le_of_ble_eq_true rfl) dX4_doTold_110 (fun r20 σ21 h => ?_)
              refine gq_if_eq (tgt := 120) C dX4_doTold_113 (by decide) (fun c22 => ?_) (fun c22 => ?_)
              · have h := h.1 c22
                refine gq_iconst (v := 0) C dX4_doTold_120 (by decide) ?_
                exact gq_zret C (Or.inl rfl) h dX4_doTold_121
              · have h := h.2 c22
                refine gq_iconst (v := 1) C dX4_doTold_116 (by decide) ?_
                refine gq_goto (tgt := 121) C dX4_doTold_117 (by decide) ?_
                exact gq_zret C (Or.inr rfl) h dX4_doTold_121
        · have h := h.2 c17
          by_cases c23 : a1 = 5
          · have h := h.1 c23
            refine gq_tin (tgt := 122) C 5 dX4_doTold_1 (by rw [c23]; decide) (by decide) (by decide) rfl (by decide) ?_
            refine gq_aload_n (j := 0) C dX4_doTold_122 rfl ?_
            refine gq_get (v := .ref (ad 9)) (i := z) C (gcs_X4 hz) rfl iq_X4_doTold_X4 0 (by decide) fq_X4_doTold_18 rfl dX4_doTold_123 ?_
            refine gq_iload_n (j := 2) C dX4_doTold_126 rfl ?_
            refine gq_vi (i := 9) C (gcs_X2 gr_9) rfl [.int a2] (mq_X2_hasTraveller C.2.2.1 gr_9 a2 σ _ h) gX4_doTold_X2_hasTraveller rfl rfl dq_X2_hasTraveller ⟨rfl, rfl, by decide, by decide⟩ rfl rfl (Nat.le_of_ble_eq_true rfl) dX4_doTold_127 (fun r24 σ25 h => ?_)
            refine gq_if_eq (tgt := 147) C dX4_doTold_130 (by decide) (fun c26 => ?_) (fun c26 => ?_)
            · have h := h.1 c26
              refine gq_iconst (v := 0) C dX4_doTold_147 (by decide) ?_
              exact gq_zret C (Or.inl rfl) h dX4_doTold_148
            · have h := h.2 c26
              refine gq_aload_n (j := 0) C dX4_doTold_133 rfl ?_
              refine gq_get (v := .ref (ad (z + 1))) (i := z) C (gcs_X4 hz) rfl iq_X4_doTold_X4 1 (by decide) fq_X4_doTold_9 rfl dX4_doTold_134 ?_
              refine gq_iload_n (j := 2) C dX4_doTold_137 rfl ?_
              refine gq_iald (i := (z + 1)) (j := a2.toNatClampNeg) C (gcs_X4_1 hz) 0 rfl rfl h.1 dX4_doTold_138 ?_
              have h := h.2
              refine gq_iload_n (j := 3) C dX4_doTold_139 rfl ?_
              refine gq_icmp_ne (tgt := 147) C dX4_doTold_140 (by decide) (fun c27 => ?_) (fun c27 => ?_)
              · have h := h.1 c27
                refine gq_iconst (v := 0) C dX4_doTold_147 (by decide) ?_
                exact gq_zret C (Or.inl rfl) h dX4_doTold_148
              · have h := h.2 c27
                refine gq_iconst (v := 1) C dX4_doTold_143 (by decide) ?_
                refine gq_goto (tgt := 148) C dX4_doTold_144 (by decide) ?_
                exact gq_zret C (Or.inr rfl) h dX4_doTold_148
          · have h := h.2 c23
            refine gq_tout (tgt := 149) C dX4_doTold_1 (by have b0 := lv_neT (k := 1) (a := 1) c1 (by decide); have b1 := lv_neT (k := 2) (a := 2) c7 (by decide); have b2 := lv_neT (k := 3) (a := 3) c12 (by decide); have b3 := lv_neT (k := 4) (a := 4) c17 (by decide); have b4 := lv_neT (k := 5) (a := 5) c23 (by decide); omega) (by decide) ?_
            refine gq_iconst (v := 0) C dX4_doTold_149 (by decide) ?_
            exact gq_zret C (Or.inl rfl) h dX4_doTold_150
theorem mq_X4_doTold {l : Launch} {D : va_G} {cyI cyZ cyS : ClassId} {ad : Nat → Nat} (hap : gq_ap 84 ad) {z : Nat} (hz : gs_z z) (a1 : Int32) (a2 : Int32) (a3 : Int32) (σ : gq_M) (Q : Int32 → gq_M → Prop) (h : wq_X4_doTold z a1 a2 a3 σ Q) : Met l yX4_doTold wsX4_doTold rq_X4_doTold (va_Pc [.ref (ad z), .int a1, .int a2, .int a3] (gq_P D (gc_T cyI cyZ cyS) 84 ad (gc_S cyI cyZ cyS ad) σ)) (va_Qi Q (gq_P D (gc_T cyI cyZ cyS) 84 ad (gc_S cyI cyZ cyS ad)) (gq_A 84 ad)) 0 0 (gq_A 84 ad) :=
  gq_met hap (by decide) rfl rfl (Nat.le_of_ble_eq_true rfl) (fun _ _ _ _ _ _ _ C => tq_X4_doTold C hz a1 a2 a3 σ h)
abbrev rq_X4_doDrawn : Room := { frames := 5, cells := 0, slots := 0, locals := 116 }
theorem dq_X4_doDrawn : gq_dsc yX4_doDrawn 1 := by unfold gq_dsc; decide +kernel
def wq_X4_doDrawn_b22 (z : Nat) (Q : gq_M → Prop) (s1 : Int32) (s2 : Int32) (σ : gq_M) : Prop := wq_X4_stepIfItCan z s1 s2 σ (fun r11 σ12 => Q σ12)
set_option maxRecDepth 100000 in
set_option maxHeartbeats 4000000 in
theorem tq_X4_doDrawn_b22 {p : Program} {l : Launch} {e : Env} {s : State} {m : MethodId} {args : Array Value} {below : List Frame} {meth : Method} {c : Code} {D : va_G} {cyI cyZ cyS : ClassId} {ad : Nat → Nat} {z : Nat} {Q : gq_M → Prop} (C : gq_C p s m args meth c cX4_doDrawn 2 RX4 wsX4_doDrawn D (gc_T cyI cyZ cyS) 84 ad none) (hz : gs_z z) (s1 : Int32) (s2 : Int32) (σ : gq_M) (h : wq_X4_doDrawn_b22 z Q s1 s2 σ) : gq_G p l e rq_X4_doDrawn s m args below meth c (gq_Rv below args s D (gc_T cyI cyZ cyS) 84 ad (gc_S cyI cyZ cyS ad) Q) D 84 ad (gc_S cyI cyZ cyS ad) 2 σ 22 [(0, .ref (ad z))] [.int s2, .int s1, .ref (ad z)] := by
  unfold wq_X4_doDrawn_b22 at h
  refine gq_vi (i := z) C (gcs_X4 hz) rfl [.int s1, .int s2] (mq_X4_stepIfItCan C.2.2.1 hz s1 s2 σ _ h) gX4_doDrawn_X4_stepIfItCan rfl rfl dq_X4_stepIfItCan ⟨rfl, rfl, by decide, by decide⟩ rfl rfl (Nat.le_of_ble_eq_true rfl) dX4_doDrawn_22 (fun r11 σ12 h => ?_)
  refine gq_pop C dX4_doDrawn_25 rfl ?_
  refine gq_goto (tgt := 70) C dX4_doDrawn_26 (by decide) ?_
  exact gq_vret C h dX4_doDrawn_70
def wq_X4_doDrawn (z : Nat) (a1 : Int32) (σ : gq_M) (Q : gq_M → Prop) : Prop := ((10 ≤ a1 → ((15 ≤ a1 → ((25 ≤ a1 → wq_X4_freezeIfItCan z σ (fun r4 σ5 => Q σ5)) ∧ (¬ 25 ≤ a1 → wq_X4_greaseIfItCan z (a1 - 15) σ (fun r6 σ7 => Q σ7)))) ∧ (¬ 15 ≤ a1 → wq_X4_restIfItCan z (a1 - 10) σ (fun r8 σ9 => Q σ9)))) ∧ (¬ 10 ≤ a1 → ((¬ (a1 - a1 / 2 * 2) = 1 → wq_X4_doDrawn_b22 z Q (a1 / 2) 0 σ) ∧ ((a1 - a1 / 2 * 2) = 1 → wq_X4_doDrawn_b22 z Q (a1 / 2) 1 σ))))
set_option maxRecDepth 100000 in
set_option maxHeartbeats 4000000 in
theorem tq_X4_doDrawn {p : Program} {l : Launch} {e : Env} {s : State} {m : MethodId} {args : Array Value} {below : List Frame} {meth : Method} {c : Code} {D : va_G} {cyI cyZ cyS : ClassId} {ad : Nat → Nat} {z : Nat} {Q : gq_M → Prop} (C : gq_C p s m args meth c cX4_doDrawn 2 RX4 wsX4_doDrawn D (gc_T cyI cyZ cyS) 84 ad none) (hz : gs_z z) (a1 : Int32) (σ : gq_M) (h : wq_X4_doDrawn z a1 σ Q) : gq_G p l e rq_X4_doDrawn s m args below meth c (gq_Rv below args s D (gc_T cyI cyZ cyS) 84 ad (gc_S cyI cyZ cyS ad) Q) D 84 ad (gc_S cyI cyZ cyS ad) 2 σ 0 [(0, .ref (ad z)), (1, .int a1)] [] := by
  unfold wq_X4_doDrawn at h
  refine gq_iload_n (j := 1) C dX4_doDrawn_0 rfl ?_
  refine gq_bipush (v := 10) C dX4_doDrawn_1 (by decide) ?_
  refine gq_icmp_ge (tgt := 29) C dX4_doDrawn_3 (by decide) (fun c1 => ?_) (fun c1 => ?_)
  · have h := h.1 c1
    refine gq_iload_n (j := 1) C dX4_doDrawn_29 rfl ?_
    refine gq_bipush (v := 15) C dX4_doDrawn_30 (by decide) ?_
    refine gq_icmp_ge (tgt := 47) C dX4_doDrawn_32 (by decide) (fun c2 => ?_) (fun c2 => ?_)
    · have h := h.1 c2
      refine gq_iload_n (j := 1) C dX4_doDrawn_47 rfl ?_
      refine gq_bipush (v := 25) C dX4_doDrawn_48 (by decide) ?_
      refine gq_icmp_ge (tgt := 65) C dX4_doDrawn_50 (by decide) (fun c3 => ?_) (fun c3 => ?_)
      · have h := h.1 c3
        refine gq_aload_n (j := 0) C dX4_doDrawn_65 rfl ?_
        refine gq_vi (i := z) C (gcs_X4 hz) rfl [] (mq_X4_freezeIfItCan C.2.2.1 hz σ _ h) gX4_doDrawn_X4_freezeIfItCan rfl rfl dq_X4_freezeIfItCan ⟨rfl, rfl, by decide, by decide⟩ rfl rfl (Nat.le_of_ble_eq_true rfl) dX4_doDrawn_66 (fun r4 σ5 h => ?_)
        refine gq_pop C dX4_doDrawn_69 rfl ?_
        exact gq_vret C h dX4_doDrawn_70
      · have h := h.2 c3
        refine gq_aload_n (j := 0) C dX4_doDrawn_53 rfl ?_
        refine gq_iload_n (j := 1) C dX4_doDrawn_54 rfl ?_
        refine gq_bipush (v := 15) C dX4_doDrawn_55 (by decide) ?_
        refine gq_isub C dX4_doDrawn_57 ?_
        refine gq_vi (i := z) C (gcs_X4 hz) rfl [.int (a1 - 15)] (mq_X4_greaseIfItCan C.2.2.1 hz (a1 - 15) σ _ h) gX4_doDrawn_X4_greaseIfItCan rfl rfl dq_X4_greaseIfItCan ⟨rfl, rfl, by decide, by decide⟩ rfl rfl (Nat.le_of_ble_eq_true rfl) dX4_doDrawn_58 (fun r6 σ7 h => ?_)
        refine gq_pop C dX4_doDrawn_61 rfl ?_
        refine gq_goto (tgt := 70) C dX4_doDrawn_62 (by decide) ?_
        exact gq_vret C h dX4_doDrawn_70
    · have h := h.2 c2
      refine gq_aload_n (j := 0) C dX4_doDrawn_35 rfl ?_
      refine gq_iload_n (j := 1) C dX4_doDrawn_36 rfl ?_
      refine gq_bipush (v := 10) C dX4_doDrawn_37 (by decide) ?_
      refine gq_isub C dX4_doDrawn_39 ?_
      refine gq_vi (i := z) C (gcs_X4 hz) rfl [.int (a1 - 10)] (mq_X4_restIfItCan C.2.2.1 hz (a1 - 10) σ _ h) gX4_doDrawn_X4_restIfItCan rfl rfl dq_X4_restIfItCan ⟨rfl, rfl, by decide, by decide⟩ rfl rfl (Nat.le_of_ble_eq_true rfl) dX4_doDrawn_40 (fun r8 σ9 h => ?_)
      refine gq_pop C dX4_doDrawn_43 rfl ?_
      refine gq_goto (tgt := 70) C dX4_doDrawn_44 (by decide) ?_
      exact gq_vret C h dX4_doDrawn_70
  · have h := h.2 c1
    refine gq_aload_n (j := 0) C dX4_doDrawn_6 rfl ?_
    refine gq_iload_n (j := 1) C dX4_doDrawn_7 rfl ?_
    refine gq_iconst (v := 2) C dX4_doDrawn_8 (by decide) ?_
    refine gq_idiv C dX4_doDrawn_9 (by decide) ?_
    refine gq_iload_n (j := 1) C dX4_doDrawn_10 rfl ?_
    refine gq_iconst (v := 2) C dX4_doDrawn_11 (by decide) ?_
    refine gq_irem C dX4_doDrawn_12 (by decide) ?_
    refine gq_iconst (v := 1) C dX4_doDrawn_13 (by decide) ?_
    refine gq_icmp_ne (tgt := 21) C dX4_doDrawn_14 (by decide) (fun c10 => ?_) (fun c10 => ?_)
    · have h := h.1 c10
      refine gq_iconst (v := 0) C dX4_doDrawn_21 (by decide) ?_
      refine gq_sub [0] rfl ?_
      exact tq_X4_doDrawn_b22 C hz _ _ _ h
    · have h := h.2 c10
      refine gq_iconst (v := 1) C dX4_doDrawn_17 (by decide) ?_
      refine gq_goto (tgt := 22) C dX4_doDrawn_18 (by decide) ?_
      refine gq_sub [0] rfl ?_
      exact tq_X4_doDrawn_b22 C hz _ _ _ h
theorem mq_X4_doDrawn {l : Launch} {D : va_G} {cyI cyZ cyS : ClassId} {ad : Nat → Nat} (hap : gq_ap 84 ad) {z : Nat} (hz : gs_z z) (a1 : Int32) (σ : gq_M) (Q : gq_M → Prop) (h : wq_X4_doDrawn z a1 σ Q) : Met l yX4_doDrawn wsX4_doDrawn rq_X4_doDrawn (va_Pc [.ref (ad z), .int a1] (gq_P D (gc_T cyI cyZ cyS) 84 ad (gc_S cyI cyZ cyS ad) σ)) (va_Qv Q (gq_P D (gc_T cyI cyZ cyS) 84 ad (gc_S cyI cyZ cyS ad)) (gq_A 84 ad)) 0 0 (gq_A 84 ad) :=
  gq_met hap (by decide) rfl rfl (Nat.le_of_ble_eq_true rfl) (fun _ _ _ _ _ _ _ C => tq_X4_doDrawn C hz a1 σ h)
abbrev rq_X4_placesTogether : Room := { frames := 0, cells := 0, slots := 0, locals := 0 }
theorem dq_X4_placesTogether : gq_dsc yX4_placesTogether 0 := by unfold gq_dsc; decide +kernel
theorem iq_X4_placesTogether_X4 : ∀ w ∈ u_ws RX4 TX4 7, w ∈ wsX4_placesTogether := by decide +kernel
theorem fq_X4_placesTogether_18 : Cond.fieldLink RX4 18 (TX4 0).1 (TX4 0).2.1 (TX4 0).2.2.1 ∈ wsX4_placesTogether := by decide +kernel
theorem iq_X4_placesTogether_X2 : ∀ w ∈ u_ws RX2 TX2 7, w ∈ wsX4_placesTogether := by decide +kernel
theorem fq_X4_placesTogether_22 : Cond.fieldLink RX4 22 (TX2 6).1 (TX2 6).2.1 (TX2 6).2.2.1 ∈ wsX4_placesTogether := by decide +kernel
theorem fq_X4_placesTogether_9 : Cond.fieldLink RX4 9 (TX4 1).1 (TX4 1).2.1 (TX4 1).2.2.1 ∈ wsX4_placesTogether := by decide +kernel
def wq_X4_placesTogether_l4 (z : Nat) (Q : Int32 → gq_M → Prop) (K30 : Int32 → gq_M → Prop) : Nat → Int32 → Int32 → gq_M → Prop
  | 0, _, _, _ => False
  | n + 1, x1, x2, σ => (((σ.1 9 6) ≤ x2 → K30 x1 σ) ∧ (¬ (σ.1 9 6) ≤ x2 → vp_in x2 5 ∧ ∀ v2, v2 = (x1 + (σ.1 (z + 1) x2.toNatClampNeg)) → ∀ v3, v3 = (x2 + 1) → wq_X4_placesTogether_l4 z Q K30 n v2 v3 σ))
set_option maxRecDepth 100000 in
set_option maxHeartbeats 4000000 in
theorem tq_X4_placesTogether_l4 {p : Program} {l : Launch} {e : Env} {s : State} {m : MethodId} {args : Array Value} {below : List Frame} {meth : Method} {c : Code} {D : va_G} {cyI cyZ cyS : ClassId} {ad : Nat → Nat} {z : Nat} {Q : Int32 → gq_M → Prop} {K30 : Int32 → gq_M → Prop} (C : gq_C p s m args meth c cX4_placesTogether 3 RX4 wsX4_placesTogether D (gc_T cyI cyZ cyS) 84 ad (some .int)) (hz : gs_z z) (hK30 : ∀ (y1 : Int32) (τ : gq_M), K30 y1 τ → gq_G p l e rq_X4_placesTogether s m args below meth c (gq_Ri below args s D (gc_T cyI cyZ cyS) 84 ad (gc_S cyI cyZ cyS ad) Q) D 84 ad (gc_S cyI cyZ cyS ad) 3 τ 30 [(0, .ref (ad z)), (1, .int y1)] []) : ∀ (n : Nat) (x1 : Int32) (x2 : Int32) (σ : gq_M), wq_X4_placesTogether_l4 z Q K30 n x1 x2 σ → gq_G p l e rq_X4_placesTogether s m args below meth c (gq_Ri below args s D (gc_T cyI cyZ cyS) 84 ad (gc_S cyI cyZ cyS ad) Q) D 84 ad (gc_S cyI cyZ cyS ad) 3 σ 4 [(0, .ref (ad z)), (1, .int x1), (2, .int x2)] [] := by
  intro n
  induction n with
  | zero =>
    intro x1 x2 σ h
    exact absurd h (fun q => q)
  | succ n ih =>
    intro x1 x2 σ h
    unfold wq_X4_placesTogether_l4 at h
    refine gq_iload_n (j := 2) C dX4_placesTogether_4 rfl ?_
    refine gq_aload_n (j := 0) C dX4_placesTogether_5 rfl ?_
    refine gq_get (v := .ref (ad 9)) (i := z) C (gcs_X4 hz) rfl iq_X4_placesTogether_X4 0 (by decide) fq_X4_placesTogether_18 rfl dX4_placesTogether_6 ?_
    refine gq_get (v := .int (σ.1 9 6)) (i := 9) C (gcs_X2 gr_9) rfl iq_X4_placesTogether_X2 6 (by decide) fq_X4_placesTogether_22 rfl dX4_placesTogether_9 ?_
    refine gq_icmp_ge (tgt := 30) C dX4_placesTogether_12 (by decide) (fun c1 => ?_) (fun c1 => ?_)
    · have h := h.1 c1
      refine gq_sub [0, 1] rfl ?_
      exact hK30 _ _ h
    · have h := h.2 c1
      refine gq_iload_n (j := 1) C dX4_placesTogether_15 rfl ?_
      refine gq_aload_n (j := 0) C dX4_placesTogether_16 rfl ?_
      refine gq_get (v := .ref (ad (z + 1))) (i := z) C (gcs_X4 hz) rfl iq_X4_placesTogether_X4 1 (by decide) fq_X4_placesTogether_9 rfl dX4_placesTogether_17 ?_
      refine gq_iload_n (j := 2) C dX4_placesTogether_20 rfl ?_
      refine gq_iald (i := (z + 1)) (j := x2.toNatClampNeg) C (gcs_X4_1 hz) 0 rfl rfl h.1 dX4_placesTogether_21 ?_
      have h := h.2
      refine gq_iadd C dX4_placesTogether_22 ?_
      refine gq_topi (fun v2 qv2 => ?_)
      have h := h v2 qv2
      refine gq_istore_n (L' := [(0, .ref (ad z)), (1, .int v2), (2, .int x2)]) C [1, 0, 2] dX4_placesTogether_23 (by decide) rfl ?_
      obtain ⟨v3, qv3⟩ : ∃ y : Int32, y = (x2 + 1) := ⟨_, rfl⟩
      have h := h v3 qv3
      refine gq_iinc (j := 2) (v := v3) (L' := [(0, .ref (ad z)), (1, .int v2), (2, .int v3)]) C [1, 2, 0] dX4_placesTogether_24 rfl (by rw [qv3]; rfl) (by decide) rfl ?_
      refine gq_goto (tgt := 4) C dX4_placesTogether_27 (by decide) ?_
      exact ih _ _ _ h
def wq_X4_placesTogether (z : Nat) (σ : gq_M) (Q : Int32 → gq_M → Prop) : Prop := (∃ n6, wq_X4_placesTogether_l4 z Q (fun e4 σ5 => Q e4 σ5) n6 0 0 σ)
set_option maxRecDepth 100000 in
set_option maxHeartbeats 4000000 in
theorem tq_X4_placesTogether {p : Program} {l : Launch} {e : Env} {s : State} {m : MethodId} {args : Array Value} {below : List Frame} {meth : Method} {c : Code} {D : va_G} {cyI cyZ cyS : ClassId} {ad : Nat → Nat} {z : Nat} {Q : Int32 → gq_M → Prop} (C : gq_C p s m args meth c cX4_placesTogether 3 RX4 wsX4_placesTogether D (gc_T cyI cyZ cyS) 84 ad (some .int)) (hz : gs_z z) (σ : gq_M) (h : wq_X4_placesTogether z σ Q) : gq_G p l e rq_X4_placesTogether s m args below meth c (gq_Ri below args s D (gc_T cyI cyZ cyS) 84 ad (gc_S cyI cyZ cyS ad) Q) D 84 ad (gc_S cyI cyZ cyS ad) 3 σ 0 [(0, .ref (ad z))] [] := by
  unfold wq_X4_placesTogether at h
  refine gq_iconst (v := 0) C dX4_placesTogether_0 (by decide) ?_
  refine gq_istore_n (L' := [(0, .ref (ad z)), (1, .int 0)]) C [1, 0] dX4_placesTogether_1 (by decide) rfl ?_
  refine gq_iconst (v := 0) C dX4_placesTogether_2 (by decide) ?_
  refine gq_istore_n (L' := [(0, .ref (ad z)), (1, .int 0), (2, .int 0)]) C [1, 2, 0] dX4_placesTogether_3 (by decide) rfl ?_
  obtain ⟨n6, h⟩ := h
  refine tq_X4_placesTogether_l4 C hz (fun e4 σ5 h => ?_) n6 _ _ _ h
  refine gq_iload_n (j := 1) C dX4_placesTogether_30 rfl ?_
  exact gq_iret C h dX4_placesTogether_31
theorem mq_X4_placesTogether {l : Launch} {D : va_G} {cyI cyZ cyS : ClassId} {ad : Nat → Nat} (hap : gq_ap 84 ad) {z : Nat} (hz : gs_z z) (σ : gq_M) (Q : Int32 → gq_M → Prop) (h : wq_X4_placesTogether z σ Q) : Met l yX4_placesTogether wsX4_placesTogether rq_X4_placesTogether (va_Pc [.ref (ad z)] (gq_P D (gc_T cyI cyZ cyS) 84 ad (gc_S cyI cyZ cyS ad) σ)) (va_Qi Q (gq_P D (gc_T cyI cyZ cyS) 84 ad (gc_S cyI cyZ cyS ad)) (gq_A 84 ad)) 0 0 (gq_A 84 ad) :=
  gq_met hap (by decide) rfl rfl (Nat.le_of_ble_eq_true rfl) (fun _ _ _ _ _ _ _ C => tq_X4_placesTogether C hz σ h)
abbrev rq_X4_placesTaken : Room := { frames := 0, cells := 0, slots := 0, locals := 0 }
theorem dq_X4_placesTaken : gq_dsc yX4_placesTaken 0 := by unfold gq_dsc; decide +kernel
theorem iq_X4_placesTaken_X4 : ∀ w ∈ u_ws RX4 TX4 7, w ∈ wsX4_placesTaken := by decide +kernel
theorem fq_X4_placesTaken_18 : Cond.fieldLink RX4 18 (TX4 0).1 (TX4 0).2.1 (TX4 0).2.2.1 ∈ wsX4_placesTaken := by decide +kernel
theorem iq_X4_placesTaken_X2 : ∀ w ∈ u_ws RX2 TX2 7, w ∈ wsX4_placesTaken := by decide +kernel
theorem fq_X4_placesTaken_22 : Cond.fieldLink RX4 22 (TX2 6).1 (TX2 6).2.1 (TX2 6).2.2.1 ∈ wsX4_placesTaken := by decide +kernel
theorem fq_X4_placesTaken_9 : Cond.fieldLink RX4 9 (TX4 1).1 (TX4 1).2.1 (TX4 1).2.2.1 ∈ wsX4_placesTaken := by decide +kernel
def wq_X4_placesTaken_l4 (z : Nat) (Q : Int32 → gq_M → Prop) (K32 : Int32 → gq_M → Prop) : Nat → Int32 → Int32 → gq_M → Prop
  | 0, _, _, _ => False
  | n + 1, x1, x2, σ => (((σ.1 9 6) ≤ x2 → K32 x1 σ) ∧ (¬ (σ.1 9 6) ≤ x2 → vp_in x2 5 ∧ ∀ v2, v2 = (x1 ||| ((1 : Int32) <<< ((σ.1 (z + 1) x2.toNatClampNeg) &&& 31))) → ∀ v3, v3 = (x2 + 1) → wq_X4_placesTaken_l4 z Q K32 n v2 v3 σ))
set_option maxRecDepth 100000 in
set_option maxHeartbeats 4000000 in
theorem tq_X4_placesTaken_l4 {p : Program} {l : Launch} {e : Env} {s : State} {m : MethodId} {args : Array Value} {below : List Frame} {meth : Method} {c : Code} {D : va_G} {cyI cyZ cyS : ClassId} {ad : Nat → Nat} {z : Nat} {Q : Int32 → gq_M → Prop} {K32 : Int32 → gq_M → Prop} (C : gq_C p s m args meth c cX4_placesTaken 3 RX4 wsX4_placesTaken D (gc_T cyI cyZ cyS) 84 ad (some .int)) (hz : gs_z z) (hK32 : ∀ (y1 : Int32) (τ : gq_M), K32 y1 τ → gq_G p l e rq_X4_placesTaken s m args below meth c (gq_Ri below args s D (gc_T cyI cyZ cyS) 84 ad (gc_S cyI cyZ cyS ad) Q) D 84 ad (gc_S cyI cyZ cyS ad) 3 τ 32 [(0, .ref (ad z)), (1, .int y1)] []) : ∀ (n : Nat) (x1 : Int32) (x2 : Int32) (σ : gq_M), wq_X4_placesTaken_l4 z Q K32 n x1 x2 σ → gq_G p l e rq_X4_placesTaken s m args below meth c (gq_Ri below args s D (gc_T cyI cyZ cyS) 84 ad (gc_S cyI cyZ cyS ad) Q) D 84 ad (gc_S cyI cyZ cyS ad) 3 σ 4 [(0, .ref (ad z)), (1, .int x1), (2, .int x2)] [] := by
  intro n
  induction n with
  | zero =>
    intro x1 x2 σ h
    exact absurd h (fun q => q)
  | succ n ih =>
    intro x1 x2 σ h
    unfold wq_X4_placesTaken_l4 at h
    refine gq_iload_n (j := 2) C dX4_placesTaken_4 rfl ?_
    refine gq_aload_n (j := 0) C dX4_placesTaken_5 rfl ?_
    refine gq_get (v := .ref (ad 9)) (i := z) C (gcs_X4 hz) rfl iq_X4_placesTaken_X4 0 (by decide) fq_X4_placesTaken_18 rfl dX4_placesTaken_6 ?_
    refine gq_get (v := .int (σ.1 9 6)) (i := 9) C (gcs_X2 gr_9) rfl iq_X4_placesTaken_X2 6 (by decide) fq_X4_placesTaken_22 rfl dX4_placesTaken_9 ?_
    refine gq_icmp_ge (tgt := 32) C dX4_placesTaken_12 (by decide) (fun c1 => ?_) (fun c1 => ?_)
    · have h := h.1 c1
      refine gq_sub [0, 1] rfl ?_
      exact hK32 _ _ h
    · have h := h.2 c1
      refine gq_iload_n (j := 1) C dX4_placesTaken_15 rfl ?_
      refine gq_iconst (v := 1) C dX4_placesTaken_16 (by decide) ?_
      refine gq_aload_n (j := 0) C dX4_placesTaken_17 rfl ?_
      refine gq_get (v := .ref (ad (z + 1))) (i := z) C (gcs_X4 hz) rfl iq_X4_placesTaken_X4 1 (by decide) fq_X4_placesTaken_9 rfl dX4_placesTaken_18 ?_
      refine gq_iload_n (j := 2) C dX4_placesTaken_21 rfl ?_
      refine gq_iald (i := (z + 1)) (j := x2.toNatClampNeg) C (gcs_X4_1 hz) 0 rfl rfl h.1 dX4_placesTaken_22 ?_
      have h := h.2
      refine gq_ishl C dX4_placesTaken_23 ?_
      refine gq_ior C dX4_placesTaken_24 ?_
      refine gq_topi (fun v2 qv2 => ?_)
      have h := h v2 qv2
      refine gq_istore_n (L' := [(0, .ref (ad z)), (1, .int v2), (2, .int x2)]) C [1, 0, 2] dX4_placesTaken_25 (by decide) rfl ?_
      obtain ⟨v3, qv3⟩ : ∃ y : Int32, y = (x2 + 1) := ⟨_, rfl⟩
      have h := h v3 qv3
      refine gq_iinc (j := 2) (v := v3) (L' := [(0, .ref (ad z)), (1, .int v2), (2, .int v3)]) C [1, 2, 0] dX4_placesTaken_26 rfl (by rw [qv3]; rfl) (by decide) rfl ?_
      refine gq_goto (tgt := 4) C dX4_placesTaken_29 (by decide) ?_
      exact ih _ _ _ h
def wq_X4_placesTaken (z : Nat) (σ : gq_M) (Q : Int32 → gq_M → Prop) : Prop := (∃ n6, wq_X4_placesTaken_l4 z Q (fun e4 σ5 => Q e4 σ5) n6 0 0 σ)
set_option maxRecDepth 100000 in
set_option maxHeartbeats 4000000 in
theorem tq_X4_placesTaken {p : Program} {l : Launch} {e : Env} {s : State} {m : MethodId} {args : Array Value} {below : List Frame} {meth : Method} {c : Code} {D : va_G} {cyI cyZ cyS : ClassId} {ad : Nat → Nat} {z : Nat} {Q : Int32 → gq_M → Prop} (C : gq_C p s m args meth c cX4_placesTaken 3 RX4 wsX4_placesTaken D (gc_T cyI cyZ cyS) 84 ad (some .int)) (hz : gs_z z) (σ : gq_M) (h : wq_X4_placesTaken z σ Q) : gq_G p l e rq_X4_placesTaken s m args below meth c (gq_Ri below args s D (gc_T cyI cyZ cyS) 84 ad (gc_S cyI cyZ cyS ad) Q) D 84 ad (gc_S cyI cyZ cyS ad) 3 σ 0 [(0, .ref (ad z))] [] := by
  unfold wq_X4_placesTaken at h
  refine gq_iconst (v := 0) C dX4_placesTaken_0 (by decide) ?_
  refine gq_istore_n (L' := [(0, .ref (ad z)), (1, .int 0)]) C [1, 0] dX4_placesTaken_1 (by decide) rfl ?_
  refine gq_iconst (v := 0) C dX4_placesTaken_2 (by decide) ?_
  refine gq_istore_n (L' := [(0, .ref (ad z)), (1, .int 0), (2, .int 0)]) C [1, 2, 0] dX4_placesTaken_3 (by decide) rfl ?_
  obtain ⟨n6, h⟩ := h
  refine tq_X4_placesTaken_l4 C hz (fun e4 σ5 h => ?_) n6 _ _ _ h
  refine gq_iload_n (j := 1) C dX4_placesTaken_32 rfl ?_
  exact gq_iret C h dX4_placesTaken_33
theorem mq_X4_placesTaken {l : Launch} {D : va_G} {cyI cyZ cyS : ClassId} {ad : Nat → Nat} (hap : gq_ap 84 ad) {z : Nat} (hz : gs_z z) (σ : gq_M) (Q : Int32 → gq_M → Prop) (h : wq_X4_placesTaken z σ Q) : Met l yX4_placesTaken wsX4_placesTaken rq_X4_placesTaken (va_Pc [.ref (ad z)] (gq_P D (gc_T cyI cyZ cyS) 84 ad (gc_S cyI cyZ cyS ad) σ)) (va_Qi Q (gq_P D (gc_T cyI cyZ cyS) 84 ad (gc_S cyI cyZ cyS ad)) (gq_A 84 ad)) 0 0 (gq_A 84 ad) :=
  gq_met hap (by decide) rfl rfl (Nat.le_of_ble_eq_true rfl) (fun _ _ _ _ _ _ _ C => tq_X4_placesTaken C hz σ h)
abbrev rq_X4_windTogether : Room := { frames := 0, cells := 0, slots := 0, locals := 0 }
theorem dq_X4_windTogether : gq_dsc yX4_windTogether 0 := by unfold gq_dsc; decide +kernel
theorem iq_X4_windTogether_X4 : ∀ w ∈ u_ws RX4 TX4 7, w ∈ wsX4_windTogether := by decide +kernel
theorem fq_X4_windTogether_18 : Cond.fieldLink RX4 18 (TX4 0).1 (TX4 0).2.1 (TX4 0).2.2.1 ∈ wsX4_windTogether := by decide +kernel
theorem iq_X4_windTogether_X2 : ∀ w ∈ u_ws RX2 TX2 7, w ∈ wsX4_windTogether := by decide +kernel
theorem fq_X4_windTogether_22 : Cond.fieldLink RX4 22 (TX2 6).1 (TX2 6).2.1 (TX2 6).2.2.1 ∈ wsX4_windTogether := by decide +kernel
theorem fq_X4_windTogether_15 : Cond.fieldLink RX4 15 (TX4 2).1 (TX4 2).2.1 (TX4 2).2.2.1 ∈ wsX4_windTogether := by decide +kernel
def wq_X4_windTogether_l4 (z : Nat) (Q : Int32 → gq_M → Prop) (K30 : Int32 → gq_M → Prop) : Nat → Int32 → Int32 → gq_M → Prop
  | 0, _, _, _ => False
  | n + 1, x1, x2, σ => (((σ.1 9 6) ≤ x2 → K30 x1 σ) ∧ (¬ (σ.1 9 6) ≤ x2 → vp_in x2 5 ∧ ∀ v2, v2 = (x1 + (σ.1 (z + 2) x2.toNatClampNeg)) → ∀ v3, v3 = (x2 + 1) → wq_X4_windTogether_l4 z Q K30 n v2 v3 σ))
set_option maxRecDepth 100000 in
set_option maxHeartbeats 4000000 in
theorem tq_X4_windTogether_l4 {p : Program} {l : Launch} {e : Env} {s : State} {m : MethodId} {args : Array Value} {below : List Frame} {meth : Method} {c : Code} {D : va_G} {cyI cyZ cyS : ClassId} {ad : Nat → Nat} {z : Nat} {Q : Int32 → gq_M → Prop} {K30 : Int32 → gq_M → Prop} (C : gq_C p s m args meth c cX4_windTogether 3 RX4 wsX4_windTogether D (gc_T cyI cyZ cyS) 84 ad (some .int)) (hz : gs_z z) (hK30 : ∀ (y1 : Int32) (τ : gq_M), K30 y1 τ → gq_G p l e rq_X4_windTogether s m args below meth c (gq_Ri below args s D (gc_T cyI cyZ cyS) 84 ad (gc_S cyI cyZ cyS ad) Q) D 84 ad (gc_S cyI cyZ cyS ad) 3 τ 30 [(0, .ref (ad z)), (1, .int y1)] []) : ∀ (n : Nat) (x1 : Int32) (x2 : Int32) (σ : gq_M), wq_X4_windTogether_l4 z Q K30 n x1 x2 σ → gq_G p l e rq_X4_windTogether s m args below meth c (gq_Ri below args s D (gc_T cyI cyZ cyS) 84 ad (gc_S cyI cyZ cyS ad) Q) D 84 ad (gc_S cyI cyZ cyS ad) 3 σ 4 [(0, .ref (ad z)), (1, .int x1), (2, .int x2)] [] := by
  intro n
  induction n with
  | zero =>
    intro x1 x2 σ h
    exact absurd h (fun q => q)
  | succ n ih =>
    intro x1 x2 σ h
    unfold wq_X4_windTogether_l4 at h
    refine gq_iload_n (j := 2) C dX4_windTogether_4 rfl ?_
    refine gq_aload_n (j := 0) C dX4_windTogether_5 rfl ?_
    refine gq_get (v := .ref (ad 9)) (i := z) C (gcs_X4 hz) rfl iq_X4_windTogether_X4 0 (by decide) fq_X4_windTogether_18 rfl dX4_windTogether_6 ?_
    refine gq_get (v := .int (σ.1 9 6)) (i := 9) C (gcs_X2 gr_9) rfl iq_X4_windTogether_X2 6 (by decide) fq_X4_windTogether_22 rfl dX4_windTogether_9 ?_
    refine gq_icmp_ge (tgt := 30) C dX4_windTogether_12 (by decide) (fun c1 => ?_) (fun c1 => ?_)
    · have h := h.1 c1
      refine gq_sub [0, 1] rfl ?_
      exact hK30 _ _ h
    · have h := h.2 c1
      refine gq_iload_n (j := 1) C dX4_windTogether_15 rfl ?_
      refine gq_aload_n (j := 0) C dX4_windTogether_16 rfl ?_
      refine gq_get (v := .ref (ad (z + 2))) (i := z) C (gcs_X4 hz) rfl iq_X4_windTogether_X4 2 (by decide) fq_X4_windTogether_15 rfl dX4_windTogether_17 ?_
      refine gq_iload_n (j := 2) C dX4_windTogether_20 rfl ?_
      refine gq_iald (i := (z + 2)) (j := x2.toNatClampNeg) C (gcs_X4_2 hz) 0 rfl rfl h.1 dX4_windTogether_21 ?_
      have h := h.2
      refine gq_iadd C dX4_windTogether_22 ?_
      refine gq_topi (fun v2 qv2 => ?_)
      have h := h v2 qv2
      refine gq_istore_n (L' := [(0, .ref (ad z)), (1, .int v2), (2, .int x2)]) C [1, 0, 2] dX4_windTogether_23 (by decide) rfl ?_
      obtain ⟨v3, qv3⟩ : ∃ y : Int32, y = (x2 + 1) := ⟨_, rfl⟩
      have h := h v3 qv3
      refine gq_iinc (j := 2) (v := v3) (L' := [(0, .ref (ad z)), (1, .int v2), (2, .int v3)]) C [1, 2, 0] dX4_windTogether_24 rfl (by rw [qv3]; rfl) (by decide) rfl ?_
      refine gq_goto (tgt := 4) C dX4_windTogether_27 (by decide) ?_
      exact ih _ _ _ h
def wq_X4_windTogether (z : Nat) (σ : gq_M) (Q : Int32 → gq_M → Prop) : Prop := (∃ n6, wq_X4_windTogether_l4 z Q (fun e4 σ5 => Q e4 σ5) n6 0 0 σ)
set_option maxRecDepth 100000 in
set_option maxHeartbeats 4000000 in
theorem tq_X4_windTogether {p : Program} {l : Launch} {e : Env} {s : State} {m : MethodId} {args : Array Value} {below : List Frame} {meth : Method} {c : Code} {D : va_G} {cyI cyZ cyS : ClassId} {ad : Nat → Nat} {z : Nat} {Q : Int32 → gq_M → Prop} (C : gq_C p s m args meth c cX4_windTogether 3 RX4 wsX4_windTogether D (gc_T cyI cyZ cyS) 84 ad (some .int)) (hz : gs_z z) (σ : gq_M) (h : wq_X4_windTogether z σ Q) : gq_G p l e rq_X4_windTogether s m args below meth c (gq_Ri below args s D (gc_T cyI cyZ cyS) 84 ad (gc_S cyI cyZ cyS ad) Q) D 84 ad (gc_S cyI cyZ cyS ad) 3 σ 0 [(0, .ref (ad z))] [] := by
  unfold wq_X4_windTogether at h
  refine gq_iconst (v := 0) C dX4_windTogether_0 (by decide) ?_
  refine gq_istore_n (L' := [(0, .ref (ad z)), (1, .int 0)]) C [1, 0] dX4_windTogether_1 (by decide) rfl ?_
  refine gq_iconst (v := 0) C dX4_windTogether_2 (by decide) ?_
  refine gq_istore_n (L' := [(0, .ref (ad z)), (1, .int 0), (2, .int 0)]) C [1, 2, 0] dX4_windTogether_3 (by decide) rfl ?_
  obtain ⟨n6, h⟩ := h
  refine tq_X4_windTogether_l4 C hz (fun e4 σ5 h => ?_) n6 _ _ _ h
  refine gq_iload_n (j := 1) C dX4_windTogether_30 rfl ?_
  exact gq_iret C h dX4_windTogether_31
theorem mq_X4_windTogether {l : Launch} {D : va_G} {cyI cyZ cyS : ClassId} {ad : Nat → Nat} (hap : gq_ap 84 ad) {z : Nat} (hz : gs_z z) (σ : gq_M) (Q : Int32 → gq_M → Prop) (h : wq_X4_windTogether z σ Q) : Met l yX4_windTogether wsX4_windTogether rq_X4_windTogether (va_Pc [.ref (ad z)] (gq_P D (gc_T cyI cyZ cyS) 84 ad (gc_S cyI cyZ cyS ad) σ)) (va_Qi Q (gq_P D (gc_T cyI cyZ cyS) 84 ad (gc_S cyI cyZ cyS ad)) (gq_A 84 ad)) 0 0 (gq_A 84 ad) :=
  gq_met hap (by decide) rfl rfl (Nat.le_of_ble_eq_true rfl) (fun _ _ _ _ _ _ _ C => tq_X4_windTogether C hz σ h)
abbrev rq_X5_modeAt : Room := { frames := 0, cells := 0, slots := 0, locals := 0 }
theorem dq_X5_modeAt : gq_dsc yX5_modeAt 2 := by unfold gq_dsc; decide +kernel
def wq_X5_modeAt (a1 : Int32) (a2 : Int32) (σ : gq_M) (Q : Int32 → gq_M → Prop) : Prop := ((¬ ((a2 >>> (a1 &&& 31)) &&& 1) = 1 → ((a1 ≤ 0 → Q 0 σ) ∧ (¬ a1 ≤ 0 → ((¬ ((a2 >>> ((a1 - 1) &&& 31)) &&& 1) = 1 → Q 0 σ) ∧ (((a2 >>> ((a1 - 1) &&& 31)) &&& 1) = 1 → Q 1 σ))))) ∧ (((a2 >>> (a1 &&& 31)) &&& 1) = 1 → Q 2 σ))
set_option maxRecDepth 100000 in
set_option maxHeartbeats 4000000 in
theorem tq_X5_modeAt {p : Program} {l : Launch} {e : Env} {s : State} {m : MethodId} {args : Array Value} {below : List Frame} {meth : Method} {c : Code} {D : va_G} {cyI cyZ cyS : ClassId} {ad : Nat → Nat} {Q : Int32 → gq_M → Prop} (C : gq_C p s m args meth c cX5_modeAt 2 RX5 wsX5_modeAt D (gc_T cyI cyZ cyS) 84 ad (some .int)) (a1 : Int32) (a2 : Int32) (σ : gq_M) (h : wq_X5_modeAt a1 a2 σ Q) : gq_G p l e rq_X5_modeAt s m args below meth c (gq_Ri below args s D (gc_T cyI cyZ cyS) 84 ad (gc_S cyI cyZ cyS ad) Q) D 84 ad (gc_S cyI cyZ cyS ad) 2 σ 0 [(0, .int a1), (1, .int a2)] [] := by
  unfold wq_X5_modeAt at h
  refine gq_iload_n (j := 1) C dX5_modeAt_0 rfl ?_
  refine gq_iload_n (j := 0) C dX5_modeAt_1 rfl ?_
  refine gq_ishr C dX5_modeAt_2 ?_
  refine gq_iconst (v := 1) C dX5_modeAt_3 (by decide) ?_
  refine gq_iand C dX5_modeAt_4 ?_
  refine gq_iconst (v := 1) C dX5_modeAt_5 (by decide) ?_
  refine gq_icmp_ne (tgt := 11) C dX5_modeAt_6 (by decide) (fun c1 => ?_) (fun c1 => ?_)
  · have h := h.1 c1
    refine gq_iload_n (j := 0) C dX5_modeAt_11 rfl ?_
    refine gq_if_le (tgt := 30) C dX5_modeAt_12 (by decide) (fun c2 => ?_) (fun c2 => ?_)
    · have h := h.1 c2
      refine gq_iconst (v := 0) C dX5_modeAt_30 (by decide) ?_
      exact gq_iret C h dX5_modeAt_31
    · have h := h.2 c2
      refine gq_iload_n (j := 1) C dX5_modeAt_15 rfl ?_
      refine gq_iload_n (j := 0) C dX5_modeAt_16 rfl ?_
      refine gq_iconst (v := 1) C dX5_modeAt_17 (by decide) ?_
      refine gq_isub C dX5_modeAt_18 ?_
      refine gq_ishr C dX5_modeAt_19 ?_
      refine gq_iconst (v := 1) C dX5_modeAt_20 (by decide) ?_
      refine gq_iand C dX5_modeAt_21 ?_
      refine gq_iconst (v := 1) C dX5_modeAt_22 (by decide) ?_
      refine gq_icmp_ne (tgt := 30) C dX5_modeAt_23 (by decide) (fun c3 => ?_) (fun c3 => ?_)
      · have h := h.1 c3
        refine gq_iconst (v := 0) C dX5_modeAt_30 (by decide) ?_
        exact gq_iret C h dX5_modeAt_31
      · have h := h.2 c3
        refine gq_iconst (v := 1) C dX5_modeAt_26 (by decide) ?_
        refine gq_goto (tgt := 31) C dX5_modeAt_27 (by decide) ?_
        exact gq_iret C h dX5_modeAt_31
  · have h := h.2 c1
    refine gq_iconst (v := 2) C dX5_modeAt_9 (by decide) ?_
    exact gq_iret C h dX5_modeAt_10
theorem mq_X5_modeAt {l : Launch} {D : va_G} {cyI cyZ cyS : ClassId} {ad : Nat → Nat} (hap : gq_ap 84 ad) (a1 : Int32) (a2 : Int32) (σ : gq_M) (Q : Int32 → gq_M → Prop) (h : wq_X5_modeAt a1 a2 σ Q) : Met l yX5_modeAt wsX5_modeAt rq_X5_modeAt (va_Pc [.int a1, .int a2] (gq_P D (gc_T cyI cyZ cyS) 84 ad (gc_S cyI cyZ cyS ad) σ)) (va_Qi Q (gq_P D (gc_T cyI cyZ cyS) 84 ad (gc_S cyI cyZ cyS ad)) (gq_A 84 ad)) 0 0 (gq_A 84 ad) :=
  gq_met hap (by decide) rfl rfl (Nat.le_of_ble_eq_true rfl) (fun _ _ _ _ _ _ _ C => tq_X5_modeAt C a1 a2 σ h)
abbrev rq_X5_prepare : Room := { frames := 1, cells := 0, slots := 0, locals := 25 }
theorem dq_X5_prepare : gq_dsc yX5_prepare 4 := by unfold gq_dsc; decide +kernel
theorem iq_X5_prepare_X5 : ∀ w ∈ u_ws RX5 TX5 10, w ∈ wsX5_prepare := by decide +kernel
theorem fq_X5_prepare_27 : Cond.fieldLink RX5 27 (TX5 0).1 (TX5 0).2.1 (TX5 0).2.2.1 ∈ wsX5_prepare := by decide +kernel
theorem iq_X5_prepare_X2 : ∀ w ∈ u_ws RX2 TX2 7, w ∈ wsX5_prepare := by decide +kernel
theorem fq_X5_prepare_31 : Cond.fieldLink RX5 31 (TX2 4).1 (TX2 4).2.1 (TX2 4).2.2.1 ∈ wsX5_prepare := by decide +kernel
theorem fq_X5_prepare_36 : Cond.fieldLink RX5 36 (TX2 5).1 (TX2 5).2.1 (TX2 5).2.2.1 ∈ wsX5_prepare := by decide +kernel
theorem fq_X5_prepare_21 : Cond.fieldLink RX5 21 (TX5 4).1 (TX5 4).2.1 (TX5 4).2.2.1 ∈ wsX5_prepare := by decide +kernel
theorem iq_X5_prepare_X4 : ∀ w ∈ u_ws RX4 TX4 7, w ∈ wsX5_prepare := by decide +kernel
theorem fq_X5_prepare_40 : Cond.fieldLink RX5 40 (TX4 5).1 (TX4 5).2.1 (TX4 5).2.2.1 ∈ wsX5_prepare := by decide +kernel
theorem fq_X5_prepare_24 : Cond.fieldLink RX5 24 (TX5 5).1 (TX5 5).2.1 (TX5 5).2.2.1 ∈ wsX5_prepare := by decide +kernel
theorem fq_X5_prepare_53 : Cond.fieldLink RX5 53 (TX2 3).1 (TX2 3).2.1 (TX2 3).2.2.1 ∈ wsX5_prepare := by decide +kernel
theorem fq_X5_prepare_56 : Cond.fieldLink RX5 56 (TX5 6).1 (TX5 6).2.1 (TX5 6).2.2.1 ∈ wsX5_prepare := by decide +kernel
theorem fq_X5_prepare_58 : Cond.fieldLink RX5 58 (TX5 7).1 (TX5 7).2.1 (TX5 7).2.2.1 ∈ wsX5_prepare := by decide +kernel
theorem fq_X5_prepare_62 : Cond.fieldLink RX5 62 (TX4 2).1 (TX4 2).2.1 (TX4 2).2.2.1 ∈ wsX5_prepare := by decide +kernel
theorem fq_X5_prepare_65 : Cond.fieldLink RX5 65 (TX5 9).1 (TX5 9).2.1 (TX5 9).2.2.1 ∈ wsX5_prepare := by decide +kernel
theorem fq_X5_prepare_68 : Cond.fieldLink RX5 68 (TX4 1).1 (TX4 1).2.1 (TX4 1).2.2.1 ∈ wsX5_prepare := by decide +kernel
theorem fq_X5_prepare_71 : Cond.fieldLink RX5 71 (TX4 4).1 (TX4 4).2.1 (TX4 4).2.2.1 ∈ wsX5_prepare := by decide +kernel
theorem fq_X5_prepare_77 : Cond.fieldLink RX5 77 (TX5 8).1 (TX5 8).2.1 (TX5 8).2.2.1 ∈ wsX5_prepare := by decide +kernel
def wq_X5_prepare_l14 (z1 : Nat) (Q : gq_M → Prop) (K84 : Int32 → Int32 → gq_M → Prop) : Nat → Int32 → Int32 → Int32 → Int32 → Int32 → gq_M → Prop
  | 0, _, _, _, _, _, _ => False
  | n + 1, x2, x3, x4, x5, x6, σ => (((σ.1 9 5) ≤ x6 → K84 x2 x5 σ) ∧ (¬ (σ.1 9 5) ≤ x6 → ∀ v3, v3 = ((x4 >>> (x6 &&& 31)) &&& 1) → wq_X2_costShut 9 x6 (σ.1 z1 5) x3 σ (fun r4 σ5 => wq_X2_tollFor x5 (r4 + v3) σ5 (fun r6 σ7 => vp_in x6 10 ∧ wq_X2_tollFor x5 v3 (gq_put σ7 22 x6.toNatClampNeg r6) (fun r8 σ9 => vp_in x6 10 ∧ ∀ v10, v10 = (x6 + 1) → wq_X5_prepare_l14 z1 Q K84 n x2 x3 x4 x5 v10 (gq_put σ9 23 x6.toNatClampNeg r8))))))
set_option maxRecDepth 100000 in
set_option maxHeartbeats 4000000 in
theorem tq_X5_prepare_l14 {p : Program} {l : Launch} {e : Env} {s : State} {m : MethodId} {args : Array Value} {below : List Frame} {meth : Method} {c : Code} {D : va_G} {cyI cyZ cyS : ClassId} {ad : Nat → Nat} {z1 : Nat} {Q : gq_M → Prop} {K84 : Int32 → Int32 → gq_M → Prop} (C : gq_C p s m args meth c cX5_prepare 8 RX5 wsX5_prepare D (gc_T cyI cyZ cyS) 84 ad none) (hz1 : gs_z z1) (hK84 : ∀ (y2 : Int32) (y5 : Int32) (τ : gq_M), K84 y2 y5 τ → gq_G p l e rq_X5_prepare s m args below meth c (gq_Rv below args s D (gc_T cyI cyZ cyS) 84 ad (gc_S cyI cyZ cyS ad) Q) D 84 ad (gc_S cyI cyZ cyS ad) 8 τ 84 [(0, .ref (ad 18)), (1, .ref (ad z1)), (2, .int y2), (5, .int y5)] []) : ∀ (n : Nat) (x2 : Int32) (x3 : Int32) (x4 : Int32) (x5 : Int32) (x6 : Int32) (σ : gq_M), wq_X5_prepare_l14 z1 Q K84 n x2 x3 x4 x5 x6 σ → gq_G p l e rq_X5_prepare s m args below meth c (gq_Rv below args s D (gc_T cyI cyZ cyS) 84 ad (gc_S cyI cyZ cyS ad) Q) D 84 ad (gc_S cyI cyZ cyS ad) 8 σ 14 [(0, .ref (ad 18)), (1, .ref (ad z1)), (2, .int x2), (3, .int x3), (4, .int x4), (5, .int x5), (6, .int x6)] [] := by
  intro n
  induction n with
  | zero =>
    intro x2 x3 x4 x5 x6 σ h
    exact absurd h (fun q => q)
  | succ n ih =>
    intro x2 x3 x4 x5 x6 σ h
    unfold wq_X5_prepare_l14 at h
    refine gq_iload (j := 6) C dX5_prepare_14 rfl ?_
    refine gq_aload_n (j := 0) C dX5_prepare_16 rfl ?_
    refine gq_get (v := .ref (ad 9)) (i := 18) C gcs_18 rfl iq_X5_prepare_X5 0 (by decide) fq_X5_prepare_27 rfl dX5_prepare_17 ?_
    refine gq_get (v := .int (σ.1 9 5)) (i := 9) C (gcs_X2 gr_9) rfl iq_X5_prepare_X2 5 (by decide) fq_X5_prepare_36 rfl dX5_prepare_20 ?_
    refine gq_icmp_ge (tgt := 84) C dX5_prepare_23 (by decide) (fun c2 => ?_) (fun c2 => ?_)
    · have h := h.1 c2
      refine gq_sub [0, 1, 2, 5] rfl ?_
      exact hK84 _ _ _ h
    · have h := h.2 c2
      refine gq_iload (j := 4) C dX5_prepare_26 rfl ?_
      refine gq_iload (j := 6) C dX5_prepare_28 rfl ?_
      refine gq_ishr C dX5_prepare_30 ?_
      refine gq_iconst (v := 1) C dX5_prepare_31 (by decide) ?_
      refine gq_iand C dX5_prepare_32 ?_
      refine gq_topi (fun v3 qv3 => ?_)
      have h := h v3 qv3
      refine gq_istore (L' := [(0, .ref (ad 18)), (1, .ref (ad z1)), (2, .int x2), (3, .int x3), (4, .int x4), (5, .int x5), (6, .int x6), (7, .int v3)]) C [1, 2, 3, 4, 5, 6, 7, 0] dX5_prepare_33 (by decide) rfl ?_
      refine gq_aload_n (j := 0) C dX5_prepare_35 rfl ?_
      refine gq_get (v := .ref (ad 22)) (i := 18) C gcs_18 rfl iq_X5_prepare_X5 4 (by decide) fq_X5_prepare_21 rfl dX5_prepare_36 ?_
      refine gq_iload (j := 6) C dX5_prepare_39 rfl ?_
      refine gq_iload (j := 5) C dX5_prepare_41 rfl ?_
      refine gq_aload_n (j := 0) C dX5_prepare_43 rfl ?_
      refine gq_get (v := .ref (ad 9)) (i := 18) C gcs_18 rfl iq_X5_prepare_X5 0 (by decide) fq_X5_prepare_27 rfl dX5_prepare_44 ?_
      refine gq_iload (j := 6) C dX5_prepare_47 rfl ?_
      refine gq_aload_n (j := 1) C dX5_prepare_49 rfl ?_
      refine gq_get (v := .int (σ.1 z1 5)) (i := z1) C (gcs_X4 hz1) rfl iq_X5_prepare_X4 5 (by decide) fq_X5_prepare_40 rfl dX5_prepare_50 ?_
      refine gq_iload_n (j := 3) C dX5_prepare_53 rfl ?_
      refine gq_vi (i := 9) C (gcs_X2 gr_9) rfl [.int x6, .int (σ.1 z1 5), .int x3] (mq_X2_costShut C.2.2.1 gr_9 x6 (σ.1 z1 5) x3 σ _ h) gX5_prepare_X2_costShut rfl rfl dq_X2_costShut ⟨rfl, rfl, by decide, by decide⟩ rfl rfl (Nat.le_of_ble_eq_true rfl) dX5_prepare_54 (fun r4 σ5 h => ?_)
      refine gq_iload (j := 7) C dX5_prepare_57 rfl ?_
      refine gq_iadd C dX5_prepare_59 ?_
      refine gq_si C [.int x5, .int (r4 + v3)] (mq_X2_tollFor C.2.2.1 x5 (r4 + v3) σ5 _ h) gX5_prepare_X2_tollFor rfl dq_X2_tollFor ⟨rfl, rfl, by decide, by decide⟩ rfl rfl (Nat.le_of_ble_eq_true rfl) dX5_prepare_60 (fun r6 σ7 h => ?_)
      refine gq_iast (i := 22) (j := x6.toNatClampNeg) C gcs_22 0 rfl rfl h.1 dX5_prepare_63 ?_
      have h := h.2
      refine gq_aload_n (j := 0) C dX5_prepare_64 rfl ?_
      refine gq_get (v := .ref (ad 23)) (i := 18) C gcs_18 rfl iq_X5_prepare_X5 5 (by decide) fq_X5_prepare_24 rfl dX5_prepare_65 ?_
      refine gq_iload (j := 6) C dX5_prepare_68 rfl ?_
      refine gq_iload (j := 5) C dX5_prepare_70 rfl ?_
      refine gq_iload (j := 7) C dX5_prepare_72 rfl ?_
      refine gq_si C [.int x5, .int v3] (mq_X2_tollFor C.2.2.1 x5 v3 (gq_put σ7 22 x6.toNatClampNeg r6) _ h) gX5_prepare_X2_tollFor rfl dq_X2_tollFor ⟨rfl, rfl, by decide, by decide⟩ rfl rfl (Nat.le_of_ble_eq_true rfl) dX5_prepare_74 (fun r8 σ9 h => ?_)
      refine gq_iast (i := 23) (j := x6.toNatClampNeg) C gcs_23 0 rfl rfl h.1 dX5_prepare_77 ?_
      have h := h.2
      obtain ⟨v10, qv10⟩ : ∃ y : Int32, y = (x6 + 1) := ⟨_, rfl⟩
      have h := h v10 qv10
      refine gq_iinc (j := 6) (v := v10) (L' := [(0, .ref (ad 18)), (1, .ref (ad z1)), (2, .int x2), (3, .int x3), (4, .int x4), (5, .int x5), (6, .int v10), (7, .int v3)]) C [1, 2, 3, 4, 5, 6, 0, 7] dX5_prepare_78 rfl (by rw [qv10]; rfl) (by decide) rfl ?_
      refine gq_goto (tgt := 14) C dX5_prepare_81 (by decide) ?_
      refine gq_sub [0, 1, 2, 3, 4, 5, 6] rfl ?_
      exact ih _ _ _ _ _ _ h
def wq_X5_prepare_b109 (z1 : Nat) (Q : gq_M → Prop) (x2 : Int32) (s1 : Int32) (σ : gq_M) : Prop := gq_b s1 ∧ vp_in x2 5 ∧ vp_in x2 5 ∧ vp_in x2 5 ∧ wq_X5_modeAt ((gq_put (gq_put σ 18 7 s1) 18 9 ((gq_put σ 18 7 s1).1 (z1 + 2) x2.toNatClampNeg)).1 (z1 + 1) x2.toNatClampNeg) (((gq_put (gq_put σ 18 7 s1) 18 9 ((gq_put σ 18 7 s1).1 (z1 + 2) x2.toNatClampNeg))).1 z1 4) (gq_put (gq_put σ 18 7 s1) 18 9 ((gq_put σ 18 7 s1).1 (z1 + 2) x2.toNatClampNeg)) (fun r15 σ16 => Q (gq_put σ16 18 8 ((((gq_put (gq_put σ 18 7 s1) 18 9 ((gq_put σ 18 7 s1).1 (z1 + 2) x2.toNatClampNeg)).1 (z1 + 1) x2.toNatClampNeg) * 3) + r15)))
set_option maxRecDepth 100000 in
set_option maxHeartbeats 4000000 in
theorem tq_X5_prepare_b109 {p : Program} {l : Launch} {e : Env} {s : State} {m : MethodId} {args : Array Value} {below : List Frame} {meth : Method} {c : Code} {D : va_G} {cyI cyZ cyS : ClassId} {ad : Nat → Nat} {z1 : Nat} {Q : gq_M → Prop} (C : gq_C p s m args meth c cX5_prepare 8 RX5 wsX5_prepare D (gc_T cyI cyZ cyS) 84 ad none) (hz1 : gs_z z1) (x2 : Int32) (s1 : Int32) (σ : gq_M) (h : wq_X5_prepare_b109 z1 Q x2 s1 σ) : gq_G p l e rq_X5_prepare s m args below meth c (gq_Rv below args s D (gc_T cyI cyZ cyS) 84 ad (gc_S cyI cyZ cyS ad) Q) D 84 ad (gc_S cyI cyZ cyS ad) 8 σ 109 [(0, .ref (ad 18)), (1, .ref (ad z1)), (2, .int x2)] [.int s1, .ref (ad 18)] := by
  unfold wq_X5_prepare_b109 at h
  refine gq_puti (i := 18) C gcs_18 rfl iq_X5_prepare_X5 tyX5 tyX5_ok nmX5 7 (by decide) fq_X5_prepare_58 rfl (gq_b_nar h.1) (gq_b_fit h.1) (fun _ _ => Nat.le_of_ble_eq_true rfl) gs_X5_7 dX5_prepare_109 ?_
  have h := h.2
  refine gq_aload_n (j := 0) C dX5_prepare_112 rfl ?_
  refine gq_aload_n (j := 1) C dX5_prepare_113 rfl ?_
  refine gq_get (v := .ref (ad (z1 + 2))) (i := z1) C (gcs_X4 hz1) rfl iq_X5_prepare_X4 2 (by decide) fq_X5_prepare_62 rfl dX5_prepare_114 ?_
  refine gq_iload_n (j := 2) C dX5_prepare_117 rfl ?_
  refine gq_iald (i := (z1 + 2)) (j := x2.toNatClampNeg) C (gcs_X4_2 hz1) 0 rfl rfl h.1 dX5_prepare_118 ?_
  have h := h.2
  refine gq_puti (i := 18) C gcs_18 rfl iq_X5_prepare_X5 tyX5 tyX5_ok nmX5 9 (by decide) fq_X5_prepare_65 rfl rfl rfl (fun _ _ => Nat.le_of_ble_eq_true rfl) gs_X5_9 dX5_prepare_119 ?_
  refine gq_aload_n (j := 0) C dX5_prepare_122 rfl ?_
  refine gq_aload_n (j := 1) C dX5_prepare_123 rfl ?_
  refine gq_get (v := .ref (ad (z1 + 1))) (i := z1) C (gcs_X4 hz1) rfl iq_X5_prepare_X4 1 (by decide) fq_X5_prepare_68 rfl dX5_prepare_124 ?_
  refine gq_iload_n (j := 2) C dX5_prepare_127 rfl ?_
  refine gq_iald (i := (z1 + 1)) (j := x2.toNatClampNeg) C (gcs_X4_1 hz1) 0 rfl rfl h.1 dX5_prepare_128 ?_
  have h := h.2
  refine gq_iconst (v := 3) C dX5_prepare_129 (by decide) ?_
  refine gq_imul C dX5_prepare_130 ?_
  refine gq_aload_n (j := 1) C dX5_prepare_131 rfl ?_
  refine gq_get (v := .ref (ad (z1 + 1))) (i := z1) C (gcs_X4 hz1) rfl iq_X5_prepare_X4 1 (by decide) fq_X5_prepare_68 rfl dX5_prepare_132 ?_
  refine gq_iload_n (j := 2) C dX5_prepare_135 rfl ?_
  refine gq_iald (i := (z1 + 1)) (j := x2.toNatClampNeg) C (gcs_X4_1 hz1) 0 rfl rfl h.1 dX5_prepare_136 ?_
  have h := h.2
  refine gq_aload_n (j := 1) C dX5_prepare_137 rfl ?_
  refine gq_get (v := .int (((gq_put (gq_put σ 18 7 s1) 18 9 ((gq_put σ 18 7 s1).1 (z1 + 2) x2.toNatClampNeg))).1 z1 4)) (i := z1) C (gcs_X4 hz1) rfl iq_X5_prepare_X4 4 (by decide) fq_X5_prepare_71 rfl dX5_prepare_138 ?_
  refine gq_si C [.int ((gq_put (gq_put σ 18 7 s1) 18 9 ((gq_put σ 18 7 s1).1 (z1 + 2) x2.toNatClampNeg)).1 (z1 + 1) x2.toNatClampNeg), .int (((gq_put (gq_put σ 18 7 s1) 18 9 ((gq_put σ 18 7 s1).1 (z1 + 2) x2.toNatClampNeg))).1 z1 4)] (mq_X5_modeAt C.2.2.1 ((gq_put (gq_put σ 18 7 s1) 18 9 ((gq_put σ 18 7 s1).1 (z1 + 2) x2.toNatClampNeg)).1 (z1 + 1) x2.toNatClampNeg) (((gq_put (gq_put σ 18 7 s1) 18 9 ((gq_put σ 18 7 s1).1 (z1 + 2) x2.toNatClampNeg))).1 z1 4) (gq_put (gq_put σ 18 7 s1) 18 9 ((gq_put σ 18 7 s1).1 (z1 + 2) x2.toNatClampNeg)) _ h) gX5_prepare_X5_modeAt rfl dq_X5_modeAt ⟨rfl, rfl, by decide, by decide⟩ rfl rfl (Nat.le_of_ble_eq_true rfl) dX5_prepare_141 (fun r15 σ16 h => ?_)
  refine gq_iadd C dX5_prepare_144 ?_
  refine gq_puti (i := 18) C gcs_18 rfl iq_X5_prepare_X5 tyX5 tyX5_ok nmX5 8 (by decide) fq_X5_prepare_77 rfl rfl rfl (fun _ _ => Nat.le_of_ble_eq_true rfl) gs_X5_8 dX5_prepare_145 ?_
  exact gq_vret C h dX5_prepare_148
def wq_X5_prepare (z1 : Nat) (a2 : Int32) (a3 : Int32) (a4 : Int32) (σ : gq_M) (Q : gq_M → Prop) : Prop := vp_in a2 5 ∧ ∀ v1, v1 = (σ.1 14 a2.toNatClampNeg) → (∃ n17, wq_X5_prepare_l14 z1 Q (fun e11 e12 σ13 => vp_in e11 5 ∧ ((¬ e12 = 3 → wq_X5_prepare_b109 z1 Q e11 0 (gq_put σ13 18 6 (σ13.1 13 e11.toNatClampNeg))) ∧ (e12 = 3 → wq_X5_prepare_b109 z1 Q e11 1 (gq_put σ13 18 6 (σ13.1 13 e11.toNatClampNeg))))) n17 a2 a3 a4 v1 0 σ)
set_option maxRecDepth 100000 in
set_option maxHeartbeats 4000000 in
theorem tq_X5_prepare {p : Program} {l : Launch} {e : Env} {s : State} {m : MethodId} {args : Array Value} {below : List Frame} {meth : Method} {c : Code} {D : va_G} {cyI cyZ cyS : ClassId} {ad : Nat → Nat} {z1 : Nat} {Q : gq_M → Prop} (C : gq_C p s m args meth c cX5_prepare 8 RX5 wsX5_prepare D (gc_T cyI cyZ cyS) 84 ad none) (hz1 : gs_z z1) (a2 : Int32) (a3 : Int32) (a4 : Int32) (σ : gq_M) (h : wq_X5_prepare z1 a2 a3 a4 σ Q) : gq_G p l e rq_X5_prepare s m args below meth c (gq_Rv below args s D (gc_T cyI cyZ cyS) 84 ad (gc_S cyI cyZ cyS ad) Q) D 84 ad (gc_S cyI cyZ cyS ad) 8 σ 0 [(0, .ref (ad 18)), (1, .ref (ad z1)), (2, .int a2), (3, .int a3), (4, .int a4)] [] := by
  unfold wq_X5_prepare at h
  refine gq_aload_n (j := 0) C dX5_prepare_0 rfl ?_
  refine gq_get (v := .ref (ad 9)) (i := 18) C gcs_18 rfl iq_X5_prepare_X5 0 (by decide) fq_X5_prepare_27 rfl dX5_prepare_1 ?_
  refine gq_get (v := .ref (ad 14)) (i := 9) C (gcs_X2 gr_9) rfl iq_X5_prepare_X2 4 (by decide) fq_X5_prepare_31 rfl dX5_prepare_4 ?_
  refine gq_iload_n (j := 2) C dX5_prepare_7 rfl ?_
  refine gq_iald (i := 14) (j := a2.toNatClampNeg) C (gcs_X2_5 gr_9) 0 rfl rfl h.1 dX5_prepare_8 ?_
  have h := h.2
  refine gq_topi (fun v1 qv1 => ?_)
  have h := h v1 qv1
  refine gq_istore (L' := [(0, .ref (ad 18)), (1, .ref (ad z1)), (2, .int a2), (3, .int a3), (4, .int a4), (5, .int v1)]) C [1, 2, 3, 4, 5, 0] dX5_prepare_9 (by decide) rfl ?_
  refine gq_iconst (v := 0) C dX5_prepare_11 (by decide) ?_
  refine gq_istore (L' := [(0, .ref (ad 18)), (1, .ref (ad z1)), (2, .int a2), (3, .int a3), (4, .int a4), (5, .int v1), (6, .int 0)]) C [1, 2, 3, 4, 5, 6, 0] dX5_prepare_12 (by decide) rfl ?_
  obtain ⟨n17, h⟩ := h
  refine tq_X5_prepare_l14 C hz1 (fun e11 e12 σ13 h => ?_) n17 _ _ _ _ _ _ h
  refine gq_aload_n (j := 0) C dX5_prepare_84 rfl ?_
  refine gq_aload_n (j := 0) C dX5_prepare_85 rfl ?_
  refine gq_get (v := .ref (ad 9)) (i := 18) C gcs_18 rfl iq_X5_prepare_X5 0 (by decide) fq_X5_prepare_27 rfl dX5_prepare_86 ?_
  refine gq_get (v := .ref (ad 13)) (i := 9) C (gcs_X2 gr_9) rfl iq_X5_prepare_X2 3 (by decide) fq_X5_prepare_53 rfl dX5_prepare_89 ?_
  refine gq_iload_n (j := 2) C dX5_prepare_92 rfl ?_
  refine gq_iald (i := 13) (j := e11.toNatClampNeg) C (gcs_X2_4 gr_9) 0 rfl rfl h.1 dX5_prepare_93 ?_
  have h := h.2
  refine gq_puti (i := 18) C gcs_18 rfl iq_X5_prepare_X5 tyX5 tyX5_ok nmX5 6 (by decide) fq_X5_prepare_56 rfl rfl rfl (fun _ _ => Nat.le_of_ble_eq_true rfl) gs_X5_6 dX5_prepare_94 ?_
  refine gq_aload_n (j := 0) C dX5_prepare_97 rfl ?_
  refine gq_iload (j := 3) C dX5_prepare_98 rfl ?_
  refine gq_iconst (v := 3) C dX5_prepare_100 (by decide) ?_
  refine gq_icmp_ne (tgt := 108) C dX5_prepare_101 (by decide) (fun c14 => ?_) (fun c14 => ?_)
  · have h := h.1 c14
    refine gq_iconst (v := 0) C dX5_prepare_108 (by decide) ?_
    refine gq_sub [0, 1, 2] rfl ?_
    exact tq_X5_prepare_b109 C hz1 _ _ _ h
  · have h := h.2 c14
    refine gq_iconst (v := 1) C dX5_prepare_104 (by decide) ?_
    refine gq_goto (tgt := 109) C dX5_prepare_105 (by decide) ?_
    refine gq_sub [0, 1, 2] rfl ?_
    exact tq_X5_prepare_b109 C hz1 _ _ _ h
theorem mq_X5_prepare {l : Launch} {D : va_G} {cyI cyZ cyS : ClassId} {ad : Nat → Nat} (hap : gq_ap 84 ad) {z1 : Nat} (hz1 : gs_z z1) (a2 : Int32) (a3 : Int32) (a4 : Int32) (σ : gq_M) (Q : gq_M → Prop) (h : wq_X5_prepare z1 a2 a3 a4 σ Q) : Met l yX5_prepare wsX5_prepare rq_X5_prepare (va_Pc [.ref (ad 18), .ref (ad z1), .int a2, .int a3, .int a4] (gq_P D (gc_T cyI cyZ cyS) 84 ad (gc_S cyI cyZ cyS ad) σ)) (va_Qv Q (gq_P D (gc_T cyI cyZ cyS) 84 ad (gc_S cyI cyZ cyS ad)) (gq_A 84 ad)) 0 0 (gq_A 84 ad) :=
  gq_met hap (by decide) rfl rfl (Nat.le_of_ble_eq_true rfl) (fun _ _ _ _ _ _ _ C => tq_X5_prepare C hz1 a2 a3 a4 σ h)
abbrev rq_J7_fill_53178 : Room := { frames := 0, cells := 0, slots := 0, locals := 0 }
theorem dq_J7_fill_53178 : gq_dsc yJ7_fill_53178 2 := by unfold gq_dsc; decide +kernel
def wq_J7_fill_53178_l5 (i1 : Nat) (Q : gq_M → Prop) (K20 : gq_M → Prop) : Nat → Int32 → Int32 → Int32 → gq_M → Prop
  | 0, _, _, _, _ => False
  | n + 1, x1, x2, x3, σ => ((x3 ≤ x2 → K20 σ) ∧ (¬ x3 ≤ x2 → vp_in x2 33 ∧ ∀ v2, v2 = (x2 + 1) → wq_J7_fill_53178_l5 i1 Q K20 n x1 v2 x3 (gq_put σ i1 x2.toNatClampNeg x1)))
set_option maxRecDepth 100000 in
set_option maxHeartbeats 4000000 in
theorem tq_J7_fill_53178_l5 {p : Program} {l : Launch} {e : Env} {s : State} {m : MethodId} {args : Array Value} {below : List Frame} {meth : Method} {c : Code} {D : va_G} {cyI cyZ cyS : ClassId} {ad : Nat → Nat} {i1 : Nat} {Q : gq_M → Prop} {K20 : gq_M → Prop} (C : gq_C p s m args meth c cJ7_fill_53178 4 RJ7 wsJ7_fill_53178 D (gc_T cyI cyZ cyS) 84 ad none) (hi1 : gi_i i1) (hK20 : ∀ (τ : gq_M), K20 τ → gq_G p l e rq_J7_fill_53178 s m args below meth c (gq_Rv below args s D (gc_T cyI cyZ cyS) 84 ad (gc_S cyI cyZ cyS ad) Q) D 84 ad (gc_S cyI cyZ cyS ad) 4 τ 20 [(0, .ref (ad i1))] []) : ∀ (n : Nat) (x1 : Int32) (x2 : Int32) (x3 : Int32) (σ : gq_M), wq_J7_fill_53178_l5 i1 Q K20 n x1 x2 x3 σ → gq_G p l e rq_J7_fill_53178 s m args below meth c (gq_Rv below args s D (gc_T cyI cyZ cyS) 84 ad (gc_S cyI cyZ cyS ad) Q) D 84 ad (gc_S cyI cyZ cyS ad) 4 σ 5 [(0, .ref (ad i1)), (1, .int x1), (2, .int x2), (3, .int x3)] [] := by
  intro n
  induction n with
  | zero =>
    intro x1 x2 x3 σ h
    exact absurd h (fun q => q)
  | succ n ih =>
    intro x1 x2 x3 σ h
    unfold wq_J7_fill_53178_l5 at h
    refine gq_iload_n (j := 2) C dJ7_fill_53178_5 rfl ?_
    refine gq_iload_n (j := 3) C dJ7_fill_53178_6 rfl ?_
    refine gq_icmp_ge (tgt := 20) C dJ7_fill_53178_7 (by decide) (fun c1 => ?_) (fun c1 => ?_)
    · have h := h.1 c1
      refine gq_sub [0] rfl ?_
      exact hK20  _ h
    · have h := h.2 c1
      refine gq_aload_n (j := 0) C dJ7_fill_53178_10 rfl ?_
      refine gq_iload_n (j := 2) C dJ7_fill_53178_11 rfl ?_
      refine gq_iload_n (j := 1) C dJ7_fill_53178_12 rfl ?_
      refine gq_iast (i := i1) (j := x2.toNatClampNeg) C (gcs_fill hi1) 0 rfl rfl h.1 dJ7_fill_53178_13 ?_
      have h := h.2
      obtain ⟨v2, qv2⟩ : ∃ y : Int32, y = (x2 + 1) := ⟨_, rfl⟩
      have h := h v2 qv2
      refine gq_iinc (j := 2) (v := v2) (L' := [(0, .ref (ad i1)), (1, .int x1), (2, .int v2), (3, .int x3)]) C [1, 2, 0, 3] dJ7_fill_53178_14 rfl (by rw [qv2]; rfl) (by decide) rfl ?_
      refine gq_goto (tgt := 5) C dJ7_fill_53178_17 (by decide) ?_
      exact ih _ _ _ _ h
def wq_J7_fill_53178 (i1 : Nat) (a2 : Int32) (σ : gq_M) (Q : gq_M → Prop) : Prop := (∃ n4, wq_J7_fill_53178_l5 i1 Q (fun σ3 => Q σ3) n4 a2 0 33 σ)
set_option maxRecDepth 100000 in
set_option maxHeartbeats 4000000 in
theorem tq_J7_fill_53178 {p : Program} {l : Launch} {e : Env} {s : State} {m : MethodId} {args : Array Value} {below : List Frame} {meth : Method} {c : Code} {D : va_G} {cyI cyZ cyS : ClassId} {ad : Nat → Nat} {i1 : Nat} {Q : gq_M → Prop} (C : gq_C p s m args meth c cJ7_fill_53178 4 RJ7 wsJ7_fill_53178 D (gc_T cyI cyZ cyS) 84 ad none) (hi1 : gi_i i1) (a2 : Int32) (σ : gq_M) (h : wq_J7_fill_53178 i1 a2 σ Q) : gq_G p l e rq_J7_fill_53178 s m args below meth c (gq_Rv below args s D (gc_T cyI cyZ cyS) 84 ad (gc_S cyI cyZ cyS ad) Q) D 84 ad (gc_S cyI cyZ cyS ad) 4 σ 0 [(0, .ref (ad i1)), (1, .int a2)] [] := by
  unfold wq_J7_fill_53178 at h
  refine gq_iconst (v := 0) C dJ7_fill_53178_0 (by decide) ?_
  refine gq_istore_n (L' := [(0, .ref (ad i1)), (1, .int a2), (2, .int 0)]) C [1, 2, 0] dJ7_fill_53178_1 (by decide) rfl ?_
  refine gq_aload_n (j := 0) C dJ7_fill_53178_2 rfl ?_
  refine gq_alen (i := i1) (v := 33) C (gcs_fill hi1) 0 rfl rfl dJ7_fill_53178_3 ?_
  refine gq_istore_n (L' := [(0, .ref (ad i1)), (1, .int a2), (2, .int 0), (3, .int 33)]) C [1, 2, 3, 0] dJ7_fill_53178_4 (by decide) rfl ?_
  obtain ⟨n4, h⟩ := h
  refine tq_J7_fill_53178_l5 C hi1 (fun σ3 h => ?_) n4 _ _ _ _ h
  exact gq_vret C h dJ7_fill_53178_20
theorem mq_J7_fill_53178 {l : Launch} {D : va_G} {cyI cyZ cyS : ClassId} {ad : Nat → Nat} (hap : gq_ap 84 ad) {i1 : Nat} (hi1 : gi_i i1) (a2 : Int32) (σ : gq_M) (Q : gq_M → Prop) (h : wq_J7_fill_53178 i1 a2 σ Q) : Met l yJ7_fill_53178 wsJ7_fill_53178 rq_J7_fill_53178 (va_Pc [.ref (ad i1), .int a2] (gq_P D (gc_T cyI cyZ cyS) 84 ad (gc_S cyI cyZ cyS ad) σ)) (va_Qv Q (gq_P D (gc_T cyI cyZ cyS) 84 ad (gc_S cyI cyZ cyS ad)) (gq_A 84 ad)) 0 0 (gq_A 84 ad) :=
  gq_met hap (by decide) rfl rfl (Nat.le_of_ble_eq_true rfl) (fun _ _ _ _ _ _ _ C => tq_J7_fill_53178 C hi1 a2 σ h)
abbrev rq_X5_beginAt : Room := { frames := 1, cells := 0, slots := 0, locals := 23 }
theorem dq_X5_beginAt : gq_dsc yX5_beginAt 0 := by unfold gq_dsc; decide +kernel
theorem iq_X5_beginAt_X5 : ∀ w ∈ u_ws RX5 TX5 10, w ∈ wsX5_beginAt := by decide +kernel
theorem fq_X5_beginAt_11 : Cond.fieldLink RX5 11 (TX5 1).1 (TX5 1).2.1 (TX5 1).2.2.1 ∈ wsX5_beginAt := by decide +kernel
theorem fq_X5_beginAt_77 : Cond.fieldLink RX5 77 (TX5 8).1 (TX5 8).2.1 (TX5 8).2.2.1 ∈ wsX5_beginAt := by decide +kernel
theorem fq_X5_beginAt_65 : Cond.fieldLink RX5 65 (TX5 9).1 (TX5 9).2.1 (TX5 9).2.2.1 ∈ wsX5_beginAt := by decide +kernel
def wq_X5_beginAt (σ : gq_M) (Q : gq_M → Prop) : Prop := wq_J7_fill_53178 19 (-1) σ (fun σ2 => vp_in (σ2.1 18 8) 33 ∧ Q (gq_put σ2 19 ((σ2.1 18 8)).toNatClampNeg (σ2.1 18 9)))
set_option maxRecDepth 100000 in
set_option maxHeartbeats 4000000 in
theorem tq_X5_beginAt {p : Program} {l : Launch} {e : Env} {s : State} {m : MethodId} {args : Array Value} {below : List Frame} {meth : Method} {c : Code} {D : va_G} {cyI cyZ cyS : ClassId} {ad : Nat → Nat} {Q : gq_M → Prop} (C : gq_C p s m args meth c cX5_beginAt 1 RX5 wsX5_beginAt D (gc_T cyI cyZ cyS) 84 ad none) (σ : gq_M) (h : wq_X5_beginAt σ Q) : gq_G p l e rq_X5_beginAt s m args below meth c (gq_Rv below args s D (gc_T cyI cyZ cyS) 84 ad (gc_S cyI cyZ cyS ad) Q) D 84 ad (gc_S cyI cyZ cyS ad) 1 σ 0 [(0, .ref (ad 18))] [] := by
  unfold wq_X5_beginAt at h
  refine gq_aload_n (j := 0) C dX5_beginAt_0 rfl ?_
  refine gq_get (v := .ref (ad 19)) (i := 18) C gcs_18 rfl iq_X5_beginAt_X5 1 (by decide) fq_X5_beginAt_11 rfl dX5_beginAt_1 ?_
  refine gq_iconst (v := (-1)) C dX5_beginAt_4 (by decide) ?_
  refine gq_sv C [.ref (ad 19), .int (-1)] (mq_J7_fill_53178 C.2.2.1 gi_19 (-1) σ _ h) gX5_beginAt_J7_fill_53178 rfl dq_J7_fill_53178 ⟨rfl, rfl, by decide, by decide⟩ rfl rfl (Nat.le_of_ble_eq_true rfl) dX5_beginAt_5 (fun σ2 h => ?_)
  refine gq_aload_n (j := 0) C dX5_beginAt_8 rfl ?_
  refine gq_get (v := .ref (ad 19)) (i := 18) C gcs_18 rfl iq_X5_beginAt_X5 1 (by decide) fq_X5_beginAt_11 rfl dX5_beginAt_9 ?_
  refine gq_aload_n (j := 0) C dX5_beginAt_12 rfl ?_
  refine gq_get (v := .int (σ2.1 18 8)) (i := 18) C gcs_18 rfl iq_X5_beginAt_X5 8 (by decide) fq_X5_beginAt_77 rfl dX5_beginAt_13 ?_
  refine gq_aload_n (j := 0) C dX5_beginAt_16 rfl ?_
  refine gq_get (v := .int (σ2.1 18 9)) (i := 18) C gcs_18 rfl iq_X5_beginAt_X5 9 (by decide) fq_X5_beginAt_65 rfl dX5_beginAt_17 ?_
  refine gq_iast (i := 19) (j := ((σ2.1 18 8)).toNatClampNeg) C gcs_19 0 rfl rfl h.1 dX5_beginAt_20 ?_
  have h := h.2
  exact gq_vret C h dX5_beginAt_21
theorem mq_X5_beginAt {l : Launch} {D : va_G} {cyI cyZ cyS : ClassId} {ad : Nat → Nat} (hap : gq_ap 84 ad) (σ : gq_M) (Q : gq_M → Prop) (h : wq_X5_beginAt σ Q) : Met l yX5_beginAt wsX5_beginAt rq_X5_beginAt (va_Pc [.ref (ad 18)] (gq_P D (gc_T cyI cyZ cyS) 84 ad (gc_S cyI cyZ cyS ad) σ)) (va_Qv Q (gq_P D (gc_T cyI cyZ cyS) 84 ad (gc_S cyI cyZ cyS ad)) (gq_A 84 ad)) 0 0 (gq_A 84 ad) :=
  gq_met hap (by decide) rfl rfl (Nat.le_of_ble_eq_true rfl) (fun _ _ _ _ _ _ _ C => tq_X5_beginAt C σ h)
