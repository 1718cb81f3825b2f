/-! ===== walks of X7_road, X7_isPleat, X7_isTraveller, X7_isPlace, X7_costs, X7_pays, X7_paysOn, X7_pleatOf, X7_canStep, X7_stepOn, X7_rested (by wip/gen) ===== -/
abbrev rq_X7_road : Room := { frames := 4, cells := 0, slots := 0, locals := 90 }
theorem dq_X7_road : gq_dsc yX7_road 0 := by unfold gq_dsc; decide +kernel
theorem iq_X7_road_X7 : ∀ w ∈ u_ws RX7 TX7 30, w ∈ wsX7_road := by decide +kernel
theorem fq_X7_road_75 : Cond.fieldLink RX7 75 (TX7 9).1 (TX7 9).2.1 (TX7 9).2.2.1 ∈ wsX7_road := by decide +kernel
theorem fq_X7_road_93 : Cond.fieldLink RX7 93 (TX7 0).1 (TX7 0).2.1 (TX7 0).2.2.1 ∈ wsX7_road := by decide +kernel
theorem fq_X7_road_78 : Cond.fieldLink RX7 78 (TX7 10).1 (TX7 10).2.1 (TX7 10).2.2.1 ∈ wsX7_road := by decide +kernel
theorem fq_X7_road_96 : Cond.fieldLink RX7 96 (TX7 1).1 (TX7 1).2.1 (TX7 1).2.2.1 ∈ wsX7_road := by decide +kernel
theorem fq_X7_road_22 : Cond.fieldLink RX7 22 (TX7 6).1 (TX7 6).2.1 (TX7 6).2.2.1 ∈ wsX7_road := by decide +kernel
theorem fq_X7_road_7 : Cond.fieldLink RX7 7 (TX7 2).1 (TX7 2).2.1 (TX7 2).2.2.1 ∈ wsX7_road := by decide +kernel
theorem fq_X7_road_25 : Cond.fieldLink RX7 25 (TX7 7).1 (TX7 7).2.1 (TX7 7).2.2.1 ∈ wsX7_road := by decide +kernel
theorem fq_X7_road_13 : Cond.fieldLink RX7 13 (TX7 3).1 (TX7 3).2.1 (TX7 3).2.2.1 ∈ wsX7_road := by decide +kernel
theorem fq_X7_road_28 : Cond.fieldLink RX7 28 (TX7 8).1 (TX7 8).2.1 (TX7 8).2.2.1 ∈ wsX7_road := by decide +kernel
theorem fq_X7_road_16 : Cond.fieldLink RX7 16 (TX7 4).1 (TX7 4).2.1 (TX7 4).2.2.1 ∈ wsX7_road := by decide +kernel
theorem fq_X7_road_19 : Cond.fieldLink RX7 19 (TX7 5).1 (TX7 5).2.1 (TX7 5).2.2.1 ∈ wsX7_road := by decide +kernel
theorem fq_X7_road_102 : Cond.fieldLink RX7 102 (TX7 16).1 (TX7 16).2.1 (TX7 16).2.2.1 ∈ wsX7_road := by decide +kernel
theorem fq_X7_road_52 : Cond.fieldLink RX7 52 (TX7 28).1 (TX7 28).2.1 (TX7 28).2.2.1 ∈ wsX7_road := by decide +kernel
def wq_X7_road_l30 (Q : Int32 → gq_M → Prop) (K49 : gq_M → Prop) : Nat → Int32 → gq_M → Prop
  | 0, _, _ => False
  | n + 1, x1, σ => ((14 ≤ x1 → K49 σ) ∧ (¬ 14 ≤ x1 → vp_in x1 28 ∧ ∀ v5, v5 = (x1 + 1) → wq_X7_road_l30 Q K49 n v5 (gq_put σ 5 x1.toNatClampNeg 0)))
set_option maxRecDepth 100000 in
set_option maxHeartbeats 4000000 in
theorem tq_X7_road_l30 {p : Program} {l : Launch} {e : Env} {s : State} {m : MethodId} {args : Array Value} {below : List Frame} {meth : Method} {c : Code} {D : va_G} {cyI cyZ : ClassId} {ad : Nat → Nat} {Q : Int32 → gq_M → Prop} {K49 : gq_M → Prop} (C : gq_C p s m args meth c cX7_road 2 RX7 wsX7_road D (gm_T cyI cyZ) 17 ad (some .int)) (hK49 : ∀ (τ : gq_M), K49 τ → gq_G p l e rq_X7_road s m args below meth c (gq_Ri below args s D (gm_T cyI cyZ) 17 ad (gm_S cyI cyZ ad) Q) D 17 ad (gm_S cyI cyZ ad) 2 τ 49 [(0, .ref (ad 0))] []) : ∀ (n : Nat) (x1 : Int32) (σ : gq_M), wq_X7_road_l30 Q K49 n x1 σ → gq_G p l e rq_X7_road s m args below meth c (gq_Ri below args s D (gm_T cyI cyZ) 17 ad (gm_S cyI cyZ ad) Q) D 17 ad (gm_S cyI cyZ ad) 2 σ 30 [(0, .ref (ad 0)), (1, .int x1)] [] := by
  intro n
  induction n with
  | zero =>
    intro x1 σ h
    exact absurd h (fun q => q)
  | succ n ih =>
    intro x1 σ h
    unfold wq_X7_road_l30 at h
    refine gq_iload_n (j := 1) C dX7_road_30 rfl ?_
    refine gq_bipush (v := 14) C dX7_road_31 (by decide) ?_
    refine gq_icmp_ge (tgt := 49) C dX7_road_33 (by decide) (fun c4 => ?_) (fun c4 => ?_)
    · have h := h.1 c4
      refine gq_sub [0] rfl ?_
      exact hK49  _ h
    · have h := h.2 c4
      refine gq_aload_n (j := 0) C dX7_road_36 rfl ?_
      refine gq_get (v := .ref (ad 5)) (i := 0) C gms_0 rfl iq_X7_road_X7 6 (by decide) fq_X7_road_22 rfl dX7_road_37 ?_
      refine gq_iload_n (j := 1) C dX7_road_40 rfl ?_
      refine gq_iconst (v := 0) C dX7_road_41 (by decide) ?_
      refine gq_iast (i := 5) (j := x1.toNatClampNeg) C gms_5 0 rfl rfl h.1 dX7_road_42 ?_
      have h := h.2
      obtain ⟨v5, qv5⟩ : ∃ y : Int32, y = (x1 + 1) := ⟨_, rfl⟩
      have h := h v5 qv5
      refine gq_iinc (j := 1) (v := v5) (L' := [(0, .ref (ad 0)), (1, .int v5)]) C [1, 0] dX7_road_43 rfl (by rw [qv5]; rfl) (by decide) rfl ?_
      refine gq_goto (tgt := 30) C dX7_road_46 (by decide) ?_
      exact ih _ _ h
def wq_X7_road_l51 (Q : Int32 → gq_M → Prop) (K95 : gq_M → Prop) : Nat → Int32 → gq_M → Prop
  | 0, _, _ => False
  | n + 1, x1, σ => (((σ.1 0 0) ≤ x1 → K95 σ) ∧ (¬ (σ.1 0 0) ≤ x1 → vp_in (2 * x1) 20 ∧ vp_in x1 10 ∧ vp_in ((2 * x1) + 1) 20 ∧ vp_in x1 10 ∧ ∀ v8, v8 = (x1 + 1) → wq_X7_road_l51 Q K95 n v8 (gq_put (gq_put σ 1 x1.toNatClampNeg (σ.1 6 ((2 * x1)).toNatClampNeg)) 2 x1.toNatClampNeg ((gq_put σ 1 x1.toNatClampNeg (σ.1 6 ((2 * x1)).toNatClampNeg)).1 6 (((2 * x1) + 1)).toNatClampNeg))))
set_option maxRecDepth 100000 in
set_option maxHeartbeats 4000000 in
theorem tq_X7_road_l51 {p : Program} {l : Launch} {e : Env} {s : State} {m : MethodId} {args : Array Value} {below : List Frame} {meth : Method} {c : Code} {D : va_G} {cyI cyZ : ClassId} {ad : Nat → Nat} {Q : Int32 → gq_M → Prop} {K95 : gq_M → Prop} (C : gq_C p s m args meth c cX7_road 2 RX7 wsX7_road D (gm_T cyI cyZ) 17 ad (some .int)) (hK95 : ∀ (τ : gq_M), K95 τ → gq_G p l e rq_X7_road s m args below meth c (gq_Ri below args s D (gm_T cyI cyZ) 17 ad (gm_S cyI cyZ ad) Q) D 17 ad (gm_S cyI cyZ ad) 2 τ 95 [(0, .ref (ad 0))] []) : ∀ (n : Nat) (x1 : Int32) (σ : gq_M), wq_X7_road_l51 Q K95 n x1 σ → gq_G p l e rq_X7_road s m args below meth c (gq_Ri below args s D (gm_T cyI cyZ) 17 ad (gm_S cyI cyZ ad) Q) D 17 ad (gm_S cyI cyZ ad) 2 σ 51 [(0, .ref (ad 0)), (1, .int x1)] [] := by
  intro n
  induction n with
  | zero =>
    intro x1 σ h
    exact absurd h (fun q => q)
  | succ n ih =>
    intro x1 σ h
    unfold wq_X7_road_l51 at h
    refine gq_iload_n (j := 1) C dX7_road_51 rfl ?_
    refine gq_aload_n (j := 0) C dX7_road_52 rfl ?_
    refine gq_get (v := .int (σ.1 0 0)) (i := 0) C gms_0 rfl iq_X7_road_X7 0 (by decide) fq_X7_road_93 rfl dX7_road_53 ?_
    refine gq_icmp_ge (tgt := 95) C dX7_road_56 (by decide) (fun c7 => ?_) (fun c7 => ?_)
    · have h := h.1 c7
      refine gq_sub [0] rfl ?_
      exact hK95  _ h
    · have h := h.2 c7
      refine gq_aload_n (j := 0) C dX7_road_59 rfl ?_
      refine gq_get (v := .ref (ad 1)) (i := 0) C gms_0 rfl iq_X7_road_X7 2 (by decide) fq_X7_road_7 rfl dX7_road_60 ?_
      refine gq_iload_n (j := 1) C dX7_road_63 rfl ?_
      refine gq_aload_n (j := 0) C dX7_road_64 rfl ?_
      refine gq_get (v := .ref (ad 6)) (i := 0) C gms_0 rfl iq_X7_road_X7 7 (by decide) fq_X7_road_25 rfl dX7_road_65 ?_
      refine gq_iconst (v := 2) C dX7_road_68 (by decide) ?_
      refine gq_iload_n (j := 1) C dX7_road_69 rfl ?_
      refine gq_imul C dX7_road_70 ?_
      refine gq_iald (i := 6) (j := ((2 * x1)).toNatClampNeg) C gms_6 0 rfl rfl h.1 dX7_road_71 ?_
      have h := h.2
      refine gq_iast (i := 1) (j := x1.toNatClampNeg) C gms_1 0 rfl rfl h.1 dX7_road_72 ?_
      have h := h.2
      refine gq_aload_n (j := 0) C dX7_road_73 rfl ?_
      refine gq_get (v := .ref (ad 2)) (i := 0) C gms_0 rfl iq_X7_road_X7 3 (by decide) fq_X7_road_13 rfl dX7_road_74 ?_
      refine gq_iload_n (j := 1) C dX7_road_77 rfl ?_
      refine gq_aload_n (j := 0) C dX7_road_78 rfl ?_
      refine gq_get (v := .ref (ad 6)) (i := 0) C gms_0 rfl iq_X7_road_X7 7 (by decide) fq_X7_road_25 rfl dX7_road_79 ?_
      refine gq_iconst (v := 2) C dX7_road_82 (by decide) ?_
      refine gq_iload_n (j := 1) C dX7_road_83 rfl ?_
      refine gq_imul C dX7_road_84 ?_
      refine gq_iconst (v := 1) C dX7_road_85 (by decide) ?_
      refine gq_iadd C dX7_road_86 ?_
      refine gq_iald (i := 6) (j := (((2 * x1) + 1)).toNatClampNeg) C gms_6 0 rfl rfl h.1 dX7_road_87 ?_
      have h := h.2
      refine gq_iast (i := 2) (j := x1.toNatClampNeg) C gms_2 0 rfl rfl h.1 dX7_road_88 ?_
      have h := h.2
      obtain ⟨v8, qv8⟩ : ∃ y : Int32, y = (x1 + 1) := ⟨_, rfl⟩
      have h := h v8 qv8
      refine gq_iinc (j := 1) (v := v8) (L' := [(0, .ref (ad 0)), (1, .int v8)]) C [1, 0] dX7_road_89 rfl (by rw [qv8]; rfl) (by decide) rfl ?_
      refine gq_goto (tgt := 51) C dX7_road_92 (by decide) ?_
      exact ih _ _ h
def wq_X7_road_l97 (Q : Int32 → gq_M → Prop) (K171 : gq_M → Prop) : Nat → Int32 → gq_M → Prop
  | 0, _, _ => False
  | n + 1, x1, σ => (((σ.1 0 1) ≤ x1 → K171 σ) ∧ (¬ (σ.1 0 1) ≤ x1 → vp_in (3 * x1) 15 ∧ vp_in x1 28 ∧ vp_in ((3 * x1) + 1) 15 ∧ vp_in x1 5 ∧ vp_in ((3 * x1) + 2) 15 ∧ vp_in x1 5 ∧ vp_in x1 5 ∧ vp_in (5 + x1) 28 ∧ ∀ v11, v11 = (x1 + 1) → wq_X7_road_l97 Q K171 n v11 (gq_put (gq_put (gq_put (gq_put σ 5 x1.toNatClampNeg (σ.1 7 ((3 * x1)).toNatClampNeg)) 3 x1.toNatClampNeg ((gq_put σ 5 x1.toNatClampNeg (σ.1 7 ((3 * x1)).toNatClampNeg)).1 7 (((3 * x1) + 1)).toNatClampNeg)) 4 x1.toNatClampNeg ((gq_put (gq_put σ 5 x1.toNatClampNeg (σ.1 7 ((3 * x1)).toNatClampNeg)) 3 x1.toNatClampNeg ((gq_put σ 5 x1.toNatClampNeg (σ.1 7 ((3 * x1)).toNatClampNeg)).1 7 (((3 * x1) + 1)).toNatClampNeg)).1 7 (((3 * x1) + 2)).toNatClampNeg)) 5 ((5 + x1)).toNatClampNeg ((gq_put (gq_put (gq_put σ 5 x1.toNatClampNeg (σ.1 7 ((3 * x1)).toNatClampNeg)) 3 x1.toNatClampNeg ((gq_put σ 5 x1.toNatClampNeg (σ.1 7 ((3 * x1)).toNatClampNeg)).1 7 (((3 * x1) + 1)).toNatClampNeg)) 4 x1.toNatClampNeg ((gq_put (gq_put σ 5 x1.toNatClampNeg (σ.1 7 ((3 * x1)).toNatClampNeg)) 3 x1.toNatClampNeg ((gq_put σ 5 x1.toNatClampNeg (σ.1 7 ((3 * x1)).toNatClampNeg)).1 7 (((3 * x1) + 1)).toNatClampNeg)).1 7 (((3 * x1) + 2)).toNatClampNeg)).1 3 x1.toNatClampNeg))))
set_option maxRecDepth 100000 in
set_option maxHeartbeats 4000000 in
theorem tq_X7_road_l97 {p : Program} {l : Launch} {e : Env} {s : State} {m : MethodId} {args : Array Value} {below : List Frame} {meth : Method} {c : Code} {D : va_G} {cyI cyZ : ClassId} {ad : Nat → Nat} {Q : Int32 → gq_M → Prop} {K171 : gq_M → Prop} (C : gq_C p s m args meth c cX7_road 2 RX7 wsX7_road D (gm_T cyI cyZ) 17 ad (some .int)) (hK171 : ∀ (τ : gq_M), K171 τ → gq_G p l e rq_X7_road s m args below meth c (gq_Ri below args s D (gm_T cyI cyZ) 17 ad (gm_S cyI cyZ ad) Q) D 17 ad (gm_S cyI cyZ ad) 2 τ 171 [(0, .ref (ad 0))] []) : ∀ (n : Nat) (x1 : Int32) (σ : gq_M), wq_X7_road_l97 Q K171 n x1 σ → gq_G p l e rq_X7_road s m args below meth c (gq_Ri below args s D (gm_T cyI cyZ) 17 ad (gm_S cyI cyZ ad) Q) D 17 ad (gm_S cyI cyZ ad) 2 σ 97 [(0, .ref (ad 0)), (1, .int x1)] [] := by
  intro n
  induction n with
  | zero =>
    intro x1 σ h
    exact absurd h (fun q => q)
  | succ n ih =>
    intro x1 σ h
    unfold wq_X7_road_l97 at h
    refine gq_iload_n (j := 1) C dX7_road_97 rfl ?_
    refine gq_aload_n (j := 0) C dX7_road_98 rfl ?_
    refine gq_get (v := .int (σ.1 0 1)) (i := 0) C gms_0 rfl iq_X7_road_X7 1 (by decide) fq_X7_road_96 rfl dX7_road_99 ?_
    refine gq_icmp_ge (tgt := 171) C dX7_road_102 (by decide) (fun c10 => ?_) (fun c10 => ?_)
    · have h := h.1 c10
      refine gq_sub [0] rfl ?_
      exact hK171  _ h
    · have h := h.2 c10
      refine gq_aload_n (j := 0) C dX7_road_105 rfl ?_
      refine gq_get (v := .ref (ad 5)) (i := 0) C gms_0 rfl iq_X7_road_X7 6 (by decide) fq_X7_road_22 rfl dX7_road_106 ?_
      refine gq_iload_n (j := 1) C dX7_road_109 rfl ?_
      refine gq_aload_n (j := 0) C dX7_road_110 rfl ?_
      refine gq_get (v := .ref (ad 7)) (i := 0) C gms_0 rfl iq_X7_road_X7 8 (by decide) fq_X7_road_28 rfl dX7_road_111 ?_
      refine gq_iconst (v := 3) C dX7_road_114 (by decide) ?_
      refine gq_iload_n (j := 1) C dX7_road_115 rfl ?_
      refine gq_imul C dX7_road_116 ?_
      refine gq_iald (i := 7) (j := ((3 * x1)).toNatClampNeg) C gms_7 0 rfl rfl h.1 dX7_road_117 ?_
      have h := h.2
      refine gq_iast (i := 5) (j := x1.toNatClampNeg) C gms_5 0 rfl rfl h.1 dX7_road_118 ?_
      have h := h.2
      refine gq_aload_n (j := 0) C dX7_road_119 rfl ?_
      refine gq_get (v := .ref (ad 3)) (i := 0) C gms_0 rfl iq_X7_road_X7 4 (by decide) fq_X7_road_16 rfl dX7_road_120 ?_
      refine gq_iload_n (j := 1) C dX7_road_123 rfl ?_
      refine gq_aload_n (j := 0) C dX7_road_124 rfl ?_
      refine gq_get (v := .ref (ad 7)) (i := 0) C gms_0 rfl iq_X7_road_X7 8 (by decide) fq_X7_road_28 rfl dX7_road_125 ?_
      refine gq_iconst (v := 3) C dX7_road_128 (by decide) ?_
      refine gq_iload_n (j := 1) C dX7_road_129 rfl ?_
      refine gq_imul C dX7_road_130 ?_
      refine gq_iconst (v := 1) C dX7_road_131 (by decide) ?_
      refine gq_iadd C dX7_road_132 ?_
      refine gq_iald (i := 7) (j := (((3 * x1) + 1)).toNatClampNeg) C gms_7 0 rfl rfl h.1 dX7_road_133 ?_
      have h := h.2
      refine gq_iast (i := 3) (j := x1.toNatClampNeg) C gms_3 0 rfl rfl h.1 dX7_road_134 ?_
      have h := h.2
      refine gq_aload_n (j := 0) C dX7_road_135 rfl ?_
      refine gq_get (v := .ref (ad 4)) (i := 0) C gms_0 rfl iq_X7_road_X7 5 (by decide) fq_X7_road_19 rfl dX7_road_136 ?_
      refine gq_iload_n (j := 1) C dX7_road_139 rfl ?_
      refine gq_aload_n (j := 0) C dX7_road_140 rfl ?_
      refine gq_get (v := .ref (ad 7)) (i := 0) C gms_0 rfl iq_X7_road_X7 8 (by decide) fq_X7_road_28 rfl dX7_road_141 ?_
      refine gq_iconst (v := 3) C dX7_road_144 (by decide) ?_
      refine gq_iload_n (j := 1) C dX7_road_145 rfl ?_
      refine gq_imul C dX7_road_146 ?_
      refine gq_iconst (v := 2) C dX7_road_147 (by decide) ?_
      refine gq_iadd C dX7_road_148 ?_
      refine gq_iald (i := 7) (j := (((3 * x1) + 2)).toNatClampNeg) C gms_7 0 rfl rfl h.1 dX7_road_149 ?_
      have h := h.2
      refine gq_iast (i := 4) (j := x1.toNatClampNeg) C gms_4 0 rfl rfl h.1 dX7_road_150 ?_
      have h := h.2
      refine gq_aload_n (j := 0) C dX7_road_151 rfl ?_
      refine gq_get (v := .ref (ad 5)) (i := 0) C gms_0 rfl iq_X7_road_X7 6 (by decide) fq_X7_road_22 rfl dX7_road_152 ?_
      refine gq_iconst (v := 5) C dX7_road_155 (by decide) ?_
      refine gq_iload_n (j := 1) C dX7_road_156 rfl ?_
      refine gq_iadd C dX7_road_157 ?_
      refine gq_aload_n (j := 0) C dX7_road_158 rfl ?_
      refine gq_get (v := .ref (ad 3)) (i := 0) C gms_0 rfl iq_X7_road_X7 4 (by decide) fq_X7_road_16 rfl dX7_road_159 ?_
      refine gq_iload_n (j := 1) C dX7_road_162 rfl ?_
      refine gq_iald (i := 3) (j := x1.toNatClampNeg) C gms_3 0 rfl rfl h.1 dX7_road_163 ?_
      have h := h.2
      refine gq_iast (i := 5) (j := ((5 + x1)).toNatClampNeg) C gms_5 0 rfl rfl h.1 dX7_road_164 ?_
      have h := h.2
      obtain ⟨v11, qv11⟩ : ∃ y : Int32, y = (x1 + 1) := ⟨_, rfl⟩
      have h := h v11 qv11
      refine gq_iinc (j := 1) (v := v11) (L' := [(0, .ref (ad 0)), (1, .int v11)]) C [1, 0] dX7_road_165 rfl (by rw [qv11]; rfl) (by decide) rfl ?_
      refine gq_goto (tgt := 97) C dX7_road_168 (by decide) ?_
      exact ih _ _ h
def wq_X7_road (σ : gq_M) (Q : Int32 → gq_M → Prop) : Prop := wq_X7_readText σ (fun r1 σ2 => ((r1 = (-9) → (∃ n17, wq_X7_road_l30 Q (fun σ6 => (∃ n16, wq_X7_road_l51 Q (fun σ9 => (∃ n15, wq_X7_road_l97 Q (fun σ12 => wq_X7_smooth σ12 (fun r13 σ14 => Q ((10 * (((gq_put (gq_put (gq_put (gq_put σ14 5 10 r13) 0 16 0) 15 0 (vp_nar .boolean 0)) 15 1 (vp_nar .boolean 0))).1 0 0)) + (((gq_put (gq_put (gq_put (gq_put σ14 5 10 r13) 0 16 0) 15 0 (vp_nar .boolean 0)) 15 1 (vp_nar .boolean 0))).1 0 1)) (gq_put (gq_put (gq_put (gq_put σ14 5 10 r13) 0 16 0) 15 0 (vp_nar .boolean 0)) 15 1 (vp_nar .boolean 0)))) n15 0 σ9)) n16 0 σ6)) n17 0 (gq_put (gq_put σ2 0 0 (σ2.1 0 9)) 0 1 (((gq_put σ2 0 0 (σ2.1 0 9))).1 0 10)))) ∧ (¬ r1 = (-9) → Q (-3) σ2)))
set_option maxRecDepth 100000 in
set_option maxHeartbeats 4000000 in
theorem tq_X7_road {p : Program} {l : Launch} {e : Env} {s : State} {m : MethodId} {args : Array Value} {below : List Frame} {meth : Method} {c : Code} {D : va_G} {cyI cyZ : ClassId} {ad : Nat → Nat} {Q : Int32 → gq_M → Prop} (C : gq_C p s m args meth c cX7_road 2 RX7 wsX7_road D (gm_T cyI cyZ) 17 ad (some .int)) (σ : gq_M) (h : wq_X7_road σ Q) : gq_G p l e rq_X7_road s m args below meth c (gq_Ri below args s D (gm_T cyI cyZ) 17 ad (gm_S cyI cyZ ad) Q) D 17 ad (gm_S cyI cyZ ad) 2 σ 0 [(0, .ref (ad 0))] [] := by
  unfold wq_X7_road at h
  refine gq_aload_n (j := 0) C dX7_road_0 rfl ?_
  refine gq_vi (i := 0) C gms_0 rfl [] (mq_X7_readText C.2.2.1 σ _ h) gX7_road_X7_readText rfl rfl dq_X7_readText ⟨rfl, rfl, by decide, by decide⟩ rfl rfl (Nat.le_of_ble_eq_true rfl) dX7_road_1 (fun r1 σ2 h => ?_)
  refine gq_bipush (v := (-9)) C dX7_road_4 (by decide) ?_
  refine gq_icmp_eq (tgt := 12) C dX7_road_6 (by decide) (fun c3 => ?_) (fun c3 => ?_)
  · have h := h.1 c3
    refine gq_aload_n (j := 0) C dX7_road_12 rfl ?_
    refine gq_aload_n (j := 0) C dX7_road_13 rfl ?_
    refine gq_get (v := .int (σ2.1 0 9)) (i := 0) C gms_0 rfl iq_X7_road_X7 9 (by decide) fq_X7_road_75 rfl dX7_road_14 ?_
    refine gq_puti (i := 0) C gms_0 rfl iq_X7_road_X7 tyX7 tyX7_ok nmX7 0 (by decide) fq_X7_road_93 rfl rfl rfl (fun _ _ => Nat.le_of_ble_eq_true rfl) gs_X7_0 dX7_road_17 ?_
    refine gq_aload_n (j := 0) C dX7_road_20 rfl ?_
    refine gq_aload_n (j := 0) C dX7_road_21 rfl ?_
    refine gq_get (v := .int (((gq_put σ2 0 0 (σ2.1 0 9))).1 0 10)) (i := 0) C gms_0 rfl iq_X7_road_X7 10 (by decide) fq_X7_road_78 rfl dX7_road_22 ?_
    refine gq_puti (i := 0) C gms_0 rfl iq_X7_road_X7 tyX7 tyX7_ok nmX7 1 (by decide) fq_X7_road_96 rfl rfl rfl (fun _ _ => Nat.le_of_ble_eq_true rfl) gs_X7_1 dX7_road_25 ?_
    refine gq_iconst (v := 0) C dX7_road_28 (by decide) ?_
    refine gq_istore_n (L' := [(0, .ref (ad 0)), (1, .int 0)]) C [1, 0] dX7_road_29 (by decide) rfl ?_
    obtain ⟨n17, h⟩ := h
    refine tq_X7_road_l30 C (fun σ6 h => ?_) n17 _ _ h
    refine gq_iconst (v := 0) C dX7_road_49 (by decide) ?_
    refine gq_istore_n (L' := [(0, .ref (ad 0)), (1, .int 0)]) C [1, 0] dX7_road_50 (by decide) rfl ?_
    obtain ⟨n16, h⟩ := h
    refine tq_X7_road_l51 C (fun σ9 h => ?_) n16 _ _ h
    refine gq_iconst (v := 0) C dX7_road_95 (by decide) ?_
    refine gq_istore_n (L' := [(0, .ref (ad 0)), (1, .int 0)]) C [1, 0] dX7_road_96 (by decide) rfl ?_
    obtain ⟨n15, h⟩ := h
    refine tq_X7_road_l97 C (fun σ12 h => ?_) n15 _ _ h
    refine gq_aload_n (j := 0) C dX7_road_171 rfl ?_
    refine gq_get (v := .ref (ad 5)) (i := 0) C gms_0 rfl iq_X7_road_X7 6 (by decide) fq_X7_road_22 rfl dX7_road_172 ?_
    refine gq_bipush (v := 10) C dX7_road_175 (by decide) ?_
    refine gq_aload_n (j := 0) C dX7_road_177 rfl ?_
    refine gq_vi (i := 0) C gms_0 rfl [] (mq_X7_smooth C.2.2.1 σ12 _ h) gX7_road_X7_smooth rfl rfl dq_X7_smooth ⟨rfl, rfl, by decide, by decide⟩ rfl rfl (Nat.le_of_ble_eq_true rfl) dX7_road_178 (fun r13 σ14 h => ?_)
    refine gq_iast (i := 5) (j := 10) C gms_5 0 rfl (by decide) (vp_in_iff.mpr ⟨by decide, by decide⟩) dX7_road_181 ?_
    refine gq_aload_n (j := 0) C dX7_road_182 rfl ?_
    refine gq_iconst (v := 0) C dX7_road_183 (by decide) ?_
    refine gq_puti (i := 0) C gms_0 rfl iq_X7_road_X7 tyX7 tyX7_ok nmX7 16 (by decide) fq_X7_road_102 rfl rfl rfl (fun _ _ => Nat.le_of_ble_eq_true rfl) gs_X7_16 dX7_road_184 ?_
    refine gq_aload_n (j := 0) C dX7_road_187 rfl ?_
    refine gq_get (v := .ref (ad 15)) (i := 0) C gms_0 rfl iq_X7_road_X7 28 (by decide) fq_X7_road_52 rfl dX7_road_188 ?_
    refine gq_iconst (v := 0) C dX7_road_191 (by decide) ?_
    refine gq_iconst (v := 0) C dX7_road_192 (by decide) ?_
    refine gq_zast (i := 15) (j := 0) C gms_15 1 rfl (by decide) (vp_in_iff.mpr ⟨by decide, by decide⟩) dX7_road_193 ?_
    refine gq_aload_n (j := 0) C dX7_road_194 rfl ?_
    refine gq_get (v := .ref (ad 15)) (i := 0) C gms_0 rfl iq_X7_road_X7 28 (by decide) fq_X7_road_52 rfl dX7_road_195 ?_
    refine gq_iconst (v := 1) C dX7_road_198 (by decide) ?_
    refine gq_iconst (v := 0) C dX7_road_199 (by decide) ?_
    refine gq_zast (i := 15) (j := 1) C gms_15 1 rfl (by decide) (vp_in_iff.mpr ⟨by decide, by decide⟩) dX7_road_200 ?_
    refine gq_bipush (v := 10) C dX7_road_201 (by decide) ?_
    refine gq_aload_n (j := 0) C dX7_road_203 rfl ?_
    refine gq_get (v := .int (((gq_put (gq_put (gq_put (gq_put σ14 5 10 r13) 0 16 0) 15 0 (vp_nar .boolean 0)) 15 1 (vp_nar .boolean 0))).1 0 0)) (i := 0) C gms_0 rfl iq_X7_road_X7 0 (by decide) fq_X7_road_93 rfl dX7_road_204 ?_
    refine gq_imul C dX7_road_207 ?_
    refine gq_aload_n (j := 0) C dX7_road_208 rfl ?_
    refine gq_get (v := .int (((gq_put (gq_put (gq_put (gq_put σ14 5 10 r13) 0 16 0) 15 0 (vp_nar .boolean 0)) 15 1 (vp_nar .boolean 0))).1 0 1)) (i := 0) C gms_0 rfl iq_X7_road_X7 1 (by decide) fq_X7_road_96 rfl dX7_road_209 ?_
    refine gq_iadd C dX7_road_212 ?_
    exact gq_iret C h dX7_road_213
  · have h := h.2 c3
    refine gq_bipush (v := (-3)) C dX7_road_9 (by decide) ?_
    exact gq_iret C h dX7_road_11
theorem mq_X7_road {l : Launch} {D : va_G} {cyI cyZ : ClassId} {ad : Nat → Nat} (hap : gq_ap 17 ad) (σ : gq_M) (Q : Int32 → gq_M → Prop) (h : wq_X7_road σ Q) : Met l yX7_road wsX7_road rq_X7_road (va_Pc [.ref (ad 0)] (gq_P D (gm_T cyI cyZ) 17 ad (gm_S cyI cyZ ad) σ)) (va_Qi Q (gq_P D (gm_T cyI cyZ) 17 ad (gm_S cyI cyZ ad)) (gq_A 17 ad)) 0 0 (gq_A 17 ad) :=
  gq_met hap (by decide) rfl rfl (Nat.le_of_ble_eq_true rfl) (fun _ _ _ _ _ _ _ C => tq_X7_road C σ h)
abbrev rq_X7_isPleat : Room := { frames := 1, cells := 0, slots := 0, locals := 25 }
theorem dq_X7_isPleat : gq_dsc yX7_isPleat 1 := by unfold gq_dsc; decide +kernel
theorem iq_X7_isPleat_X7 : ∀ w ∈ u_ws RX7 TX7 30, w ∈ wsX7_isPleat := by decide +kernel
theorem fq_X7_isPleat_93 : Cond.fieldLink RX7 93 (TX7 0).1 (TX7 0).2.1 (TX7 0).2.2.1 ∈ wsX7_isPleat := by decide +kernel
def wq_X7_isPleat (a1 : Int32) (σ : gq_M) (Q : Int32 → gq_M → Prop) : Prop := wq_X7_in a1.toInt64 0 (((σ.1 0 0) - 1)).toInt64 σ (fun r1 σ2 => (gq_b r1 ∧ Q r1 σ2))
set_option maxRecDepth 100000 in
set_option maxHeartbeats 4000000 in
theorem tq_X7_isPleat {p : Program} {l : Launch} {e : Env} {s : State} {m : MethodId} {args : Array Value} {below : List Frame} {meth : Method} {c : Code} {D : va_G} {cyI cyZ : ClassId} {ad : Nat → Nat} {Q : Int32 → gq_M → Prop} (C : gq_C p s m args meth c cX7_isPleat 2 RX7 wsX7_isPleat D (gm_T cyI cyZ) 17 ad (some .boolean)) (a1 : Int32) (σ : gq_M) (h : wq_X7_isPleat a1 σ Q) : gq_G p l e rq_X7_isPleat s m args below meth c (gq_Ri below args s D (gm_T cyI cyZ) 17 ad (gm_S cyI cyZ ad) Q) D 17 ad (gm_S cyI cyZ ad) 2 σ 0 [(0, .ref (ad 0)), (1, .int a1)] [] := by
  unfold wq_X7_isPleat at h
  refine gq_iload_n (j := 1) C dX7_isPleat_0 rfl ?_
  refine gq_i2l C dX7_isPleat_1 ?_
  refine gq_lconst (v := 0) C dX7_isPleat_2 (by decide) ?_
  refine gq_aload_n (j := 0) C dX7_isPleat_3 rfl ?_
  refine gq_get (v := .int (σ.1 0 0)) (i := 0) C gms_0 rfl iq_X7_isPleat_X7 0 (by decide) fq_X7_isPleat_93 rfl dX7_isPleat_4 ?_
  refine gq_iconst (v := 1) C dX7_isPleat_7 (by decide) ?_
  refine gq_isub C dX7_isPleat_8 ?_
  refine gq_i2l C dX7_isPleat_9 ?_
  refine gq_si C [.long a1.toInt64, .long 0, .long (((σ.1 0 0) - 1)).toInt64] (mq_X7_in C.2.2.1 a1.toInt64 0 (((σ.1 0 0) - 1)).toInt64 σ _ h) gX7_isPleat_X7_in rfl dq_X7_in ⟨rfl, rfl, by decide, by decide⟩ rfl rfl (Nat.le_of_ble_eq_true rfl) dX7_isPleat_10 (fun r1 σ2 h => ?_)
  exact gq_zret C h.1 h.2 dX7_isPleat_13
theorem mq_X7_isPleat {l : Launch} {D : va_G} {cyI cyZ : ClassId} {ad : Nat → Nat} (hap : gq_ap 17 ad) (a1 : Int32) (σ : gq_M) (Q : Int32 → gq_M → Prop) (h : wq_X7_isPleat a1 σ Q) : Met l yX7_isPleat wsX7_isPleat rq_X7_isPleat (va_Pc [.ref (ad 0), .int a1] (gq_P D (gm_T cyI cyZ) 17 ad (gm_S cyI cyZ ad) σ)) (va_Qi Q (gq_P D (gm_T cyI cyZ) 17 ad (gm_S cyI cyZ ad)) (gq_A 17 ad)) 0 0 (gq_A 17 ad) :=
  gq_met hap (by decide) rfl rfl (Nat.le_of_ble_eq_true rfl) (fun _ _ _ _ _ _ _ C => tq_X7_isPleat C a1 σ h)
abbrev rq_X7_isTraveller : Room := { frames := 1, cells := 0, slots := 0, locals := 25 }
theorem dq_X7_isTraveller : gq_dsc yX7_isTraveller 1 := by unfold gq_dsc; decide +kernel
theorem iq_X7_isTraveller_X7 : ∀ w ∈ u_ws RX7 TX7 30, w ∈ wsX7_isTraveller := by decide +kernel
theorem fq_X7_isTraveller_96 : Cond.fieldLink RX7 96 (TX7 1).1 (TX7 1).2.1 (TX7 1).2.2.1 ∈ wsX7_isTraveller := by decide +kernel
def wq_X7_isTraveller (a1 : Int32) (σ : gq_M) (Q : Int32 → gq_M → Prop) : Prop := wq_X7_in a1.toInt64 0 (((σ.1 0 1) - 1)).toInt64 σ (fun r1 σ2 => (gq_b r1 ∧ Q r1 σ2))
set_option maxRecDepth 100000 in
set_option maxHeartbeats 4000000 in
theorem tq_X7_isTraveller {p : Program} {l : Launch} {e : Env} {s : State} {m : MethodId} {args : Array Value} {below : List Frame} {meth : Method} {c : Code} {D : va_G} {cyI cyZ : ClassId} {ad : Nat → Nat} {Q : Int32 → gq_M → Prop} (C : gq_C p s m args meth c cX7_isTraveller 2 RX7 wsX7_isTraveller D (gm_T cyI cyZ) 17 ad (some .boolean)) (a1 : Int32) (σ : gq_M) (h : wq_X7_isTraveller a1 σ Q) : gq_G p l e rq_X7_isTraveller s m args below meth c (gq_Ri below args s D (gm_T cyI cyZ) 17 ad (gm_S cyI cyZ ad) Q) D 17 ad (gm_S cyI cyZ ad) 2 σ 0 [(0, .ref (ad 0)), (1, .int a1)] [] := by
  unfold wq_X7_isTraveller at h
  refine gq_iload_n (j := 1) C dX7_isTraveller_0 rfl ?_
  refine gq_i2l C dX7_isTraveller_1 ?_
  refine gq_lconst (v := 0) C dX7_isTraveller_2 (by decide) ?_
  refine gq_aload_n (j := 0) C dX7_isTraveller_3 rfl ?_
  refine gq_get (v := .int (σ.1 0 1)) (i := 0) C gms_0 rfl iq_X7_isTraveller_X7 1 (by decide) fq_X7_isTraveller_96 rfl dX7_isTraveller_4 ?_
  refine gq_iconst (v := 1) C dX7_isTraveller_7 (by decide) ?_
  refine gq_isub C dX7_isTraveller_8 ?_
  refine gq_i2l C dX7_isTraveller_9 ?_
  refine gq_si C [.long a1.toInt64, .long 0, .long (((σ.1 0 1) - 1)).toInt64] (mq_X7_in C.2.2.1 a1.toInt64 0 (((σ.1 0 1) - 1)).toInt64 σ _ h) gX7_isTraveller_X7_in rfl dq_X7_in ⟨rfl, rfl, by decide, by decide⟩ rfl rfl (Nat.le_of_ble_eq_true rfl) dX7_isTraveller_10 (fun r1 σ2 h => ?_)
  exact gq_zret C h.1 h.2 dX7_isTraveller_13
theorem mq_X7_isTraveller {l : Launch} {D : va_G} {cyI cyZ : ClassId} {ad : Nat → Nat} (hap : gq_ap 17 ad) (a1 : Int32) (σ : gq_M) (Q : Int32 → gq_M → Prop) (h : wq_X7_isTraveller a1 σ Q) : Met l yX7_isTraveller wsX7_isTraveller rq_X7_isTraveller (va_Pc [.ref (ad 0), .int a1] (gq_P D (gm_T cyI cyZ) 17 ad (gm_S cyI cyZ ad) σ)) (va_Qi Q (gq_P D (gm_T cyI cyZ) 17 ad (gm_S cyI cyZ ad)) (gq_A 17 ad)) 0 0 (gq_A 17 ad) :=
  gq_met hap (by decide) rfl rfl (Nat.le_of_ble_eq_true rfl) (fun _ _ _ _ _ _ _ C => tq_X7_isTraveller C a1 σ h)
abbrev rq_X7_isPlace : Room := { frames := 1, cells := 0, slots := 0, locals := 25 }
theorem dq_X7_isPlace : gq_dsc yX7_isPlace 1 := by unfold gq_dsc; decide +kernel
theorem iq_X7_isPlace_X7 : ∀ w ∈ u_ws RX7 TX7 30, w ∈ wsX7_isPlace := by decide +kernel
theorem fq_X7_isPlace_93 : Cond.fieldLink RX7 93 (TX7 0).1 (TX7 0).2.1 (TX7 0).2.2.1 ∈ wsX7_isPlace := by decide +kernel
def wq_X7_isPlace (a1 : Int32) (σ : gq_M) (Q : Int32 → gq_M → Prop) : Prop := wq_X7_in a1.toInt64 0 ((σ.1 0 0)).toInt64 σ (fun r1 σ2 => (gq_b r1 ∧ Q r1 σ2))
set_option maxRecDepth 100000 in
set_option maxHeartbeats 4000000 in
theorem tq_X7_isPlace {p : Program} {l : Launch} {e : Env} {s : State} {m : MethodId} {args : Array Value} {below : List Frame} {meth : Method} {c : Code} {D : va_G} {cyI cyZ : ClassId} {ad : Nat → Nat} {Q : Int32 → gq_M → Prop} (C : gq_C p s m args meth c cX7_isPlace 2 RX7 wsX7_isPlace D (gm_T cyI cyZ) 17 ad (some .boolean)) (a1 : Int32) (σ : gq_M) (h : wq_X7_isPlace a1 σ Q) : gq_G p l e rq_X7_isPlace s m args below meth c (gq_Ri below args s D (gm_T cyI cyZ) 17 ad (gm_S cyI cyZ ad) Q) D 17 ad (gm_S cyI cyZ ad) 2 σ 0 [(0, .ref (ad 0)), (1, .int a1)] [] := by
  unfold wq_X7_isPlace at h
  refine gq_iload_n (j := 1) C dX7_isPlace_0 rfl ?_
  refine gq_i2l C dX7_isPlace_1 ?_
  refine gq_lconst (v := 0) C dX7_isPlace_2 (by decide) ?_
  refine gq_aload_n (j := 0) C dX7_isPlace_3 rfl ?_
  refine gq_get (v := .int (σ.1 0 0)) (i := 0) C gms_0 rfl iq_X7_isPlace_X7 0 (by decide) fq_X7_isPlace_93 rfl dX7_isPlace_4 ?_
  refine gq_i2l C dX7_isPlace_7 ?_
  refine gq_si C [.long a1.toInt64, .long 0, .long ((σ.1 0 0)).toInt64] (mq_X7_in C.2.2.1 a1.toInt64 0 ((σ.1 0 0)).toInt64 σ _ h) gX7_isPlace_X7_in rfl dq_X7_in ⟨rfl, rfl, by decide, by decide⟩ rfl rfl (Nat.le_of_ble_eq_true rfl) dX7_isPlace_8 (fun r1 σ2 h => ?_)
  exact gq_zret C h.1 h.2 dX7_isPlace_11
theorem mq_X7_isPlace {l : Launch} {D : va_G} {cyI cyZ : ClassId} {ad : Nat → Nat} (hap : gq_ap 17 ad) (a1 : Int32) (σ : gq_M) (Q : Int32 → gq_M → Prop) (h : wq_X7_isPlace a1 σ Q) : Met l yX7_isPlace wsX7_isPlace rq_X7_isPlace (va_Pc [.ref (ad 0), .int a1] (gq_P D (gm_T cyI cyZ) 17 ad (gm_S cyI cyZ ad) σ)) (va_Qi Q (gq_P D (gm_T cyI cyZ) 17 ad (gm_S cyI cyZ ad)) (gq_A 17 ad)) 0 0 (gq_A 17 ad) :=
  gq_met hap (by decide) rfl rfl (Nat.le_of_ble_eq_true rfl) (fun _ _ _ _ _ _ _ C => tq_X7_isPlace C a1 σ h)
abbrev rq_X7_costs : Room := { frames := 1, cells := 0, slots := 0, locals := 21 }
theorem dq_X7_costs : gq_dsc yX7_costs 4 := by unfold gq_dsc; decide +kernel
theorem iq_X7_costs_X7 : ∀ w ∈ u_ws RX7 TX7 30, w ∈ wsX7_costs := by decide +kernel
theorem fq_X7_costs_105 : Cond.fieldLink RX7 105 (TX7 15).1 (TX7 15).2.1 (TX7 15).2.2.1 ∈ wsX7_costs := by decide +kernel
theorem fq_X7_costs_13 : Cond.fieldLink RX7 13 (TX7 3).1 (TX7 3).2.1 (TX7 3).2.2.1 ∈ wsX7_costs := by decide +kernel
theorem fq_X7_costs_7 : Cond.fieldLink RX7 7 (TX7 2).1 (TX7 2).2.1 (TX7 2).2.2.1 ∈ wsX7_costs := by decide +kernel
def wq_X7_costs_b77 (Q : Int32 → gq_M → Prop) (x1 : Int32) (x3 : Int32) (x5 : Int32) (s0 : Int32) (σ : gq_M) : Prop := wq_X7_has x3 x1 σ (fun r8 σ9 => ((r8 = 0 → Q (s0 + x5) σ9) ∧ (¬ r8 = 0 → wq_X7_atLeast (s0 - 2) 1 σ9 (fun r11 σ12 => Q (r11 + x5) σ12))))
set_option maxRecDepth 100000 in
set_option maxHeartbeats 4000000 in
theorem tq_X7_costs_b77 {p : Program} {l : Launch} {e : Env} {s : State} {m : MethodId} {args : Array Value} {below : List Frame} {meth : Method} {c : Code} {D : va_G} {cyI cyZ : ClassId} {ad : Nat → Nat} {Q : Int32 → gq_M → Prop} (C : gq_C p s m args meth c cX7_costs 7 RX7 wsX7_costs D (gm_T cyI cyZ) 17 ad (some .int)) (x1 : Int32) (x3 : Int32) (x5 : Int32) (s0 : Int32) (σ : gq_M) (h : wq_X7_costs_b77 Q x1 x3 x5 s0 σ) : gq_G p l e rq_X7_costs s m args below meth c (gq_Ri below args s D (gm_T cyI cyZ) 17 ad (gm_S cyI cyZ ad) Q) D 17 ad (gm_S cyI cyZ ad) 7 σ 77 [(0, .ref (ad 0)), (1, .int x1), (3, .int x3), (5, .int x5)] [.int s0] := by
  unfold wq_X7_costs_b77 at h
  refine gq_istore (L' := [(0, .ref (ad 0)), (1, .int x1), (3, .int x3), (5, .int x5), (6, .int s0)]) C [1, 2, 3, 4, 0] dX7_costs_77 (by decide) rfl ?_
  refine gq_iload_n (j := 2) C dX7_costs_79 rfl ?_
  refine gq_iload_n (j := 1) C dX7_costs_80 rfl ?_
  refine gq_si C [.int x3, .int x1] (mq_X7_has C.2.2.1 x3 x1 σ _ h) gX7_costs_X7_has rfl dq_X7_has ⟨rfl, rfl, by decide, by decide⟩ rfl rfl (Nat.le_of_ble_eq_true rfl) dX7_costs_81 (fun r8 σ9 h => ?_)
  refine gq_if_eq (tgt := 98) C dX7_costs_84 (by decide) (fun c10 => ?_) (fun c10 => ?_)
  · have h := h.1 c10
    refine gq_iload (j := 4) C dX7_costs_98 rfl ?_
    refine gq_iload (j := 3) C dX7_costs_100 rfl ?_
    refine gq_iadd C dX7_costs_102 ?_
    exact gq_iret C h dX7_costs_103
  · have h := h.2 c10
    refine gq_iload (j := 4) C dX7_costs_87 rfl ?_
    refine gq_iconst (v := 2) C dX7_costs_89 (by decide) ?_
    refine gq_isub C dX7_costs_90 ?_
    refine gq_iconst (v := 1) C dX7_costs_91 (by decide) ?_
    refine gq_si C [.int (s0 - 2), .int 1] (mq_X7_atLeast C.2.2.1 (s0 - 2) 1 σ9 _ h) gX7_costs_X7_atLeast rfl dq_X7_atLeast ⟨rfl, rfl, by decide, by decide⟩ rfl rfl (Nat.le_of_ble_eq_true rfl) dX7_costs_92 (fun r11 σ12 h => ?_)
    refine gq_goto (tgt := 100) C dX7_costs_95 (by decide) ?_
    refine gq_iload (j := 3) C dX7_costs_100 rfl ?_
    refine gq_iadd C dX7_costs_102 ?_
    exact gq_iret C h dX7_costs_103
def wq_X7_costs_b16 (Q : Int32 → gq_M → Prop) (x1 : Int32) (x2 : Int32) (x3 : Int32) (x4 : Int32) (s0 : Int32) (σ : gq_M) : Prop := ((¬ x2 = (x1 + 1) → vp_in x1 10 ∧ ((¬ (σ.1 2 x1.toNatClampNeg) = 3 → vp_in x1 10 ∧ ∀ v6, v6 = ((σ.1 1 x1.toNatClampNeg) + x4) → vp_in x1 10 ∧ ((¬ (σ.1 2 x1.toNatClampNeg) = 1 → wq_X7_costs_b77 Q x1 x3 s0 v6 σ) ∧ ((σ.1 2 x1.toNatClampNeg) = 1 → wq_X7_atLeast (v6 / 2) 1 σ (fun r13 σ14 => wq_X7_costs_b77 Q x1 x3 s0 r13 σ14)))) ∧ ((σ.1 2 x1.toNatClampNeg) = 3 → Q (1 + s0) σ))) ∧ (x2 = (x1 + 1) → Q s0 σ))
set_option maxRecDepth 100000 in
set_option maxHeartbeats 4000000 in
theorem tq_X7_costs_b16 {p : Program} {l : Launch} {e : Env} {s : State} {m : MethodId} {args : Array Value} {below : List Frame} {meth : Method} {c : Code} {D : va_G} {cyI cyZ : ClassId} {ad : Nat → Nat} {Q : Int32 → gq_M → Prop} (C : gq_C p s m args meth c cX7_costs 7 RX7 wsX7_costs D (gm_T cyI cyZ) 17 ad (some .int)) (x1 : Int32) (x2 : Int32) (x3 : Int32) (x4 : Int32) (s0 : Int32) (σ : gq_M) (h : wq_X7_costs_b16 Q x1 x2 x3 x4 s0 σ) : gq_G p l e rq_X7_costs s m args below meth c (gq_Ri below args s D (gm_T cyI cyZ) 17 ad (gm_S cyI cyZ ad) Q) D 17 ad (gm_S cyI cyZ ad) 7 σ 16 [(0, .ref (ad 0)), (1, .int x1), (2, .int x2), (3, .int x3), (4, .int x4)] [.int s0] := by
  unfold wq_X7_costs_b16 at h
  refine gq_istore (L' := [(0, .ref (ad 0)), (1, .int x1), (2, .int x2), (3, .int x3), (4, .int x4), (5, .int s0)]) C [1, 2, 3, 4, 5, 0] dX7_costs_16 (by decide) rfl ?_
  refine gq_iload_n (j := 2) C dX7_costs_18 rfl ?_
  refine gq_iload_n (j := 1) C dX7_costs_19 rfl ?_
  refine gq_iconst (v := 1) C dX7_costs_20 (by decide) ?_
  refine gq_iadd C dX7_costs_21 ?_
  refine gq_icmp_ne (tgt := 28) C dX7_costs_22 (by decide) (fun c4 => ?_) (fun c4 => ?_)
  · have h := h.1 c4
    refine gq_aload_n (j := 0) C dX7_costs_28 rfl ?_
    refine gq_get (v := .ref (ad 2)) (i := 0) C gms_0 rfl iq_X7_costs_X7 3 (by decide) fq_X7_costs_13 rfl dX7_costs_29 ?_
    refine gq_iload_n (j := 1) C dX7_costs_32 rfl ?_
    refine gq_iald (i := 2) (j := x1.toNatClampNeg) C gms_2 0 rfl rfl h.1 dX7_costs_33 ?_
    have h := h.2
    refine gq_iconst (v := 3) C dX7_costs_34 (by decide) ?_
    refine gq_icmp_ne (tgt := 43) C dX7_costs_35 (by decide) (fun c5 => ?_) (fun c5 => ?_)
    · have h := h.1 c5
      refine gq_aload_n (j := 0) C dX7_costs_43 rfl ?_
      refine gq_get (v := .ref (ad 1)) (i := 0) C gms_0 rfl iq_X7_costs_X7 2 (by decide) fq_X7_costs_7 rfl dX7_costs_44 ?_
      refine gq_iload_n (j := 1) C dX7_costs_47 rfl ?_
      refine gq_iald (i := 1) (j := x1.toNatClampNeg) C gms_1 0 rfl rfl h.1 dX7_costs_48 ?_
      have h := h.2
      refine gq_iload (j := 4) C dX7_costs_49 rfl ?_
      refine gq_iadd C dX7_costs_51 ?_
      refine gq_topi (fun v6 qv6 => ?_)
      have h := h v6 qv6
      refine gq_istore (L' := [(0, .ref (ad 0)), (1, .int x1), (2, .int x2), (3, .int x3), (4, .int x4), (5, .int s0), (6, .int v6)]) C [1, 2, 3, 4, 5, 6, 0] dX7_costs_52 (by decide) rfl ?_
      refine gq_aload_n (j := 0) C dX7_costs_54 rfl ?_
      refine gq_get (v := .ref (ad 2)) (i := 0) C gms_0 rfl iq_X7_costs_X7 3 (by decide) fq_X7_costs_13 rfl dX7_costs_55 ?_
      refine gq_iload_n (j := 1) C dX7_costs_58 rfl ?_
      refine gq_iald (i := 2) (j := x1.toNatClampNeg) C gms_2 0 rfl rfl h.1 dX7_costs_59 ?_
      have h := h.2
      refine gq_iconst (v := 1) C dX7_costs_60 (by decide) ?_
      refine gq_icmp_ne (tgt := 75) C dX7_costs_61 (by decide) (fun c7 => ?_) (fun c7 => ?_)
      · have h := h.1 c7
        refine gq_iload (j := 6) C dX7_costs_75 rfl ?_
        refine gq_sub [0, 1, 3, 5] rfl ?_
        exact tq_X7_costs_b77 C _ _ _ _ _ h
      · have h := h.2 c7
        refine gq_iload (j := 6) C dX7_costs_64 rfl ?_
        refine gq_iconst (v := 2) C dX7_costs_66 (by decide) ?_
        refine gq_idiv C dX7_costs_67 (by decide) ?_
        refine gq_iconst (v := 1) C dX7_costs_68 (by decide) ?_
        refine gq_si C [.int (v6 / 2), .int 1] (mq_X7_atLeast C.2.2.1 (v6 / 2) 1 σ _ h) gX7_costs_X7_atLeast rfl dq_X7_atLeast ⟨rfl, rfl, by decide, by decide⟩ rfl rfl (Nat.le_of_ble_eq_true rfl) dX7_costs_69 (fun r13 σ14 h => ?_)
        refine gq_goto (tgt := 77) C dX7_costs_72 (by decide) ?_
        refine gq_sub [0, 1, 3, 5] rfl ?_
        exact tq_X7_costs_b77 C _ _ _ _ _ h
    · have h := h.2 c5
      refine gq_iconst (v := 1) C dX7_costs_38 (by decide) ?_
      refine gq_iload (j := 5) C dX7_costs_39 rfl ?_
      refine gq_iadd C dX7_costs_41 ?_
      exact gq_iret C h dX7_costs_42
  · have h := h.2 c4
    refine gq_iload (j := 5) C dX7_costs_25 rfl ?_
    exact gq_iret C h dX7_costs_27
def wq_X7_costs (a1 : Int32) (a2 : Int32) (a3 : Int32) (a4 : Int32) (σ : gq_M) (Q : Int32 → gq_M → Prop) : Prop := wq_X7_has (σ.1 0 15) a1 σ (fun r1 σ2 => ((r1 = 0 → wq_X7_costs_b16 Q a1 a2 a3 a4 0 σ2) ∧ (¬ r1 = 0 → wq_X7_costs_b16 Q a1 a2 a3 a4 1 σ2)))
set_option maxRecDepth 100000 in
set_option maxHeartbeats 4000000 in
theorem tq_X7_costs {p : Program} {l : Launch} {e : Env} {s : State} {m : MethodId} {args : Array Value} {below : List Frame} {meth : Method} {c : Code} {D : va_G} {cyI cyZ : ClassId} {ad : Nat → Nat} {Q : Int32 → gq_M → Prop} (C : gq_C p s m args meth c cX7_costs 7 RX7 wsX7_costs D (gm_T cyI cyZ) 17 ad (some .int)) (a1 : Int32) (a2 : Int32) (a3 : Int32) (a4 : Int32) (σ : gq_M) (h : wq_X7_costs a1 a2 a3 a4 σ Q) : gq_G p l e rq_X7_costs s m args below meth c (gq_Ri below args s D (gm_T cyI cyZ) 17 ad (gm_S cyI cyZ ad) Q) D 17 ad (gm_S cyI cyZ ad) 7 σ 0 [(0, .ref (ad 0)), (1, .int a1), (2, .int a2), (3, .int a3), (4, .int a4)] [] := by
  unfold wq_X7_costs at h
  refine gq_aload_n (j := 0) C dX7_costs_0 rfl ?_
  refine gq_get (v := .int (σ.1 0 15)) (i := 0) C gms_0 rfl iq_X7_costs_X7 15 (by decide) fq_X7_costs_105 rfl dX7_costs_1 ?_
  refine gq_iload_n (j := 1) C dX7_costs_4 rfl ?_
  refine gq_si C [.int (σ.1 0 15), .int a1] (mq_X7_has C.2.2.1 (σ.1 0 15) a1 σ _ h) gX7_costs_X7_has rfl dq_X7_has ⟨rfl, rfl, by decide, by decide⟩ rfl rfl (Nat.le_of_ble_eq_true rfl) dX7_costs_5 (fun r1 σ2 h => ?_)
  refine gq_if_eq (tgt := 15) C dX7_costs_8 (by decide) (fun c3 => ?_) (fun c3 => ?_)
  · have h := h.1 c3
    refine gq_iconst (v := 0) C dX7_costs_15 (by decide) ?_
    exact tq_X7_costs_b16 C _ _ _ _ _ _ h
  · have h := h.2 c3
    refine gq_iconst (v := 1) C dX7_costs_11 (by decide) ?_
    refine gq_goto (tgt := 16) C dX7_costs_12 (by decide) ?_
    exact tq_X7_costs_b16 C _ _ _ _ _ _ h
theorem mq_X7_costs {l : Launch} {D : va_G} {cyI cyZ : ClassId} {ad : Nat → Nat} (hap : gq_ap 17 ad) (a1 : Int32) (a2 : Int32) (a3 : Int32) (a4 : Int32) (σ : gq_M) (Q : Int32 → gq_M → Prop) (h : wq_X7_costs a1 a2 a3 a4 σ Q) : Met l yX7_costs wsX7_costs rq_X7_costs (va_Pc [.ref (ad 0), .int a1, .int a2, .int a3, .int a4] (gq_P D (gm_T cyI cyZ) 17 ad (gm_S cyI cyZ ad) σ)) (va_Qi Q (gq_P D (gm_T cyI cyZ) 17 ad (gm_S cyI cyZ ad)) (gq_A 17 ad)) 0 0 (gq_A 17 ad) :=
  gq_met hap (by decide) rfl rfl (Nat.le_of_ble_eq_true rfl) (fun _ _ _ _ _ _ _ C => tq_X7_costs C a1 a2 a3 a4 σ h)
abbrev rq_X7_pays : Room := { frames := 0, cells := 0, slots := 0, locals := 0 }
theorem dq_X7_pays : gq_dsc yX7_pays 2 := by unfold gq_dsc; decide +kernel
def wq_X7_pays (a1 : Int32) (a2 : Int32) (σ : gq_M) (Q : Int32 → gq_M → Prop) : Prop := ((¬ a1 = 1 → ((¬ a1 = 2 → Q a2 σ) ∧ (a1 = 2 → Q (a2 + 1) σ))) ∧ (a1 = 1 → Q (a2 / 2) σ))
set_option maxRecDepth 100000 in
set_option maxHeartbeats 4000000 in
theorem tq_X7_pays {p : Program} {l : Launch} {e : Env} {s : State} {m : MethodId} {args : Array Value} {below : List Frame} {meth : Method} {c : Code} {D : va_G} {cyI cyZ : ClassId} {ad : Nat → Nat} {Q : Int32 → gq_M → Prop} (C : gq_C p s m args meth c cX7_pays 2 RX7 wsX7_pays D (gm_T cyI cyZ) 17 ad (some .int)) (a1 : Int32) (a2 : Int32) (σ : gq_M) (h : wq_X7_pays a1 a2 σ Q) : gq_G p l e rq_X7_pays s m args below meth c (gq_Ri below args s D (gm_T cyI cyZ) 17 ad (gm_S cyI cyZ ad) Q) D 17 ad (gm_S cyI cyZ ad) 2 σ 0 [(0, .int a1), (1, .int a2)] [] := by
  unfold wq_X7_pays at h
  refine gq_iload_n (j := 0) C dX7_pays_0 rfl ?_
  refine gq_iconst (v := 1) C dX7_pays_1 (by decide) ?_
  refine gq_icmp_ne (tgt := 11) C dX7_pays_2 (by decide) (fun c1 => ?_) (fun c1 => ?_)
  · have h := h.1 c1
    refine gq_iload_n (j := 0) C dX7_pays_11 rfl ?_
    refine gq_iconst (v := 2) C dX7_pays_12 (by decide) ?_
    refine gq_icmp_ne (tgt := 22) C dX7_pays_13 (by decide) (fun c2 => ?_) (fun c2 => ?_)
    · have h := h.1 c2
      refine gq_iload_n (j := 1) C dX7_pays_22 rfl ?_
      exact gq_iret C h dX7_pays_23
    · have h := h.2 c2
      refine gq_iload_n (j := 1) C dX7_pays_16 rfl ?_
      refine gq_iconst (v := 1) C dX7_pays_17 (by decide) ?_
      refine gq_iadd C dX7_pays_18 ?_
      refine gq_goto (tgt := 23) C dX7_pays_19 (by decide) ?_
      exact gq_iret C h dX7_pays_23
  · have h := h.2 c1
    refine gq_iload_n (j := 1) C dX7_pays_5 rfl ?_
    refine gq_iconst (v := 2) C dX7_pays_6 (by decide) ?_
    refine gq_idiv C dX7_pays_7 (by decide) ?_
    refine gq_goto (tgt := 23) C dX7_pays_8 (by decide) ?_
    exact gq_iret C h dX7_pays_23
theorem mq_X7_pays {l : Launch} {D : va_G} {cyI cyZ : ClassId} {ad : Nat → Nat} (hap : gq_ap 17 ad) (a1 : Int32) (a2 : Int32) (σ : gq_M) (Q : Int32 → gq_M → Prop) (h : wq_X7_pays a1 a2 σ Q) : Met l yX7_pays wsX7_pays rq_X7_pays (va_Pc [.int a1, .int a2] (gq_P D (gm_T cyI cyZ) 17 ad (gm_S cyI cyZ ad) σ)) (va_Qi Q (gq_P D (gm_T cyI cyZ) 17 ad (gm_S cyI cyZ ad)) (gq_A 17 ad)) 0 0 (gq_A 17 ad) :=
  gq_met hap (by decide) rfl rfl (Nat.le_of_ble_eq_true rfl) (fun _ _ _ _ _ _ _ C => tq_X7_pays C a1 a2 σ h)
abbrev rq_X7_paysOn : Room := { frames := 2, cells := 0, slots := 0, locals := 47 }
theorem dq_X7_paysOn : gq_dsc yX7_paysOn 3 := by unfold gq_dsc; decide +kernel
theorem iq_X7_paysOn_X7 : ∀ w ∈ u_ws RX7 TX7 30, w ∈ wsX7_paysOn := by decide +kernel
theorem fq_X7_paysOn_19 : Cond.fieldLink RX7 19 (TX7 5).1 (TX7 5).2.1 (TX7 5).2.2.1 ∈ wsX7_paysOn := by decide +kernel
theorem fq_X7_paysOn_22 : Cond.fieldLink RX7 22 (TX7 6).1 (TX7 6).2.1 (TX7 6).2.2.1 ∈ wsX7_paysOn := by decide +kernel
def wq_X7_paysOn (a1 : Int32) (a2 : Int32) (a3 : Int32) (σ : gq_M) (Q : Int32 → gq_M → Prop) : Prop := ∀ v1, v1 = (14 * a1) → vp_in a2 5 ∧ vp_in (v1 + 11) 28 ∧ vp_in (v1 + 10) 28 ∧ vp_in (v1 + 12) 28 ∧ wq_X7_costs a3 (σ.1 5 ((v1 + 11)).toNatClampNeg) (σ.1 5 ((v1 + 10)).toNatClampNeg) (σ.1 5 ((v1 + 12)).toNatClampNeg) σ (fun r2 σ3 => wq_X7_pays (σ.1 4 a2.toNatClampNeg) r2 σ3 (fun r4 σ5 => Q r4 σ5))
set_option maxRecDepth 100000 in
set_option maxHeartbeats 4000000 in
theorem tq_X7_paysOn {p : Program} {l : Launch} {e : Env} {s : State} {m : MethodId} {args : Array Value} {below : List Frame} {meth : Method} {c : Code} {D : va_G} {cyI cyZ : ClassId} {ad : Nat → Nat} {Q : Int32 → gq_M → Prop} (C : gq_C p s m args meth c cX7_paysOn 5 RX7 wsX7_paysOn D (gm_T cyI cyZ) 17 ad (some .int)) (a1 : Int32) (a2 : Int32) (a3 : Int32) (σ : gq_M) (h : wq_X7_paysOn a1 a2 a3 σ Q) : gq_G p l e rq_X7_paysOn s m args below meth c (gq_Ri below args s D (gm_T cyI cyZ) 17 ad (gm_S cyI cyZ ad) Q) D 17 ad (gm_S cyI cyZ ad) 5 σ 0 [(0, .ref (ad 0)), (1, .int a1), (2, .int a2), (3, .int a3)] [] := by
  unfold wq_X7_paysOn at h
  refine gq_bipush (v := 14) C dX7_paysOn_0 (by decide) ?_
  refine gq_iload_n (j := 1) C dX7_paysOn_2 rfl ?_
  refine gq_imul C dX7_paysOn_3 ?_
  refine gq_topi (fun v1 qv1 => ?_)
  have h := h v1 qv1
  refine gq_istore (L' := [(0, .ref (ad 0)), (1, .int a1), (2, .int a2), (3, .int a3), (4, .int v1)]) C [1, 2, 3, 4, 0] dX7_paysOn_4 (by decide) rfl ?_
  refine gq_aload_n (j := 0) C dX7_paysOn_6 rfl ?_
  refine gq_get (v := .ref (ad 4)) (i := 0) C gms_0 rfl iq_X7_paysOn_X7 5 (by decide) fq_X7_paysOn_19 rfl dX7_paysOn_7 ?_
  refine gq_iload_n (j := 2) C dX7_paysOn_10 rfl ?_
  refine gq_iald (i := 4) (j := a2.toNatClampNeg) C gms_4 0 rfl rfl h.1 dX7_paysOn_11 ?_
  have h := h.2
  refine gq_aload_n (j := 0) C dX7_paysOn_12 rfl ?_
  refine gq_iload_n (j := 3) C dX7_paysOn_13 rfl ?_
  refine gq_aload_n (j := 0) C dX7_paysOn_14 rfl ?_
  refine gq_get (v := .ref (ad 5)) (i := 0) C gms_0 rfl iq_X7_paysOn_X7 6 (by decide) fq_X7_paysOn_22 rfl dX7_paysOn_15 ?_
  refine gq_iload (j := 4) C dX7_paysOn_18 rfl ?_
  refine gq_bipush (v := 11) C dX7_paysOn_20 (by decide) ?_
  refine gq_iadd C dX7_paysOn_22 ?_
  refine gq_iald (i := 5) (j := ((v1 + 11)).toNatClampNeg) C gms_5 0 rfl rfl h.1 dX7_paysOn_23 ?_
  have h := h.2
  refine gq_aload_n (j := 0) C dX7_paysOn_24 rfl ?_
  refine gq_get (v := .ref (ad 5)) (i := 0) C gms_0 rfl iq_X7_paysOn_X7 6 (by decide) fq_X7_paysOn_22 rfl dX7_paysOn_25 ?_
  refine gq_iload (j := 4) C dX7_paysOn_28 rfl ?_
  refine gq_bipush (v := 10) C dX7_paysOn_30 (by decide) ?_
  refine gq_iadd C dX7_paysOn_32 ?_
  refine gq_iald (i := 5) (j := ((v1 + 10)).toNatClampNeg) C gms_5 0 rfl rfl h.1 dX7_paysOn_33 ?_
  have h := h.2
  refine gq_aload_n (j := 0) C dX7_paysOn_34 rfl ?_
  refine gq_get (v := .ref (ad 5)) (i := 0) C gms_0 rfl iq_X7_paysOn_X7 6 (by decide) fq_X7_paysOn_22 rfl dX7_paysOn_35 ?_
  refine gq_iload (j := 4) C dX7_paysOn_38 rfl ?_
  refine gq_bipush (v := 12) C dX7_paysOn_40 (by decide) ?_
  refine gq_iadd C dX7_paysOn_42 ?_
  refine gq_iald (i := 5) (j := ((v1 + 12)).toNatClampNeg) C gms_5 0 rfl rfl h.1 dX7_paysOn_43 ?_
  have h := h.2
  refine gq_vi (i := 0) C gms_0 rfl [.int a3, .int (σ.1 5 ((v1 + 11)).toNatClampNeg), .int (σ.1 5 ((v1 + 10)).toNatClampNeg), .int (σ.1 5 ((v1 + 12)).toNatClampNeg)] (mq_X7_costs C.2.2.1 a3 (σ.1 5 ((v1 + 11)).toNatClampNeg) (σ.1 5 ((v1 + 10)).toNatClampNeg) (σ.1 5 ((v1 + 12)).toNatClampNeg) σ _ h) gX7_paysOn_X7_costs rfl rfl dq_X7_costs ⟨rfl, rfl, by decide, by decide⟩ rfl rfl (Nat.le_of_ble_eq_true rfl) dX7_paysOn_44 (fun r2 σ3 h => ?_)
  refine gq_si C [.int (σ.1 4 a2.toNatClampNeg), .int r2] (mq_X7_pays C.2.2.1 (σ.1 4 a2.toNatClampNeg) r2 σ3 _ h) gX7_paysOn_X7_pays rfl dq_X7_pays ⟨rfl, rfl, by decide, by decide⟩ rfl rfl (Nat.le_of_ble_eq_true rfl) dX7_paysOn_47 (fun r4 σ5 h => ?_)
  exact gq_iret C h dX7_paysOn_50
theorem mq_X7_paysOn {l : Launch} {D : va_G} {cyI cyZ : ClassId} {ad : Nat → Nat} (hap : gq_ap 17 ad) (a1 : Int32) (a2 : Int32) (a3 : Int32) (σ : gq_M) (Q : Int32 → gq_M → Prop) (h : wq_X7_paysOn a1 a2 a3 σ Q) : Met l yX7_paysOn wsX7_paysOn rq_X7_paysOn (va_Pc [.ref (ad 0), .int a1, .int a2, .int a3] (gq_P D (gm_T cyI cyZ) 17 ad (gm_S cyI cyZ ad) σ)) (va_Qi Q (gq_P D (gm_T cyI cyZ) 17 ad (gm_S cyI cyZ ad)) (gq_A 17 ad)) 0 0 (gq_A 17 ad) :=
  gq_met hap (by decide) rfl rfl (Nat.le_of_ble_eq_true rfl) (fun _ _ _ _ _ _ _ C => tq_X7_paysOn C a1 a2 a3 σ h)
abbrev rq_X7_pleatOf : Room := { frames := 2, cells := 0, slots := 0, locals := 46 }
theorem dq_X7_pleatOf : gq_dsc yX7_pleatOf 2 := by unfold gq_dsc; decide +kernel
def wq_X7_pleatOf_b11 (Q : Int32 → gq_M → Prop) (s0 : Int32) (σ : gq_M) : Prop := wq_X7_isPleat s0 σ (fun r2 σ3 => ((r2 = 0 → Q (-9) σ3) ∧ (¬ r2 = 0 → Q s0 σ3)))
set_option maxRecDepth 100000 in
set_option maxHeartbeats 4000000 in
theorem tq_X7_pleatOf_b11 {p : Program} {l : Launch} {e : Env} {s : State} {m : MethodId} {args : Array Value} {below : List Frame} {meth : Method} {c : Code} {D : va_G} {cyI cyZ : ClassId} {ad : Nat → Nat} {Q : Int32 → gq_M → Prop} (C : gq_C p s m args meth c cX7_pleatOf 4 RX7 wsX7_pleatOf D (gm_T cyI cyZ) 17 ad (some .int)) (s0 : Int32) (σ : gq_M) (h : wq_X7_pleatOf_b11 Q s0 σ) : gq_G p l e rq_X7_pleatOf s m args below meth c (gq_Ri below args s D (gm_T cyI cyZ) 17 ad (gm_S cyI cyZ ad) Q) D 17 ad (gm_S cyI cyZ ad) 4 σ 11 [(0, .ref (ad 0))] [.int s0] := by
  unfold wq_X7_pleatOf_b11 at h
  refine gq_istore_n (L' := [(0, .ref (ad 0)), (3, .int s0)]) C [1, 0] dX7_pleatOf_11 (by decide) rfl ?_
  refine gq_aload_n (j := 0) C dX7_pleatOf_12 rfl ?_
  refine gq_iload_n (j := 1) C dX7_pleatOf_13 rfl ?_
  refine gq_vi (i := 0) C gms_0 rfl [.int s0] (mq_X7_isPleat C.2.2.1 s0 σ _ h) gX7_pleatOf_X7_isPleat rfl rfl dq_X7_isPleat ⟨rfl, rfl, by decide, by decide⟩ rfl rfl (Nat.le_of_ble_eq_true rfl) dX7_pleatOf_14 (fun r2 σ3 h => ?_)
  refine gq_if_eq (tgt := 24) C dX7_pleatOf_17 (by decide) (fun c4 => ?_) (fun c4 => ?_)
  · have h := h.1 c4
    refine gq_bipush (v := (-9)) C dX7_pleatOf_24 (by decide) ?_
    exact gq_iret C h dX7_pleatOf_26
  · have h := h.2 c4
    refine gq_iload_n (j := 1) C dX7_pleatOf_20 rfl ?_
    refine gq_goto (tgt := 26) C dX7_pleatOf_21 (by decide) ?_
    exact gq_iret C h dX7_pleatOf_26
def wq_X7_pleatOf (a1 : Int32) (a2 : Int32) (σ : gq_M) (Q : Int32 → gq_M → Prop) : Prop := ((a2 = 0 → wq_X7_pleatOf_b11 Q (a1 - 1) σ) ∧ (¬ a2 = 0 → wq_X7_pleatOf_b11 Q a1 σ))
set_option maxRecDepth 100000 in
set_option maxHeartbeats 4000000 in
theorem tq_X7_pleatOf {p : Program} {l : Launch} {e : Env} {s : State} {m : MethodId} {args : Array Value} {below : List Frame} {meth : Method} {c : Code} {D : va_G} {cyI cyZ : ClassId} {ad : Nat → Nat} {Q : Int32 → gq_M → Prop} (C : gq_C p s m args meth c cX7_pleatOf 4 RX7 wsX7_pleatOf D (gm_T cyI cyZ) 17 ad (some .int)) (a1 : Int32) (a2 : Int32) (σ : gq_M) (h : wq_X7_pleatOf a1 a2 σ Q) : gq_G p l e rq_X7_pleatOf s m args below meth c (gq_Ri below args s D (gm_T cyI cyZ) 17 ad (gm_S cyI cyZ ad) Q) D 17 ad (gm_S cyI cyZ ad) 4 σ 0 [(0, .ref (ad 0)), (1, .int a1), (2, .int a2)] [] := by
  unfold wq_X7_pleatOf at h
  refine gq_iload_n (j := 2) C dX7_pleatOf_0 rfl ?_
  refine gq_if_eq (tgt := 8) C dX7_pleatOf_1 (by decide) (fun c1 => ?_) (fun c1 => ?_)
  · have h := h.1 c1
    refine gq_iload_n (j := 1) C dX7_pleatOf_8 rfl ?_
    refine gq_iconst (v := 1) C dX7_pleatOf_9 (by decide) ?_
    refine gq_isub C dX7_pleatOf_10 ?_
    refine gq_sub [0] rfl ?_
    exact tq_X7_pleatOf_b11 C _ _ h
  · have h := h.2 c1
    refine gq_iload_n (j := 1) C dX7_pleatOf_4 rfl ?_
    refine gq_goto (tgt := 11) C dX7_pleatOf_5 (by decide) ?_
    refine gq_sub [0] rfl ?_
    exact tq_X7_pleatOf_b11 C _ _ h
theorem mq_X7_pleatOf {l : Launch} {D : va_G} {cyI cyZ : ClassId} {ad : Nat → Nat} (hap : gq_ap 17 ad) (a1 : Int32) (a2 : Int32) (σ : gq_M) (Q : Int32 → gq_M → Prop) (h : wq_X7_pleatOf a1 a2 σ Q) : Met l yX7_pleatOf wsX7_pleatOf rq_X7_pleatOf (va_Pc [.ref (ad 0), .int a1, .int a2] (gq_P D (gm_T cyI cyZ) 17 ad (gm_S cyI cyZ ad) σ)) (va_Qi Q (gq_P D (gm_T cyI cyZ) 17 ad (gm_S cyI cyZ ad)) (gq_A 17 ad)) 0 0 (gq_A 17 ad) :=
  gq_met hap (by decide) rfl rfl (Nat.le_of_ble_eq_true rfl) (fun _ _ _ _ _ _ _ C => tq_X7_pleatOf C a1 a2 σ h)
abbrev rq_X7_canStep : Room := { frames := 3, cells := 0, slots := 0, locals := 71 }
theorem dq_X7_canStep : gq_dsc yX7_canStep 3 := by unfold gq_dsc; decide +kernel
theorem iq_X7_canStep_X7 : ∀ w ∈ u_ws RX7 TX7 30, w ∈ wsX7_canStep := by decide +kernel
theorem fq_X7_canStep_22 : Cond.fieldLink RX7 22 (TX7 6).1 (TX7 6).2.1 (TX7 6).2.2.1 ∈ wsX7_canStep := by decide +kernel
def wq_X7_canStep_b33 (Q : Int32 → gq_M → Prop) (x1 : Int32) (x2 : Int32) (x4 : Int32) (s0 : Int32) (σ : gq_M) : Prop := ((s0 = (-9) → Q 0 σ) ∧ (¬ s0 = (-9) → vp_in ((x4 + 5) + x2) 28 ∧ wq_X7_paysOn x1 x2 s0 σ (fun r6 σ7 => (((σ.1 5 (((x4 + 5) + x2)).toNatClampNeg) < r6 → Q 0 σ7) ∧ (¬ (σ.1 5 (((x4 + 5) + x2)).toNatClampNeg) < r6 → Q 1 σ7)))))
set_option maxRecDepth 100000 in
set_option maxHeartbeats 4000000 in
theorem tq_X7_canStep_b33 {p : Program} {l : Launch} {e : Env} {s : State} {m : MethodId} {args : Array Value} {below : List Frame} {meth : Method} {c : Code} {D : va_G} {cyI cyZ : ClassId} {ad : Nat → Nat} {Q : Int32 → gq_M → Prop} (C : gq_C p s m args meth c cX7_canStep 6 RX7 wsX7_canStep D (gm_T cyI cyZ) 17 ad (some .boolean)) (x1 : Int32) (x2 : Int32) (x4 : Int32) (s0 : Int32) (σ : gq_M) (h : wq_X7_canStep_b33 Q x1 x2 x4 s0 σ) : gq_G p l e rq_X7_canStep s m args below meth c (gq_Ri below args s D (gm_T cyI cyZ) 17 ad (gm_S cyI cyZ ad) Q) D 17 ad (gm_S cyI cyZ ad) 6 σ 33 [(0, .ref (ad 0)), (1, .int x1), (2, .int x2), (4, .int x4)] [.int s0] := by
  unfold wq_X7_canStep_b33 at h
  refine gq_istore (L' := [(0, .ref (ad 0)), (1, .int x1), (2, .int x2), (4, .int x4), (5, .int s0)]) C [1, 2, 3, 4, 0] dX7_canStep_33 (by decide) rfl ?_
  refine gq_iload (j := 4) C dX7_canStep_35 rfl ?_
  refine gq_bipush (v := (-9)) C dX7_canStep_37 (by decide) ?_
  refine gq_icmp_eq (tgt := 68) C dX7_canStep_39 (by decide) (fun c5 => ?_) (fun c5 => ?_)
  · have h := h.1 c5
    refine gq_iconst (v := 0) C dX7_canStep_68 (by decide) ?_
    exact gq_zret C (Or.inl rfl) h dX7_canStep_69
  · have h := h.2 c5
    refine gq_aload_n (j := 0) C dX7_canStep_42 rfl ?_
    refine gq_get (v := .ref (ad 5)) (i := 0) C gms_0 rfl iq_X7_canStep_X7 6 (by decide) fq_X7_canStep_22 rfl dX7_canStep_43 ?_
    refine gq_iload (j := 3) C dX7_canStep_46 rfl ?_
    refine gq_iconst (v := 5) C dX7_canStep_48 (by decide) ?_
    refine gq_iadd C dX7_canStep_49 ?_
    refine gq_iload_n (j := 2) C dX7_canStep_50 rfl ?_
    refine gq_iadd C dX7_canStep_51 ?_
    refine gq_iald (i := 5) (j := (((x4 + 5) + x2)).toNatClampNeg) C gms_5 0 rfl rfl h.1 dX7_canStep_52 ?_
    have h := h.2
    refine gq_aload_n (j := 0) C dX7_canStep_53 rfl ?_
    refine gq_iload_n (j := 1) C dX7_canStep_54 rfl ?_
    refine gq_iload_n (j := 2) C dX7_canStep_55 rfl ?_
    refine gq_iload (j := 4) C dX7_canStep_56 rfl ?_
    refine gq_vi (i := 0) C gms_0 rfl [.int x1, .int x2, .int s0] (mq_X7_paysOn C.2.2.1 x1 x2 s0 σ _ h) gX7_canStep_X7_paysOn rfl rfl dq_X7_paysOn ⟨rfl, rfl, by decide, by decide⟩ rfl rfl (Nat.le_of_ble_eq_true rfl) dX7_canStep_58 (fun r6 σ7 h => ?_)
    refine gq_icmp_lt (tgt := 68) C dX7_canStep_61 (by decide) (fun c8 => ?_) (fun c8 => ?_)
    · have h := h.1 c8
      refine gq_iconst (v := 0) C dX7_canStep_68 (by decide) ?_
      exact gq_zret C (Or.inl rfl) h dX7_canStep_69
    · have h := h.2 c8
      refine gq_iconst (v := 1) C dX7_canStep_64 (by decide) ?_
      refine gq_goto (tgt := 69) C dX7_canStep_65 (by decide) ?_
      exact gq_zret C (Or.inr rfl) h dX7_canStep_69
def wq_X7_canStep (a1 : Int32) (a2 : Int32) (a3 : Int32) (σ : gq_M) (Q : Int32 → gq_M → Prop) : Prop := ∀ v1, v1 = (14 * a1) → wq_X7_isTraveller a2 σ (fun r2 σ3 => ((r2 = 0 → wq_X7_canStep_b33 Q a1 a2 v1 (-9) σ3) ∧ (¬ r2 = 0 → vp_in (v1 + a2) 28 ∧ wq_X7_pleatOf (σ3.1 5 ((v1 + a2)).toNatClampNeg) a3 σ3 (fun r9 σ10 => wq_X7_canStep_b33 Q a1 a2 v1 r9 σ10))))
set_option maxRecDepth 100000 in
set_option maxHeartbeats 4000000 in
theorem tq_X7_canStep {p : Program} {l : Launch} {e : Env} {s : State} {m : MethodId} {args : Array Value} {below : List Frame} {meth : Method} {c : Code} {D : va_G} {cyI cyZ : ClassId} {ad : Nat → Nat} {Q : Int32 → gq_M → Prop} (C : gq_C p s m args meth c cX7_canStep 6 RX7 wsX7_canStep D (gm_T cyI cyZ) 17 ad (some .boolean)) (a1 : Int32) (a2 : Int32) (a3 : Int32) (σ : gq_M) (h : wq_X7_canStep a1 a2 a3 σ Q) : gq_G p l e rq_X7_canStep s m args below meth c (gq_Ri below args s D (gm_T cyI cyZ) 17 ad (gm_S cyI cyZ ad) Q) D 17 ad (gm_S cyI cyZ ad) 6 σ 0 [(0, .ref (ad 0)), (1, .int a1), (2, .int a2), (3, .int a3)] [] := by
  unfold wq_X7_canStep at h
  refine gq_bipush (v := 14) C dX7_canStep_0 (by decide) ?_
  refine gq_iload_n (j := 1) C dX7_canStep_2 rfl ?_
  refine gq_imul C dX7_canStep_3 ?_
  refine gq_topi (fun v1 qv1 => ?_)
  have h := h v1 qv1
  refine gq_istore (L' := [(0, .ref (ad 0)), (1, .int a1), (2, .int a2), (3, .int a3), (4, .int v1)]) C [1, 2, 3, 4, 0] dX7_canStep_4 (by decide) rfl ?_
  refine gq_aload_n (j := 0) C dX7_canStep_6 rfl ?_
  refine gq_iload_n (j := 2) C dX7_canStep_7 rfl ?_
  refine gq_vi (i := 0) C gms_0 rfl [.int a2] (mq_X7_isTraveller C.2.2.1 a2 σ _ h) gX7_canStep_X7_isTraveller rfl rfl dq_X7_isTraveller ⟨rfl, rfl, by decide, by decide⟩ rfl rfl (Nat.le_of_ble_eq_true rfl) dX7_canStep_8 (fun r2 σ3 h => ?_)
  refine gq_if_eq (tgt := 31) C dX7_canStep_11 (by decide) (fun c4 => ?_) (fun c4 => ?_)
  · have h := h.1 c4
    refine gq_bipush (v := (-9)) C dX7_canStep_31 (by decide) ?_
    refine gq_sub [0, 1, 2, 4] rfl ?_
    exact tq_X7_canStep_b33 C _ _ _ _ _ h
  · have h := h.2 c4
    refine gq_aload_n (j := 0) C dX7_canStep_14 rfl ?_
    refine gq_aload_n (j := 0) C dX7_canStep_15 rfl ?_
    refine gq_get (v := .ref (ad 5)) (i := 0) C gms_0 rfl iq_X7_canStep_X7 6 (by decide) fq_X7_canStep_22 rfl dX7_canStep_16 ?_
    refine gq_iload (j := 4) C dX7_canStep_19 rfl ?_
    refine gq_iload_n (j := 2) C dX7_canStep_21 rfl ?_
    refine gq_iadd C dX7_canStep_22 ?_
    refine gq_iald (i := 5) (j := ((v1 + a2)).toNatClampNeg) C gms_5 0 rfl rfl h.1 dX7_canStep_23 ?_
    have h := h.2
    refine gq_iload_n (j := 3) C dX7_canStep_24 rfl ?_
    refine gq_vi (i := 0) C gms_0 rfl [.int (σ3.1 5 ((v1 + a2)).toNatClampNeg), .int a3] (mq_X7_pleatOf C.2.2.1 (σ3.1 5 ((v1 + a2)).toNatClampNeg) a3 σ3 _ h) gX7_canStep_X7_pleatOf rfl rfl dq_X7_pleatOf ⟨rfl, rfl, by decide, by decide⟩ rfl rfl (Nat.le_of_ble_eq_true rfl) dX7_canStep_25 (fun r9 σ10 h => ?_)
    refine gq_goto (tgt := 33) C dX7_canStep_28 (by decide) ?_
    refine gq_sub [0, 1, 2, 4] rfl ?_
    exact tq_X7_canStep_b33 C _ _ _ _ _ h
theorem mq_X7_canStep {l : Launch} {D : va_G} {cyI cyZ : ClassId} {ad : Nat → Nat} (hap : gq_ap 17 ad) (a1 : Int32) (a2 : Int32) (a3 : Int32) (σ : gq_M) (Q : Int32 → gq_M → Prop) (h : wq_X7_canStep a1 a2 a3 σ Q) : Met l yX7_canStep wsX7_canStep rq_X7_canStep (va_Pc [.ref (ad 0), .int a1, .int a2, .int a3] (gq_P D (gm_T cyI cyZ) 17 ad (gm_S cyI cyZ ad) σ)) (va_Qi Q (gq_P D (gm_T cyI cyZ) 17 ad (gm_S cyI cyZ ad)) (gq_A 17 ad)) 0 0 (gq_A 17 ad) :=
  gq_met hap (by decide) rfl rfl (Nat.le_of_ble_eq_true rfl) (fun _ _ _ _ _ _ _ C => tq_X7_canStep C a1 a2 a3 σ h)
abbrev rq_X7_stepOn : Room := { frames := 3, cells := 0, slots := 0, locals := 71 }
theorem dq_X7_stepOn : gq_dsc yX7_stepOn 3 := by unfold gq_dsc; decide +kernel
theorem iq_X7_stepOn_X7 : ∀ w ∈ u_ws RX7 TX7 30, w ∈ wsX7_stepOn := by decide +kernel
theorem fq_X7_stepOn_22 : Cond.fieldLink RX7 22 (TX7 6).1 (TX7 6).2.1 (TX7 6).2.2.1 ∈ wsX7_stepOn := by decide +kernel
theorem fq_X7_stepOn_13 : Cond.fieldLink RX7 13 (TX7 3).1 (TX7 3).2.1 (TX7 3).2.2.1 ∈ wsX7_stepOn := by decide +kernel
theorem fq_X7_stepOn_19 : Cond.fieldLink RX7 19 (TX7 5).1 (TX7 5).2.1 (TX7 5).2.2.1 ∈ wsX7_stepOn := by decide +kernel
theorem fq_X7_stepOn_16 : Cond.fieldLink RX7 16 (TX7 4).1 (TX7 4).2.1 (TX7 4).2.2.1 ∈ wsX7_stepOn := by decide +kernel
def wq_X7_stepOn_b121 (Q : gq_M → Prop) (x4 : Int32) (s1 : Int32) (s2 : Int32) (σ : gq_M) : Prop := vp_in s1 28 ∧ vp_in (x4 + 13) 28 ∧ vp_in (x4 + 13) 28 ∧ Q (gq_put (gq_put σ 5 s1.toNatClampNeg s2) 5 ((x4 + 13)).toNatClampNeg (((gq_put σ 5 s1.toNatClampNeg s2).1 5 ((x4 + 13)).toNatClampNeg) + 1))
set_option maxRecDepth 100000 in
set_option maxHeartbeats 4000000 in
theorem tq_X7_stepOn_b121 {p : Program} {l : Launch} {e : Env} {s : State} {m : MethodId} {args : Array Value} {below : List Frame} {meth : Method} {c : Code} {D : va_G} {cyI cyZ : ClassId} {ad : Nat → Nat} {Q : gq_M → Prop} (C : gq_C p s m args meth c cX7_stepOn 6 RX7 wsX7_stepOn D (gm_T cyI cyZ) 17 ad none) (x4 : Int32) (s1 : Int32) (s2 : Int32) (σ : gq_M) (h : wq_X7_stepOn_b121 Q x4 s1 s2 σ) : gq_G p l e rq_X7_stepOn s m args below meth c (gq_Rv below args s D (gm_T cyI cyZ) 17 ad (gm_S cyI cyZ ad) Q) D 17 ad (gm_S cyI cyZ ad) 6 σ 121 [(0, .ref (ad 0)), (4, .int x4)] [.int s2, .int s1, .ref (ad 5)] := by
  unfold wq_X7_stepOn_b121 at h
  refine gq_iast (i := 5) (j := s1.toNatClampNeg) C gms_5 0 rfl rfl h.1 dX7_stepOn_121 ?_
  have h := h.2
  refine gq_aload_n (j := 0) C dX7_stepOn_122 rfl ?_
  refine gq_get (v := .ref (ad 5)) (i := 0) C gms_0 rfl iq_X7_stepOn_X7 6 (by decide) fq_X7_stepOn_22 rfl dX7_stepOn_123 ?_
  refine gq_iload (j := 1) C dX7_stepOn_126 rfl ?_
  refine gq_bipush (v := 13) C dX7_stepOn_128 (by decide) ?_
  refine gq_iadd C dX7_stepOn_130 ?_
  refine gq_dup2 C dX7_stepOn_131 rfl rfl ?_
  refine gq_iald (i := 5) (j := ((x4 + 13)).toNatClampNeg) C gms_5 0 rfl rfl h.1 dX7_stepOn_132 ?_
  have h := h.2
  refine gq_iconst (v := 1) C dX7_stepOn_133 (by decide) ?_
  refine gq_iadd C dX7_stepOn_134 ?_
  refine gq_iast (i := 5) (j := ((x4 + 13)).toNatClampNeg) C gms_5 0 rfl rfl h.1 dX7_stepOn_135 ?_
  have h := h.2
  exact gq_vret C h dX7_stepOn_136
def wq_X7_stepOn_b92 (Q : gq_M → Prop) (x2 : Int32) (x4 : Int32) (x5 : Int32) (s1 : Int32) (s2 : Int32) (s3 : Int32) (σ : gq_M) : Prop := vp_in s1 28 ∧ vp_in x2 5 ∧ ((¬ ((gq_put σ 5 s1.toNatClampNeg (s2 + s3)).1 4 x2.toNatClampNeg) = 3 → wq_X7_stepOn_b121 Q x4 (x4 + 11) 0 (gq_put σ 5 s1.toNatClampNeg (s2 + s3))) ∧ (((gq_put σ 5 s1.toNatClampNeg (s2 + s3)).1 4 x2.toNatClampNeg) = 3 → wq_X7_stepOn_b121 Q x4 (x4 + 11) (x5 + 1) (gq_put σ 5 s1.toNatClampNeg (s2 + s3))))
set_option maxRecDepth 100000 in
set_option maxHeartbeats 4000000 in
theorem tq_X7_stepOn_b92 {p : Program} {l : Launch} {e : Env} {s : State} {m : MethodId} {args : Array Value} {below : List Frame} {meth : Method} {c : Code} {D : va_G} {cyI cyZ : ClassId} {ad : Nat → Nat} {Q : gq_M → Prop} (C : gq_C p s m args meth c cX7_stepOn 6 RX7 wsX7_stepOn D (gm_T cyI cyZ) 17 ad none) (x2 : Int32) (x4 : Int32) (x5 : Int32) (s1 : Int32) (s2 : Int32) (s3 : Int32) (σ : gq_M) (h : wq_X7_stepOn_b92 Q x2 x4 x5 s1 s2 s3 σ) : gq_G p l e rq_X7_stepOn s m args below meth c (gq_Rv below args s D (gm_T cyI cyZ) 17 ad (gm_S cyI cyZ ad) Q) D 17 ad (gm_S cyI cyZ ad) 6 σ 92 [(0, .ref (ad 0)), (2, .int x2), (4, .int x4), (5, .int x5)] [.int s3, .int s2, .int s1, .ref (ad 5)] := by
  unfold wq_X7_stepOn_b92 at h
  refine gq_iadd C dX7_stepOn_92 ?_
  refine gq_iast (i := 5) (j := s1.toNatClampNeg) C gms_5 0 rfl rfl h.1 dX7_stepOn_93 ?_
  have h := h.2
  refine gq_aload_n (j := 0) C dX7_stepOn_94 rfl ?_
  refine gq_get (v := .ref (ad 5)) (i := 0) C gms_0 rfl iq_X7_stepOn_X7 6 (by decide) fq_X7_stepOn_22 rfl dX7_stepOn_95 ?_
  refine gq_iload (j := 2) C dX7_stepOn_98 rfl ?_
  refine gq_bipush (v := 11) C dX7_stepOn_100 (by decide) ?_
  refine gq_iadd C dX7_stepOn_102 ?_
  refine gq_aload_n (j := 0) C dX7_stepOn_103 rfl ?_
  refine gq_get (v := .ref (ad 4)) (i := 0) C gms_0 rfl iq_X7_stepOn_X7 5 (by decide) fq_X7_stepOn_19 rfl dX7_stepOn_104 ?_
  refine gq_iload_n (j := 1) C dX7_stepOn_107 rfl ?_
  refine gq_iald (i := 4) (j := x2.toNatClampNeg) C gms_4 0 rfl rfl h.1 dX7_stepOn_108 ?_
  have h := h.2
  refine gq_iconst (v := 3) C dX7_stepOn_109 (by decide) ?_
  refine gq_icmp_ne (tgt := 120) C dX7_stepOn_110 (by decide) (fun c8 => ?_) (fun c8 => ?_)
  · have h := h.1 c8
    refine gq_iconst (v := 0) C dX7_stepOn_120 (by decide) ?_
    refine gq_sub [0, 2] rfl ?_
    exact tq_X7_stepOn_b121 C _ _ _ _ h
  · have h := h.2 c8
    refine gq_iload (j := 3) C dX7_stepOn_113 rfl ?_
    refine gq_iconst (v := 1) C dX7_stepOn_115 (by decide) ?_
    refine gq_iadd C dX7_stepOn_116 ?_
    refine gq_goto (tgt := 121) C dX7_stepOn_117 (by decide) ?_
    refine gq_sub [0, 2] rfl ?_
    exact tq_X7_stepOn_b121 C _ _ _ _ h
def wq_X7_stepOn_b72 (Q : gq_M → Prop) (x2 : Int32) (x3 : Int32) (x4 : Int32) (x5 : Int32) (s1 : Int32) (s2 : Int32) (σ : gq_M) : Prop := vp_in s1 28 ∧ vp_in (x4 + x2) 28 ∧ ((x3 = 0 → wq_X7_stepOn_b92 Q x2 x4 x5 (x4 + x2) ((gq_put σ 5 s1.toNatClampNeg s2).1 5 ((x4 + x2)).toNatClampNeg) (-1) (gq_put σ 5 s1.toNatClampNeg s2)) ∧ (¬ x3 = 0 → wq_X7_stepOn_b92 Q x2 x4 x5 (x4 + x2) ((gq_put σ 5 s1.toNatClampNeg s2).1 5 ((x4 + x2)).toNatClampNeg) 1 (gq_put σ 5 s1.toNatClampNeg s2)))
set_option maxRecDepth 100000 in
set_option maxHeartbeats 4000000 in
theorem tq_X7_stepOn_b72 {p : Program} {l : Launch} {e : Env} {s : State} {m : MethodId} {args : Array Value} {below : List Frame} {meth : Method} {c : Code} {D : va_G} {cyI cyZ : ClassId} {ad : Nat → Nat} {Q : gq_M → Prop} (C : gq_C p s m args meth c cX7_stepOn 6 RX7 wsX7_stepOn D (gm_T cyI cyZ) 17 ad none) (x2 : Int32) (x3 : Int32) (x4 : Int32) (x5 : Int32) (s1 : Int32) (s2 : Int32) (σ : gq_M) (h : wq_X7_stepOn_b72 Q x2 x3 x4 x5 s1 s2 σ) : gq_G p l e rq_X7_stepOn s m args below meth c (gq_Rv below args s D (gm_T cyI cyZ) 17 ad (gm_S cyI cyZ ad) Q) D 17 ad (gm_S cyI cyZ ad) 6 σ 72 [(0, .ref (ad 0)), (2, .int x2), (3, .int x3), (4, .int x4), (5, .int x5)] [.int s2, .int s1, .ref (ad 5)] := by
  unfold wq_X7_stepOn_b72 at h
  refine gq_iast (i := 5) (j := s1.toNatClampNeg) C gms_5 0 rfl rfl h.1 dX7_stepOn_72 ?_
  have h := h.2
  refine gq_aload_n (j := 0) C dX7_stepOn_73 rfl ?_
  refine gq_get (v := .ref (ad 5)) (i := 0) C gms_0 rfl iq_X7_stepOn_X7 6 (by decide) fq_X7_stepOn_22 rfl dX7_stepOn_74 ?_
  refine gq_iload (j := 3) C dX7_stepOn_77 rfl ?_
  refine gq_iload_n (j := 1) C dX7_stepOn_79 rfl ?_
  refine gq_iadd C dX7_stepOn_80 ?_
  refine gq_dup2 C dX7_stepOn_81 rfl rfl ?_
  refine gq_iald (i := 5) (j := ((x4 + x2)).toNatClampNeg) C gms_5 0 rfl rfl h.1 dX7_stepOn_82 ?_
  have h := h.2
  refine gq_iload_n (j := 2) C dX7_stepOn_83 rfl ?_
  refine gq_if_eq (tgt := 91) C dX7_stepOn_84 (by decide) (fun c7 => ?_) (fun c7 => ?_)
  · have h := h.1 c7
    refine gq_iconst (v := (-1)) C dX7_stepOn_91 (by decide) ?_
    refine gq_sub [0, 1, 3, 4] rfl ?_
    exact tq_X7_stepOn_b92 C _ _ _ _ _ _ _ h
  · have h := h.2 c7
    refine gq_iconst (v := 1) C dX7_stepOn_87 (by decide) ?_
    refine gq_goto (tgt := 92) C dX7_stepOn_88 (by decide) ?_
    refine gq_sub [0, 1, 3, 4] rfl ?_
    exact tq_X7_stepOn_b92 C _ _ _ _ _ _ _ h
def wq_X7_stepOn (a1 : Int32) (a2 : Int32) (a3 : Int32) (σ : gq_M) (Q : gq_M → Prop) : Prop := ∀ v1, v1 = (14 * a1) → vp_in (v1 + a2) 28 ∧ wq_X7_pleatOf (σ.1 5 ((v1 + a2)).toNatClampNeg) a3 σ (fun r2 σ3 => vp_in r2 10 ∧ ((¬ (σ3.1 2 r2.toNatClampNeg) = 3 → vp_in ((v1 + 5) + a2) 28 ∧ wq_X7_paysOn a1 a2 r2 σ3 (fun r5 σ6 => wq_X7_stepOn_b72 Q a2 a3 v1 r2 ((v1 + 5) + a2) ((σ3.1 5 (((v1 + 5) + a2)).toNatClampNeg) - r5) σ6)) ∧ ((σ3.1 2 r2.toNatClampNeg) = 3 → vp_in a2 5 ∧ wq_X7_stepOn_b72 Q a2 a3 v1 r2 ((v1 + 5) + a2) (σ3.1 3 a2.toNatClampNeg) σ3)))
set_option maxRecDepth 100000 in
set_option maxHeartbeats 4000000 in
theorem tq_X7_stepOn {p : Program} {l : Launch} {e : Env} {s : State} {m : MethodId} {args : Array Value} {below : List Frame} {meth : Method} {c : Code} {D : va_G} {cyI cyZ : ClassId} {ad : Nat → Nat} {Q : gq_M → Prop} (C : gq_C p s m args meth c cX7_stepOn 6 RX7 wsX7_stepOn D (gm_T cyI cyZ) 17 ad none) (a1 : Int32) (a2 : Int32) (a3 : Int32) (σ : gq_M) (h : wq_X7_stepOn a1 a2 a3 σ Q) : gq_G p l e rq_X7_stepOn s m args below meth c (gq_Rv below args s D (gm_T cyI cyZ) 17 ad (gm_S cyI cyZ ad) Q) D 17 ad (gm_S cyI cyZ ad) 6 σ 0 [(0, .ref (ad 0)), (1, .int a1), (2, .int a2), (3, .int a3)] [] := by
  unfold wq_X7_stepOn at h
  refine gq_bipush (v := 14) C dX7_stepOn_0 (by decide) ?_
  refine gq_iload_n (j := 1) C dX7_stepOn_2 rfl ?_
  refine gq_imul C dX7_stepOn_3 ?_
  refine gq_topi (fun v1 qv1 => ?_)
  have h := h v1 qv1
  refine gq_istore (L' := [(0, .ref (ad 0)), (1, .int a1), (2, .int a2), (3, .int a3), (4, .int v1)]) C [1, 2, 3, 4, 0] dX7_stepOn_4 (by decide) rfl ?_
  refine gq_aload_n (j := 0) C dX7_stepOn_6 rfl ?_
  refine gq_aload_n (j := 0) C dX7_stepOn_7 rfl ?_
  refine gq_get (v := .ref (ad 5)) (i := 0) C gms_0 rfl iq_X7_stepOn_X7 6 (by decide) fq_X7_stepOn_22 rfl dX7_stepOn_8 ?_
  refine gq_iload (j := 4) C dX7_stepOn_11 rfl ?_
  refine gq_iload_n (j := 2) C dX7_stepOn_13 rfl ?_
  refine gq_iadd C dX7_stepOn_14 ?_
  refine gq_iald (i := 5) (j := ((v1 + a2)).toNatClampNeg) C gms_5 0 rfl rfl h.1 dX7_stepOn_15 ?_
  have h := h.2
  refine gq_iload_n (j := 3) C dX7_stepOn_16 rfl ?_
  refine gq_vi (i := 0) C gms_0 rfl [.int (σ.1 5 ((v1 + a2)).toNatClampNeg), .int a3] (mq_X7_pleatOf C.2.2.1 (σ.1 5 ((v1 + a2)).toNatClampNeg) a3 σ _ h) gX7_stepOn_X7_pleatOf rfl rfl dq_X7_pleatOf ⟨rfl, rfl, by decide, by decide⟩ rfl rfl (Nat.le_of_ble_eq_true rfl) dX7_stepOn_17 (fun r2 σ3 h => ?_)
  refine gq_istore (L' := [(0, .ref (ad 0)), (1, .int a1), (2, .int a2), (3, .int a3), (4, .int v1), (5, .int r2)]) C [1, 2, 3, 4, 5, 0] dX7_stepOn_20 (by decide) rfl ?_
  refine gq_aload_n (j := 0) C dX7_stepOn_22 rfl ?_
  refine gq_get (v := .ref (ad 5)) (i := 0) C gms_0 rfl iq_X7_stepOn_X7 6 (by decide) fq_X7_stepOn_22 rfl dX7_stepOn_23 ?_
  refine gq_iload (j := 4) C dX7_stepOn_26 rfl ?_
  refine gq_iconst (v := 5) C dX7_stepOn_28 (by decide) ?_
  refine gq_iadd C dX7_stepOn_29 ?_
  refine gq_iload_n (j := 2) C dX7_stepOn_30 rfl ?_
  refine gq_iadd C dX7_stepOn_31 ?_
  refine gq_aload_n (j := 0) C dX7_stepOn_32 rfl ?_
  refine gq_get (v := .ref (ad 2)) (i := 0) C gms_0 rfl iq_X7_stepOn_X7 3 (by decide) fq_X7_stepOn_13 rfl dX7_stepOn_33 ?_
  refine gq_iload (j := 5) C dX7_stepOn_36 rfl ?_
  refine gq_iald (i := 2) (j := r2.toNatClampNeg) C gms_2 0 rfl rfl h.1 dX7_stepOn_38 ?_
  have h := h.2
  refine gq_iconst (v := 3) C dX7_stepOn_39 (by decide) ?_
  refine gq_icmp_ne (tgt := 52) C dX7_stepOn_40 (by decide) (fun c4 => ?_) (fun c4 => ?_)
  · have h := h.1 c4
    refine gq_aload_n (j := 0) C dX7_stepOn_52 rfl ?_
    refine gq_get (v := .ref (ad 5)) (i := 0) C gms_0 rfl iq_X7_stepOn_X7 6 (by decide) fq_X7_stepOn_22 rfl dX7_stepOn_53 ?_
    refine gq_iload (j := 4) C dX7_stepOn_56 rfl ?_
    refine gq_iconst (v := 5) C dX7_stepOn_58 (by decide) ?_
    refine gq_iadd C dX7_stepOn_59 ?_
    refine gq_iload_n (j := 2) C dX7_stepOn_60 rfl ?_
    refine gq_iadd C dX7_stepOn_61 ?_
    refine gq_iald (i := 5) (j := (((v1 + 5) + a2)).toNatClampNeg) C gms_5 0 rfl rfl h.1 dX7_stepOn_62 ?_
    have h := h.2
    refine gq_aload_n (j := 0) C dX7_stepOn_63 rfl ?_
    refine gq_iload_n (j := 1) C dX7_stepOn_64 rfl ?_
    refine gq_iload_n (j := 2) C dX7_stepOn_65 rfl ?_
    refine gq_iload (j := 5) C dX7_stepOn_66 rfl ?_
    refine gq_vi (i := 0) C gms_0 rfl [.int a1, .int a2, .int r2] (mq_X7_paysOn C.2.2.1 a1 a2 r2 σ3 _ h) gX7_stepOn_X7_paysOn rfl rfl dq_X7_paysOn ⟨rfl, rfl, by decide, by decide⟩ rfl rfl (Nat.le_of_ble_eq_true rfl) dX7_stepOn_68 (fun r5 σ6 h => ?_)
    refine gq_isub C dX7_stepOn_71 ?_
    refine gq_sub [0, 2, 3, 4, 5] rfl ?_
    exact tq_X7_stepOn_b72 C _ _ _ _ _ _ _ h
  · have h := h.2 c4
    refine gq_aload_n (j := 0) C dX7_stepOn_43 rfl ?_
    refine gq_get (v := .ref (ad 3)) (i := 0) C gms_0 rfl iq_X7_stepOn_X7 4 (by decide) fq_X7_stepOn_16 rfl dX7_stepOn_44 ?_
    refine gq_iload_n (j := 2) C dX7_stepOn_47 rfl ?_
    refine gq_iald (i := 3) (j := a2.toNatClampNeg) C gms_3 0 rfl rfl h.1 dX7_stepOn_48 ?_
    have h := h.2
    refine gq_goto (tgt := 72) C dX7_stepOn_49 (by decide) ?_
    refine gq_sub [0, 2, 3, 4, 5] rfl ?_
    exact tq_X7_stepOn_b72 C _ _ _ _ _ _ _ h
theorem mq_X7_stepOn {l : Launch} {D : va_G} {cyI cyZ : ClassId} {ad : Nat → Nat} (hap : gq_ap 17 ad) (a1 : Int32) (a2 : Int32) (a3 : Int32) (σ : gq_M) (Q : gq_M → Prop) (h : wq_X7_stepOn a1 a2 a3 σ Q) : Met l yX7_stepOn wsX7_stepOn rq_X7_stepOn (va_Pc [.ref (ad 0), .int a1, .int a2, .int a3] (gq_P D (gm_T cyI cyZ) 17 ad (gm_S cyI cyZ ad) σ)) (va_Qv Q (gq_P D (gm_T cyI cyZ) 17 ad (gm_S cyI cyZ ad)) (gq_A 17 ad)) 0 0 (gq_A 17 ad) :=
  gq_met hap (by decide) rfl rfl (Nat.le_of_ble_eq_true rfl) (fun _ _ _ _ _ _ _ C => tq_X7_stepOn C a1 a2 a3 σ h)
abbrev rq_X7_rested : Room := { frames := 1, cells := 0, slots := 0, locals := 21 }
theorem dq_X7_rested : gq_dsc yX7_rested 2 := by unfold gq_dsc; decide +kernel
theorem iq_X7_rested_X7 : ∀ w ∈ u_ws RX7 TX7 30, w ∈ wsX7_rested := by decide +kernel
theorem fq_X7_rested_16 : Cond.fieldLink RX7 16 (TX7 4).1 (TX7 4).2.1 (TX7 4).2.2.1 ∈ wsX7_rested := by decide +kernel
def wq_X7_rested (a1 : Int32) (a2 : Int32) (σ : gq_M) (Q : Int32 → gq_M → Prop) : Prop := vp_in a1 5 ∧ wq_X7_atLeast ((σ.1 3 a1.toNatClampNeg) / 2) 1 σ (fun r1 σ2 => ∀ v3, v3 = (a2 + r1) → vp_in a1 5 ∧ ((v3 ≤ (σ2.1 3 a1.toNatClampNeg) → Q v3 σ2) ∧ (¬ v3 ≤ (σ2.1 3 a1.toNatClampNeg) → vp_in a1 5 ∧ Q (σ2.1 3 a1.toNatClampNeg) σ2)))
set_option maxRecDepth 100000 in
set_option maxHeartbeats 4000000 in
theorem tq_X7_rested {p : Program} {l : Launch} {e : Env} {s : State} {m : MethodId} {args : Array Value} {below : List Frame} {meth : Method} {c : Code} {D : va_G} {cyI cyZ : ClassId} {ad : Nat → Nat} {Q : Int32 → gq_M → Prop} (C : gq_C p s m args meth c cX7_rested 4 RX7 wsX7_rested D (gm_T cyI cyZ) 17 ad (some .int)) (a1 : Int32) (a2 : Int32) (σ : gq_M) (h : wq_X7_rested a1 a2 σ Q) : gq_G p l e rq_X7_rested s m args below meth c (gq_Ri below args s D (gm_T cyI cyZ) 17 ad (gm_S cyI cyZ ad) Q) D 17 ad (gm_S cyI cyZ ad) 4 σ 0 [(0, .ref (ad 0)), (1, .int a1), (2, .int a2)] [] := by
  unfold wq_X7_rested at h
  refine gq_iload_n (j := 2) C dX7_rested_0 rfl ?_
  refine gq_aload_n (j := 0) C dX7_rested_1 rfl ?_
  refine gq_get (v := .ref (ad 3)) (i := 0) C gms_0 rfl iq_X7_rested_X7 4 (by decide) fq_X7_rested_16 rfl dX7_rested_2 ?_
  refine gq_iload_n (j := 1) C dX7_rested_5 rfl ?_
  refine gq_iald (i := 3) (j := a1.toNatClampNeg) C gms_3 0 rfl rfl h.1 dX7_rested_6 ?_
  have h := h.2
  refine gq_iconst (v := 2) C dX7_rested_7 (by decide) ?_
  refine gq_idiv C dX7_rested_8 (by decide) ?_
  refine gq_iconst (v := 1) C dX7_rested_9 (by decide) ?_
  refine gq_si C [.int ((σ.1 3 a1.toNatClampNeg) / 2), .int 1] (mq_X7_atLeast C.2.2.1 ((σ.1 3 a1.toNatClampNeg) / 2) 1 σ _ h) gX7_rested_X7_atLeast rfl dq_X7_atLeast ⟨rfl, rfl, by decide, by decide⟩ rfl rfl (Nat.le_of_ble_eq_true rfl) dX7_rested_10 (fun r1 σ2 h => ?_)
  refine gq_iadd C dX7_rested_13 ?_
  refine gq_topi (fun v3 qv3 => ?_)
  have h := h v3 qv3
  refine gq_istore_n (L' := [(0, .ref (ad 0)), (1, .int a1), (2, .int a2), (3, .int v3)]) C [1, 2, 3, 0] dX7_rested_14 (by decide) rfl ?_
  refine gq_iload_n (j := 3) C dX7_rested_15 rfl ?_
  refine gq_aload_n (j := 0) C dX7_rested_16 rfl ?_
  refine gq_get (v := .ref (ad 3)) (i := 0) C gms_0 rfl iq_X7_rested_X7 4 (by decide) fq_X7_rested_16 rfl dX7_rested_17 ?_
  refine gq_iload_n (j := 1) C dX7_rested_20 rfl ?_
  refine gq_iald (i := 3) (j := a1.toNatClampNeg) C gms_3 0 rfl rfl h.1 dX7_rested_21 ?_
  have h := h.2
  refine gq_icmp_le (tgt := 34) C dX7_rested_22 (by decide) (fun c4 => ?_) (fun c4 => ?_)
  · have h := h.1 c4
    refine gq_iload_n (j := 3) C dX7_rested_34 rfl ?_
    exact gq_iret C h dX7_rested_35
  · have h := h.2 c4
    refine gq_aload_n (j := 0) C dX7_rested_25 rfl ?_
    refine gq_get (v := .ref (ad 3)) (i := 0) C gms_0 rfl iq_X7_rested_X7 4 (by decide) fq_X7_rested_16 rfl dX7_rested_26 ?_
    refine gq_iload_n (j := 1) C dX7_rested_29 rfl ?_
    refine gq_iald (i := 3) (j := a1.toNatClampNeg) C gms_3 0 rfl rfl h.1 dX7_rested_30 ?_
    have h := h.2
    refine gq_goto (tgt := 35) C dX7_rested_31 (by decide) ?_
    exact gq_iret C h dX7_rested_35
theorem mq_X7_rested {l : Launch} {D : va_G} {cyI cyZ : ClassId} {ad : Nat → Nat} (hap : gq_ap 17 ad) (a1 : Int32) (a2 : Int32) (σ : gq_M) (Q : Int32 → gq_M → Prop) (h : wq_X7_rested a1 a2 σ Q) : Met l yX7_rested wsX7_rested rq_X7_rested (va_Pc [.ref (ad 0), .int a1, .int a2] (gq_P D (gm_T cyI cyZ) 17 ad (gm_S cyI cyZ ad) σ)) (va_Qi Q (gq_P D (gm_T cyI cyZ) 17 ad (gm_S cyI cyZ ad)) (gq_A 17 ad)) 0 0 (gq_A 17 ad) :=
  gq_met hap (by decide) rfl rfl (Nat.le_of_ble_eq_true rfl) (fun _ _ _ _ _ _ _ C => tq_X7_rested C a1 a2 σ h)
