/-! ===== walks of X7_who, X7_factorial, X7_common, X7_comeTo, X7_share, X7_choose (by wip/gen) ===== -/
abbrev rq_X7_who : Room := { frames := 3, cells := 0, slots := 0, locals := 72 }
theorem dq_X7_who : gq_dsc yX7_who 1 := by unfold gq_dsc; decide +kernel
theorem iq_X7_who_X7 : ∀ w ∈ u_ws RX7 TX7 30, w ∈ wsX7_who := by decide +kernel
theorem fq_X7_who_209 : Cond.fieldLink RX7 209 (TX7 23).1 (TX7 23).2.1 (TX7 23).2.2.1 ∈ wsX7_who := by decide +kernel
theorem fq_X7_who_43 : Cond.fieldLink RX7 43 (TX7 24).1 (TX7 24).2.1 (TX7 24).2.2.1 ∈ wsX7_who := by decide +kernel
theorem fq_X7_who_46 : Cond.fieldLink RX7 46 (TX7 25).1 (TX7 25).2.1 (TX7 25).2.2.1 ∈ wsX7_who := by decide +kernel
def wq_X7_who_b107 (Q : Int32 → gq_M → Prop) (K52 : Int32 → Int32 → Int32 → Int32 → Int32 → Int32 → Int32 → gq_M → Prop) (x1 : Int32) (x2 : Int32) (x3 : Int32) (x4 : Int32) (x5 : Int32) (x7 : Int32) (s0 : Int32) (σ : gq_M) : Prop := ∀ v9, v9 = (x7 + 1) → K52 x1 x2 x3 x4 x5 s0 v9 σ
set_option maxRecDepth 100000 in
set_option maxHeartbeats 4000000 in
theorem tq_X7_who_b107 {p : Program} {l : Launch} {e : Env} {s : State} {m : MethodId} {args : Array Value} {below : List Frame} {meth : Method} {c : Code} {D : va_G} {cyI cyZ : ClassId} {ad : Nat → Nat} {Q : Int32 → gq_M → Prop} {K52 : Int32 → Int32 → Int32 → Int32 → Int32 → Int32 → Int32 → gq_M → Prop} (C : gq_C p s m args meth c cX7_who 8 RX7 wsX7_who D (gm_T cyI cyZ) 17 ad (some .int)) (hK52 : ∀ (y1 : Int32) (y2 : Int32) (y3 : Int32) (y4 : Int32) (y5 : Int32) (y6 : Int32) (y7 : Int32) (τ : gq_M), K52 y1 y2 y3 y4 y5 y6 y7 τ → gq_G p l e rq_X7_who s m args below meth c (gq_Ri below args s D (gm_T cyI cyZ) 17 ad (gm_S cyI cyZ ad) Q) D 17 ad (gm_S cyI cyZ ad) 8 τ 52 [(0, .ref (ad 0)), (1, .int y1), (2, .int y2), (3, .int y3), (4, .int y4), (5, .int y5), (6, .int y6), (7, .int y7)] []) (x1 : Int32) (x2 : Int32) (x3 : Int32) (x4 : Int32) (x5 : Int32) (x7 : Int32) (s0 : Int32) (σ : gq_M) (h : wq_X7_who_b107 Q K52 x1 x2 x3 x4 x5 x7 s0 σ) : gq_G p l e rq_X7_who s m args below meth c (gq_Ri below args s D (gm_T cyI cyZ) 17 ad (gm_S cyI cyZ ad) Q) D 17 ad (gm_S cyI cyZ ad) 8 σ 107 [(0, .ref (ad 0)), (1, .int x1), (2, .int x2), (3, .int x3), (4, .int x4), (5, .int x5), (7, .int x7)] [.int s0] := by
  unfold wq_X7_who_b107 at h
  refine gq_istore (L' := [(0, .ref (ad 0)), (1, .int x1), (2, .int x2), (3, .int x3), (4, .int x4), (5, .int x5), (6, .int s0), (7, .int x7)]) C [1, 2, 3, 4, 5, 6, 0, 7] dX7_who_107 (by decide) rfl ?_
  obtain ⟨v9, qv9⟩ : ∃ y : Int32, y = (x7 + 1) := ⟨_, rfl⟩
  have h := h v9 qv9
  refine gq_iinc (j := 7) (v := v9) (L' := [(0, .ref (ad 0)), (1, .int x1), (2, .int x2), (3, .int x3), (4, .int x4), (5, .int x5), (6, .int s0), (7, .int v9)]) C [1, 2, 3, 4, 5, 6, 7, 0] dX7_who_109 rfl (by rw [qv9]; rfl) (by decide) rfl ?_
  refine gq_goto (tgt := 52) C dX7_who_112 (by decide) ?_
  exact hK52 _ _ _ _ _ _ _ _ h
def wq_X7_who_b99 (Q : Int32 → gq_M → Prop) (K52 : Int32 → Int32 → Int32 → Int32 → Int32 → Int32 → Int32 → gq_M → Prop) (x1 : Int32) (x2 : Int32) (x3 : Int32) (x4 : Int32) (x5 : Int32) (x7 : Int32) (s0 : Int32) (s1 : Int32) (σ : gq_M) : Prop := ((¬ s0 = s1 → wq_X7_who_b107 Q (K52) x1 x2 x3 x4 x5 x7 0 σ) ∧ (s0 = s1 → wq_X7_who_b107 Q (K52) x1 x2 x3 x4 x5 x7 1 σ))
set_option maxRecDepth 100000 in
set_option maxHeartbeats 4000000 in
theorem tq_X7_who_b99 {p : Program} {l : Launch} {e : Env} {s : State} {m : MethodId} {args : Array Value} {below : List Frame} {meth : Method} {c : Code} {D : va_G} {cyI cyZ : ClassId} {ad : Nat → Nat} {Q : Int32 → gq_M → Prop} {K52 : Int32 → Int32 → Int32 → Int32 → Int32 → Int32 → Int32 → gq_M → Prop} (C : gq_C p s m args meth c cX7_who 8 RX7 wsX7_who D (gm_T cyI cyZ) 17 ad (some .int)) (hK52 : ∀ (y1 : Int32) (y2 : Int32) (y3 : Int32) (y4 : Int32) (y5 : Int32) (y6 : Int32) (y7 : Int32) (τ : gq_M), K52 y1 y2 y3 y4 y5 y6 y7 τ → gq_G p l e rq_X7_who s m args below meth c (gq_Ri below args s D (gm_T cyI cyZ) 17 ad (gm_S cyI cyZ ad) Q) D 17 ad (gm_S cyI cyZ ad) 8 τ 52 [(0, .ref (ad 0)), (1, .int y1), (2, .int y2), (3, .int y3), (4, .int y4), (5, .int y5), (6, .int y6), (7, .int y7)] []) (x1 : Int32) (x2 : Int32) (x3 : Int32) (x4 : Int32) (x5 : Int32) (x7 : Int32) (s0 : Int32) (s1 : Int32) (σ : gq_M) (h : wq_X7_who_b99 Q K52 x1 x2 x3 x4 x5 x7 s0 s1 σ) : gq_G p l e rq_X7_who s m args below meth c (gq_Ri below args s D (gm_T cyI cyZ) 17 ad (gm_S cyI cyZ ad) Q) D 17 ad (gm_S cyI cyZ ad) 8 σ 99 [(0, .ref (ad 0)), (1, .int x1), (2, .int x2), (3, .int x3), (4, .int x4), (5, .int x5), (7, .int x7)] [.int s1, .int s0] := by
  unfold wq_X7_who_b99 at h
  refine gq_icmp_ne (tgt := 106) C dX7_who_99 (by decide) (fun c12 => ?_) (fun c12 => ?_)
  · have h := h.1 c12
    refine gq_iconst (v := 0) C dX7_who_106 (by decide) ?_
    exact tq_X7_who_b107 C (hK52) _ _ _ _ _ _ _ _ h
  · have h := h.2 c12
    refine gq_iconst (v := 1) C dX7_who_102 (by decide) ?_
    refine gq_goto (tgt := 107) C dX7_who_103 (by decide) ?_
    exact tq_X7_who_b107 C (hK52) _ _ _ _ _ _ _ _ h
def wq_X7_who_b83 (Q : Int32 → gq_M → Prop) (K52 : Int32 → Int32 → Int32 → Int32 → Int32 → Int32 → Int32 → gq_M → Prop) (x1 : Int32) (x2 : Int32) (x3 : Int32) (x4 : Int32) (x5 : Int32) (x7 : Int32) (s0 : Int32) (σ : gq_M) : Prop := vp_in x7 6 ∧ ((¬ (σ.1 13 x7.toNatClampNeg) = 1 → wq_X7_who_b99 Q (K52) x1 x2 x3 x4 x5 x7 s0 0 σ) ∧ ((σ.1 13 x7.toNatClampNeg) = 1 → wq_X7_who_b99 Q (K52) x1 x2 x3 x4 x5 x7 s0 1 σ))
set_option maxRecDepth 100000 in
set_option maxHeartbeats 4000000 in
theorem tq_X7_who_b83 {p : Program} {l : Launch} {e : Env} {s : State} {m : MethodId} {args : Array Value} {below : List Frame} {meth : Method} {c : Code} {D : va_G} {cyI cyZ : ClassId} {ad : Nat → Nat} {Q : Int32 → gq_M → Prop} {K52 : Int32 → Int32 → Int32 → Int32 → Int32 → Int32 → Int32 → gq_M → Prop} (C : gq_C p s m args meth c cX7_who 8 RX7 wsX7_who D (gm_T cyI cyZ) 17 ad (some .int)) (hK52 : ∀ (y1 : Int32) (y2 : Int32) (y3 : Int32) (y4 : Int32) (y5 : Int32) (y6 : Int32) (y7 : Int32) (τ : gq_M), K52 y1 y2 y3 y4 y5 y6 y7 τ → gq_G p l e rq_X7_who s m args below meth c (gq_Ri below args s D (gm_T cyI cyZ) 17 ad (gm_S cyI cyZ ad) Q) D 17 ad (gm_S cyI cyZ ad) 8 τ 52 [(0, .ref (ad 0)), (1, .int y1), (2, .int y2), (3, .int y3), (4, .int y4), (5, .int y5), (6, .int y6), (7, .int y7)] []) (x1 : Int32) (x2 : Int32) (x3 : Int32) (x4 : Int32) (x5 : Int32) (x7 : Int32) (s0 : Int32) (σ : gq_M) (h : wq_X7_who_b83 Q K52 x1 x2 x3 x4 x5 x7 s0 σ) : gq_G p l e rq_X7_who s m args below meth c (gq_Ri below args s D (gm_T cyI cyZ) 17 ad (gm_S cyI cyZ ad) Q) D 17 ad (gm_S cyI cyZ ad) 8 σ 83 [(0, .ref (ad 0)), (1, .int x1), (2, .int x2), (3, .int x3), (4, .int x4), (5, .int x5), (7, .int x7)] [.int s0] := by
  unfold wq_X7_who_b83 at h
  refine gq_aload_n (j := 0) C dX7_who_83 rfl ?_
  refine gq_get (v := .ref (ad 13)) (i := 0) C gms_0 rfl iq_X7_who_X7 25 (by decide) fq_X7_who_46 rfl dX7_who_84 ?_
  refine gq_iload (j := 6) C dX7_who_87 rfl ?_
  refine gq_iald (i := 13) (j := x7.toNatClampNeg) C gms_13 0 rfl rfl h.1 dX7_who_89 ?_
  have h := h.2
  refine gq_iconst (v := 1) C dX7_who_90 (by decide) ?_
  refine gq_icmp_ne (tgt := 98) C dX7_who_91 (by decide) (fun c11 => ?_) (fun c11 => ?_)
  · have h := h.1 c11
    refine gq_iconst (v := 0) C dX7_who_98 (by decide) ?_
    exact tq_X7_who_b99 C (hK52) _ _ _ _ _ _ _ _ _ h
  · have h := h.2 c11
    refine gq_iconst (v := 1) C dX7_who_94 (by decide) ?_
    refine gq_goto (tgt := 99) C dX7_who_95 (by decide) ?_
    exact tq_X7_who_b99 C (hK52) _ _ _ _ _ _ _ _ _ h
def wq_X7_who_l52 (Q : Int32 → gq_M → Prop) (K115 : Int32 → Int32 → Int32 → Int32 → Int32 → gq_M → Prop) : Nat → Int32 → Int32 → Int32 → Int32 → Int32 → Int32 → Int32 → gq_M → Prop
  | 0, _, _, _, _, _, _, _, _ => False
  | n + 1, x1, x2, x3, x4, x5, x6, x7, σ => (((σ.1 0 23) ≤ x7 → K115 x1 x2 x3 x4 x6 σ) ∧ (¬ (σ.1 0 23) ≤ x7 → ((x6 = 0 → wq_X7_who_b107 Q (wq_X7_who_l52 Q K115 n) x1 x2 x3 x4 x5 x7 0 σ) ∧ (¬ x6 = 0 → vp_in x7 6 ∧ ((x5 < (σ.1 12 x7.toNatClampNeg) → wq_X7_who_b83 Q (wq_X7_who_l52 Q K115 n) x1 x2 x3 x4 x5 x7 0 σ) ∧ (¬ x5 < (σ.1 12 x7.toNatClampNeg) → wq_X7_who_b83 Q (wq_X7_who_l52 Q K115 n) x1 x2 x3 x4 x5 x7 1 σ))))))
set_option maxRecDepth 100000 in
set_option maxHeartbeats 4000000 in
theorem tq_X7_who_l52 {p : Program} {l : Launch} {e : Env} {s : State} {m : MethodId} {args : Array Value} {below : List Frame} {meth : Method} {c : Code} {D : va_G} {cyI cyZ : ClassId} {ad : Nat → Nat} {Q : Int32 → gq_M → Prop} {K115 : Int32 → Int32 → Int32 → Int32 → Int32 → gq_M → Prop} (C : gq_C p s m args meth c cX7_who 8 RX7 wsX7_who D (gm_T cyI cyZ) 17 ad (some .int)) (hK115 : ∀ (y1 : Int32) (y2 : Int32) (y3 : Int32) (y4 : Int32) (y6 : Int32) (τ : gq_M), K115 y1 y2 y3 y4 y6 τ → gq_G p l e rq_X7_who s m args below meth c (gq_Ri below args s D (gm_T cyI cyZ) 17 ad (gm_S cyI cyZ ad) Q) D 17 ad (gm_S cyI cyZ ad) 8 τ 115 [(0, .ref (ad 0)), (1, .int y1), (2, .int y2), (3, .int y3), (4, .int y4), (6, .int y6)] []) : ∀ (n : Nat) (x1 : Int32) (x2 : Int32) (x3 : Int32) (x4 : Int32) (x5 : Int32) (x6 : Int32) (x7 : Int32) (σ : gq_M), wq_X7_who_l52 Q K115 n x1 x2 x3 x4 x5 x6 x7 σ → gq_G p l e rq_X7_who s m args below meth c (gq_Ri below args s D (gm_T cyI cyZ) 17 ad (gm_S cyI cyZ ad) Q) D 17 ad (gm_S cyI cyZ ad) 8 σ 52 [(0, .ref (ad 0)), (1, .int x1), (2, .int x2), (3, .int x3), (4, .int x4), (5, .int x5), (6, .int x6), (7, .int x7)] [] := by
  intro n
  induction n with
  | zero =>
    intro x1 x2 x3 x4 x5 x6 x7 σ h
    exact absurd h (fun q => q)
  | succ n ih =>
    intro x1 x2 x3 x4 x5 x6 x7 σ h
    unfold wq_X7_who_l52 at h
    refine gq_iload (j := 7) C dX7_who_52 rfl ?_
    refine gq_aload_n (j := 0) C dX7_who_54 rfl ?_
    refine gq_get (v := .int (σ.1 0 23)) (i := 0) C gms_0 rfl iq_X7_who_X7 23 (by decide) fq_X7_who_209 rfl dX7_who_55 ?_
    refine gq_icmp_ge (tgt := 115) C dX7_who_58 (by decide) (fun c7 => ?_) (fun c7 => ?_)
    · have h := h.1 c7
      refine gq_sub [0, 1, 2, 3, 4, 6] rfl ?_
      exact hK115 _ _ _ _ _ _ h
    · have h := h.2 c7
      refine gq_iload (j := 6) C dX7_who_61 rfl ?_
      refine gq_if_eq (tgt := 106) C dX7_who_63 (by decide) (fun c8 => ?_) (fun c8 => ?_)
      · have h := h.1 c8
        refine gq_iconst (v := 0) C dX7_who_106 (by decide) ?_
        refine gq_sub [0, 1, 2, 3, 4, 5, 7] rfl ?_
        exact tq_X7_who_b107 C (ih) _ _ _ _ _ _ _ _ h
      · have h := h.2 c8
        refine gq_iload (j := 5) C dX7_who_66 rfl ?_
        refine gq_aload_n (j := 0) C dX7_who_68 rfl ?_
        refine gq_get (v := .ref (ad 12)) (i := 0) C gms_0 rfl iq_X7_who_X7 24 (by decide) fq_X7_who_43 rfl dX7_who_69 ?_
        refine gq_iload (j := 7) C dX7_who_72 rfl ?_
        refine gq_iald (i := 12) (j := x7.toNatClampNeg) C gms_12 0 rfl rfl h.1 dX7_who_74 ?_
        have h := h.2
        refine gq_icmp_lt (tgt := 82) C dX7_who_75 (by decide) (fun c10 => ?_) (fun c10 => ?_)
        · have h := h.1 c10
          refine gq_iconst (v := 0) C dX7_who_82 (by decide) ?_
          refine gq_sub [0, 1, 2, 3, 4, 5, 7] rfl ?_
          exact tq_X7_who_b83 C (ih) _ _ _ _ _ _ _ _ h
        · have h := h.2 c10
          refine gq_iconst (v := 1) C dX7_who_78 (by decide) ?_
          refine gq_goto (tgt := 83) C dX7_who_79 (by decide) ?_
          refine gq_sub [0, 1, 2, 3, 4, 5, 7] rfl ?_
          exact tq_X7_who_b83 C (ih) _ _ _ _ _ _ _ _ h
def wq_X7_who_b156 (Q : Int32 → gq_M → Prop) (K21 : Int32 → Int32 → Int32 → Int32 → gq_M → Prop) (x1 : Int32) (x3 : Int32) (x4 : Int32) (s0 : Int32) (s1 : Int32) (σ : gq_M) : Prop := ∀ v21, v21 = (s0 + s1) → ∀ v22, v22 = (x4 + 1) → K21 x1 v21 x3 v22 σ
set_option maxRecDepth 100000 in
set_option maxHeartbeats 4000000 in
theorem tq_X7_who_b156 {p : Program} {l : Launch} {e : Env} {s : State} {m : MethodId} {args : Array Value} {below : List Frame} {meth : Method} {c : Code} {D : va_G} {cyI cyZ : ClassId} {ad : Nat → Nat} {Q : Int32 → gq_M → Prop} {K21 : Int32 → Int32 → Int32 → Int32 → gq_M → Prop} (C : gq_C p s m args meth c cX7_who 8 RX7 wsX7_who D (gm_T cyI cyZ) 17 ad (some .int)) (hK21 : ∀ (y1 : Int32) (y2 : Int32) (y3 : Int32) (y4 : Int32) (τ : gq_M), K21 y1 y2 y3 y4 τ → gq_G p l e rq_X7_who s m args below meth c (gq_Ri below args s D (gm_T cyI cyZ) 17 ad (gm_S cyI cyZ ad) Q) D 17 ad (gm_S cyI cyZ ad) 8 τ 21 [(0, .ref (ad 0)), (1, .int y1), (2, .int y2), (3, .int y3), (4, .int y4)] []) (x1 : Int32) (x3 : Int32) (x4 : Int32) (s0 : Int32) (s1 : Int32) (σ : gq_M) (h : wq_X7_who_b156 Q K21 x1 x3 x4 s0 s1 σ) : gq_G p l e rq_X7_who s m args below meth c (gq_Ri below args s D (gm_T cyI cyZ) 17 ad (gm_S cyI cyZ ad) Q) D 17 ad (gm_S cyI cyZ ad) 8 σ 156 [(0, .ref (ad 0)), (1, .int x1), (3, .int x3), (4, .int x4)] [.int s1, .int s0] := by
  unfold wq_X7_who_b156 at h
  refine gq_iadd C dX7_who_156 ?_
  refine gq_topi (fun v21 qv21 => ?_)
  have h := h v21 qv21
  refine gq_istore_n (L' := [(0, .ref (ad 0)), (1, .int x1), (2, .int v21), (3, .int x3), (4, .int x4)]) C [1, 2, 0, 3, 4] dX7_who_157 (by decide) rfl ?_
  obtain ⟨v22, qv22⟩ : ∃ y : Int32, y = (x4 + 1) := ⟨_, rfl⟩
  have h := h v22 qv22
  refine gq_iinc (j := 4) (v := v22) (L' := [(0, .ref (ad 0)), (1, .int x1), (2, .int v21), (3, .int x3), (4, .int v22)]) C [1, 2, 3, 4, 0] dX7_who_158 rfl (by rw [qv22]; rfl) (by decide) rfl ?_
  refine gq_goto (tgt := 21) C dX7_who_161 (by decide) ?_
  exact hK21 _ _ _ _ _ h
def wq_X7_who_b144 (Q : Int32 → gq_M → Prop) (K21 : Int32 → Int32 → Int32 → Int32 → gq_M → Prop) (x1 : Int32) (x2 : Int32) (x4 : Int32) (x6 : Int32) (s0 : Int32) (σ : gq_M) : Prop := ((x6 = 0 → wq_X7_who_b156 Q (K21) x1 s0 x4 x2 0 σ) ∧ (¬ x6 = 0 → wq_X7_who_b156 Q (K21) x1 s0 x4 x2 1 σ))
set_option maxRecDepth 100000 in
set_option maxHeartbeats 4000000 in
theorem tq_X7_who_b144 {p : Program} {l : Launch} {e : Env} {s : State} {m : MethodId} {args : Array Value} {below : List Frame} {meth : Method} {c : Code} {D : va_G} {cyI cyZ : ClassId} {ad : Nat → Nat} {Q : Int32 → gq_M → Prop} {K21 : Int32 → Int32 → Int32 → Int32 → gq_M → Prop} (C : gq_C p s m args meth c cX7_who 8 RX7 wsX7_who D (gm_T cyI cyZ) 17 ad (some .int)) (hK21 : ∀ (y1 : Int32) (y2 : Int32) (y3 : Int32) (y4 : Int32) (τ : gq_M), K21 y1 y2 y3 y4 τ → gq_G p l e rq_X7_who s m args below meth c (gq_Ri below args s D (gm_T cyI cyZ) 17 ad (gm_S cyI cyZ ad) Q) D 17 ad (gm_S cyI cyZ ad) 8 τ 21 [(0, .ref (ad 0)), (1, .int y1), (2, .int y2), (3, .int y3), (4, .int y4)] []) (x1 : Int32) (x2 : Int32) (x4 : Int32) (x6 : Int32) (s0 : Int32) (σ : gq_M) (h : wq_X7_who_b144 Q K21 x1 x2 x4 x6 s0 σ) : gq_G p l e rq_X7_who s m args below meth c (gq_Ri below args s D (gm_T cyI cyZ) 17 ad (gm_S cyI cyZ ad) Q) D 17 ad (gm_S cyI cyZ ad) 8 σ 144 [(0, .ref (ad 0)), (1, .int x1), (2, .int x2), (4, .int x4), (6, .int x6)] [.int s0] := by
  unfold wq_X7_who_b144 at h
  refine gq_istore_n (L' := [(0, .ref (ad 0)), (1, .int x1), (2, .int x2), (3, .int s0), (4, .int x4), (6, .int x6)]) C [1, 2, 3, 0, 4, 5] dX7_who_144 (by decide) rfl ?_
  refine gq_iload_n (j := 2) C dX7_who_145 rfl ?_
  refine gq_iload (j := 5) C dX7_who_146 rfl ?_
  refine gq_if_eq (tgt := 155) C dX7_who_148 (by decide) (fun c20 => ?_) (fun c20 => ?_)
  · have h := h.1 c20
    refine gq_iconst (v := 0) C dX7_who_155 (by decide) ?_
    refine gq_sub [0, 1, 3, 4] rfl ?_
    exact tq_X7_who_b156 C (hK21) _ _ _ _ _ _ h
  · have h := h.2 c20
    refine gq_iconst (v := 1) C dX7_who_151 (by decide) ?_
    refine gq_goto (tgt := 156) C dX7_who_152 (by decide) ?_
    refine gq_sub [0, 1, 3, 4] rfl ?_
    exact tq_X7_who_b156 C (hK21) _ _ _ _ _ _ h
def wq_X7_who_l21 (Q : Int32 → gq_M → Prop) (K164 : Int32 → Int32 → Int32 → gq_M → Prop) : Nat → Int32 → Int32 → Int32 → Int32 → gq_M → Prop
  | 0, _, _, _, _, _ => False
  | n + 1, x1, x2, x3, x4, σ => ((36 ≤ x4 → K164 x1 x2 x3 σ) ∧ (¬ 36 ≤ x4 → wq_X7_farthest (x4 / 9) (1 + (x4 - x4 / 9 * 9)) σ (fun r5 σ6 => (∃ n24, wq_X7_who_l52 Q (fun e13 e14 e15 e16 e17 σ18 => ((e17 = 0 → wq_X7_who_b144 Q (wq_X7_who_l21 Q K164 n) e13 e14 e16 e17 e15 σ18) ∧ (¬ e17 = 0 → ((¬ e14 = 0 → wq_X7_who_b144 Q (wq_X7_who_l21 Q K164 n) e13 e14 e16 e17 e15 σ18) ∧ (e14 = 0 → wq_X7_who_b144 Q (wq_X7_who_l21 Q K164 n) e13 e14 e16 e17 (((10 * (e16 / 9)) + 1) + (e16 - e16 / 9 * 9)) σ18))))) n24 x1 x2 x3 x4 r5 1 0 σ6))))
set_option maxRecDepth 100000 in
set_option maxHeartbeats 4000000 in
theorem tq_X7_who_l21 {p : Program} {l : Launch} {e : Env} {s : State} {m : MethodId} {args : Array Value} {below : List Frame} {meth : Method} {c : Code} {D : va_G} {cyI cyZ : ClassId} {ad : Nat → Nat} {Q : Int32 → gq_M → Prop} {K164 : Int32 → Int32 → Int32 → gq_M → Prop} (C : gq_C p s m args meth c cX7_who 8 RX7 wsX7_who D (gm_T cyI cyZ) 17 ad (some .int)) (hK164 : ∀ (y1 : Int32) (y2 : Int32) (y3 : Int32) (τ : gq_M), K164 y1 y2 y3 τ → gq_G p l e rq_X7_who s m args below meth c (gq_Ri below args s D (gm_T cyI cyZ) 17 ad (gm_S cyI cyZ ad) Q) D 17 ad (gm_S cyI cyZ ad) 8 τ 164 [(0, .ref (ad 0)), (1, .int y1), (2, .int y2), (3, .int y3)] []) : ∀ (n : Nat) (x1 : Int32) (x2 : Int32) (x3 : Int32) (x4 : Int32) (σ : gq_M), wq_X7_who_l21 Q K164 n x1 x2 x3 x4 σ → gq_G p l e rq_X7_who s m args below meth c (gq_Ri below args s D (gm_T cyI cyZ) 17 ad (gm_S cyI cyZ ad) Q) D 17 ad (gm_S cyI cyZ ad) 8 σ 21 [(0, .ref (ad 0)), (1, .int x1), (2, .int x2), (3, .int x3), (4, .int x4)] [] := by
  intro n
  induction n with
  | zero =>
    intro x1 x2 x3 x4 σ h
    exact absurd h (fun q => q)
  | succ n ih =>
    intro x1 x2 x3 x4 σ h
    unfold wq_X7_who_l21 at h
    refine gq_iload (j := 4) C dX7_who_21 rfl ?_
    refine gq_bipush (v := 36) C dX7_who_23 (by decide) ?_
    refine gq_icmp_ge (tgt := 164) C dX7_who_25 (by decide) (fun c4 => ?_) (fun c4 => ?_)
    · have h := h.1 c4
      refine gq_sub [0, 1, 2, 3] rfl ?_
      exact hK164 _ _ _ _ h
    · have h := h.2 c4
      refine gq_aload_n (j := 0) C dX7_who_28 rfl ?_
      refine gq_iload (j := 4) C dX7_who_29 rfl ?_
      refine gq_bipush (v := 9) C dX7_who_31 (by decide) ?_
      refine gq_idiv C dX7_who_33 (by decide) ?_
      refine gq_iconst (v := 1) C dX7_who_34 (by decide) ?_
      refine gq_iload (j := 4) C dX7_who_35 rfl ?_
      refine gq_bipush (v := 9) C dX7_who_37 (by decide) ?_
      refine gq_irem C dX7_who_39 (by decide) ?_
      refine gq_iadd C dX7_who_40 ?_
      refine gq_vi (i := 0) C gms_0 rfl [.int (x4 / 9), .int (1 + (x4 - x4 / 9 * 9))] (mq_X7_farthest C.2.2.1 (x4 / 9) (1 + (x4 - x4 / 9 * 9)) σ _ h) gX7_who_X7_farthest rfl rfl dq_X7_farthest ⟨rfl, rfl, by decide, by decide⟩ rfl rfl (Nat.le_of_ble_eq_true rfl) dX7_who_41 (fun r5 σ6 h => ?_)
      refine gq_istore (L' := [(0, .ref (ad 0)), (1, .int x1), (2, .int x2), (3, .int x3), (4, .int x4), (5, .int r5)]) C [1, 2, 3, 4, 5, 0] dX7_who_44 (by decide) rfl ?_
      refine gq_iconst (v := 1) C dX7_who_46 (by decide) ?_
      refine gq_istore (L' := [(0, .ref (ad 0)), (1, .int x1), (2, .int x2), (3, .int x3), (4, .int x4), (5, .int r5), (6, .int 1)]) C [1, 2, 3, 4, 5, 6, 0] dX7_who_47 (by decide) rfl ?_
      refine gq_iconst (v := 0) C dX7_who_49 (by decide) ?_
      refine gq_istore (L' := [(0, .ref (ad 0)), (1, .int x1), (2, .int x2), (3, .int x3), (4, .int x4), (5, .int r5), (6, .int 1), (7, .int 0)]) C [1, 2, 3, 4, 5, 6, 7, 0] dX7_who_50 (by decide) rfl ?_
      obtain ⟨n24, h⟩ := h
      refine tq_X7_who_l52 C (fun e13 e14 e15 e16 e17 σ18 h => ?_) n24 _ _ _ _ _ _ _ _ h
      refine gq_iload (j := 5) C dX7_who_115 rfl ?_
      refine gq_if_eq (tgt := 143) C dX7_who_117 (by decide) (fun c19 => ?_) (fun c19 => ?_)
      · have h := h.1 c19
        refine gq_iload_n (j := 3) C dX7_who_143 rfl ?_
        refine gq_sub [0, 1, 2, 4, 5] rfl ?_
        exact tq_X7_who_b144 C (ih) _ _ _ _ _ _ h
      · have h := h.2 c19
        refine gq_iload_n (j := 2) C dX7_who_120 rfl ?_
        refine gq_if_ne (tgt := 143) C dX7_who_121 (by decide) (fun c23 => ?_) (fun c23 => ?_)
        · have h := h.1 c23
          refine gq_iload_n (j := 3) C dX7_who_143 rfl ?_
          refine gq_sub [0, 1, 2, 4, 5] rfl ?_
          exact tq_X7_who_b144 C (ih) _ _ _ _ _ _ h
        · have h := h.2 c23
          refine gq_bipush (v := 10) C dX7_who_124 (by decide) ?_
          refine gq_iload (j := 4) C dX7_who_126 rfl ?_
          refine gq_bipush (v := 9) C dX7_who_128 (by decide) ?_
          refine gq_idiv C dX7_who_130 (by decide) ?_
          refine gq_imul C dX7_who_131 ?_
          refine gq_iconst (v := 1) C dX7_who_132 (by decide) ?_
          refine gq_iadd C dX7_who_133 ?_
          refine gq_iload (j := 4) C dX7_who_134 rfl ?_
          refine gq_bipush (v := 9) C dX7_who_136 (by decide) ?_
          refine gq_irem C dX7_who_138 (by decide) ?_
          refine gq_iadd C dX7_who_139 ?_
          refine gq_goto (tgt := 144) C dX7_who_140 (by decide) ?_
          refine gq_sub [0, 1, 2, 4, 5] rfl ?_
          exact tq_X7_who_b144 C (ih) _ _ _ _ _ _ h
def wq_X7_who (a1 : Int32) (σ : gq_M) (Q : Int32 → gq_M → Prop) : Prop := wq_X7_in a1.toInt64 0 1 σ (fun r1 σ2 => ((¬ r1 = 0 → (∃ n30, wq_X7_who_l21 Q (fun e25 e26 e27 σ28 => ((¬ e25 = 0 → Q e27 σ28) ∧ (e25 = 0 → Q e26 σ28))) n30 a1 0 (-9) 0 σ2)) ∧ (r1 = 0 → Q (-2) σ2)))
set_option maxRecDepth 100000 in
set_option maxHeartbeats 4000000 in
theorem tq_X7_who {p : Program} {l : Launch} {e : Env} {s : State} {m : MethodId} {args : Array Value} {below : List Frame} {meth : Method} {c : Code} {D : va_G} {cyI cyZ : ClassId} {ad : Nat → Nat} {Q : Int32 → gq_M → Prop} (C : gq_C p s m args meth c cX7_who 8 RX7 wsX7_who D (gm_T cyI cyZ) 17 ad (some .int)) (a1 : Int32) (σ : gq_M) (h : wq_X7_who a1 σ Q) : gq_G p l e rq_X7_who s m args below meth c (gq_Ri below args s D (gm_T cyI cyZ) 17 ad (gm_S cyI cyZ ad) Q) D 17 ad (gm_S cyI cyZ ad) 8 σ 0 [(0, .ref (ad 0)), (1, .int a1)] [] := by
  unfold wq_X7_who at h
  refine gq_iload_n (j := 1) C dX7_who_0 rfl ?_
  refine gq_i2l C dX7_who_1 ?_
  refine gq_lconst (v := 0) C dX7_who_2 (by decide) ?_
  refine gq_lconst (v := 1) C dX7_who_3 (by decide) ?_
  refine gq_si C [.long a1.toInt64, .long 0, .long 1] (mq_X7_in C.2.2.1 a1.toInt64 0 1 σ _ h) gX7_who_X7_in rfl dq_X7_in ⟨rfl, rfl, by decide, by decide⟩ rfl rfl (Nat.le_of_ble_eq_true rfl) dX7_who_4 (fun r1 σ2 h => ?_)
  refine gq_if_ne (tgt := 13) C dX7_who_7 (by decide) (fun c3 => ?_) (fun c3 => ?_)
  · have h := h.1 c3
    refine gq_iconst (v := 0) C dX7_who_13 (by decide) ?_
    refine gq_istore_n (L' := [(0, .ref (ad 0)), (1, .int a1), (2, .int 0)]) C [1, 2, 0] dX7_who_14 (by decide) rfl ?_
    refine gq_bipush (v := (-9)) C dX7_who_15 (by decide) ?_
    refine gq_istore_n (L' := [(0, .ref (ad 0)), (1, .int a1), (2, .int 0), (3, .int (-9))]) C [1, 2, 3, 0] dX7_who_17 (by decide) rfl ?_
    refine gq_iconst (v := 0) C dX7_who_18 (by decide) ?_
    refine gq_istore (L' := [(0, .ref (ad 0)), (1, .int a1), (2, .int 0), (3, .int (-9)), (4, .int 0)]) C [1, 2, 3, 4, 0] dX7_who_19 (by decide) rfl ?_
    obtain ⟨n30, h⟩ := h
    refine tq_X7_who_l21 C (fun e25 e26 e27 σ28 h => ?_) n30 _ _ _ _ _ h
    refine gq_iload_n (j := 1) C dX7_who_164 rfl ?_
    refine gq_if_ne (tgt := 172) C dX7_who_165 (by decide) (fun c29 => ?_) (fun c29 => ?_)
    · have h := h.1 c29
      refine gq_iload_n (j := 3) C dX7_who_172 rfl ?_
      exact gq_iret C h dX7_who_173
    · have h := h.2 c29
      refine gq_iload_n (j := 2) C dX7_who_168 rfl ?_
      refine gq_goto (tgt := 173) C dX7_who_169 (by decide) ?_
      exact gq_iret C h dX7_who_173
  · have h := h.2 c3
    refine gq_bipush (v := (-2)) C dX7_who_10 (by decide) ?_
    exact gq_iret C h dX7_who_12
theorem mq_X7_who {l : Launch} {D : va_G} {cyI cyZ : ClassId} {ad : Nat → Nat} (hap : gq_ap 17 ad) (a1 : Int32) (σ : gq_M) (Q : Int32 → gq_M → Prop) (h : wq_X7_who a1 σ Q) : Met l yX7_who wsX7_who rq_X7_who (va_Pc [.ref (ad 0), .int a1] (gq_P D (gm_T cyI cyZ) 17 ad (gm_S cyI cyZ ad) σ)) (va_Qi Q (gq_P D (gm_T cyI cyZ) 17 ad (gm_S cyI cyZ ad)) (gq_A 17 ad)) 0 0 (gq_A 17 ad) :=
  gq_met hap (by decide) rfl rfl (Nat.le_of_ble_eq_true rfl) (fun _ _ _ _ _ _ _ C => tq_X7_who C a1 σ h)
abbrev rq_X7_factorial : Room := { frames := 0, cells := 0, slots := 0, locals := 0 }
theorem dq_X7_factorial : gq_dsc yX7_factorial 1 := by unfold gq_dsc; decide +kernel
def wq_X7_factorial_l4 (Q : Int32 → gq_M → Prop) (K19 : Int32 → gq_M → Prop) : Nat → Int32 → Int32 → Int32 → gq_M → Prop
  | 0, _, _, _, _ => False
  | n + 1, x0, x1, x2, σ => ((x0 < x2 → K19 x1 σ) ∧ (¬ x0 < x2 → ∀ v2, v2 = (x1 * x2) → ∀ v3, v3 = (x2 + 1) → wq_X7_factorial_l4 Q K19 n x0 v2 v3 σ))
set_option maxRecDepth 100000 in
set_option maxHeartbeats 4000000 in
theorem tq_X7_factorial_l4 {p : Program} {l : Launch} {e : Env} {s : State} {m : MethodId} {args : Array Value} {below : List Frame} {meth : Method} {c : Code} {D : va_G} {cyI cyZ : ClassId} {ad : Nat → Nat} {Q : Int32 → gq_M → Prop} {K19 : Int32 → gq_M → Prop} (C : gq_C p s m args meth c cX7_factorial 3 RX7 wsX7_factorial D (gm_T cyI cyZ) 17 ad (some .int)) (hK19 : ∀ (y1 : Int32) (τ : gq_M), K19 y1 τ → gq_G p l e rq_X7_factorial s m args below meth c (gq_Ri below args s D (gm_T cyI cyZ) 17 ad (gm_S cyI cyZ ad) Q) D 17 ad (gm_S cyI cyZ ad) 3 τ 19 [(1, .int y1)] []) : ∀ (n : Nat) (x0 : Int32) (x1 : Int32) (x2 : Int32) (σ : gq_M), wq_X7_factorial_l4 Q K19 n x0 x1 x2 σ → gq_G p l e rq_X7_factorial s m args below meth c (gq_Ri below args s D (gm_T cyI cyZ) 17 ad (gm_S cyI cyZ ad) Q) D 17 ad (gm_S cyI cyZ ad) 3 σ 4 [(0, .int x0), (1, .int x1), (2, .int x2)] [] := by
  intro n
  induction n with
  | zero =>
    intro x0 x1 x2 σ h
    exact absurd h (fun q => q)
  | succ n ih =>
    intro x0 x1 x2 σ h
    unfold wq_X7_factorial_l4 at h
    refine gq_iload_n (j := 2) C dX7_factorial_4 rfl ?_
    refine gq_iload_n (j := 0) C dX7_factorial_5 rfl ?_
    refine gq_icmp_gt (tgt := 19) C dX7_factorial_6 (by decide) (fun c1 => ?_) (fun c1 => ?_)
    · have h := h.1 c1
      refine gq_sub [1] rfl ?_
      exact hK19 _ _ h
    · have h := h.2 c1
      refine gq_iload_n (j := 1) C dX7_factorial_9 rfl ?_
      refine gq_iload_n (j := 2) C dX7_factorial_10 rfl ?_
      refine gq_imul C dX7_factorial_11 ?_
      refine gq_topi (fun v2 qv2 => ?_)
      have h := h v2 qv2
      refine gq_istore_n (L' := [(0, .int x0), (1, .int v2), (2, .int x2)]) C [1, 0, 2] dX7_factorial_12 (by decide) rfl ?_
      obtain ⟨v3, qv3⟩ : ∃ y : Int32, y = (x2 + 1) := ⟨_, rfl⟩
      have h := h v3 qv3
      refine gq_iinc (j := 2) (v := v3) (L' := [(0, .int x0), (1, .int v2), (2, .int v3)]) C [1, 2, 0] dX7_factorial_13 rfl (by rw [qv3]; rfl) (by decide) rfl ?_
      refine gq_goto (tgt := 4) C dX7_factorial_16 (by decide) ?_
      exact ih _ _ _ _ h
def wq_X7_factorial (a1 : Int32) (σ : gq_M) (Q : Int32 → gq_M → Prop) : Prop := (∃ n6, wq_X7_factorial_l4 Q (fun e4 σ5 => Q e4 σ5) n6 a1 1 2 σ)
set_option maxRecDepth 100000 in
set_option maxHeartbeats 4000000 in
theorem tq_X7_factorial {p : Program} {l : Launch} {e : Env} {s : State} {m : MethodId} {args : Array Value} {below : List Frame} {meth : Method} {c : Code} {D : va_G} {cyI cyZ : ClassId} {ad : Nat → Nat} {Q : Int32 → gq_M → Prop} (C : gq_C p s m args meth c cX7_factorial 3 RX7 wsX7_factorial D (gm_T cyI cyZ) 17 ad (some .int)) (a1 : Int32) (σ : gq_M) (h : wq_X7_factorial a1 σ Q) : gq_G p l e rq_X7_factorial s m args below meth c (gq_Ri below args s D (gm_T cyI cyZ) 17 ad (gm_S cyI cyZ ad) Q) D 17 ad (gm_S cyI cyZ ad) 3 σ 0 [(0, .int a1)] [] := by
  unfold wq_X7_factorial at h
  refine gq_iconst (v := 1) C dX7_factorial_0 (by decide) ?_
  refine gq_istore_n (L' := [(0, .int a1), (1, .int 1)]) C [1, 0] dX7_factorial_1 (by decide) rfl ?_
  refine gq_iconst (v := 2) C dX7_factorial_2 (by decide) ?_
  refine gq_istore_n (L' := [(0, .int a1), (1, .int 1), (2, .int 2)]) C [1, 2, 0] dX7_factorial_3 (by decide) rfl ?_
  obtain ⟨n6, h⟩ := h
  refine tq_X7_factorial_l4 C (fun e4 σ5 h => ?_) n6 _ _ _ _ h
  refine gq_iload_n (j := 0) C dX7_factorial_19 rfl ?_
  exact gq_iret C h dX7_factorial_20
theorem mq_X7_factorial {l : Launch} {D : va_G} {cyI cyZ : ClassId} {ad : Nat → Nat} (hap : gq_ap 17 ad) (a1 : Int32) (σ : gq_M) (Q : Int32 → gq_M → Prop) (h : wq_X7_factorial a1 σ Q) : Met l yX7_factorial wsX7_factorial rq_X7_factorial (va_Pc [.int a1] (gq_P D (gm_T cyI cyZ) 17 ad (gm_S cyI cyZ ad) σ)) (va_Qi Q (gq_P D (gm_T cyI cyZ) 17 ad (gm_S cyI cyZ ad)) (gq_A 17 ad)) 0 0 (gq_A 17 ad) :=
  gq_met hap (by decide) rfl rfl (Nat.le_of_ble_eq_true rfl) (fun _ _ _ _ _ _ _ C => tq_X7_factorial C a1 σ h)
abbrev rq_X7_common : Room := { frames := 0, cells := 0, slots := 0, locals := 0 }
theorem dq_X7_common : gq_dsc yX7_common 2 := by unfold gq_dsc; decide +kernel
def wq_X7_common_l13 (Q : Int32 → gq_M → Prop) (K30 : Int32 → gq_M → Prop) : Nat → Int32 → Int32 → gq_M → Prop
  | 0, _, _, _ => False
  | n + 1, x2, x3, σ => ((x3 = 0 → K30 x2 σ) ∧ (¬ x3 = 0 → ¬ x3 = 0 ∧ ∀ v3, v3 = (x2 - x2 / x3 * x3) → wq_X7_common_l13 Q K30 n x3 v3 σ))
set_option maxRecDepth 100000 in
set_option maxHeartbeats 4000000 in
theorem tq_X7_common_l13 {p : Program} {l : Launch} {e : Env} {s : State} {m : MethodId} {args : Array Value} {below : List Frame} {meth : Method} {c : Code} {D : va_G} {cyI cyZ : ClassId} {ad : Nat → Nat} {Q : Int32 → gq_M → Prop} {K30 : Int32 → gq_M → Prop} (C : gq_C p s m args meth c cX7_common 5 RX7 wsX7_common D (gm_T cyI cyZ) 17 ad (some .int)) (hK30 : ∀ (y2 : Int32) (τ : gq_M), K30 y2 τ → gq_G p l e rq_X7_common s m args below meth c (gq_Ri below args s D (gm_T cyI cyZ) 17 ad (gm_S cyI cyZ ad) Q) D 17 ad (gm_S cyI cyZ ad) 5 τ 30 [(2, .int y2)] []) : ∀ (n : Nat) (x2 : Int32) (x3 : Int32) (σ : gq_M), wq_X7_common_l13 Q K30 n x2 x3 σ → gq_G p l e rq_X7_common s m args below meth c (gq_Ri below args s D (gm_T cyI cyZ) 17 ad (gm_S cyI cyZ ad) Q) D 17 ad (gm_S cyI cyZ ad) 5 σ 13 [(2, .int x2), (3, .int x3)] [] := by
  intro n
  induction n with
  | zero =>
    intro x2 x3 σ h
    exact absurd h (fun q => q)
  | succ n ih =>
    intro x2 x3 σ h
    unfold wq_X7_common_l13 at h
    refine gq_iload_n (j := 1) C dX7_common_13 rfl ?_
    refine gq_if_eq (tgt := 30) C dX7_common_14 (by decide) (fun c2 => ?_) (fun c2 => ?_)
    · have h := h.1 c2
      refine gq_sub [0] rfl ?_
      exact hK30 _ _ h
    · have h := h.2 c2
      refine gq_iload_n (j := 0) C dX7_common_17 rfl ?_
      refine gq_iload_n (j := 1) C dX7_common_18 rfl ?_
      refine gq_irem C dX7_common_19 h.1 ?_
      have h := h.2
      refine gq_topi (fun v3 qv3 => ?_)
      have h := h v3 qv3
      refine gq_istore (L' := [(2, .int x2), (3, .int x3), (4, .int v3)]) C [1, 2, 0] dX7_common_20 (by decide) rfl ?_
      refine gq_iload_n (j := 1) C dX7_common_22 rfl ?_
      refine gq_istore_n (L' := [(2, .int x3), (3, .int x3), (4, .int v3)]) C [0, 1, 2] dX7_common_23 (by decide) rfl ?_
      refine gq_iload (j := 2) C dX7_common_24 rfl ?_
      refine gq_istore_n (L' := [(2, .int x3), (3, .int v3), (4, .int v3)]) C [1, 0, 2] dX7_common_26 (by decide) rfl ?_
      refine gq_goto (tgt := 13) C dX7_common_27 (by decide) ?_
      refine gq_sub [0, 1] rfl ?_
      exact ih _ _ _ h
def wq_X7_common_b10 (Q : Int32 → gq_M → Prop) (x1 : Int32) (s0 : Int32) (σ : gq_M) : Prop := (∃ n6, wq_X7_common_l13 Q (fun e4 σ5 => Q e4 σ5) n6 s0 x1 σ)
set_option maxRecDepth 100000 in
set_option maxHeartbeats 4000000 in
theorem tq_X7_common_b10 {p : Program} {l : Launch} {e : Env} {s : State} {m : MethodId} {args : Array Value} {below : List Frame} {meth : Method} {c : Code} {D : va_G} {cyI cyZ : ClassId} {ad : Nat → Nat} {Q : Int32 → gq_M → Prop} (C : gq_C p s m args meth c cX7_common 5 RX7 wsX7_common D (gm_T cyI cyZ) 17 ad (some .int)) (x1 : Int32) (s0 : Int32) (σ : gq_M) (h : wq_X7_common_b10 Q x1 s0 σ) : gq_G p l e rq_X7_common s m args below meth c (gq_Ri below args s D (gm_T cyI cyZ) 17 ad (gm_S cyI cyZ ad) Q) D 17 ad (gm_S cyI cyZ ad) 5 σ 10 [(1, .int x1)] [.int s0] := by
  unfold wq_X7_common_b10 at h
  refine gq_istore_n (L' := [(1, .int x1), (2, .int s0)]) C [1, 0] dX7_common_10 (by decide) rfl ?_
  refine gq_iload_n (j := 0) C dX7_common_11 rfl ?_
  refine gq_istore_n (L' := [(1, .int x1), (2, .int s0), (3, .int x1)]) C [1, 2, 0] dX7_common_12 (by decide) rfl ?_
  obtain ⟨n6, h⟩ := h
  refine gq_sub [1, 2] rfl ?_
  refine tq_X7_common_l13 C (fun e4 σ5 h => ?_) n6 _ _ _ h
  refine gq_iload_n (j := 0) C dX7_common_30 rfl ?_
  exact gq_iret C h dX7_common_31
def wq_X7_common (a1 : Int32) (a2 : Int32) (σ : gq_M) (Q : Int32 → gq_M → Prop) : Prop := ((0 ≤ a1 → wq_X7_common_b10 Q a2 a1 σ) ∧ (¬ 0 ≤ a1 → wq_X7_common_b10 Q a2 (-a1) σ))
set_option maxRecDepth 100000 in
set_option maxHeartbeats 4000000 in
theorem tq_X7_common {p : Program} {l : Launch} {e : Env} {s : State} {m : MethodId} {args : Array Value} {below : List Frame} {meth : Method} {c : Code} {D : va_G} {cyI cyZ : ClassId} {ad : Nat → Nat} {Q : Int32 → gq_M → Prop} (C : gq_C p s m args meth c cX7_common 5 RX7 wsX7_common D (gm_T cyI cyZ) 17 ad (some .int)) (a1 : Int32) (a2 : Int32) (σ : gq_M) (h : wq_X7_common a1 a2 σ Q) : gq_G p l e rq_X7_common s m args below meth c (gq_Ri below args s D (gm_T cyI cyZ) 17 ad (gm_S cyI cyZ ad) Q) D 17 ad (gm_S cyI cyZ ad) 5 σ 0 [(0, .int a1), (1, .int a2)] [] := by
  unfold wq_X7_common at h
  refine gq_iload_n (j := 0) C dX7_common_0 rfl ?_
  refine gq_if_ge (tgt := 9) C dX7_common_1 (by decide) (fun c1 => ?_) (fun c1 => ?_)
  · have h := h.1 c1
    refine gq_iload_n (j := 0) C dX7_common_9 rfl ?_
    refine gq_sub [1] rfl ?_
    exact tq_X7_common_b10 C _ _ _ h
  · have h := h.2 c1
    refine gq_iload_n (j := 0) C dX7_common_4 rfl ?_
    refine gq_ineg C dX7_common_5 ?_
    refine gq_goto (tgt := 10) C dX7_common_6 (by decide) ?_
    refine gq_sub [1] rfl ?_
    exact tq_X7_common_b10 C _ _ _ h
theorem mq_X7_common {l : Launch} {D : va_G} {cyI cyZ : ClassId} {ad : Nat → Nat} (hap : gq_ap 17 ad) (a1 : Int32) (a2 : Int32) (σ : gq_M) (Q : Int32 → gq_M → Prop) (h : wq_X7_common a1 a2 σ Q) : Met l yX7_common wsX7_common rq_X7_common (va_Pc [.int a1, .int a2] (gq_P D (gm_T cyI cyZ) 17 ad (gm_S cyI cyZ ad) σ)) (va_Qi Q (gq_P D (gm_T cyI cyZ) 17 ad (gm_S cyI cyZ ad)) (gq_A 17 ad)) 0 0 (gq_A 17 ad) :=
  gq_met hap (by decide) rfl rfl (Nat.le_of_ble_eq_true rfl) (fun _ _ _ _ _ _ _ C => tq_X7_common C a1 a2 σ h)
abbrev rq_X7_comeTo : Room := { frames := 1, cells := 0, slots := 0, locals := 22 }
theorem dq_X7_comeTo : gq_dsc yX7_comeTo 1 := by unfold gq_dsc; decide +kernel
theorem iq_X7_comeTo_X7 : ∀ w ∈ u_ws RX7 TX7 30, w ∈ wsX7_comeTo := by decide +kernel
theorem fq_X7_comeTo_96 : Cond.fieldLink RX7 96 (TX7 1).1 (TX7 1).2.1 (TX7 1).2.2.1 ∈ wsX7_comeTo := by decide +kernel
theorem fq_X7_comeTo_49 : Cond.fieldLink RX7 49 (TX7 26).1 (TX7 26).2.1 (TX7 26).2.2.1 ∈ wsX7_comeTo := by decide +kernel
def wq_X7_comeTo_b31 (Q : Int32 → gq_M → Prop) (K4 : Int32 → Int32 → Int32 → gq_M → Prop) (x1 : Int32) (x3 : Int32) (s0 : Int32) (s1 : Int32) (σ : gq_M) : Prop := ∀ v5, v5 = (s0 ||| s1) → ∀ v6, v6 = (x3 + 1) → K4 x1 v5 v6 σ
set_option maxRecDepth 100000 in
set_option maxHeartbeats 4000000 in
theorem tq_X7_comeTo_b31 {p : Program} {l : Launch} {e : Env} {s : State} {m : MethodId} {args : Array Value} {below : List Frame} {meth : Method} {c : Code} {D : va_G} {cyI cyZ : ClassId} {ad : Nat → Nat} {Q : Int32 → gq_M → Prop} {K4 : Int32 → Int32 → Int32 → gq_M → Prop} (C : gq_C p s m args meth c cX7_comeTo 4 RX7 wsX7_comeTo D (gm_T cyI cyZ) 17 ad (some .int)) (hK4 : ∀ (y1 : Int32) (y2 : Int32) (y3 : Int32) (τ : gq_M), K4 y1 y2 y3 τ → gq_G p l e rq_X7_comeTo s m args below meth c (gq_Ri below args s D (gm_T cyI cyZ) 17 ad (gm_S cyI cyZ ad) Q) D 17 ad (gm_S cyI cyZ ad) 4 τ 4 [(0, .ref (ad 0)), (1, .int y1), (2, .int y2), (3, .int y3)] []) (x1 : Int32) (x3 : Int32) (s0 : Int32) (s1 : Int32) (σ : gq_M) (h : wq_X7_comeTo_b31 Q K4 x1 x3 s0 s1 σ) : gq_G p l e rq_X7_comeTo s m args below meth c (gq_Ri below args s D (gm_T cyI cyZ) 17 ad (gm_S cyI cyZ ad) Q) D 17 ad (gm_S cyI cyZ ad) 4 σ 31 [(0, .ref (ad 0)), (1, .int x1), (3, .int x3)] [.int s1, .int s0] := by
  unfold wq_X7_comeTo_b31 at h
  refine gq_ior C dX7_comeTo_31 ?_
  refine gq_topi (fun v5 qv5 => ?_)
  have h := h v5 qv5
  refine gq_istore_n (L' := [(0, .ref (ad 0)), (1, .int x1), (2, .int v5), (3, .int x3)]) C [1, 2, 0, 3] dX7_comeTo_32 (by decide) rfl ?_
  obtain ⟨v6, qv6⟩ : ∃ y : Int32, y = (x3 + 1) := ⟨_, rfl⟩
  have h := h v6 qv6
  refine gq_iinc (j := 3) (v := v6) (L' := [(0, .ref (ad 0)), (1, .int x1), (2, .int v5), (3, .int v6)]) C [1, 2, 3, 0] dX7_comeTo_33 rfl (by rw [qv6]; rfl) (by decide) rfl ?_
  refine gq_goto (tgt := 4) C dX7_comeTo_36 (by decide) ?_
  exact hK4 _ _ _ _ h
def wq_X7_comeTo_l4 (Q : Int32 → gq_M → Prop) (K39 : Int32 → gq_M → Prop) : Nat → Int32 → Int32 → Int32 → gq_M → Prop
  | 0, _, _, _, _ => False
  | n + 1, x1, x2, x3, σ => (((σ.1 0 1) ≤ x3 → K39 x2 σ) ∧ (¬ (σ.1 0 1) ≤ x3 → wq_X7_has x1 x3 σ (fun r2 σ3 => ((r2 = 0 → wq_X7_comeTo_b31 Q (wq_X7_comeTo_l4 Q K39 n) x1 x3 x2 0 σ3) ∧ (¬ r2 = 0 → vp_in x3 5 ∧ wq_X7_comeTo_b31 Q (wq_X7_comeTo_l4 Q K39 n) x1 x3 x2 (σ3.1 14 x3.toNatClampNeg) σ3)))))
set_option maxRecDepth 100000 in
set_option maxHeartbeats 4000000 in
theorem tq_X7_comeTo_l4 {p : Program} {l : Launch} {e : Env} {s : State} {m : MethodId} {args : Array Value} {below : List Frame} {meth : Method} {c : Code} {D : va_G} {cyI cyZ : ClassId} {ad : Nat → Nat} {Q : Int32 → gq_M → Prop} {K39 : Int32 → gq_M → Prop} (C : gq_C p s m args meth c cX7_comeTo 4 RX7 wsX7_comeTo D (gm_T cyI cyZ) 17 ad (some .int)) (hK39 : ∀ (y2 : Int32) (τ : gq_M), K39 y2 τ → gq_G p l e rq_X7_comeTo s m args below meth c (gq_Ri below args s D (gm_T cyI cyZ) 17 ad (gm_S cyI cyZ ad) Q) D 17 ad (gm_S cyI cyZ ad) 4 τ 39 [(0, .ref (ad 0)), (2, .int y2)] []) : ∀ (n : Nat) (x1 : Int32) (x2 : Int32) (x3 : Int32) (σ : gq_M), wq_X7_comeTo_l4 Q K39 n x1 x2 x3 σ → gq_G p l e rq_X7_comeTo s m args below meth c (gq_Ri below args s D (gm_T cyI cyZ) 17 ad (gm_S cyI cyZ ad) Q) D 17 ad (gm_S cyI cyZ ad) 4 σ 4 [(0, .ref (ad 0)), (1, .int x1), (2, .int x2), (3, .int x3)] [] := by
  intro n
  induction n with
  | zero =>
    intro x1 x2 x3 σ h
    exact absurd h (fun q => q)
  | succ n ih =>
    intro x1 x2 x3 σ h
    unfold wq_X7_comeTo_l4 at h
    refine gq_iload_n (j := 3) C dX7_comeTo_4 rfl ?_
    refine gq_aload_n (j := 0) C dX7_comeTo_5 rfl ?_
    refine gq_get (v := .int (σ.1 0 1)) (i := 0) C gms_0 rfl iq_X7_comeTo_X7 1 (by decide) fq_X7_comeTo_96 rfl dX7_comeTo_6 ?_
    refine gq_icmp_ge (tgt := 39) C dX7_comeTo_9 (by decide) (fun c1 => ?_) (fun c1 => ?_)
    · have h := h.1 c1
      refine gq_sub [0, 2] rfl ?_
      exact hK39 _ _ h
    · have h := h.2 c1
      refine gq_iload_n (j := 2) C dX7_comeTo_12 rfl ?_
      refine gq_iload_n (j := 1) C dX7_comeTo_13 rfl ?_
      refine gq_iload_n (j := 3) C dX7_comeTo_14 rfl ?_
      refine gq_si C [.int x1, .int x3] (mq_X7_has C.2.2.1 x1 x3 σ _ h) gX7_comeTo_X7_has rfl dq_X7_has ⟨rfl, rfl, by decide, by decide⟩ rfl rfl (Nat.le_of_ble_eq_true rfl) dX7_comeTo_15 (fun r2 σ3 h => ?_)
      refine gq_if_eq (tgt := 30) C dX7_comeTo_18 (by decide) (fun c4 => ?_) (fun c4 => ?_)
      · have h := h.1 c4
        refine gq_iconst (v := 0) C dX7_comeTo_30 (by decide) ?_
        refine gq_sub [0, 1, 3] rfl ?_
        exact tq_X7_comeTo_b31 C (ih) _ _ _ _ _ h
      · have h := h.2 c4
        refine gq_aload_n (j := 0) C dX7_comeTo_21 rfl ?_
        refine gq_get (v := .ref (ad 14)) (i := 0) C gms_0 rfl iq_X7_comeTo_X7 26 (by decide) fq_X7_comeTo_49 rfl dX7_comeTo_22 ?_
        refine gq_iload_n (j := 3) C dX7_comeTo_25 rfl ?_
        refine gq_iald (i := 14) (j := x3.toNatClampNeg) C gms_14 0 rfl rfl h.1 dX7_comeTo_26 ?_
        have h := h.2
        refine gq_goto (tgt := 31) C dX7_comeTo_27 (by decide) ?_
        refine gq_sub [0, 1, 3] rfl ?_
        exact tq_X7_comeTo_b31 C (ih) _ _ _ _ _ h
def wq_X7_comeTo (a1 : Int32) (σ : gq_M) (Q : Int32 → gq_M → Prop) : Prop := (∃ n11, wq_X7_comeTo_l4 Q (fun e7 σ8 => wq_X7_ones e7 σ8 (fun r9 σ10 => Q r9 σ10)) n11 a1 0 0 σ)
set_option maxRecDepth 100000 in
set_option maxHeartbeats 4000000 in
theorem tq_X7_comeTo {p : Program} {l : Launch} {e : Env} {s : State} {m : MethodId} {args : Array Value} {below : List Frame} {meth : Method} {c : Code} {D : va_G} {cyI cyZ : ClassId} {ad : Nat → Nat} {Q : Int32 → gq_M → Prop} (C : gq_C p s m args meth c cX7_comeTo 4 RX7 wsX7_comeTo D (gm_T cyI cyZ) 17 ad (some .int)) (a1 : Int32) (σ : gq_M) (h : wq_X7_comeTo a1 σ Q) : gq_G p l e rq_X7_comeTo s m args below meth c (gq_Ri below args s D (gm_T cyI cyZ) 17 ad (gm_S cyI cyZ ad) Q) D 17 ad (gm_S cyI cyZ ad) 4 σ 0 [(0, .ref (ad 0)), (1, .int a1)] [] := by
  unfold wq_X7_comeTo at h
  refine gq_iconst (v := 0) C dX7_comeTo_0 (by decide) ?_
  refine gq_istore_n (L' := [(0, .ref (ad 0)), (1, .int a1), (2, .int 0)]) C [1, 2, 0] dX7_comeTo_1 (by decide) rfl ?_
  refine gq_iconst (v := 0) C dX7_comeTo_2 (by decide) ?_
  refine gq_istore_n (L' := [(0, .ref (ad 0)), (1, .int a1), (2, .int 0), (3, .int 0)]) C [1, 2, 3, 0] dX7_comeTo_3 (by decide) rfl ?_
  obtain ⟨n11, h⟩ := h
  refine tq_X7_comeTo_l4 C (fun e7 σ8 h => ?_) n11 _ _ _ _ h
  refine gq_iload_n (j := 1) C dX7_comeTo_39 rfl ?_
  refine gq_si C [.int e7] (mq_X7_ones C.2.2.1 e7 σ8 _ h) gX7_comeTo_X7_ones rfl dq_X7_ones ⟨rfl, rfl, by decide, by decide⟩ rfl rfl (Nat.le_of_ble_eq_true rfl) dX7_comeTo_40 (fun r9 σ10 h => ?_)
  exact gq_iret C h dX7_comeTo_43
theorem mq_X7_comeTo {l : Launch} {D : va_G} {cyI cyZ : ClassId} {ad : Nat → Nat} (hap : gq_ap 17 ad) (a1 : Int32) (σ : gq_M) (Q : Int32 → gq_M → Prop) (h : wq_X7_comeTo a1 σ Q) : Met l yX7_comeTo wsX7_comeTo rq_X7_comeTo (va_Pc [.ref (ad 0), .int a1] (gq_P D (gm_T cyI cyZ) 17 ad (gm_S cyI cyZ ad) σ)) (va_Qi Q (gq_P D (gm_T cyI cyZ) 17 ad (gm_S cyI cyZ ad)) (gq_A 17 ad)) 0 0 (gq_A 17 ad) :=
  gq_met hap (by decide) rfl rfl (Nat.le_of_ble_eq_true rfl) (fun _ _ _ _ _ _ _ C => tq_X7_comeTo C a1 σ h)
abbrev rq_X7_share : Room := { frames := 7, cells := 0, slots := 0, locals := 170 }
theorem dq_X7_share : gq_dsc yX7_share 2 := by unfold gq_dsc; decide +kernel
theorem iq_X7_share_X7 : ∀ w ∈ u_ws RX7 TX7 30, w ∈ wsX7_share := by decide +kernel
theorem fq_X7_share_96 : Cond.fieldLink RX7 96 (TX7 1).1 (TX7 1).2.1 (TX7 1).2.2.1 ∈ wsX7_share := by decide +kernel
theorem fq_X7_share_49 : Cond.fieldLink RX7 49 (TX7 26).1 (TX7 26).2.1 (TX7 26).2.2.1 ∈ wsX7_share := by decide +kernel
def wq_X7_share_l12 (Q : Int32 → gq_M → Prop) (K37 : Int32 → Int32 → gq_M → Prop) : Nat → Int32 → Int32 → Int32 → gq_M → Prop
  | 0, _, _, _, _ => False
  | n + 1, x1, x2, x3, σ => (((σ.1 0 1) ≤ x3 → K37 x1 x2 σ) ∧ (¬ (σ.1 0 1) ≤ x3 → wq_X7_reachNow x3 σ (fun r5 σ6 => vp_in x3 5 ∧ ∀ v7, v7 = (x3 + 1) → wq_X7_share_l12 Q K37 n x1 x2 v7 (gq_put σ6 14 x3.toNatClampNeg r5))))
set_option maxRecDepth 100000 in
set_option maxHeartbeats 4000000 in
theorem tq_X7_share_l12 {p : Program} {l : Launch} {e : Env} {s : State} {m : MethodId} {args : Array Value} {below : List Frame} {meth : Method} {c : Code} {D : va_G} {cyI cyZ : ClassId} {ad : Nat → Nat} {Q : Int32 → gq_M → Prop} {K37 : Int32 → Int32 → gq_M → Prop} (C : gq_C p s m args meth c cX7_share 6 RX7 wsX7_share D (gm_T cyI cyZ) 17 ad (some .int)) (hK37 : ∀ (y1 : Int32) (y2 : Int32) (τ : gq_M), K37 y1 y2 τ → gq_G p l e rq_X7_share s m args below meth c (gq_Ri below args s D (gm_T cyI cyZ) 17 ad (gm_S cyI cyZ ad) Q) D 17 ad (gm_S cyI cyZ ad) 6 τ 37 [(0, .ref (ad 0)), (1, .int y1), (2, .int y2)] []) : ∀ (n : Nat) (x1 : Int32) (x2 : Int32) (x3 : Int32) (σ : gq_M), wq_X7_share_l12 Q K37 n x1 x2 x3 σ → gq_G p l e rq_X7_share s m args below meth c (gq_Ri below args s D (gm_T cyI cyZ) 17 ad (gm_S cyI cyZ ad) Q) D 17 ad (gm_S cyI cyZ ad) 6 σ 12 [(0, .ref (ad 0)), (1, .int x1), (2, .int x2), (3, .int x3)] [] := by
  intro n
  induction n with
  | zero =>
    intro x1 x2 x3 σ h
    exact absurd h (fun q => q)
  | succ n ih =>
    intro x1 x2 x3 σ h
    unfold wq_X7_share_l12 at h
    refine gq_iload_n (j := 3) C dX7_share_12 rfl ?_
    refine gq_aload_n (j := 0) C dX7_share_13 rfl ?_
    refine gq_get (v := .int (σ.1 0 1)) (i := 0) C gms_0 rfl iq_X7_share_X7 1 (by decide) fq_X7_share_96 rfl dX7_share_14 ?_
    refine gq_icmp_ge (tgt := 37) C dX7_share_17 (by decide) (fun c4 => ?_) (fun c4 => ?_)
    · have h := h.1 c4
      refine gq_sub [0, 1, 2] rfl ?_
      exact hK37 _ _ _ h
    · have h := h.2 c4
      refine gq_aload_n (j := 0) C dX7_share_20 rfl ?_
      refine gq_get (v := .ref (ad 14)) (i := 0) C gms_0 rfl iq_X7_share_X7 26 (by decide) fq_X7_share_49 rfl dX7_share_21 ?_
      refine gq_iload_n (j := 3) C dX7_share_24 rfl ?_
      refine gq_aload_n (j := 0) C dX7_share_25 rfl ?_
      refine gq_iload_n (j := 3) C dX7_share_26 rfl ?_
      refine gq_vi (i := 0) C gms_0 rfl [.int x3] (mq_X7_reachNow C.2.2.1 x3 σ _ h) gX7_share_X7_reachNow rfl rfl dq_X7_reachNow ⟨rfl, rfl, by decide, by decide⟩ rfl rfl (Nat.le_of_ble_eq_true rfl) dX7_share_27 (fun r5 σ6 h => ?_)
      refine gq_iast (i := 14) (j := x3.toNatClampNeg) C gms_14 0 rfl rfl h.1 dX7_share_30 ?_
      have h := h.2
      obtain ⟨v7, qv7⟩ : ∃ y : Int32, y = (x3 + 1) := ⟨_, rfl⟩
      have h := h v7 qv7
      refine gq_iinc (j := 3) (v := v7) (L' := [(0, .ref (ad 0)), (1, .int x1), (2, .int x2), (3, .int v7)]) C [1, 2, 3, 0] dX7_share_31 rfl (by rw [qv7]; rfl) (by decide) rfl ?_
      refine gq_goto (tgt := 12) C dX7_share_34 (by decide) ?_
      exact ih _ _ _ _ h
def wq_X7_share_b111 (Q : Int32 → gq_M → Prop) (K42 : Int32 → Int32 → Int32 → Int32 → gq_M → Prop) (x1 : Int32) (x2 : Int32) (x3 : Int32) (x4 : Int32) (σ : gq_M) : Prop := ∀ v15, v15 = (x4 + 1) → K42 x1 x2 x3 v15 σ
set_option maxRecDepth 100000 in
set_option maxHeartbeats 4000000 in
theorem tq_X7_share_b111 {p : Program} {l : Launch} {e : Env} {s : State} {m : MethodId} {args : Array Value} {below : List Frame} {meth : Method} {c : Code} {D : va_G} {cyI cyZ : ClassId} {ad : Nat → Nat} {Q : Int32 → gq_M → Prop} {K42 : Int32 → Int32 → Int32 → Int32 → gq_M → Prop} (C : gq_C p s m args meth c cX7_share 6 RX7 wsX7_share D (gm_T cyI cyZ) 17 ad (some .int)) (hK42 : ∀ (y1 : Int32) (y2 : Int32) (y3 : Int32) (y4 : Int32) (τ : gq_M), K42 y1 y2 y3 y4 τ → gq_G p l e rq_X7_share s m args below meth c (gq_Ri below args s D (gm_T cyI cyZ) 17 ad (gm_S cyI cyZ ad) Q) D 17 ad (gm_S cyI cyZ ad) 6 τ 42 [(0, .ref (ad 0)), (1, .int y1), (2, .int y2), (3, .int y3), (4, .int y4)] []) (x1 : Int32) (x2 : Int32) (x3 : Int32) (x4 : Int32) (σ : gq_M) (h : wq_X7_share_b111 Q K42 x1 x2 x3 x4 σ) : gq_G p l e rq_X7_share s m args below meth c (gq_Ri below args s D (gm_T cyI cyZ) 17 ad (gm_S cyI cyZ ad) Q) D 17 ad (gm_S cyI cyZ ad) 6 σ 111 [(0, .ref (ad 0)), (1, .int x1), (2, .int x2), (3, .int x3), (4, .int x4)] [] := by
  unfold wq_X7_share_b111 at h
  obtain ⟨v15, qv15⟩ : ∃ y : Int32, y = (x4 + 1) := ⟨_, rfl⟩
  have h := h v15 qv15
  refine gq_iinc (j := 4) (v := v15) (L' := [(0, .ref (ad 0)), (1, .int x1), (2, .int x2), (3, .int x3), (4, .int v15)]) C [1, 2, 3, 4, 0] dX7_share_111 rfl (by rw [qv15]; rfl) (by decide) rfl ?_
  refine gq_goto (tgt := 42) C dX7_share_114 (by decide) ?_
  exact hK42 _ _ _ _ _ h
def wq_X7_share_l42 (Q : Int32 → gq_M → Prop) (K117 : Int32 → Int32 → gq_M → Prop) : Nat → Int32 → Int32 → Int32 → Int32 → gq_M → Prop
  | 0, _, _, _, _, _ => False
  | n + 1, x1, x2, x3, x4, σ => ((((1 : Int32) <<< ((σ.1 0 1) &&& 31)) ≤ x4 → K117 x2 x3 σ) ∧ (¬ ((1 : Int32) <<< ((σ.1 0 1) &&& 31)) ≤ x4 → wq_X7_has x4 x1 σ (fun r12 σ13 => ((¬ r12 = 0 → wq_X7_share_b111 Q (wq_X7_share_l42 Q K117 n) x1 x2 x3 x4 σ13) ∧ (r12 = 0 → wq_X7_ones x4 σ13 (fun r16 σ17 => wq_X7_factorial r16 σ17 (fun r18 σ19 => wq_X7_ones x4 σ19 (fun r20 σ21 => wq_X7_factorial (((σ19.1 0 1) - 1) - r20) σ21 (fun r22 σ23 => ∀ v24, v24 = (r18 * r22) → wq_X7_comeTo (x4 ||| ((1 : Int32) <<< (x1 &&& 31))) σ23 (fun r25 σ26 => wq_X7_comeTo x4 σ26 (fun r27 σ28 => ∀ v29, v29 = (x3 + (v24 * (r25 - r27))) → wq_X7_share_b111 Q (wq_X7_share_l42 Q K117 n) x1 x2 v29 x4 σ28)))))))))))
set_option maxRecDepth 100000 in
set_option maxHeartbeats 4000000 in
theorem tq_X7_share_l42 {p : Program} {l : Launch} {e : Env} {s : State} {m : MethodId} {args : Array Value} {below : List Frame} {meth : Method} {c : Code} {D : va_G} {cyI cyZ : ClassId} {ad : Nat → Nat} {Q : Int32 → gq_M → Prop} {K117 : Int32 → Int32 → gq_M → Prop} (C : gq_C p s m args meth c cX7_share 6 RX7 wsX7_share D (gm_T cyI cyZ) 17 ad (some .int)) (hK117 : ∀ (y2 : Int32) (y3 : Int32) (τ : gq_M), K117 y2 y3 τ → gq_G p l e rq_X7_share s m args below meth c (gq_Ri below args s D (gm_T cyI cyZ) 17 ad (gm_S cyI cyZ ad) Q) D 17 ad (gm_S cyI cyZ ad) 6 τ 117 [(0, .ref (ad 0)), (2, .int y2), (3, .int y3)] []) : ∀ (n : Nat) (x1 : Int32) (x2 : Int32) (x3 : Int32) (x4 : Int32) (σ : gq_M), wq_X7_share_l42 Q K117 n x1 x2 x3 x4 σ → gq_G p l e rq_X7_share s m args below meth c (gq_Ri below args s D (gm_T cyI cyZ) 17 ad (gm_S cyI cyZ ad) Q) D 17 ad (gm_S cyI cyZ ad) 6 σ 42 [(0, .ref (ad 0)), (1, .int x1), (2, .int x2), (3, .int x3), (4, .int x4)] [] := by
  intro n
  induction n with
  | zero =>
    intro x1 x2 x3 x4 σ h
    exact absurd h (fun q => q)
  | succ n ih =>
    intro x1 x2 x3 x4 σ h
    unfold wq_X7_share_l42 at h
    refine gq_iload (j := 4) C dX7_share_42 rfl ?_
    refine gq_iconst (v := 1) C dX7_share_44 (by decide) ?_
    refine gq_aload_n (j := 0) C dX7_share_45 rfl ?_
    refine gq_get (v := .int (σ.1 0 1)) (i := 0) C gms_0 rfl iq_X7_share_X7 1 (by decide) fq_X7_share_96 rfl dX7_share_46 ?_
    refine gq_ishl C dX7_share_49 ?_
    refine gq_icmp_ge (tgt := 117) C dX7_share_50 (by decide) (fun c11 => ?_) (fun c11 => ?_)
    · have h := h.1 c11
      refine gq_sub [0, 2, 3] rfl ?_
      exact hK117 _ _ _ h
    · have h := h.2 c11
      refine gq_iload (j := 4) C dX7_share_53 rfl ?_
      refine gq_iload_n (j := 1) C dX7_share_55 rfl ?_
      refine gq_si C [.int x4, .int x1] (mq_X7_has C.2.2.1 x4 x1 σ _ h) gX7_share_X7_has rfl dq_X7_has ⟨rfl, rfl, by decide, by decide⟩ rfl rfl (Nat.le_of_ble_eq_true rfl) dX7_share_56 (fun r12 σ13 h => ?_)
      refine gq_if_ne (tgt := 111) C dX7_share_59 (by decide) (fun c14 => ?_) (fun c14 => ?_)
      · have h := h.1 c14
        exact tq_X7_share_b111 C (ih) _ _ _ _ _ h
      · have h := h.2 c14
        refine gq_iload (j := 4) C dX7_share_62 rfl ?_
        refine gq_si C [.int x4] (mq_X7_ones C.2.2.1 x4 σ13 _ h) gX7_share_X7_ones rfl dq_X7_ones ⟨rfl, rfl, by decide, by decide⟩ rfl rfl (Nat.le_of_ble_eq_true rfl) dX7_share_64 (fun r16 σ17 h => ?_)
        refine gq_si C [.int r16] (mq_X7_factorial C.2.2.1 r16 σ17 _ h) gX7_share_X7_factorial rfl dq_X7_factorial ⟨rfl, rfl, by decide, by decide⟩ rfl rfl (Nat.le_of_ble_eq_true rfl) dX7_share_67 (fun r18 σ19 h => ?_)
        refine gq_aload_n (j := 0) C dX7_share_70 rfl ?_
        refine gq_get (v := .int (σ19.1 0 1)) (i := 0) C gms_0 rfl iq_X7_share_X7 1 (by decide) fq_X7_share_96 rfl dX7_share_71 ?_
        refine gq_iconst (v := 1) C dX7_share_74 (by decide) ?_
        refine gq_isub C dX7_share_75 ?_
        refine gq_iload (j := 4) C dX7_share_76 rfl ?_
        refine gq_si C [.int x4] (mq_X7_ones C.2.2.1 x4 σ19 _ h) gX7_share_X7_ones rfl dq_X7_ones ⟨rfl, rfl, by decide, by decide⟩ rfl rfl (Nat.le_of_ble_eq_true rfl) dX7_share_78 (fun r20 σ21 h => ?_)
        refine gq_isub C dX7_share_81 ?_
        refine gq_si C [.int (((σ19.1 0 1) - 1) - r20)] (mq_X7_factorial C.2.2.1 (((σ19.1 0 1) - 1) - r20) σ21 _ h) gX7_share_X7_factorial rfl dq_X7_factorial ⟨rfl, rfl, by decide, by decide⟩ rfl rfl (Nat.le_of_ble_eq_true rfl) dX7_share_82 (fun r22 σ23 h => ?_)
        refine gq_imul C dX7_share_85 ?_
        refine gq_topi (fun v24 qv24 => ?_)
        have h := h v24 qv24
        refine gq_istore (L' := [(0, .ref (ad 0)), (1, .int x1), (2, .int x2), (3, .int x3), (4, .int x4), (5, .int v24)]) C [1, 2, 3, 4, 5, 0] dX7_share_86 (by decide) rfl ?_
        refine gq_iload_n (j := 3) C dX7_share_88 rfl ?_
        refine gq_iload (j := 5) C dX7_share_89 rfl ?_
        refine gq_aload_n (j := 0) C dX7_share_91 rfl ?_
        refine gq_iload (j := 4) C dX7_share_92 rfl ?_
        refine gq_iconst (v := 1) C dX7_share_94 (by decide) ?_
        refine gq_iload_n (j := 1) C dX7_share_95 rfl ?_
        refine gq_ishl C dX7_share_96 ?_
        refine gq_ior C dX7_share_97 ?_
        refine gq_vi (i := 0) C gms_0 rfl [.int (x4 ||| ((1 : Int32) <<< (x1 &&& 31)))] (mq_X7_comeTo C.2.2.1 (x4 ||| ((1 : Int32) <<< (x1 &&& 31))) σ23 _ h) gX7_share_X7_comeTo rfl rfl dq_X7_comeTo ⟨rfl, rfl, by decide, by decide⟩ rfl rfl (Nat.le_of_ble_eq_true rfl) dX7_share_98 (fun r25 σ26 h => ?_)
        refine gq_aload_n (j := 0) C dX7_share_101 rfl ?_
        refine gq_iload (j := 4) C dX7_share_102 rfl ?_
        refine gq_vi (i := 0) C gms_0 rfl [.int x4] (mq_X7_comeTo C.2.2.1 x4 σ26 _ h) gX7_share_X7_comeTo rfl rfl dq_X7_comeTo ⟨rfl, rfl, by decide, by decide⟩ rfl rfl (Nat.le_of_ble_eq_true rfl) dX7_share_104 (fun r27 σ28 h => ?_)
        refine gq_isub C dX7_share_107 ?_
        refine gq_imul C dX7_share_108 ?_
        refine gq_iadd C dX7_share_109 ?_
        refine gq_topi (fun v29 qv29 => ?_)
        have h := h v29 qv29
        refine gq_istore_n (L' := [(0, .ref (ad 0)), (1, .int x1), (2, .int x2), (3, .int v29), (4, .int x4), (5, .int v24)]) C [1, 2, 3, 0, 4, 5] dX7_share_110 (by decide) rfl ?_
        refine gq_sub [0, 1, 2, 3, 4] rfl ?_
        exact tq_X7_share_b111 C (ih) _ _ _ _ _ h
def wq_X7_share (a1 : Int32) (a2 : Int32) (σ : gq_M) (Q : Int32 → gq_M → Prop) : Prop := wq_X7_isTraveller a1 σ (fun r1 σ2 => ((¬ r1 = 0 → (∃ n41, wq_X7_share_l12 Q (fun e8 e9 σ10 => (∃ n40, wq_X7_share_l42 Q (fun e30 e31 σ32 => wq_X7_factorial (σ32.1 0 1) σ32 (fun r33 σ34 => wq_X7_common e31 r33 σ34 (fun r35 σ36 => ((e30 = 0 → wq_X7_factorial (σ36.1 0 1) σ36 (fun r38 σ39 => ¬ r35 = 0 ∧ Q (r38 / r35) σ39)) ∧ (¬ e30 = 0 → ¬ r35 = 0 ∧ Q (e31 / r35) σ36))))) n40 e8 e9 0 0 σ10)) n41 a1 a2 0 σ2)) ∧ (r1 = 0 → Q (-1) σ2)))
set_option maxRecDepth 100000 in
set_option maxHeartbeats 4000000 in
theorem tq_X7_share {p : Program} {l : Launch} {e : Env} {s : State} {m : MethodId} {args : Array Value} {below : List Frame} {meth : Method} {c : Code} {D : va_G} {cyI cyZ : ClassId} {ad : Nat → Nat} {Q : Int32 → gq_M → Prop} (C : gq_C p s m args meth c cX7_share 6 RX7 wsX7_share D (gm_T cyI cyZ) 17 ad (some .int)) (a1 : Int32) (a2 : Int32) (σ : gq_M) (h : wq_X7_share a1 a2 σ Q) : gq_G p l e rq_X7_share s m args below meth c (gq_Ri below args s D (gm_T cyI cyZ) 17 ad (gm_S cyI cyZ ad) Q) D 17 ad (gm_S cyI cyZ ad) 6 σ 0 [(0, .ref (ad 0)), (1, .int a1), (2, .int a2)] [] := by
  unfold wq_X7_share at h
  refine gq_aload_n (j := 0) C dX7_share_0 rfl ?_
  refine gq_iload_n (j := 1) C dX7_share_1 rfl ?_
  refine gq_vi (i := 0) C gms_0 rfl [.int a1] (mq_X7_isTraveller C.2.2.1 a1 σ _ h) gX7_share_X7_isTraveller rfl rfl dq_X7_isTraveller ⟨rfl, rfl, by decide, by decide⟩ rfl rfl (Nat.le_of_ble_eq_true rfl) dX7_share_2 (fun r1 σ2 h => ?_)
  refine gq_if_ne (tgt := 10) C dX7_share_5 (by decide) (fun c3 => ?_) (fun c3 => ?_)
  · have h := h.1 c3
    refine gq_iconst (v := 0) C dX7_share_10 (by decide) ?_
    refine gq_istore_n (L' := [(0, .ref (ad 0)), (1, .int a1), (2, .int a2), (3, .int 0)]) C [1, 2, 3, 0] dX7_share_11 (by decide) rfl ?_
    obtain ⟨n41, h⟩ := h
    refine tq_X7_share_l12 C (fun e8 e9 σ10 h => ?_) n41 _ _ _ _ h
    refine gq_iconst (v := 0) C dX7_share_37 (by decide) ?_
    refine gq_istore_n (L' := [(0, .ref (ad 0)), (1, .int e8), (2, .int e9), (3, .int 0)]) C [1, 2, 3, 0] dX7_share_38 (by decide) rfl ?_
    refine gq_iconst (v := 0) C dX7_share_39 (by decide) ?_
    refine gq_istore (L' := [(0, .ref (ad 0)), (1, .int e8), (2, .int e9), (3, .int 0), (4, .int 0)]) C [1, 2, 3, 4, 0] dX7_share_40 (by decide) rfl ?_
    obtain ⟨n40, h⟩ := h
    refine tq_X7_share_l42 C (fun e30 e31 σ32 h => ?_) n40 _ _ _ _ _ h
    refine gq_iload_n (j := 2) C dX7_share_117 rfl ?_
    refine gq_aload_n (j := 0) C dX7_share_118 rfl ?_
    refine gq_get (v := .int (σ32.1 0 1)) (i := 0) C gms_0 rfl iq_X7_share_X7 1 (by decide) fq_X7_share_96 rfl dX7_share_119 ?_
    refine gq_si C [.int (σ32.1 0 1)] (mq_X7_factorial C.2.2.1 (σ32.1 0 1) σ32 _ h) gX7_share_X7_factorial rfl dq_X7_factorial ⟨rfl, rfl, by decide, by decide⟩ rfl rfl (Nat.le_of_ble_eq_true rfl) dX7_share_122 (fun r33 σ34 h => ?_)
    refine gq_si C [.int e31, .int r33] (mq_X7_common C.2.2.1 e31 r33 σ34 _ h) gX7_share_X7_common rfl dq_X7_common ⟨rfl, rfl, by decide, by decide⟩ rfl rfl (Nat.le_of_ble_eq_true rfl) dX7_share_125 (fun r35 σ36 h => ?_)
    refine gq_istore (L' := [(0, .ref (ad 0)), (2, .int e30), (3, .int e31), (4, .int r35)]) C [1, 2, 3, 0] dX7_share_128 (by decide) rfl ?_
    refine gq_iload_n (j := 1) C dX7_share_130 rfl ?_
    refine gq_if_eq (tgt := 141) C dX7_share_131 (by decide) (fun c37 => ?_) (fun c37 => ?_)
    · have h := h.1 c37
      refine gq_aload_n (j := 0) C dX7_share_141 rfl ?_
      refine gq_get (v := .int (σ36.1 0 1)) (i := 0) C gms_0 rfl iq_X7_share_X7 1 (by decide) fq_X7_share_96 rfl dX7_share_142 ?_
      refine gq_si C [.int (σ36.1 0 1)] (mq_X7_factorial C.2.2.1 (σ36.1 0 1) σ36 _ h) gX7_share_X7_factorial rfl dq_X7_factorial ⟨rfl, rfl, by decide, by decide⟩ rfl rfl (Nat.le_of_ble_eq_true rfl) dX7_share_145 (fun r38 σ39 h => ?_)
      refine gq_iload (j := 3) C dX7_share_148 rfl ?_
      refine gq_idiv C dX7_share_150 h.1 ?_
      have h := h.2
      exact gq_iret C h dX7_share_151
    · have h := h.2 c37
      refine gq_iload_n (j := 2) C dX7_share_134 rfl ?_
      refine gq_iload (j := 3) C dX7_share_135 rfl ?_
      refine gq_idiv C dX7_share_137 h.1 ?_
      have h := h.2
      refine gq_goto (tgt := 151) C dX7_share_138 (by decide) ?_
      exact gq_iret C h dX7_share_151
  · have h := h.2 c3
    refine gq_iconst (v := (-1)) C dX7_share_8 (by decide) ?_
    exact gq_iret C h dX7_share_9
theorem mq_X7_share {l : Launch} {D : va_G} {cyI cyZ : ClassId} {ad : Nat → Nat} (hap : gq_ap 17 ad) (a1 : Int32) (a2 : Int32) (σ : gq_M) (Q : Int32 → gq_M → Prop) (h : wq_X7_share a1 a2 σ Q) : Met l yX7_share wsX7_share rq_X7_share (va_Pc [.ref (ad 0), .int a1, .int a2] (gq_P D (gm_T cyI cyZ) 17 ad (gm_S cyI cyZ ad) σ)) (va_Qi Q (gq_P D (gm_T cyI cyZ) 17 ad (gm_S cyI cyZ ad)) (gq_A 17 ad)) 0 0 (gq_A 17 ad) :=
  gq_met hap (by decide) rfl rfl (Nat.le_of_ble_eq_true rfl) (fun _ _ _ _ _ _ _ C => tq_X7_share C a1 a2 σ h)
abbrev rq_X7_choose : Room := { frames := 4, cells := 0, slots := 0, locals := 96 }
theorem dq_X7_choose : gq_dsc yX7_choose 2 := by unfold gq_dsc; decide +kernel
def wq_X7_choose_b47 (Q : Int32 → gq_M → Prop) (x3 : Int32) (s1 : Int32) (s2 : Int32) (s3 : Int32) (σ : gq_M) : Prop := wq_X7_stepOn s1 s2 s3 σ (fun σ5 => (gq_b x3 ∧ Q x3 σ5))
set_option maxRecDepth 100000 in
set_option maxHeartbeats 4000000 in
theorem tq_X7_choose_b47 {p : Program} {l : Launch} {e : Env} {s : State} {m : MethodId} {args : Array Value} {below : List Frame} {meth : Method} {c : Code} {D : va_G} {cyI cyZ : ClassId} {ad : Nat → Nat} {Q : Int32 → gq_M → Prop} (C : gq_C p s m args meth c cX7_choose 4 RX7 wsX7_choose D (gm_T cyI cyZ) 17 ad (some .boolean)) (x3 : Int32) (s1 : Int32) (s2 : Int32) (s3 : Int32) (σ : gq_M) (h : wq_X7_choose_b47 Q x3 s1 s2 s3 σ) : gq_G p l e rq_X7_choose s m args below meth c (gq_Ri below args s D (gm_T cyI cyZ) 17 ad (gm_S cyI cyZ ad) Q) D 17 ad (gm_S cyI cyZ ad) 4 σ 47 [(0, .ref (ad 0)), (3, .int x3)] [.int s3, .int s2, .int s1, .ref (ad 0)] := by
  unfold wq_X7_choose_b47 at h
  refine gq_vv (i := 0) C gms_0 rfl [.int s1, .int s2, .int s3] (mq_X7_stepOn C.2.2.1 s1 s2 s3 σ _ h) gX7_choose_X7_stepOn rfl rfl dq_X7_stepOn ⟨rfl, rfl, by decide, by decide⟩ rfl rfl (Nat.le_of_ble_eq_true rfl) dX7_choose_47 (fun σ5 h => ?_)
  refine gq_iload_n (j := 1) C dX7_choose_50 rfl ?_
  exact gq_zret C h.1 h.2 dX7_choose_51
def wq_X7_choose_b29 (Q : Int32 → gq_M → Prop) (x1 : Int32) (x2 : Int32) (s0 : Int32) (σ : gq_M) : Prop := ((s0 = 0 → (gq_b s0 ∧ Q s0 σ)) ∧ (¬ s0 = 0 → ((¬ x2 = 1 → wq_X7_choose_b47 Q s0 1 x1 0 σ) ∧ (x2 = 1 → wq_X7_choose_b47 Q s0 1 x1 1 σ))))
set_option maxRecDepth 100000 in
set_option maxHeartbeats 4000000 in
theorem tq_X7_choose_b29 {p : Program} {l : Launch} {e : Env} {s : State} {m : MethodId} {args : Array Value} {below : List Frame} {meth : Method} {c : Code} {D : va_G} {cyI cyZ : ClassId} {ad : Nat → Nat} {Q : Int32 → gq_M → Prop} (C : gq_C p s m args meth c cX7_choose 4 RX7 wsX7_choose D (gm_T cyI cyZ) 17 ad (some .boolean)) (x1 : Int32) (x2 : Int32) (s0 : Int32) (σ : gq_M) (h : wq_X7_choose_b29 Q x1 x2 s0 σ) : gq_G p l e rq_X7_choose s m args below meth c (gq_Ri below args s D (gm_T cyI cyZ) 17 ad (gm_S cyI cyZ ad) Q) D 17 ad (gm_S cyI cyZ ad) 4 σ 29 [(0, .ref (ad 0)), (1, .int x1), (2, .int x2)] [.int s0] := by
  unfold wq_X7_choose_b29 at h
  refine gq_istore_n (L' := [(0, .ref (ad 0)), (1, .int x1), (2, .int x2), (3, .int s0)]) C [1, 2, 3, 0] dX7_choose_29 (by decide) rfl ?_
  refine gq_iload_n (j := 3) C dX7_choose_30 rfl ?_
  refine gq_if_eq (tgt := 50) C dX7_choose_31 (by decide) (fun c2 => ?_) (fun c2 => ?_)
  · have h := h.1 c2
    refine gq_iload_n (j := 3) C dX7_choose_50 rfl ?_
    exact gq_zret C h.1 h.2 dX7_choose_51
  · have h := h.2 c2
    refine gq_aload_n (j := 0) C dX7_choose_34 rfl ?_
    refine gq_iconst (v := 1) C dX7_choose_35 (by decide) ?_
    refine gq_iload_n (j := 1) C dX7_choose_36 rfl ?_
    refine gq_iload_n (j := 2) C dX7_choose_37 rfl ?_
    refine gq_iconst (v := 1) C dX7_choose_38 (by decide) ?_
    refine gq_icmp_ne (tgt := 46) C dX7_choose_39 (by decide) (fun c3 => ?_) (fun c3 => ?_)
    · have h := h.1 c3
      refine gq_iconst (v := 0) C dX7_choose_46 (by decide) ?_
      refine gq_sub [0, 3] rfl ?_
      exact tq_X7_choose_b47 C _ _ _ _ _ h
    · have h := h.2 c3
      refine gq_iconst (v := 1) C dX7_choose_42 (by decide) ?_
      refine gq_goto (tgt := 47) C dX7_choose_43 (by decide) ?_
      refine gq_sub [0, 3] rfl ?_
      exact tq_X7_choose_b47 C _ _ _ _ _ h
def wq_X7_choose_b18 (Q : Int32 → gq_M → Prop) (x1 : Int32) (x2 : Int32) (s1 : Int32) (s2 : Int32) (s3 : Int32) (σ : gq_M) : Prop := wq_X7_canStep s1 s2 s3 σ (fun r7 σ8 => ((r7 = 0 → wq_X7_choose_b29 Q x1 x2 0 σ8) ∧ (¬ r7 = 0 → wq_X7_choose_b29 Q x1 x2 1 σ8)))
set_option maxRecDepth 100000 in
set_option maxHeartbeats 4000000 in
theorem tq_X7_choose_b18 {p : Program} {l : Launch} {e : Env} {s : State} {m : MethodId} {args : Array Value} {below : List Frame} {meth : Method} {c : Code} {D : va_G} {cyI cyZ : ClassId} {ad : Nat → Nat} {Q : Int32 → gq_M → Prop} (C : gq_C p s m args meth c cX7_choose 4 RX7 wsX7_choose D (gm_T cyI cyZ) 17 ad (some .boolean)) (x1 : Int32) (x2 : Int32) (s1 : Int32) (s2 : Int32) (s3 : Int32) (σ : gq_M) (h : wq_X7_choose_b18 Q x1 x2 s1 s2 s3 σ) : gq_G p l e rq_X7_choose s m args below meth c (gq_Ri below args s D (gm_T cyI cyZ) 17 ad (gm_S cyI cyZ ad) Q) D 17 ad (gm_S cyI cyZ ad) 4 σ 18 [(0, .ref (ad 0)), (1, .int x1), (2, .int x2)] [.int s3, .int s2, .int s1, .ref (ad 0)] := by
  unfold wq_X7_choose_b18 at h
  refine gq_vi (i := 0) C gms_0 rfl [.int s1, .int s2, .int s3] (mq_X7_canStep C.2.2.1 s1 s2 s3 σ _ h) gX7_choose_X7_canStep rfl rfl dq_X7_canStep ⟨rfl, rfl, by decide, by decide⟩ rfl rfl (Nat.le_of_ble_eq_true rfl) dX7_choose_18 (fun r7 σ8 h => ?_)
  refine gq_if_eq (tgt := 28) C dX7_choose_21 (by decide) (fun c9 => ?_) (fun c9 => ?_)
  · have h := h.1 c9
    refine gq_iconst (v := 0) C dX7_choose_28 (by decide) ?_
    exact tq_X7_choose_b29 C _ _ _ _ h
  · have h := h.2 c9
    refine gq_iconst (v := 1) C dX7_choose_24 (by decide) ?_
    refine gq_goto (tgt := 29) C dX7_choose_25 (by decide) ?_
    exact tq_X7_choose_b29 C _ _ _ _ h
def wq_X7_choose (a1 : Int32) (a2 : Int32) (σ : gq_M) (Q : Int32 → gq_M → Prop) : Prop := ((2 ≤ a2 → wq_X7_choose_b29 Q a1 a2 0 σ) ∧ (¬ 2 ≤ a2 → ((¬ a2 = 1 → wq_X7_choose_b18 Q a1 a2 1 a1 0 σ) ∧ (a2 = 1 → wq_X7_choose_b18 Q a1 a2 1 a1 1 σ))))
set_option maxRecDepth 100000 in
set_option maxHeartbeats 4000000 in
theorem tq_X7_choose {p : Program} {l : Launch} {e : Env} {s : State} {m : MethodId} {args : Array Value} {below : List Frame} {meth : Method} {c : Code} {D : va_G} {cyI cyZ : ClassId} {ad : Nat → Nat} {Q : Int32 → gq_M → Prop} (C : gq_C p s m args meth c cX7_choose 4 RX7 wsX7_choose D (gm_T cyI cyZ) 17 ad (some .boolean)) (a1 : Int32) (a2 : Int32) (σ : gq_M) (h : wq_X7_choose a1 a2 σ Q) : gq_G p l e rq_X7_choose s m args below meth c (gq_Ri below args s D (gm_T cyI cyZ) 17 ad (gm_S cyI cyZ ad) Q) D 17 ad (gm_S cyI cyZ ad) 4 σ 0 [(0, .ref (ad 0)), (1, .int a1), (2, .int a2)] [] := by
  unfold wq_X7_choose at h
  refine gq_iload_n (j := 2) C dX7_choose_0 rfl ?_
  refine gq_iconst (v := 2) C dX7_choose_1 (by decide) ?_
  refine gq_icmp_ge (tgt := 28) C dX7_choose_2 (by decide) (fun c1 => ?_) (fun c1 => ?_)
  · have h := h.1 c1
    refine gq_iconst (v := 0) C dX7_choose_28 (by decide) ?_
    exact tq_X7_choose_b29 C _ _ _ _ h
  · have h := h.2 c1
    refine gq_aload_n (j := 0) C dX7_choose_5 rfl ?_
    refine gq_iconst (v := 1) C dX7_choose_6 (by decide) ?_
    refine gq_iload_n (j := 1) C dX7_choose_7 rfl ?_
    refine gq_iload_n (j := 2) C dX7_choose_8 rfl ?_
    refine gq_iconst (v := 1) C dX7_choose_9 (by decide) ?_
    refine gq_icmp_ne (tgt := 17) C dX7_choose_10 (by decide) (fun c6 => ?_) (fun c6 => ?_)
    · have h := h.1 c6
      refine gq_iconst (v := 0) C dX7_choose_17 (by decide) ?_
      exact tq_X7_choose_b18 C _ _ _ _ _ _ h
    · have h := h.2 c6
      refine gq_iconst (v := 1) C dX7_choose_13 (by decide) ?_
      refine gq_goto (tgt := 18) C dX7_choose_14 (by decide) ?_
      exact tq_X7_choose_b18 C _ _ _ _ _ _ h
theorem mq_X7_choose {l : Launch} {D : va_G} {cyI cyZ : ClassId} {ad : Nat → Nat} (hap : gq_ap 17 ad) (a1 : Int32) (a2 : Int32) (σ : gq_M) (Q : Int32 → gq_M → Prop) (h : wq_X7_choose a1 a2 σ Q) : Met l yX7_choose wsX7_choose rq_X7_choose (va_Pc [.ref (ad 0), .int a1, .int a2] (gq_P D (gm_T cyI cyZ) 17 ad (gm_S cyI cyZ ad) σ)) (va_Qi Q (gq_P D (gm_T cyI cyZ) 17 ad (gm_S cyI cyZ ad)) (gq_A 17 ad)) 0 0 (gq_A 17 ad) :=
  gq_met hap (by decide) rfl rfl (Nat.le_of_ble_eq_true rfl) (fun _ _ _ _ _ _ _ C => tq_X7_choose C a1 a2 σ h)
