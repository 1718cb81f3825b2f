/-! ===== walks of X7_summers, X7_keep, X7_again, X7_placesOf, X7_windOfAll, X7_count (by wip/gen) ===== -/
abbrev rq_X7_summers : Room := { frames := 5, cells := 0, slots := 0, locals := 123 }
theorem dq_X7_summers : gq_dsc yX7_summers 1 := by unfold gq_dsc; decide +kernel
theorem iq_X7_summers_X7 : ∀ w ∈ u_ws RX7 TX7 30, w ∈ wsX7_summers := by decide +kernel
theorem fq_X7_summers_241 : Cond.fieldLink RX7 241 (TX7 27).1 (TX7 27).2.1 (TX7 27).2.2.1 ∈ wsX7_summers := by decide +kernel
theorem fq_X7_summers_96 : Cond.fieldLink RX7 96 (TX7 1).1 (TX7 1).2.1 (TX7 1).2.2.1 ∈ wsX7_summers := by decide +kernel
theorem fq_X7_summers_22 : Cond.fieldLink RX7 22 (TX7 6).1 (TX7 6).2.1 (TX7 6).2.2.1 ∈ wsX7_summers := by decide +kernel
def wq_X7_summers_l160 (Q : Int32 → gq_M → Prop) (K188 : Int32 → Int32 → Int32 → gq_M → Prop) : Nat → Int32 → Int32 → Int32 → Int32 → gq_M → Prop
  | 0, _, _, _, _, _ => False
  | n + 1, x1, x2, x3, x6, σ => (((σ.1 0 1) ≤ x6 → K188 x1 x2 x3 σ) ∧ (¬ (σ.1 0 1) ≤ x6 → vp_in (14 + x6) 28 ∧ ∀ v18, v18 = (x2 + (σ.1 5 ((14 + x6)).toNatClampNeg)) → ∀ v19, v19 = (x6 + 1) → wq_X7_summers_l160 Q K188 n x1 v18 x3 v19 σ))
set_option maxRecDepth 100000 in
set_option maxHeartbeats 4000000 in
theorem tq_X7_summers_l160 {p : Program} {l : Launch} {e : Env} {s : State} {m : MethodId} {args : Array Value} {below : List Frame} {meth : Method} {c : Code} {D : va_G} {cyI cyZ : ClassId} {ad : Nat → Nat} {Q : Int32 → gq_M → Prop} {K188 : Int32 → Int32 → Int32 → gq_M → Prop} (C : gq_C p s m args meth c cX7_summers 7 RX7 wsX7_summers D (gm_T cyI cyZ) 17 ad (some .int)) (hK188 : ∀ (y1 : Int32) (y2 : Int32) (y3 : Int32) (τ : gq_M), K188 y1 y2 y3 τ → gq_G p l e rq_X7_summers s m args below meth c (gq_Ri below args s D (gm_T cyI cyZ) 17 ad (gm_S cyI cyZ ad) Q) D 17 ad (gm_S cyI cyZ ad) 7 τ 188 [(0, .ref (ad 0)), (1, .int y1), (2, .int y2), (3, .int y3)] []) : ∀ (n : Nat) (x1 : Int32) (x2 : Int32) (x3 : Int32) (x6 : Int32) (σ : gq_M), wq_X7_summers_l160 Q K188 n x1 x2 x3 x6 σ → gq_G p l e rq_X7_summers s m args below meth c (gq_Ri below args s D (gm_T cyI cyZ) 17 ad (gm_S cyI cyZ ad) Q) D 17 ad (gm_S cyI cyZ ad) 7 σ 160 [(0, .ref (ad 0)), (1, .int x1), (2, .int x2), (3, .int x3), (6, .int x6)] [] := by
  intro n
  induction n with
  | zero =>
    intro x1 x2 x3 x6 σ h
    exact absurd h (fun q => q)
  | succ n ih =>
    intro x1 x2 x3 x6 σ h
    unfold wq_X7_summers_l160 at h
    refine gq_iload (j := 4) C dX7_summers_160 rfl ?_
    refine gq_aload_n (j := 0) C dX7_summers_162 rfl ?_
    refine gq_get (v := .int (σ.1 0 1)) (i := 0) C gms_0 rfl iq_X7_summers_X7 1 (by decide) fq_X7_summers_96 rfl dX7_summers_163 ?_
    refine gq_icmp_ge (tgt := 188) C dX7_summers_166 (by decide) (fun c17 => ?_) (fun c17 => ?_)
    · have h := h.1 c17
      refine gq_sub [0, 1, 2, 3] rfl ?_
      exact hK188 _ _ _ _ h
    · have h := h.2 c17
      refine gq_iload_n (j := 2) C dX7_summers_169 rfl ?_
      refine gq_aload_n (j := 0) C dX7_summers_170 rfl ?_
      refine gq_get (v := .ref (ad 5)) (i := 0) C gms_0 rfl iq_X7_summers_X7 6 (by decide) fq_X7_summers_22 rfl dX7_summers_171 ?_
      refine gq_bipush (v := 14) C dX7_summers_174 (by decide) ?_
      refine gq_iload (j := 4) C dX7_summers_176 rfl ?_
      refine gq_iadd C dX7_summers_178 ?_
      refine gq_iald (i := 5) (j := ((14 + x6)).toNatClampNeg) C gms_5 0 rfl rfl h.1 dX7_summers_179 ?_
      have h := h.2
      refine gq_iadd C dX7_summers_180 ?_
      refine gq_topi (fun v18 qv18 => ?_)
      have h := h v18 qv18
      refine gq_istore_n (L' := [(0, .ref (ad 0)), (1, .int x1), (2, .int v18), (3, .int x3), (6, .int x6)]) C [1, 2, 0, 3, 4] dX7_summers_181 (by decide) rfl ?_
      obtain ⟨v19, qv19⟩ : ∃ y : Int32, y = (x6 + 1) := ⟨_, rfl⟩
      have h := h v19 qv19
      refine gq_iinc (j := 4) (v := v19) (L' := [(0, .ref (ad 0)), (1, .int x1), (2, .int v18), (3, .int x3), (6, .int v19)]) C [1, 2, 3, 4, 0] dX7_summers_182 rfl (by rw [qv19]; rfl) (by decide) rfl ?_
      refine gq_goto (tgt := 160) C dX7_summers_185 (by decide) ?_
      exact ih _ _ _ _ _ h
def wq_X7_summers_b153 (Q : Int32 → gq_M → Prop) (K23 : Int32 → Int32 → Int32 → gq_M → Prop) (x1 : Int32) (x2 : Int32) (x3 : Int32) (s1 : Int32) (s2 : Int32) (s3 : Int32) (σ : gq_M) : Prop := wq_X7_tryThing s1 s2 s3 σ (fun r15 σ16 => (∃ n25, wq_X7_summers_l160 Q (fun e20 e21 e22 σ23 => ∀ v24, v24 = (e22 + 1) → K23 e20 e21 v24 σ23) n25 x1 x2 x3 0 σ16))
set_option maxRecDepth 100000 in
set_option maxHeartbeats 4000000 in
theorem tq_X7_summers_b153 {p : Program} {l : Launch} {e : Env} {s : State} {m : MethodId} {args : Array Value} {below : List Frame} {meth : Method} {c : Code} {D : va_G} {cyI cyZ : ClassId} {ad : Nat → Nat} {Q : Int32 → gq_M → Prop} {K23 : Int32 → Int32 → Int32 → gq_M → Prop} (C : gq_C p s m args meth c cX7_summers 7 RX7 wsX7_summers D (gm_T cyI cyZ) 17 ad (some .int)) (hK23 : ∀ (y1 : Int32) (y2 : Int32) (y3 : Int32) (τ : gq_M), K23 y1 y2 y3 τ → gq_G p l e rq_X7_summers s m args below meth c (gq_Ri below args s D (gm_T cyI cyZ) 17 ad (gm_S cyI cyZ ad) Q) D 17 ad (gm_S cyI cyZ ad) 7 τ 23 [(0, .ref (ad 0)), (1, .int y1), (2, .int y2), (3, .int y3)] []) (x1 : Int32) (x2 : Int32) (x3 : Int32) (s1 : Int32) (s2 : Int32) (s3 : Int32) (σ : gq_M) (h : wq_X7_summers_b153 Q K23 x1 x2 x3 s1 s2 s3 σ) : gq_G p l e rq_X7_summers s m args below meth c (gq_Ri below args s D (gm_T cyI cyZ) 17 ad (gm_S cyI cyZ ad) Q) D 17 ad (gm_S cyI cyZ ad) 7 σ 153 [(0, .ref (ad 0)), (1, .int x1), (2, .int x2), (3, .int x3)] [.int s3, .int s2, .int s1, .ref (ad 0)] := by
  unfold wq_X7_summers_b153 at h
  refine gq_vi (i := 0) C gms_0 rfl [.int s1, .int s2, .int s3] (mq_X7_tryThing C.2.2.1 s1 s2 s3 σ _ h) gX7_summers_X7_tryThing rfl rfl dq_X7_tryThing ⟨rfl, rfl, by decide, by decide⟩ rfl rfl (Nat.le_of_ble_eq_true rfl) dX7_summers_153 (fun r15 σ16 h => ?_)
  refine gq_pop C dX7_summers_156 rfl ?_
  refine gq_iconst (v := 0) C dX7_summers_157 (by decide) ?_
  refine gq_istore (L' := [(0, .ref (ad 0)), (1, .int x1), (2, .int x2), (3, .int x3), (6, .int 0)]) C [1, 2, 3, 4, 0] dX7_summers_158 (by decide) rfl ?_
  obtain ⟨n25, h⟩ := h
  refine tq_X7_summers_l160 C (fun e20 e21 e22 σ23 h => ?_) n25 _ _ _ _ _ h
  obtain ⟨v24, qv24⟩ : ∃ y : Int32, y = (e22 + 1) := ⟨_, rfl⟩
  have h := h v24 qv24
  refine gq_iinc (j := 3) (v := v24) (L' := [(0, .ref (ad 0)), (1, .int e20), (2, .int e21), (3, .int v24)]) C [1, 2, 3, 0] dX7_summers_188 rfl (by rw [qv24]; rfl) (by decide) rfl ?_
  refine gq_goto (tgt := 23) C dX7_summers_191 (by decide) ?_
  exact hK23 _ _ _ _ h
def wq_X7_summers_b111 (Q : Int32 → gq_M → Prop) (K23 : Int32 → Int32 → Int32 → gq_M → Prop) (x1 : Int32) (x2 : Int32) (x3 : Int32) (x4 : Int32) (x5 : Int32) (s1 : Int32) (s2 : Int32) (σ : gq_M) : Prop := ((¬ x5 = 1 → ((¬ x5 = 2 → ((¬ x5 = 3 → wq_X7_summers_b153 Q (K23) x1 x2 x3 s1 s2 0 σ) ∧ (x5 = 3 → wq_X7_summers_b153 Q (K23) x1 x2 x3 s1 s2 (x4 - 15) σ))) ∧ (x5 = 2 → wq_X7_summers_b153 Q (K23) x1 x2 x3 s1 s2 (x4 - 10) σ))) ∧ (x5 = 1 → wq_X7_summers_b153 Q (K23) x1 x2 x3 s1 s2 (x4 - x4 / 2 * 2) σ))
set_option maxRecDepth 100000 in
set_option maxHeartbeats 4000000 in
theorem tq_X7_summers_b111 {p : Program} {l : Launch} {e : Env} {s : State} {m : MethodId} {args : Array Value} {below : List Frame} {meth : Method} {c : Code} {D : va_G} {cyI cyZ : ClassId} {ad : Nat → Nat} {Q : Int32 → gq_M → Prop} {K23 : Int32 → Int32 → Int32 → gq_M → Prop} (C : gq_C p s m args meth c cX7_summers 7 RX7 wsX7_summers D (gm_T cyI cyZ) 17 ad (some .int)) (hK23 : ∀ (y1 : Int32) (y2 : Int32) (y3 : Int32) (τ : gq_M), K23 y1 y2 y3 τ → gq_G p l e rq_X7_summers s m args below meth c (gq_Ri below args s D (gm_T cyI cyZ) 17 ad (gm_S cyI cyZ ad) Q) D 17 ad (gm_S cyI cyZ ad) 7 τ 23 [(0, .ref (ad 0)), (1, .int y1), (2, .int y2), (3, .int y3)] []) (x1 : Int32) (x2 : Int32) (x3 : Int32) (x4 : Int32) (x5 : Int32) (s1 : Int32) (s2 : Int32) (σ : gq_M) (h : wq_X7_summers_b111 Q K23 x1 x2 x3 x4 x5 s1 s2 σ) : gq_G p l e rq_X7_summers s m args below meth c (gq_Ri below args s D (gm_T cyI cyZ) 17 ad (gm_S cyI cyZ ad) Q) D 17 ad (gm_S cyI cyZ ad) 7 σ 111 [(0, .ref (ad 0)), (1, .int x1), (2, .int x2), (3, .int x3), (4, .int x4), (5, .int x5)] [.int s2, .int s1, .ref (ad 0)] := by
  unfold wq_X7_summers_b111 at h
  refine gq_iload (j := 5) C dX7_summers_111 rfl ?_
  refine gq_iconst (v := 1) C dX7_summers_113 (by decide) ?_
  refine gq_icmp_ne (tgt := 124) C dX7_summers_114 (by decide) (fun c12 => ?_) (fun c12 => ?_)
  · have h := h.1 c12
    refine gq_iload (j := 5) C dX7_summers_124 rfl ?_
    refine gq_iconst (v := 2) C dX7_summers_126 (by decide) ?_
    refine gq_icmp_ne (tgt := 138) C dX7_summers_127 (by decide) (fun c13 => ?_) (fun c13 => ?_)
    · have h := h.1 c13
      refine gq_iload (j := 5) C dX7_summers_138 rfl ?_
      refine gq_iconst (v := 3) C dX7_summers_140 (by decide) ?_
      refine gq_icmp_ne (tgt := 152) C dX7_summers_141 (by decide) (fun c14 => ?_) (fun c14 => ?_)
      · have h := h.1 c14
        refine gq_iconst (v := 0) C dX7_summers_152 (by decide) ?_
        refine gq_sub [0, 1, 2, 3] rfl ?_
        exact tq_X7_summers_b153 C (hK23) _ _ _ _ _ _ _ h
      · have h := h.2 c14
        refine gq_iload (j := 4) C dX7_summers_144 rfl ?_
        refine gq_bipush (v := 15) C dX7_summers_146 (by decide) ?_
        refine gq_isub C dX7_summers_148 ?_
        refine gq_goto (tgt := 153) C dX7_summers_149 (by decide) ?_
        refine gq_sub [0, 1, 2, 3] rfl ?_
        exact tq_X7_summers_b153 C (hK23) _ _ _ _ _ _ _ h
    · have h := h.2 c13
      refine gq_iload (j := 4) C dX7_summers_130 rfl ?_
      refine gq_bipush (v := 10) C dX7_summers_132 (by decide) ?_
      refine gq_isub C dX7_summers_134 ?_
      refine gq_goto (tgt := 153) C dX7_summers_135 (by decide) ?_
      refine gq_sub [0, 1, 2, 3] rfl ?_
      exact tq_X7_summers_b153 C (hK23) _ _ _ _ _ _ _ h
  · have h := h.2 c12
    refine gq_iload (j := 4) C dX7_summers_117 rfl ?_
    refine gq_iconst (v := 2) C dX7_summers_119 (by decide) ?_
    refine gq_irem C dX7_summers_120 (by decide) ?_
    refine gq_goto (tgt := 153) C dX7_summers_121 (by decide) ?_
    refine gq_sub [0, 1, 2, 3] rfl ?_
    exact tq_X7_summers_b153 C (hK23) _ _ _ _ _ _ _ h
def wq_X7_summers_b92 (Q : Int32 → gq_M → Prop) (K23 : Int32 → Int32 → Int32 → gq_M → Prop) (x1 : Int32) (x2 : Int32) (x3 : Int32) (x4 : Int32) (s0 : Int32) (σ : gq_M) : Prop := ((¬ s0 = 1 → wq_X7_summers_b111 Q (K23) x1 x2 x3 x4 s0 s0 0 σ) ∧ (s0 = 1 → wq_X7_summers_b111 Q (K23) x1 x2 x3 x4 s0 s0 (x4 / 2) σ))
set_option maxRecDepth 100000 in
set_option maxHeartbeats 4000000 in
theorem tq_X7_summers_b92 {p : Program} {l : Launch} {e : Env} {s : State} {m : MethodId} {args : Array Value} {below : List Frame} {meth : Method} {c : Code} {D : va_G} {cyI cyZ : ClassId} {ad : Nat → Nat} {Q : Int32 → gq_M → Prop} {K23 : Int32 → Int32 → Int32 → gq_M → Prop} (C : gq_C p s m args meth c cX7_summers 7 RX7 wsX7_summers D (gm_T cyI cyZ) 17 ad (some .int)) (hK23 : ∀ (y1 : Int32) (y2 : Int32) (y3 : Int32) (τ : gq_M), K23 y1 y2 y3 τ → gq_G p l e rq_X7_summers s m args below meth c (gq_Ri below args s D (gm_T cyI cyZ) 17 ad (gm_S cyI cyZ ad) Q) D 17 ad (gm_S cyI cyZ ad) 7 τ 23 [(0, .ref (ad 0)), (1, .int y1), (2, .int y2), (3, .int y3)] []) (x1 : Int32) (x2 : Int32) (x3 : Int32) (x4 : Int32) (s0 : Int32) (σ : gq_M) (h : wq_X7_summers_b92 Q K23 x1 x2 x3 x4 s0 σ) : gq_G p l e rq_X7_summers s m args below meth c (gq_Ri below args s D (gm_T cyI cyZ) 17 ad (gm_S cyI cyZ ad) Q) D 17 ad (gm_S cyI cyZ ad) 7 σ 92 [(0, .ref (ad 0)), (1, .int x1), (2, .int x2), (3, .int x3), (4, .int x4)] [.int s0] := by
  unfold wq_X7_summers_b92 at h
  refine gq_istore (L' := [(0, .ref (ad 0)), (1, .int x1), (2, .int x2), (3, .int x3), (4, .int x4), (5, .int s0)]) C [1, 2, 3, 4, 5, 0] dX7_summers_92 (by decide) rfl ?_
  refine gq_aload_n (j := 0) C dX7_summers_94 rfl ?_
  refine gq_iload (j := 5) C dX7_summers_95 rfl ?_
  refine gq_iload (j := 5) C dX7_summers_97 rfl ?_
  refine gq_iconst (v := 1) C dX7_summers_99 (by decide) ?_
  refine gq_icmp_ne (tgt := 110) C dX7_summers_100 (by decide) (fun c11 => ?_) (fun c11 => ?_)
  · have h := h.1 c11
    refine gq_iconst (v := 0) C dX7_summers_110 (by decide) ?_
    exact tq_X7_summers_b111 C (hK23) _ _ _ _ _ _ _ _ h
  · have h := h.2 c11
    refine gq_iload (j := 4) C dX7_summers_103 rfl ?_
    refine gq_iconst (v := 2) C dX7_summers_105 (by decide) ?_
    refine gq_idiv C dX7_summers_106 (by decide) ?_
    refine gq_goto (tgt := 111) C dX7_summers_107 (by decide) ?_
    exact tq_X7_summers_b111 C (hK23) _ _ _ _ _ _ _ _ h
def wq_X7_summers_l23 (Q : Int32 → gq_M → Prop) (K194 : Int32 → gq_M → Prop) : Nat → Int32 → Int32 → Int32 → gq_M → Prop
  | 0, _, _, _, _ => False
  | n + 1, x1, x2, x3, σ => ((x1 ≤ x3 → K194 x2 σ) ∧ (¬ x1 ≤ x3 → ∀ v7, v7 = ((((((σ.1, ((σ.2 * 6364136223846793005) + 1442695040888963407))).2).toUInt64 >>> (((33 : Int32)).toInt64.toUInt64 &&& Int64.toUInt64 63)).toInt64 - ((((σ.1, ((σ.2 * 6364136223846793005) + 1442695040888963407))).2).toUInt64 >>> (((33 : Int32)).toInt64.toUInt64 &&& Int64.toUInt64 63)).toInt64 / 26 * 26)).toInt32 → ((10 ≤ v7 → ((15 ≤ v7 → ((25 ≤ v7 → wq_X7_summers_b92 Q (wq_X7_summers_l23 Q K194 n) x1 x2 x3 v7 4 (σ.1, ((σ.2 * 6364136223846793005) + 1442695040888963407))) ∧ (¬ 25 ≤ v7 → wq_X7_summers_b92 Q (wq_X7_summers_l23 Q K194 n) x1 x2 x3 v7 3 (σ.1, ((σ.2 * 6364136223846793005) + 1442695040888963407))))) ∧ (¬ 15 ≤ v7 → wq_X7_summers_b92 Q (wq_X7_summers_l23 Q K194 n) x1 x2 x3 v7 2 (σ.1, ((σ.2 * 6364136223846793005) + 1442695040888963407))))) ∧ (¬ 10 ≤ v7 → wq_X7_summers_b92 Q (wq_X7_summers_l23 Q K194 n) x1 x2 x3 v7 1 (σ.1, ((σ.2 * 6364136223846793005) + 1442695040888963407))))))
set_option maxRecDepth 100000 in
set_option maxHeartbeats 4000000 in
theorem tq_X7_summers_l23 {p : Program} {l : Launch} {e : Env} {s : State} {m : MethodId} {args : Array Value} {below : List Frame} {meth : Method} {c : Code} {D : va_G} {cyI cyZ : ClassId} {ad : Nat → Nat} {Q : Int32 → gq_M → Prop} {K194 : Int32 → gq_M → Prop} (C : gq_C p s m args meth c cX7_summers 7 RX7 wsX7_summers D (gm_T cyI cyZ) 17 ad (some .int)) (hK194 : ∀ (y2 : Int32) (τ : gq_M), K194 y2 τ → gq_G p l e rq_X7_summers s m args below meth c (gq_Ri below args s D (gm_T cyI cyZ) 17 ad (gm_S cyI cyZ ad) Q) D 17 ad (gm_S cyI cyZ ad) 7 τ 194 [(0, .ref (ad 0)), (2, .int y2)] []) : ∀ (n : Nat) (x1 : Int32) (x2 : Int32) (x3 : Int32) (σ : gq_M), wq_X7_summers_l23 Q K194 n x1 x2 x3 σ → gq_G p l e rq_X7_summers s m args below meth c (gq_Ri below args s D (gm_T cyI cyZ) 17 ad (gm_S cyI cyZ ad) Q) D 17 ad (gm_S cyI cyZ ad) 7 σ 23 [(0, .ref (ad 0)), (1, .int x1), (2, .int x2), (3, .int x3)] [] := by
  intro n
  induction n with
  | zero =>
    intro x1 x2 x3 σ h
    exact absurd h (fun q => q)
  | succ n ih =>
    intro x1 x2 x3 σ h
    unfold wq_X7_summers_l23 at h
    refine gq_iload_n (j := 3) C dX7_summers_23 rfl ?_
    refine gq_iload_n (j := 1) C dX7_summers_24 rfl ?_
    refine gq_icmp_ge (tgt := 194) C dX7_summers_25 (by decide) (fun c6 => ?_) (fun c6 => ?_)
    · have h := h.1 c6
      refine gq_sub [0, 2] rfl ?_
      exact hK194 _ _ h
    · have h := h.2 c6
      refine gq_aload_n (j := 0) C dX7_summers_28 rfl ?_
      refine gq_aload_n (j := 0) C dX7_summers_29 rfl ?_
      refine gq_get (v := .long σ.2) (i := 0) C gms_0 rfl iq_X7_summers_X7 27 (by decide) fq_X7_summers_241 rfl dX7_summers_30 ?_
      refine gq_ldc2 (v := 6364136223846793005) C (by decide +kernel) dX7_summers_33 ?_
      refine gq_lmul C dX7_summers_36 ?_
      refine gq_ldc2 (v := 1442695040888963407) C (by decide +kernel) dX7_summers_37 ?_
      refine gq_ladd C dX7_summers_40 ?_
      refine gq_putl (i := 0) C gms_0 rfl iq_X7_summers_X7 tyX7 tyX7_ok nmX7 27 (by decide) fq_X7_summers_241 rfl rfl rfl (fun _ _ => Nat.le_of_ble_eq_true rfl) gs_X7_27 gl_X7 dX7_summers_41 ?_
      refine gq_aload_n (j := 0) C dX7_summers_44 rfl ?_
      refine gq_get (v := .long ((σ.1, ((σ.2 * 6364136223846793005) + 1442695040888963407))).2) (i := 0) C gms_0 rfl iq_X7_summers_X7 27 (by decide) fq_X7_summers_241 rfl dX7_summers_45 ?_
      refine gq_bipush (v := 33) C dX7_summers_48 (by decide) ?_
      refine gq_lushr C dX7_summers_50 ?_
      refine gq_ldc2 (v := 26) C (by decide +kernel) dX7_summers_51 ?_
      refine gq_lrem C dX7_summers_54 (by decide) ?_
      refine gq_l2i C dX7_summers_55 ?_
      refine gq_topi (fun v7 qv7 => ?_)
      have h := h v7 qv7
      refine gq_istore (L' := [(0, .ref (ad 0)), (1, .int x1), (2, .int x2), (3, .int x3), (4, .int v7)]) C [1, 2, 3, 4, 0] dX7_summers_56 (by decide) rfl ?_
      refine gq_iload (j := 4) C dX7_summers_58 rfl ?_
      refine gq_bipush (v := 10) C dX7_summers_60 (by decide) ?_
      refine gq_icmp_ge (tgt := 69) C dX7_summers_62 (by decide) (fun c8 => ?_) (fun c8 => ?_)
      · have h := h.1 c8
        refine gq_iload (j := 4) C dX7_summers_69 rfl ?_
        refine gq_bipush (v := 15) C dX7_summers_71 (by decide) ?_
        refine gq_icmp_ge (tgt := 80) C dX7_summers_73 (by decide) (fun c9 => ?_) (fun c9 => ?_)
        · have h := h.1 c9
          refine gq_iload (j := 4) C dX7_summers_80 rfl ?_
          refine gq_bipush (v := 25) C dX7_summers_82 (by decide) ?_
          refine gq_icmp_ge (tgt := 91) C dX7_summers_84 (by decide) (fun c10 => ?_) (fun c10 => ?_)
          · have h := h.1 c10
            refine gq_iconst (v := 4) C dX7_summers_91 (by decide) ?_
            exact tq_X7_summers_b92 C (ih) _ _ _ _ _ _ h
          · have h := h.2 c10
            refine gq_iconst (v := 3) C dX7_summers_87 (by decide) ?_
            refine gq_goto (tgt := 92) C dX7_summers_88 (by decide) ?_
            exact tq_X7_summers_b92 C (ih) _ _ _ _ _ _ h
        · have h := h.2 c9
          refine gq_iconst (v := 2) C dX7_summers_76 (by decide) ?_
          refine gq_goto (tgt := 92) C dX7_summers_77 (by decide) ?_
          exact tq_X7_summers_b92 C (ih) _ _ _ _ _ _ h
      · have h := h.2 c8
        refine gq_iconst (v := 1) C dX7_summers_65 (by decide) ?_
        refine gq_goto (tgt := 92) C dX7_summers_66 (by decide) ?_
        exact tq_X7_summers_b92 C (ih) _ _ _ _ _ _ h
def wq_X7_summers (a1 : Int32) (σ : gq_M) (Q : Int32 → gq_M → Prop) : Prop := wq_X7_in a1.toInt64 1 30 σ (fun r1 σ2 => ((¬ r1 = 0 → wq_X7_layTrial σ2 (fun σ5 => (∃ n28, wq_X7_summers_l23 Q (fun e26 σ27 => Q e26 σ27) n28 a1 0 0 σ5))) ∧ (r1 = 0 → Q (-2) σ2)))
set_option maxRecDepth 100000 in
set_option maxHeartbeats 4000000 in
theorem tq_X7_summers {p : Program} {l : Launch} {e : Env} {s : State} {m : MethodId} {args : Array Value} {below : List Frame} {meth : Method} {c : Code} {D : va_G} {cyI cyZ : ClassId} {ad : Nat → Nat} {Q : Int32 → gq_M → Prop} (C : gq_C p s m args meth c cX7_summers 7 RX7 wsX7_summers D (gm_T cyI cyZ) 17 ad (some .int)) (a1 : Int32) (σ : gq_M) (h : wq_X7_summers a1 σ Q) : gq_G p l e rq_X7_summers s m args below meth c (gq_Ri below args s D (gm_T cyI cyZ) 17 ad (gm_S cyI cyZ ad) Q) D 17 ad (gm_S cyI cyZ ad) 7 σ 0 [(0, .ref (ad 0)), (1, .int a1)] [] := by
  unfold wq_X7_summers at h
  refine gq_iload_n (j := 1) C dX7_summers_0 rfl ?_
  refine gq_i2l C dX7_summers_1 ?_
  refine gq_lconst (v := 1) C dX7_summers_2 (by decide) ?_
  refine gq_ldc2 (v := 30) C (by decide +kernel) dX7_summers_3 ?_
  refine gq_si C [.long a1.toInt64, .long 1, .long 30] (mq_X7_in C.2.2.1 a1.toInt64 1 30 σ _ h) gX7_summers_X7_in rfl dq_X7_in ⟨rfl, rfl, by decide, by decide⟩ rfl rfl (Nat.le_of_ble_eq_true rfl) dX7_summers_6 (fun r1 σ2 h => ?_)
  refine gq_if_ne (tgt := 15) C dX7_summers_9 (by decide) (fun c3 => ?_) (fun c3 => ?_)
  · have h := h.1 c3
    refine gq_aload_n (j := 0) C dX7_summers_15 rfl ?_
    refine gq_vv (i := 0) C gms_0 rfl [] (mq_X7_layTrial C.2.2.1 σ2 _ h) gX7_summers_X7_layTrial rfl rfl dq_X7_layTrial ⟨rfl, rfl, by decide, by decide⟩ rfl rfl (Nat.le_of_ble_eq_true rfl) dX7_summers_16 (fun σ5 h => ?_)
    refine gq_iconst (v := 0) C dX7_summers_19 (by decide) ?_
    refine gq_istore_n (L' := [(0, .ref (ad 0)), (1, .int a1), (2, .int 0)]) C [1, 2, 0] dX7_summers_20 (by decide) rfl ?_
    refine gq_iconst (v := 0) C dX7_summers_21 (by decide) ?_
    refine gq_istore_n (L' := [(0, .ref (ad 0)), (1, .int a1), (2, .int 0), (3, .int 0)]) C [1, 2, 3, 0] dX7_summers_22 (by decide) rfl ?_
    obtain ⟨n28, h⟩ := h
    refine tq_X7_summers_l23 C (fun e26 σ27 h => ?_) n28 _ _ _ _ h
    refine gq_iload_n (j := 1) C dX7_summers_194 rfl ?_
    exact gq_iret C h dX7_summers_195
  · have h := h.2 c3
    refine gq_bipush (v := (-2)) C dX7_summers_12 (by decide) ?_
    exact gq_iret C h dX7_summers_14
theorem mq_X7_summers {l : Launch} {D : va_G} {cyI cyZ : ClassId} {ad : Nat → Nat} (hap : gq_ap 17 ad) (a1 : Int32) (σ : gq_M) (Q : Int32 → gq_M → Prop) (h : wq_X7_summers a1 σ Q) : Met l yX7_summers wsX7_summers rq_X7_summers (va_Pc [.ref (ad 0), .int a1] (gq_P D (gm_T cyI cyZ) 17 ad (gm_S cyI cyZ ad) σ)) (va_Qi Q (gq_P D (gm_T cyI cyZ) 17 ad (gm_S cyI cyZ ad)) (gq_A 17 ad)) 0 0 (gq_A 17 ad) :=
  gq_met hap (by decide) rfl rfl (Nat.le_of_ble_eq_true rfl) (fun _ _ _ _ _ _ _ C => tq_X7_summers C a1 σ h)
abbrev rq_X7_keep : Room := { frames := 1, cells := 0, slots := 0, locals := 25 }
theorem dq_X7_keep : gq_dsc yX7_keep 1 := by unfold gq_dsc; decide +kernel
theorem iq_X7_keep_X7 : ∀ w ∈ u_ws RX7 TX7 30, w ∈ wsX7_keep := by decide +kernel
theorem fq_X7_keep_52 : Cond.fieldLink RX7 52 (TX7 28).1 (TX7 28).2.1 (TX7 28).2.2.1 ∈ wsX7_keep := by decide +kernel
theorem fq_X7_keep_56 : Cond.fieldLink RX7 56 (TX7 29).1 (TX7 29).2.1 (TX7 29).2.2.1 ∈ wsX7_keep := by decide +kernel
theorem fq_X7_keep_22 : Cond.fieldLink RX7 22 (TX7 6).1 (TX7 6).2.1 (TX7 6).2.2.1 ∈ wsX7_keep := by decide +kernel
def wq_X7_keep_l21 (Q : Int32 → gq_M → Prop) (K50 : gq_M → Prop) : Nat → Int32 → Int32 → gq_M → Prop
  | 0, _, _, _ => False
  | n + 1, x1, x2, σ => ((14 ≤ x2 → K50 σ) ∧ (¬ 14 ≤ x2 → vp_in x2 28 ∧ vp_in ((14 * x1) + x2) 28 ∧ ∀ v5, v5 = (x2 + 1) → wq_X7_keep_l21 Q K50 n x1 v5 (gq_put σ 16 (((14 * x1) + x2)).toNatClampNeg (σ.1 5 x2.toNatClampNeg))))
set_option maxRecDepth 100000 in
set_option maxHeartbeats 4000000 in
theorem tq_X7_keep_l21 {p : Program} {l : Launch} {e : Env} {s : State} {m : MethodId} {args : Array Value} {below : List Frame} {meth : Method} {c : Code} {D : va_G} {cyI cyZ : ClassId} {ad : Nat → Nat} {Q : Int32 → gq_M → Prop} {K50 : gq_M → Prop} (C : gq_C p s m args meth c cX7_keep 3 RX7 wsX7_keep D (gm_T cyI cyZ) 17 ad (some .int)) (hK50 : ∀ (τ : gq_M), K50 τ → gq_G p l e rq_X7_keep s m args below meth c (gq_Ri below args s D (gm_T cyI cyZ) 17 ad (gm_S cyI cyZ ad) Q) D 17 ad (gm_S cyI cyZ ad) 3 τ 50 [(0, .ref (ad 0))] []) : ∀ (n : Nat) (x1 : Int32) (x2 : Int32) (σ : gq_M), wq_X7_keep_l21 Q K50 n x1 x2 σ → gq_G p l e rq_X7_keep s m args below meth c (gq_Ri below args s D (gm_T cyI cyZ) 17 ad (gm_S cyI cyZ ad) Q) D 17 ad (gm_S cyI cyZ ad) 3 σ 21 [(0, .ref (ad 0)), (1, .int x1), (2, .int x2)] [] := by
  intro n
  induction n with
  | zero =>
    intro x1 x2 σ h
    exact absurd h (fun q => q)
  | succ n ih =>
    intro x1 x2 σ h
    unfold wq_X7_keep_l21 at h
    refine gq_iload_n (j := 2) C dX7_keep_21 rfl ?_
    refine gq_bipush (v := 14) C dX7_keep_22 (by decide) ?_
    refine gq_icmp_ge (tgt := 50) C dX7_keep_24 (by decide) (fun c4 => ?_) (fun c4 => ?_)
    · have h := h.1 c4
      refine gq_sub [0] rfl ?_
      exact hK50  _ h
    · have h := h.2 c4
      refine gq_aload_n (j := 0) C dX7_keep_27 rfl ?_
      refine gq_get (v := .ref (ad 16)) (i := 0) C gms_0 rfl iq_X7_keep_X7 29 (by decide) fq_X7_keep_56 rfl dX7_keep_28 ?_
      refine gq_bipush (v := 14) C dX7_keep_31 (by decide) ?_
      refine gq_iload_n (j := 1) C dX7_keep_33 rfl ?_
      refine gq_imul C dX7_keep_34 ?_
      refine gq_iload_n (j := 2) C dX7_keep_35 rfl ?_
      refine gq_iadd C dX7_keep_36 ?_
      refine gq_aload_n (j := 0) C dX7_keep_37 rfl ?_
      refine gq_get (v := .ref (ad 5)) (i := 0) C gms_0 rfl iq_X7_keep_X7 6 (by decide) fq_X7_keep_22 rfl dX7_keep_38 ?_
      refine gq_iload_n (j := 2) C dX7_keep_41 rfl ?_
      refine gq_iald (i := 5) (j := x2.toNatClampNeg) C gms_5 0 rfl rfl h.1 dX7_keep_42 ?_
      have h := h.2
      refine gq_iast (i := 16) (j := (((14 * x1) + x2)).toNatClampNeg) C gms_16 0 rfl rfl h.1 dX7_keep_43 ?_
      have h := h.2
      obtain ⟨v5, qv5⟩ : ∃ y : Int32, y = (x2 + 1) := ⟨_, rfl⟩
      have h := h v5 qv5
      refine gq_iinc (j := 2) (v := v5) (L' := [(0, .ref (ad 0)), (1, .int x1), (2, .int v5)]) C [1, 2, 0] dX7_keep_44 rfl (by rw [qv5]; rfl) (by decide) rfl ?_
      refine gq_goto (tgt := 21) C dX7_keep_47 (by decide) ?_
      exact ih _ _ _ h
def wq_X7_keep (a1 : Int32) (σ : gq_M) (Q : Int32 → gq_M → Prop) : Prop := wq_X7_in a1.toInt64 0 1 σ (fun r1 σ2 => ((¬ r1 = 0 → vp_in a1 2 ∧ (∃ n7, wq_X7_keep_l21 Q (fun σ6 => Q (σ6.1 5 13) σ6) n7 a1 0 (gq_put σ2 15 a1.toNatClampNeg (vp_nar .boolean 1)))) ∧ (r1 = 0 → Q (-1) σ2)))
set_option maxRecDepth 100000 in
set_option maxHeartbeats 4000000 in
theorem tq_X7_keep {p : Program} {l : Launch} {e : Env} {s : State} {m : MethodId} {args : Array Value} {below : List Frame} {meth : Method} {c : Code} {D : va_G} {cyI cyZ : ClassId} {ad : Nat → Nat} {Q : Int32 → gq_M → Prop} (C : gq_C p s m args meth c cX7_keep 3 RX7 wsX7_keep D (gm_T cyI cyZ) 17 ad (some .int)) (a1 : Int32) (σ : gq_M) (h : wq_X7_keep a1 σ Q) : gq_G p l e rq_X7_keep s m args below meth c (gq_Ri below args s D (gm_T cyI cyZ) 17 ad (gm_S cyI cyZ ad) Q) D 17 ad (gm_S cyI cyZ ad) 3 σ 0 [(0, .ref (ad 0)), (1, .int a1)] [] := by
  unfold wq_X7_keep at h
  refine gq_iload_n (j := 1) C dX7_keep_0 rfl ?_
  refine gq_i2l C dX7_keep_1 ?_
  refine gq_lconst (v := 0) C dX7_keep_2 (by decide) ?_
  refine gq_lconst (v := 1) C dX7_keep_3 (by decide) ?_
  refine gq_si C [.long a1.toInt64, .long 0, .long 1] (mq_X7_in C.2.2.1 a1.toInt64 0 1 σ _ h) gX7_keep_X7_in rfl dq_X7_in ⟨rfl, rfl, by decide, by decide⟩ rfl rfl (Nat.le_of_ble_eq_true rfl) dX7_keep_4 (fun r1 σ2 h => ?_)
  refine gq_if_ne (tgt := 12) C dX7_keep_7 (by decide) (fun c3 => ?_) (fun c3 => ?_)
  · have h := h.1 c3
    refine gq_aload_n (j := 0) C dX7_keep_12 rfl ?_
    refine gq_get (v := .ref (ad 15)) (i := 0) C gms_0 rfl iq_X7_keep_X7 28 (by decide) fq_X7_keep_52 rfl dX7_keep_13 ?_
    refine gq_iload_n (j := 1) C dX7_keep_16 rfl ?_
    refine gq_iconst (v := 1) C dX7_keep_17 (by decide) ?_
    refine gq_zast (i := 15) (j := a1.toNatClampNeg) C gms_15 1 rfl rfl h.1 dX7_keep_18 ?_
    have h := h.2
    refine gq_iconst (v := 0) C dX7_keep_19 (by decide) ?_
    refine gq_istore_n (L' := [(0, .ref (ad 0)), (1, .int a1), (2, .int 0)]) C [1, 2, 0] dX7_keep_20 (by decide) rfl ?_
    obtain ⟨n7, h⟩ := h
    refine tq_X7_keep_l21 C (fun σ6 h => ?_) n7 _ _ _ h
    refine gq_aload_n (j := 0) C dX7_keep_50 rfl ?_
    refine gq_get (v := .ref (ad 5)) (i := 0) C gms_0 rfl iq_X7_keep_X7 6 (by decide) fq_X7_keep_22 rfl dX7_keep_51 ?_
    refine gq_bipush (v := 13) C dX7_keep_54 (by decide) ?_
    refine gq_iald (i := 5) (j := 13) C gms_5 0 rfl (by decide) (vp_in_iff.mpr ⟨by decide, by decide⟩) dX7_keep_56 ?_
    exact gq_iret C h dX7_keep_57
  · have h := h.2 c3
    refine gq_iconst (v := (-1)) C dX7_keep_10 (by decide) ?_
    exact gq_iret C h dX7_keep_11
theorem mq_X7_keep {l : Launch} {D : va_G} {cyI cyZ : ClassId} {ad : Nat → Nat} (hap : gq_ap 17 ad) (a1 : Int32) (σ : gq_M) (Q : Int32 → gq_M → Prop) (h : wq_X7_keep a1 σ Q) : Met l yX7_keep wsX7_keep rq_X7_keep (va_Pc [.ref (ad 0), .int a1] (gq_P D (gm_T cyI cyZ) 17 ad (gm_S cyI cyZ ad) σ)) (va_Qi Q (gq_P D (gm_T cyI cyZ) 17 ad (gm_S cyI cyZ ad)) (gq_A 17 ad)) 0 0 (gq_A 17 ad) :=
  gq_met hap (by decide) rfl rfl (Nat.le_of_ble_eq_true rfl) (fun _ _ _ _ _ _ _ C => tq_X7_keep C a1 σ h)
abbrev rq_X7_again : Room := { frames := 1, cells := 0, slots := 0, locals := 25 }
theorem dq_X7_again : gq_dsc yX7_again 1 := by unfold gq_dsc; decide +kernel
theorem iq_X7_again_X7 : ∀ w ∈ u_ws RX7 TX7 30, w ∈ wsX7_again := by decide +kernel
theorem fq_X7_again_52 : Cond.fieldLink RX7 52 (TX7 28).1 (TX7 28).2.1 (TX7 28).2.2.1 ∈ wsX7_again := by decide +kernel
theorem fq_X7_again_22 : Cond.fieldLink RX7 22 (TX7 6).1 (TX7 6).2.1 (TX7 6).2.2.1 ∈ wsX7_again := by decide +kernel
theorem fq_X7_again_56 : Cond.fieldLink RX7 56 (TX7 29).1 (TX7 29).2.1 (TX7 29).2.2.1 ∈ wsX7_again := by decide +kernel
theorem fq_X7_again_102 : Cond.fieldLink RX7 102 (TX7 16).1 (TX7 16).2.1 (TX7 16).2.2.1 ∈ wsX7_again := by decide +kernel
def wq_X7_again_l26 (Q : Int32 → gq_M → Prop) (K55 : gq_M → Prop) : Nat → Int32 → Int32 → gq_M → Prop
  | 0, _, _, _ => False
  | n + 1, x1, x2, σ => ((14 ≤ x2 → K55 σ) ∧ (¬ 14 ≤ x2 → vp_in ((14 * x1) + x2) 28 ∧ vp_in x2 28 ∧ ∀ v6, v6 = (x2 + 1) → wq_X7_again_l26 Q K55 n x1 v6 (gq_put σ 5 x2.toNatClampNeg (σ.1 16 (((14 * x1) + x2)).toNatClampNeg))))
set_option maxRecDepth 100000 in
set_option maxHeartbeats 4000000 in
theorem tq_X7_again_l26 {p : Program} {l : Launch} {e : Env} {s : State} {m : MethodId} {args : Array Value} {below : List Frame} {meth : Method} {c : Code} {D : va_G} {cyI cyZ : ClassId} {ad : Nat → Nat} {Q : Int32 → gq_M → Prop} {K55 : gq_M → Prop} (C : gq_C p s m args meth c cX7_again 3 RX7 wsX7_again D (gm_T cyI cyZ) 17 ad (some .int)) (hK55 : ∀ (τ : gq_M), K55 τ → gq_G p l e rq_X7_again s m args below meth c (gq_Ri below args s D (gm_T cyI cyZ) 17 ad (gm_S cyI cyZ ad) Q) D 17 ad (gm_S cyI cyZ ad) 3 τ 55 [(0, .ref (ad 0))] []) : ∀ (n : Nat) (x1 : Int32) (x2 : Int32) (σ : gq_M), wq_X7_again_l26 Q K55 n x1 x2 σ → gq_G p l e rq_X7_again s m args below meth c (gq_Ri below args s D (gm_T cyI cyZ) 17 ad (gm_S cyI cyZ ad) Q) D 17 ad (gm_S cyI cyZ ad) 3 σ 26 [(0, .ref (ad 0)), (1, .int x1), (2, .int x2)] [] := by
  intro n
  induction n with
  | zero =>
    intro x1 x2 σ h
    exact absurd h (fun q => q)
  | succ n ih =>
    intro x1 x2 σ h
    unfold wq_X7_again_l26 at h
    refine gq_iload_n (j := 2) C dX7_again_26 rfl ?_
    refine gq_bipush (v := 14) C dX7_again_27 (by decide) ?_
    refine gq_icmp_ge (tgt := 55) C dX7_again_29 (by decide) (fun c5 => ?_) (fun c5 => ?_)
    · have h := h.1 c5
      refine gq_sub [0] rfl ?_
      exact hK55  _ h
    · have h := h.2 c5
      refine gq_aload_n (j := 0) C dX7_again_32 rfl ?_
      refine gq_get (v := .ref (ad 5)) (i := 0) C gms_0 rfl iq_X7_again_X7 6 (by decide) fq_X7_again_22 rfl dX7_again_33 ?_
      refine gq_iload_n (j := 2) C dX7_again_36 rfl ?_
      refine gq_aload_n (j := 0) C dX7_again_37 rfl ?_
      refine gq_get (v := .ref (ad 16)) (i := 0) C gms_0 rfl iq_X7_again_X7 29 (by decide) fq_X7_again_56 rfl dX7_again_38 ?_
      refine gq_bipush (v := 14) C dX7_again_41 (by decide) ?_
      refine gq_iload_n (j := 1) C dX7_again_43 rfl ?_
      refine gq_imul C dX7_again_44 ?_
      refine gq_iload_n (j := 2) C dX7_again_45 rfl ?_
      refine gq_iadd C dX7_again_46 ?_
      refine gq_iald (i := 16) (j := (((14 * x1) + x2)).toNatClampNeg) C gms_16 0 rfl rfl h.1 dX7_again_47 ?_
      have h := h.2
      refine gq_iast (i := 5) (j := x2.toNatClampNeg) C gms_5 0 rfl rfl h.1 dX7_again_48 ?_
      have h := h.2
      obtain ⟨v6, qv6⟩ : ∃ y : Int32, y = (x2 + 1) := ⟨_, rfl⟩
      have h := h v6 qv6
      refine gq_iinc (j := 2) (v := v6) (L' := [(0, .ref (ad 0)), (1, .int x1), (2, .int v6)]) C [1, 2, 0] dX7_again_49 rfl (by rw [qv6]; rfl) (by decide) rfl ?_
      refine gq_goto (tgt := 26) C dX7_again_52 (by decide) ?_
      exact ih _ _ _ h
def wq_X7_again (a1 : Int32) (σ : gq_M) (Q : Int32 → gq_M → Prop) : Prop := wq_X7_in a1.toInt64 0 1 σ (fun r1 σ2 => ((¬ r1 = 0 → vp_in a1 2 ∧ ((¬ (σ2.1 15 a1.toNatClampNeg) = 0 → (∃ n8, wq_X7_again_l26 Q (fun σ7 => Q ((gq_put σ7 0 16 0).1 5 13) (gq_put σ7 0 16 0)) n8 a1 0 σ2)) ∧ ((σ2.1 15 a1.toNatClampNeg) = 0 → Q (-3) σ2))) ∧ (r1 = 0 → Q (-1) σ2)))
set_option maxRecDepth 100000 in
set_option maxHeartbeats 4000000 in
theorem tq_X7_again {p : Program} {l : Launch} {e : Env} {s : State} {m : MethodId} {args : Array Value} {below : List Frame} {meth : Method} {c : Code} {D : va_G} {cyI cyZ : ClassId} {ad : Nat → Nat} {Q : Int32 → gq_M → Prop} (C : gq_C p s m args meth c cX7_again 3 RX7 wsX7_again D (gm_T cyI cyZ) 17 ad (some .int)) (a1 : Int32) (σ : gq_M) (h : wq_X7_again a1 σ Q) : gq_G p l e rq_X7_again s m args below meth c (gq_Ri below args s D (gm_T cyI cyZ) 17 ad (gm_S cyI cyZ ad) Q) D 17 ad (gm_S cyI cyZ ad) 3 σ 0 [(0, .ref (ad 0)), (1, .int a1)] [] := by
  unfold wq_X7_again at h
  refine gq_iload_n (j := 1) C dX7_again_0 rfl ?_
  refine gq_i2l C dX7_again_1 ?_
  refine gq_lconst (v := 0) C dX7_again_2 (by decide) ?_
  refine gq_lconst (v := 1) C dX7_again_3 (by decide) ?_
  refine gq_si C [.long a1.toInt64, .long 0, .long 1] (mq_X7_in C.2.2.1 a1.toInt64 0 1 σ _ h) gX7_again_X7_in rfl dq_X7_in ⟨rfl, rfl, by decide, by decide⟩ rfl rfl (Nat.le_of_ble_eq_true rfl) dX7_again_4 (fun r1 σ2 h => ?_)
  refine gq_if_ne (tgt := 12) C dX7_again_7 (by decide) (fun c3 => ?_) (fun c3 => ?_)
  · have h := h.1 c3
    refine gq_aload_n (j := 0) C dX7_again_12 rfl ?_
    refine gq_get (v := .ref (ad 15)) (i := 0) C gms_0 rfl iq_X7_again_X7 28 (by decide) fq_X7_again_52 rfl dX7_again_13 ?_
    refine gq_iload_n (j := 1) C dX7_again_16 rfl ?_
    refine gq_zald (i := 15) (j := a1.toNatClampNeg) C gms_15 1 rfl rfl h.1 dX7_again_17 ?_
    have h := h.2
    refine gq_if_ne (tgt := 24) C dX7_again_18 (by decide) (fun c4 => ?_) (fun c4 => ?_)
    · have h := h.1 c4
      refine gq_iconst (v := 0) C dX7_again_24 (by decide) ?_
      refine gq_istore_n (L' := [(0, .ref (ad 0)), (1, .int a1), (2, .int 0)]) C [1, 2, 0] dX7_again_25 (by decide) rfl ?_
      obtain ⟨n8, h⟩ := h
      refine tq_X7_again_l26 C (fun σ7 h => ?_) n8 _ _ _ h
      refine gq_aload_n (j := 0) C dX7_again_55 rfl ?_
      refine gq_iconst (v := 0) C dX7_again_56 (by decide) ?_
      refine gq_puti (i := 0) C gms_0 rfl iq_X7_again_X7 tyX7 tyX7_ok nmX7 16 (by decide) fq_X7_again_102 rfl rfl rfl (fun _ _ => Nat.le_of_ble_eq_true rfl) gs_X7_16 dX7_again_57 ?_
      refine gq_aload_n (j := 0) C dX7_again_60 rfl ?_
      refine gq_get (v := .ref (ad 5)) (i := 0) C gms_0 rfl iq_X7_again_X7 6 (by decide) fq_X7_again_22 rfl dX7_again_61 ?_
      refine gq_bipush (v := 13) C dX7_again_64 (by decide) ?_
      refine gq_iald (i := 5) (j := 13) C gms_5 0 rfl (by decide) (vp_in_iff.mpr ⟨by decide, by decide⟩) dX7_again_66 ?_
      exact gq_iret C h dX7_again_67
    · have h := h.2 c4
      refine gq_bipush (v := (-3)) C dX7_again_21 (by decide) ?_
      exact gq_iret C h dX7_again_23
  · have h := h.2 c3
    refine gq_iconst (v := (-1)) C dX7_again_10 (by decide) ?_
    exact gq_iret C h dX7_again_11
theorem mq_X7_again {l : Launch} {D : va_G} {cyI cyZ : ClassId} {ad : Nat → Nat} (hap : gq_ap 17 ad) (a1 : Int32) (σ : gq_M) (Q : Int32 → gq_M → Prop) (h : wq_X7_again a1 σ Q) : Met l yX7_again wsX7_again rq_X7_again (va_Pc [.ref (ad 0), .int a1] (gq_P D (gm_T cyI cyZ) 17 ad (gm_S cyI cyZ ad) σ)) (va_Qi Q (gq_P D (gm_T cyI cyZ) 17 ad (gm_S cyI cyZ ad)) (gq_A 17 ad)) 0 0 (gq_A 17 ad) :=
  gq_met hap (by decide) rfl rfl (Nat.le_of_ble_eq_true rfl) (fun _ _ _ _ _ _ _ C => tq_X7_again C a1 σ h)
abbrev rq_X7_placesOf : Room := { frames := 0, cells := 0, slots := 0, locals := 0 }
theorem dq_X7_placesOf : gq_dsc yX7_placesOf 0 := by unfold gq_dsc; decide +kernel
theorem iq_X7_placesOf_X7 : ∀ w ∈ u_ws RX7 TX7 30, w ∈ wsX7_placesOf := by decide +kernel
theorem fq_X7_placesOf_96 : Cond.fieldLink RX7 96 (TX7 1).1 (TX7 1).2.1 (TX7 1).2.2.1 ∈ wsX7_placesOf := by decide +kernel
theorem fq_X7_placesOf_22 : Cond.fieldLink RX7 22 (TX7 6).1 (TX7 6).2.1 (TX7 6).2.2.1 ∈ wsX7_placesOf := by decide +kernel
def wq_X7_placesOf_l4 (Q : Int32 → gq_M → Prop) (K29 : Int32 → gq_M → Prop) : Nat → Int32 → Int32 → gq_M → Prop
  | 0, _, _, _ => False
  | n + 1, x1, x2, σ => (((σ.1 0 1) ≤ x2 → K29 x1 σ) ∧ (¬ (σ.1 0 1) ≤ x2 → vp_in x2 28 ∧ ∀ v2, v2 = (x1 ||| ((1 : Int32) <<< ((σ.1 5 x2.toNatClampNeg) &&& 31))) → ∀ v3, v3 = (x2 + 1) → wq_X7_placesOf_l4 Q K29 n v2 v3 σ))
set_option maxRecDepth 100000 in
set_option maxHeartbeats 4000000 in
theorem tq_X7_placesOf_l4 {p : Program} {l : Launch} {e : Env} {s : State} {m : MethodId} {args : Array Value} {below : List Frame} {meth : Method} {c : Code} {D : va_G} {cyI cyZ : ClassId} {ad : Nat → Nat} {Q : Int32 → gq_M → Prop} {K29 : Int32 → gq_M → Prop} (C : gq_C p s m args meth c cX7_placesOf 3 RX7 wsX7_placesOf D (gm_T cyI cyZ) 17 ad (some .int)) (hK29 : ∀ (y1 : Int32) (τ : gq_M), K29 y1 τ → gq_G p l e rq_X7_placesOf s m args below meth c (gq_Ri below args s D (gm_T cyI cyZ) 17 ad (gm_S cyI cyZ ad) Q) D 17 ad (gm_S cyI cyZ ad) 3 τ 29 [(0, .ref (ad 0)), (1, .int y1)] []) : ∀ (n : Nat) (x1 : Int32) (x2 : Int32) (σ : gq_M), wq_X7_placesOf_l4 Q K29 n x1 x2 σ → gq_G p l e rq_X7_placesOf s m args below meth c (gq_Ri below args s D (gm_T cyI cyZ) 17 ad (gm_S cyI cyZ ad) Q) D 17 ad (gm_S cyI cyZ ad) 3 σ 4 [(0, .ref (ad 0)), (1, .int x1), (2, .int x2)] [] := by
  intro n
  induction n with
  | zero =>
    intro x1 x2 σ h
    exact absurd h (fun q => q)
  | succ n ih =>
    intro x1 x2 σ h
    unfold wq_X7_placesOf_l4 at h
    refine gq_iload_n (j := 2) C dX7_placesOf_4 rfl ?_
    refine gq_aload_n (j := 0) C dX7_placesOf_5 rfl ?_
    refine gq_get (v := .int (σ.1 0 1)) (i := 0) C gms_0 rfl iq_X7_placesOf_X7 1 (by decide) fq_X7_placesOf_96 rfl dX7_placesOf_6 ?_
    refine gq_icmp_ge (tgt := 29) C dX7_placesOf_9 (by decide) (fun c1 => ?_) (fun c1 => ?_)
    · have h := h.1 c1
      refine gq_sub [0, 1] rfl ?_
      exact hK29 _ _ h
    · have h := h.2 c1
      refine gq_iload_n (j := 1) C dX7_placesOf_12 rfl ?_
      refine gq_iconst (v := 1) C dX7_placesOf_13 (by decide) ?_
      refine gq_aload_n (j := 0) C dX7_placesOf_14 rfl ?_
      refine gq_get (v := .ref (ad 5)) (i := 0) C gms_0 rfl iq_X7_placesOf_X7 6 (by decide) fq_X7_placesOf_22 rfl dX7_placesOf_15 ?_
      refine gq_iload_n (j := 2) C dX7_placesOf_18 rfl ?_
      refine gq_iald (i := 5) (j := x2.toNatClampNeg) C gms_5 0 rfl rfl h.1 dX7_placesOf_19 ?_
      have h := h.2
      refine gq_ishl C dX7_placesOf_20 ?_
      refine gq_ior C dX7_placesOf_21 ?_
      refine gq_topi (fun v2 qv2 => ?_)
      have h := h v2 qv2
      refine gq_istore_n (L' := [(0, .ref (ad 0)), (1, .int v2), (2, .int x2)]) C [1, 0, 2] dX7_placesOf_22 (by decide) rfl ?_
      obtain ⟨v3, qv3⟩ : ∃ y : Int32, y = (x2 + 1) := ⟨_, rfl⟩
      have h := h v3 qv3
      refine gq_iinc (j := 2) (v := v3) (L' := [(0, .ref (ad 0)), (1, .int v2), (2, .int v3)]) C [1, 2, 0] dX7_placesOf_23 rfl (by rw [qv3]; rfl) (by decide) rfl ?_
      refine gq_goto (tgt := 4) C dX7_placesOf_26 (by decide) ?_
      exact ih _ _ _ h
def wq_X7_placesOf (σ : gq_M) (Q : Int32 → gq_M → Prop) : Prop := (∃ n6, wq_X7_placesOf_l4 Q (fun e4 σ5 => Q e4 σ5) n6 0 0 σ)
set_option maxRecDepth 100000 in
set_option maxHeartbeats 4000000 in
theorem tq_X7_placesOf {p : Program} {l : Launch} {e : Env} {s : State} {m : MethodId} {args : Array Value} {below : List Frame} {meth : Method} {c : Code} {D : va_G} {cyI cyZ : ClassId} {ad : Nat → Nat} {Q : Int32 → gq_M → Prop} (C : gq_C p s m args meth c cX7_placesOf 3 RX7 wsX7_placesOf D (gm_T cyI cyZ) 17 ad (some .int)) (σ : gq_M) (h : wq_X7_placesOf σ Q) : gq_G p l e rq_X7_placesOf s m args below meth c (gq_Ri below args s D (gm_T cyI cyZ) 17 ad (gm_S cyI cyZ ad) Q) D 17 ad (gm_S cyI cyZ ad) 3 σ 0 [(0, .ref (ad 0))] [] := by
  unfold wq_X7_placesOf at h
  refine gq_iconst (v := 0) C dX7_placesOf_0 (by decide) ?_
  refine gq_istore_n (L' := [(0, .ref (ad 0)), (1, .int 0)]) C [1, 0] dX7_placesOf_1 (by decide) rfl ?_
  refine gq_iconst (v := 0) C dX7_placesOf_2 (by decide) ?_
  refine gq_istore_n (L' := [(0, .ref (ad 0)), (1, .int 0), (2, .int 0)]) C [1, 2, 0] dX7_placesOf_3 (by decide) rfl ?_
  obtain ⟨n6, h⟩ := h
  refine tq_X7_placesOf_l4 C (fun e4 σ5 h => ?_) n6 _ _ _ h
  refine gq_iload_n (j := 1) C dX7_placesOf_29 rfl ?_
  exact gq_iret C h dX7_placesOf_30
theorem mq_X7_placesOf {l : Launch} {D : va_G} {cyI cyZ : ClassId} {ad : Nat → Nat} (hap : gq_ap 17 ad) (σ : gq_M) (Q : Int32 → gq_M → Prop) (h : wq_X7_placesOf σ Q) : Met l yX7_placesOf wsX7_placesOf rq_X7_placesOf (va_Pc [.ref (ad 0)] (gq_P D (gm_T cyI cyZ) 17 ad (gm_S cyI cyZ ad) σ)) (va_Qi Q (gq_P D (gm_T cyI cyZ) 17 ad (gm_S cyI cyZ ad)) (gq_A 17 ad)) 0 0 (gq_A 17 ad) :=
  gq_met hap (by decide) rfl rfl (Nat.le_of_ble_eq_true rfl) (fun _ _ _ _ _ _ _ C => tq_X7_placesOf C σ h)
abbrev rq_X7_windOfAll : Room := { frames := 0, cells := 0, slots := 0, locals := 0 }
theorem dq_X7_windOfAll : gq_dsc yX7_windOfAll 0 := by unfold gq_dsc; decide +kernel
theorem iq_X7_windOfAll_X7 : ∀ w ∈ u_ws RX7 TX7 30, w ∈ wsX7_windOfAll := by decide +kernel
theorem fq_X7_windOfAll_96 : Cond.fieldLink RX7 96 (TX7 1).1 (TX7 1).2.1 (TX7 1).2.2.1 ∈ wsX7_windOfAll := by decide +kernel
theorem fq_X7_windOfAll_22 : Cond.fieldLink RX7 22 (TX7 6).1 (TX7 6).2.1 (TX7 6).2.2.1 ∈ wsX7_windOfAll := by decide +kernel
def wq_X7_windOfAll_l4 (Q : Int32 → gq_M → Prop) (K29 : Int32 → gq_M → Prop) : Nat → Int32 → Int32 → gq_M → Prop
  | 0, _, _, _ => False
  | n + 1, x1, x2, σ => (((σ.1 0 1) ≤ x2 → K29 x1 σ) ∧ (¬ (σ.1 0 1) ≤ x2 → vp_in (5 + x2) 28 ∧ ∀ v2, v2 = (x1 + (σ.1 5 ((5 + x2)).toNatClampNeg)) → ∀ v3, v3 = (x2 + 1) → wq_X7_windOfAll_l4 Q K29 n v2 v3 σ))
set_option maxRecDepth 100000 in
set_option maxHeartbeats 4000000 in
theorem tq_X7_windOfAll_l4 {p : Program} {l : Launch} {e : Env} {s : State} {m : MethodId} {args : Array Value} {below : List Frame} {meth : Method} {c : Code} {D : va_G} {cyI cyZ : ClassId} {ad : Nat → Nat} {Q : Int32 → gq_M → Prop} {K29 : Int32 → gq_M → Prop} (C : gq_C p s m args meth c cX7_windOfAll 3 RX7 wsX7_windOfAll D (gm_T cyI cyZ) 17 ad (some .int)) (hK29 : ∀ (y1 : Int32) (τ : gq_M), K29 y1 τ → gq_G p l e rq_X7_windOfAll s m args below meth c (gq_Ri below args s D (gm_T cyI cyZ) 17 ad (gm_S cyI cyZ ad) Q) D 17 ad (gm_S cyI cyZ ad) 3 τ 29 [(0, .ref (ad 0)), (1, .int y1)] []) : ∀ (n : Nat) (x1 : Int32) (x2 : Int32) (σ : gq_M), wq_X7_windOfAll_l4 Q K29 n x1 x2 σ → gq_G p l e rq_X7_windOfAll s m args below meth c (gq_Ri below args s D (gm_T cyI cyZ) 17 ad (gm_S cyI cyZ ad) Q) D 17 ad (gm_S cyI cyZ ad) 3 σ 4 [(0, .ref (ad 0)), (1, .int x1), (2, .int x2)] [] := by
  intro n
  induction n with
  | zero =>
    intro x1 x2 σ h
    exact absurd h (fun q => q)
  | succ n ih =>
    intro x1 x2 σ h
    unfold wq_X7_windOfAll_l4 at h
    refine gq_iload_n (j := 2) C dX7_windOfAll_4 rfl ?_
    refine gq_aload_n (j := 0) C dX7_windOfAll_5 rfl ?_
    refine gq_get (v := .int (σ.1 0 1)) (i := 0) C gms_0 rfl iq_X7_windOfAll_X7 1 (by decide) fq_X7_windOfAll_96 rfl dX7_windOfAll_6 ?_
    refine gq_icmp_ge (tgt := 29) C dX7_windOfAll_9 (by decide) (fun c1 => ?_) (fun c1 => ?_)
    · have h := h.1 c1
      refine gq_sub [0, 1] rfl ?_
      exact hK29 _ _ h
    · have h := h.2 c1
      refine gq_iload_n (j := 1) C dX7_windOfAll_12 rfl ?_
      refine gq_aload_n (j := 0) C dX7_windOfAll_13 rfl ?_
      refine gq_get (v := .ref (ad 5)) (i := 0) C gms_0 rfl iq_X7_windOfAll_X7 6 (by decide) fq_X7_windOfAll_22 rfl dX7_windOfAll_14 ?_
      refine gq_iconst (v := 5) C dX7_windOfAll_17 (by decide) ?_
      refine gq_iload_n (j := 2) C dX7_windOfAll_18 rfl ?_
      refine gq_iadd C dX7_windOfAll_19 ?_
      refine gq_iald (i := 5) (j := ((5 + x2)).toNatClampNeg) C gms_5 0 rfl rfl h.1 dX7_windOfAll_20 ?_
      have h := h.2
      refine gq_iadd C dX7_windOfAll_21 ?_
      refine gq_topi (fun v2 qv2 => ?_)
      have h := h v2 qv2
      refine gq_istore_n (L' := [(0, .ref (ad 0)), (1, .int v2), (2, .int x2)]) C [1, 0, 2] dX7_windOfAll_22 (by decide) rfl ?_
      obtain ⟨v3, qv3⟩ : ∃ y : Int32, y = (x2 + 1) := ⟨_, rfl⟩
      have h := h v3 qv3
      refine gq_iinc (j := 2) (v := v3) (L' := [(0, .ref (ad 0)), (1, .int v2), (2, .int v3)]) C [1, 2, 0] dX7_windOfAll_23 rfl (by rw [qv3]; rfl) (by decide) rfl ?_
      refine gq_goto (tgt := 4) C dX7_windOfAll_26 (by decide) ?_
      exact ih _ _ _ h
def wq_X7_windOfAll (σ : gq_M) (Q : Int32 → gq_M → Prop) : Prop := (∃ n6, wq_X7_windOfAll_l4 Q (fun e4 σ5 => Q e4 σ5) n6 0 0 σ)
set_option maxRecDepth 100000 in
set_option maxHeartbeats 4000000 in
theorem tq_X7_windOfAll {p : Program} {l : Launch} {e : Env} {s : State} {m : MethodId} {args : Array Value} {below : List Frame} {meth : Method} {c : Code} {D : va_G} {cyI cyZ : ClassId} {ad : Nat → Nat} {Q : Int32 → gq_M → Prop} (C : gq_C p s m args meth c cX7_windOfAll 3 RX7 wsX7_windOfAll D (gm_T cyI cyZ) 17 ad (some .int)) (σ : gq_M) (h : wq_X7_windOfAll σ Q) : gq_G p l e rq_X7_windOfAll s m args below meth c (gq_Ri below args s D (gm_T cyI cyZ) 17 ad (gm_S cyI cyZ ad) Q) D 17 ad (gm_S cyI cyZ ad) 3 σ 0 [(0, .ref (ad 0))] [] := by
  unfold wq_X7_windOfAll at h
  refine gq_iconst (v := 0) C dX7_windOfAll_0 (by decide) ?_
  refine gq_istore_n (L' := [(0, .ref (ad 0)), (1, .int 0)]) C [1, 0] dX7_windOfAll_1 (by decide) rfl ?_
  refine gq_iconst (v := 0) C dX7_windOfAll_2 (by decide) ?_
  refine gq_istore_n (L' := [(0, .ref (ad 0)), (1, .int 0), (2, .int 0)]) C [1, 2, 0] dX7_windOfAll_3 (by decide) rfl ?_
  obtain ⟨n6, h⟩ := h
  refine tq_X7_windOfAll_l4 C (fun e4 σ5 h => ?_) n6 _ _ _ h
  refine gq_iload_n (j := 1) C dX7_windOfAll_29 rfl ?_
  exact gq_iret C h dX7_windOfAll_30
theorem mq_X7_windOfAll {l : Launch} {D : va_G} {cyI cyZ : ClassId} {ad : Nat → Nat} (hap : gq_ap 17 ad) (σ : gq_M) (Q : Int32 → gq_M → Prop) (h : wq_X7_windOfAll σ Q) : Met l yX7_windOfAll wsX7_windOfAll rq_X7_windOfAll (va_Pc [.ref (ad 0)] (gq_P D (gm_T cyI cyZ) 17 ad (gm_S cyI cyZ ad) σ)) (va_Qi Q (gq_P D (gm_T cyI cyZ) 17 ad (gm_S cyI cyZ ad)) (gq_A 17 ad)) 0 0 (gq_A 17 ad) :=
  gq_met hap (by decide) rfl rfl (Nat.le_of_ble_eq_true rfl) (fun _ _ _ _ _ _ _ C => tq_X7_windOfAll C σ h)
abbrev rq_X7_count : Room := { frames := 1, cells := 0, slots := 0, locals := 22 }
theorem dq_X7_count : gq_dsc yX7_count 1 := by unfold gq_dsc; decide +kernel
theorem iq_X7_count_X7 : ∀ w ∈ u_ws RX7 TX7 30, w ∈ wsX7_count := by decide +kernel
theorem fq_X7_count_65 : Cond.fieldLink RX7 65 (TX7 12).1 (TX7 12).2.1 (TX7 12).2.2.1 ∈ wsX7_count := by decide +kernel
theorem fq_X7_count_93 : Cond.fieldLink RX7 93 (TX7 0).1 (TX7 0).2.1 (TX7 0).2.2.1 ∈ wsX7_count := by decide +kernel
theorem fq_X7_count_96 : Cond.fieldLink RX7 96 (TX7 1).1 (TX7 1).2.1 (TX7 1).2.2.1 ∈ wsX7_count := by decide +kernel
theorem fq_X7_count_22 : Cond.fieldLink RX7 22 (TX7 6).1 (TX7 6).2.1 (TX7 6).2.2.1 ∈ wsX7_count := by decide +kernel
theorem fq_X7_count_102 : Cond.fieldLink RX7 102 (TX7 16).1 (TX7 16).2.1 (TX7 16).2.2.1 ∈ wsX7_count := by decide +kernel
theorem fq_X7_count_209 : Cond.fieldLink RX7 209 (TX7 23).1 (TX7 23).2.1 (TX7 23).2.2.1 ∈ wsX7_count := by decide +kernel
def wq_X7_count (a1 : Int32) (σ : gq_M) (Q : Int32 → gq_M → Prop) : Prop := ((a1 = 0 → Q (σ.1 0 12) σ) ∧ (¬ a1 = 0 → ((a1 = 1 → Q (σ.1 0 0) σ) ∧ (¬ a1 = 1 → ((a1 = 2 → Q (σ.1 0 1) σ) ∧ (¬ a1 = 2 → ((a1 = 3 → Q (σ.1 5 13) σ) ∧ (¬ a1 = 3 → ((a1 = 4 → Q (σ.1 5 12) σ) ∧ (¬ a1 = 4 → ((a1 = 5 → Q (σ.1 5 10) σ) ∧ (¬ a1 = 5 → ((a1 = 6 → ((¬ (σ.1 5 11) = 0 → Q ((1 : Int32) <<< (((σ.1 5 11) - 1) &&& 31)) σ) ∧ ((σ.1 5 11) = 0 → Q 0 σ))) ∧ (¬ a1 = 6 → ((a1 = 7 → wq_X7_placesOf σ (fun r10 σ11 => Q r10 σ11)) ∧ (¬ a1 = 7 → ((a1 = 8 → wq_X7_windOfAll σ (fun r13 σ14 => Q r13 σ14)) ∧ (¬ a1 = 8 → ((a1 = 9 → Q (σ.1 0 16) σ) ∧ (¬ a1 = 9 → ((a1 = 10 → Q (σ.1 0 23) σ) ∧ (¬ a1 = 10 → Q (-2) σ))))))))))))))))))))))
set_option maxRecDepth 100000 in
set_option maxHeartbeats 4000000 in
theorem tq_X7_count {p : Program} {l : Launch} {e : Env} {s : State} {m : MethodId} {args : Array Value} {below : List Frame} {meth : Method} {c : Code} {D : va_G} {cyI cyZ : ClassId} {ad : Nat → Nat} {Q : Int32 → gq_M → Prop} (C : gq_C p s m args meth c cX7_count 2 RX7 wsX7_count D (gm_T cyI cyZ) 17 ad (some .int)) (a1 : Int32) (σ : gq_M) (h : wq_X7_count a1 σ Q) : gq_G p l e rq_X7_count s m args below meth c (gq_Ri below args s D (gm_T cyI cyZ) 17 ad (gm_S cyI cyZ ad) Q) D 17 ad (gm_S cyI cyZ ad) 2 σ 0 [(0, .ref (ad 0)), (1, .int a1)] [] := by
  unfold wq_X7_count at h
  refine gq_iload_n (j := 1) C dX7_count_0 rfl ?_
  by_cases c1 : a1 = 0
  · have h := h.1 c1
    refine gq_tin (tgt := 60) C 0 dX7_count_1 (by rw [c1]; decide) (by decide) (by decide) rfl (by decide) ?_
    refine gq_aload_n (j := 0) C dX7_count_60 rfl ?_
    refine gq_get (v := .int (σ.1 0 12)) (i := 0) C gms_0 rfl iq_X7_count_X7 12 (by decide) fq_X7_count_65 rfl dX7_count_61 ?_
    exact gq_iret C h dX7_count_64
  · have h := h.2 c1
    by_cases c2 : a1 = 1
    · have h := h.1 c2
      refine gq_tin (tgt := 65) C 1 dX7_count_1 (by rw [c2]; decide) (by decide) (by decide) rfl (by decide) ?_
      refine gq_aload_n (j := 0) C dX7_count_65 rfl ?_
      refine gq_get (v := .int (σ.1 0 0)) (i := 0) C gms_0 rfl iq_X7_count_X7 0 (by decide) fq_X7_count_93 rfl dX7_count_66 ?_
      exact gq_iret C h dX7_count_69
    · have h := h.2 c2
      by_cases c3 : a1 = 2
      · have h := h.1 c3
        refine gq_tin (tgt := 70) C 2 dX7_count_1 (by rw [c3]; decide) (by decide) (by decide) rfl (by decide) ?_
        refine gq_aload_n (j := 0) C dX7_count_70 rfl ?_
        refine gq_get (v := .int (σ.1 0 1)) (i := 0) C gms_0 rfl iq_X7_count_X7 1 (by decide) fq_X7_count_96 rfl dX7_count_71 ?_
        exact gq_iret C h dX7_count_74
      · have h := h.2 c3
        by_cases c4 : a1 = 3
        · have h := h.1 c4
          refine gq_tin (tgt := 75) C 3 dX7_count_1 (by rw [c4]; decide) (by decide) (by decide) rfl (by decide) ?_
          refine gq_aload_n (j := 0) C dX7_count_75 rfl ?_
          refine gq_get (v := .ref (ad 5)) (i := 0) C gms_0 rfl iq_X7_count_X7 6 (by decide) fq_X7_count_22 rfl dX7_count_76 ?_
          refine gq_bipush (v := 13) C dX7_count_79 (by decide) ?_
          refine gq_iald (i := 5) (j := 13) C gms_5 0 rfl (by decide) (vp_in_iff.mpr ⟨by decide, by decide⟩) dX7_count_81 ?_
          exact gq_iret C h dX7_count_82
        · have h := h.2 c4
          by_cases c5 : a1 = 4
          · have h := h.1 c5
            refine gq_tin (tgt := 83) C 4 dX7_count_1 (by rw [c5]; decide) (by decide) (by decide) rfl (by decide) ?_
            refine gq_aload_n (j := 0) C dX7_count_83 rfl ?_
            refine gq_get (v := .ref (ad 5)) (i := 0) C gms_0 rfl iq_X7_count_X7 6 (by decide) fq_X7_count_22 rfl dX7_count_84 ?_
            refine gq_bipush (v := 12) C dX7_count_87 (by decide) ?_
            refine gq_iald (i := 5) (j := 12) C gms_5 0 rfl (by decide) (vp_in_iff.mpr ⟨by decide, by decide⟩) dX7_count_89 ?_
            exact gq_iret C h dX7_count_90
          · have h := h.2 c5
            by_cases c6 : a1 = 5
            · have h := h.1 c6
              refine gq_tin (tgt := 91) C 5 dX7_count_1 (by rw [c6]; decide) (by decide) (by decide) rfl (by decide) ?_
              refine gq_aload_n (j := 0) C dX7_count_91 rfl ?_
              refine gq_get (v := .ref (ad 5)) (i := 0) C gms_0 rfl iq_X7_count_X7 6 (by decide) fq_X7_count_22 rfl dX7_count_92 ?_
              refine gq_bipush (v := 10) C dX7_count_95 (by decide) ?_
              refine gq_iald (i := 5) (j := 10) C gms_5 0 rfl (by decide) (vp_in_iff.mpr ⟨by decide, by decide⟩) dX7_count_97 ?_
              exact gq_iret C h dX7_count_98
            · have h := h.2 c6
              by_cases c7 : a1 = 6
              · have h := h.1 c7
                refine gq_tin (tgt := 99) C 6 dX7_count_1 (by rw [c7]; decide) (by decide) (by decide) rfl (by decide) ?_
                refine gq_aload_n (j := 0) C dX7_count_99 rfl ?_
                refine gq_get (v := .ref (ad 5)) (i := 0) C gms_0 rfl iq_X7_count_X7 6 (by decide) fq_X7_count_22 rfl dX7_count_100 ?_
                refine gq_bipush (v := 11) C dX7_count_103 (by decide) ?_
                refine gq_iald (i := 5) (j := 11) C gms_5 0 rfl (by decide) (vp_in_iff.mpr ⟨by decide, by decide⟩) dX7_count_105 ?_
                refine gq_if_ne (tgt := 113) C dX7_count_106 (by decide) (fun c8 => ?_) (fun c8 => ?_)
                · have h := h.1 c8
                  refine gq_iconst (v := 1) C dX7_count_113 (by decide) ?_
                  refine gq_aload_n (j := 0) C dX7_count_114 rfl ?_
                  refine gq_get (v := .ref (ad 5)) (i := 0) C gms_0 rfl iq_X7_count_X7 6 (by decide) fq_X7_count_22 rfl dX7_count_115 ?_
                  refine gq_bipush (v := 11) C dX7_count_118 (by decide) ?_
                  refine gq_iald (i := 5) (j := 11) C gms_5 0 rfl (by decide) (vp_in_iff.mpr ⟨by decide, by decide⟩) dX7_count_120 ?_
                  refine gq_iconst (v := 1) C dX7_count_121 (by decide) ?_
                  refine gq_isub C dX7_count_122 ?_
                  refine gq_ishl C dX7_count_123 ?_
                  exact gq_iret C h dX7_count_124
                · have h := h.2 c8
                  refine gq_iconst (v := 0) C dX7_count_109 (by decide) ?_
                  refine gq_goto (tgt := 124) C dX7_count_110 (by decide) ?_
                  exact gq_iret C h dX7_count_124
              · have h := h.2 c7
                by_cases c9 : a1 = 7
                · have h := h.1 c9
                  refine gq_tin (tgt := 125) C 7 dX7_count_1 (by rw [c9]; decide) (by decide) (by decide) rfl (by decide) ?_
                  refine gq_aload_n (j := 0) C dX7_count_125 rfl ?_
                  refine gq_vi (i := 0) C gms_0 rfl [] (mq_X7_placesOf C.2.2.1 σ _ h) gX7_count_X7_placesOf rfl rfl dq_X7_placesOf ⟨rfl, rfl, by decide, by decide⟩ rfl rfl (Nat.le_of_ble_eq_true rfl) dX7_count_126 (fun r10 σ11 h => ?_)
                  exact gq_iret C h dX7_count_129
                · have h := h.2 c9
                  by_cases c12 : a1 = 8
                  · have h := h.1 c12
                    refine gq_tin (tgt := 130) C 8 dX7_count_1 (by rw [c12]; decide) (by decide) (by decide) rfl (by decide) ?_
                    refine gq_aload_n (j := 0) C dX7_count_130 rfl ?_
                    refine gq_vi (i := 0) C gms_0 rfl [] (mq_X7_windOfAll C.2.2.1 σ _ h) gX7_count_X7_windOfAll rfl rfl dq_X7_windOfAll ⟨rfl, rfl, by decide, by decide⟩ rfl rfl (Nat.le_of_ble_eq_true rfl) dX7_count_131 (fun r13 σ14 h => ?_)
                    exact gq_iret C h dX7_count_134
                  · have h := h.2 c12
                    by_cases c15 : a1 = 9
                    · have h := h.1 c15
                      refine gq_tin (tgt := 135) C 9 dX7_count_1 (by rw [c15]; decide) (by decide) (by decide) rfl (by decide) ?_
                      refine gq_aload_n (j := 0) C dX7_count_135 rfl ?_
                      refine gq_get (v := .int (σ.1 0 16)) (i := 0) C gms_0 rfl iq_X7_count_X7 16 (by decide) fq_X7_count_102 rfl dX7_count_136 ?_
                      exact gq_iret C h dX7_count_139
                    · have h := h.2 c15
                      by_cases c16 : a1 = 10
                      · have h := h.1 c16
                        refine gq_tin (tgt := 140) C 10 dX7_count_1 (by rw [c16]; decide) (by decide) (by decide) rfl (by decide) ?_
                        refine gq_aload_n (j := 0) C dX7_count_140 rfl ?_
                        refine gq_get (v := .int (σ.1 0 23)) (i := 0) C gms_0 rfl iq_X7_count_X7 23 (by decide) fq_X7_count_209 rfl dX7_count_141 ?_
                        exact gq_iret C h dX7_count_144
                      · have h := h.2 c16
                        refine gq_tout (tgt := 145) C dX7_count_1 (by have b0 := lv_neT (k := 0) (a := 0) c1 (by decide); have b1 := lv_neT (k := 1) (a := 1) c2 (by decide); have b2 := lv_neT (k := 2) (a := 2) c3 (by decide); have b3 := lv_neT (k := 3) (a := 3) c4 (by decide); have b4 := lv_neT (k := 4) (a := 4) c5 (by decide); have b5 := lv_neT (k := 5) (a := 5) c6 (by decide); have b6 := lv_neT (k := 6) (a := 6) c7 (by decide); have b7 := lv_neT (k := 7) (a := 7) c9 (by decide); have b8 := lv_neT (k := 8) (a := 8) c12 (by decide); have b9 := lv_neT (k := 9) (a := 9) c15 (by decide); have b10 := lv_neT (k := 10) (a := 10) c16 (by decide); omega) (by decide) ?_
                        refine gq_bipush (v := (-2)) C dX7_count_145 (by decide) ?_
                        exact gq_iret C h dX7_count_147
theorem mq_X7_count {l : Launch} {D : va_G} {cyI cyZ : ClassId} {ad : Nat → Nat} (hap : gq_ap 17 ad) (a1 : Int32) (σ : gq_M) (Q : Int32 → gq_M → Prop) (h : wq_X7_count a1 σ Q) : Met l yX7_count wsX7_count rq_X7_count (va_Pc [.ref (ad 0), .int a1] (gq_P D (gm_T cyI cyZ) 17 ad (gm_S cyI cyZ ad) σ)) (va_Qi Q (gq_P D (gm_T cyI cyZ) 17 ad (gm_S cyI cyZ ad)) (gq_A 17 ad)) 0 0 (gq_A 17 ad) :=
  gq_met hap (by decide) rfl rfl (Nat.le_of_ble_eq_true rfl) (fun _ _ _ _ _ _ _ C => tq_X7_count C a1 σ h)
