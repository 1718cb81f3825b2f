/-! ===== walks of X7_in, X7_has, X7_ones, X7_atLeast, X7_write, X7_wipe, X7_figureOf, X7_readPart, X7_readText, X7_fault, X7_smooth (by wip/gen) ===== -/
abbrev rq_X7_in : Room := { frames := 0, cells := 0, slots := 0, locals := 0 }
theorem dq_X7_in : gq_dsc yX7_in 3 := by unfold gq_dsc; decide +kernel
def wq_X7_in (a1 : Int64) (a2 : Int64) (a3 : Int64) (σ : gq_M) (Q : Int32 → gq_M → Prop) : Prop := (((lg_cmp a1 a2) < 0 → Q 0 σ) ∧ (¬ (lg_cmp a1 a2) < 0 → ((0 < (lg_cmp a1 a3) → Q 0 σ) ∧ (¬ 0 < (lg_cmp a1 a3) → Q 1 σ))))
set_option maxRecDepth 100000 in
set_option maxHeartbeats 4000000 in
theorem tq_X7_in {p : Program} {l : Launch} {e : Env} {s : State} {m : MethodId} {args : Array Value} {below : List Frame} {meth : Method} {c : Code} {D : va_G} {cyI cyZ : ClassId} {ad : Nat → Nat} {Q : Int32 → gq_M → Prop} (C : gq_C p s m args meth c cX7_in 6 RX7 wsX7_in D (gm_T cyI cyZ) 17 ad (some .boolean)) (a1 : Int64) (a2 : Int64) (a3 : Int64) (σ : gq_M) (h : wq_X7_in a1 a2 a3 σ Q) : gq_G p l e rq_X7_in s m args below meth c (gq_Ri below args s D (gm_T cyI cyZ) 17 ad (gm_S cyI cyZ ad) Q) D 17 ad (gm_S cyI cyZ ad) 6 σ 0 [(0, .long a1), (2, .long a2), (4, .long a3)] [] := by
  unfold wq_X7_in at h
  refine gq_lload_n (j := 0) C dX7_in_0 rfl ?_
  refine gq_lload_n (j := 1) C dX7_in_1 rfl ?_
  refine gq_lcmp C dX7_in_2 ?_
  refine gq_if_lt (tgt := 17) C dX7_in_3 (by decide) (fun c1 => ?_) (fun c1 => ?_)
  · have h := h.1 c1
    refine gq_iconst (v := 0) C dX7_in_17 (by decide) ?_
    exact gq_zret C (Or.inl rfl) h dX7_in_18
  · have h := h.2 c1
    refine gq_lload_n (j := 0) C dX7_in_6 rfl ?_
    refine gq_lload (j := 2) C dX7_in_7 rfl ?_
    refine gq_lcmp C dX7_in_9 ?_
    refine gq_if_gt (tgt := 17) C dX7_in_10 (by decide) (fun c2 => ?_) (fun c2 => ?_)
    · have h := h.1 c2
      refine gq_iconst (v := 0) C dX7_in_17 (by decide) ?_
      exact gq_zret C (Or.inl rfl) h dX7_in_18
    · have h := h.2 c2
      refine gq_iconst (v := 1) C dX7_in_13 (by decide) ?_
      refine gq_goto (tgt := 18) C dX7_in_14 (by decide) ?_
      exact gq_zret C (Or.inr rfl) h dX7_in_18
theorem mq_X7_in {l : Launch} {D : va_G} {cyI cyZ : ClassId} {ad : Nat → Nat} (hap : gq_ap 17 ad) (a1 : Int64) (a2 : Int64) (a3 : Int64) (σ : gq_M) (Q : Int32 → gq_M → Prop) (h : wq_X7_in a1 a2 a3 σ Q) : Met l yX7_in wsX7_in rq_X7_in (va_Pc [.long a1, .long a2, .long a3] (gq_P D (gm_T cyI cyZ) 17 ad (gm_S cyI cyZ ad) σ)) (va_Qi Q (gq_P D (gm_T cyI cyZ) 17 ad (gm_S cyI cyZ ad)) (gq_A 17 ad)) 0 0 (gq_A 17 ad) :=
  gq_met hap (by decide) rfl rfl (Nat.le_of_ble_eq_true rfl) (fun _ _ _ _ _ _ _ C => tq_X7_in C a1 a2 a3 σ h)
abbrev rq_X7_has : Room := { frames := 0, cells := 0, slots := 0, locals := 0 }
theorem dq_X7_has : gq_dsc yX7_has 2 := by unfold gq_dsc; decide +kernel
def wq_X7_has (a1 : Int32) (a2 : Int32) (σ : gq_M) (Q : Int32 → gq_M → Prop) : Prop := ((¬ ((a1 >>> (a2 &&& 31)) &&& 1) = 1 → Q 0 σ) ∧ (((a1 >>> (a2 &&& 31)) &&& 1) = 1 → Q 1 σ))
set_option maxRecDepth 100000 in
set_option maxHeartbeats 4000000 in
theorem tq_X7_has {p : Program} {l : Launch} {e : Env} {s : State} {m : MethodId} {args : Array Value} {below : List Frame} {meth : Method} {c : Code} {D : va_G} {cyI cyZ : ClassId} {ad : Nat → Nat} {Q : Int32 → gq_M → Prop} (C : gq_C p s m args meth c cX7_has 2 RX7 wsX7_has D (gm_T cyI cyZ) 17 ad (some .boolean)) (a1 : Int32) (a2 : Int32) (σ : gq_M) (h : wq_X7_has a1 a2 σ Q) : gq_G p l e rq_X7_has s m args below meth c (gq_Ri below args s D (gm_T cyI cyZ) 17 ad (gm_S cyI cyZ ad) Q) D 17 ad (gm_S cyI cyZ ad) 2 σ 0 [(0, .int a1), (1, .int a2)] [] := by
  unfold wq_X7_has at h
  refine gq_iload_n (j := 0) C dX7_has_0 rfl ?_
  refine gq_iload_n (j := 1) C dX7_has_1 rfl ?_
  refine gq_ishr C dX7_has_2 ?_
  refine gq_iconst (v := 1) C dX7_has_3 (by decide) ?_
  refine gq_iand C dX7_has_4 ?_
  refine gq_iconst (v := 1) C dX7_has_5 (by decide) ?_
  refine gq_icmp_ne (tgt := 13) C dX7_has_6 (by decide) (fun c1 => ?_) (fun c1 => ?_)
  · have h := h.1 c1
    refine gq_iconst (v := 0) C dX7_has_13 (by decide) ?_
    exact gq_zret C (Or.inl rfl) h dX7_has_14
  · have h := h.2 c1
    refine gq_iconst (v := 1) C dX7_has_9 (by decide) ?_
    refine gq_goto (tgt := 14) C dX7_has_10 (by decide) ?_
    exact gq_zret C (Or.inr rfl) h dX7_has_14
theorem mq_X7_has {l : Launch} {D : va_G} {cyI cyZ : ClassId} {ad : Nat → Nat} (hap : gq_ap 17 ad) (a1 : Int32) (a2 : Int32) (σ : gq_M) (Q : Int32 → gq_M → Prop) (h : wq_X7_has a1 a2 σ Q) : Met l yX7_has wsX7_has rq_X7_has (va_Pc [.int a1, .int a2] (gq_P D (gm_T cyI cyZ) 17 ad (gm_S cyI cyZ ad) σ)) (va_Qi Q (gq_P D (gm_T cyI cyZ) 17 ad (gm_S cyI cyZ ad)) (gq_A 17 ad)) 0 0 (gq_A 17 ad) :=
  gq_met hap (by decide) rfl rfl (Nat.le_of_ble_eq_true rfl) (fun _ _ _ _ _ _ _ C => tq_X7_has C a1 a2 σ h)
abbrev rq_X7_ones : Room := { frames := 0, cells := 0, slots := 0, locals := 0 }
theorem dq_X7_ones : gq_dsc yX7_ones 1 := by unfold gq_dsc; decide +kernel
def wq_X7_ones_l4 (Q : Int32 → gq_M → Prop) (K24 : Int32 → gq_M → Prop) : Nat → Int32 → Int32 → Int32 → gq_M → Prop
  | 0, _, _, _, _ => False
  | n + 1, x0, x1, x2, σ => ((11 ≤ x2 → K24 x1 σ) ∧ (¬ 11 ≤ x2 → ∀ v2, v2 = (x1 + ((x0 >>> (x2 &&& 31)) &&& 1)) → ∀ v3, v3 = (x2 + 1) → wq_X7_ones_l4 Q K24 n x0 v2 v3 σ))
set_option maxRecDepth 100000 in
set_option maxHeartbeats 4000000 in
theorem tq_X7_ones_l4 {p : Program} {l : Launch} {e : Env} {s : State} {m : MethodId} {args : Array Value} {below : List Frame} {meth : Method} {c : Code} {D : va_G} {cyI cyZ : ClassId} {ad : Nat → Nat} {Q : Int32 → gq_M → Prop} {K24 : Int32 → gq_M → Prop} (C : gq_C p s m args meth c cX7_ones 3 RX7 wsX7_ones D (gm_T cyI cyZ) 17 ad (some .int)) (hK24 : ∀ (y1 : Int32) (τ : gq_M), K24 y1 τ → gq_G p l e rq_X7_ones s m args below meth c (gq_Ri below args s D (gm_T cyI cyZ) 17 ad (gm_S cyI cyZ ad) Q) D 17 ad (gm_S cyI cyZ ad) 3 τ 24 [(1, .int y1)] []) : ∀ (n : Nat) (x0 : Int32) (x1 : Int32) (x2 : Int32) (σ : gq_M), wq_X7_ones_l4 Q K24 n x0 x1 x2 σ → gq_G p l e rq_X7_ones s m args below meth c (gq_Ri below args s D (gm_T cyI cyZ) 17 ad (gm_S cyI cyZ ad) Q) D 17 ad (gm_S cyI cyZ ad) 3 σ 4 [(0, .int x0), (1, .int x1), (2, .int x2)] [] := by
  intro n
  induction n with
  | zero =>
    intro x0 x1 x2 σ h
    exact absurd h (fun q => q)
  | succ n ih =>
    intro x0 x1 x2 σ h
    unfold wq_X7_ones_l4 at h
    refine gq_iload_n (j := 2) C dX7_ones_4 rfl ?_
    refine gq_bipush (v := 11) C dX7_ones_5 (by decide) ?_
    refine gq_icmp_ge (tgt := 24) C dX7_ones_7 (by decide) (fun c1 => ?_) (fun c1 => ?_)
    · have h := h.1 c1
      refine gq_sub [1] rfl ?_
      exact hK24 _ _ h
    · have h := h.2 c1
      refine gq_iload_n (j := 1) C dX7_ones_10 rfl ?_
      refine gq_iload_n (j := 0) C dX7_ones_11 rfl ?_
      refine gq_iload_n (j := 2) C dX7_ones_12 rfl ?_
      refine gq_ishr C dX7_ones_13 ?_
      refine gq_iconst (v := 1) C dX7_ones_14 (by decide) ?_
      refine gq_iand C dX7_ones_15 ?_
      refine gq_iadd C dX7_ones_16 ?_
      refine gq_topi (fun v2 qv2 => ?_)
      have h := h v2 qv2
      refine gq_istore_n (L' := [(0, .int x0), (1, .int v2), (2, .int x2)]) C [1, 0, 2] dX7_ones_17 (by decide) rfl ?_
      obtain ⟨v3, qv3⟩ : ∃ y : Int32, y = (x2 + 1) := ⟨_, rfl⟩
      have h := h v3 qv3
      refine gq_iinc (j := 2) (v := v3) (L' := [(0, .int x0), (1, .int v2), (2, .int v3)]) C [1, 2, 0] dX7_ones_18 rfl (by rw [qv3]; rfl) (by decide) rfl ?_
      refine gq_goto (tgt := 4) C dX7_ones_21 (by decide) ?_
      exact ih _ _ _ _ h
def wq_X7_ones (a1 : Int32) (σ : gq_M) (Q : Int32 → gq_M → Prop) : Prop := (∃ n6, wq_X7_ones_l4 Q (fun e4 σ5 => Q e4 σ5) n6 a1 0 0 σ)
set_option maxRecDepth 100000 in
set_option maxHeartbeats 4000000 in
theorem tq_X7_ones {p : Program} {l : Launch} {e : Env} {s : State} {m : MethodId} {args : Array Value} {below : List Frame} {meth : Method} {c : Code} {D : va_G} {cyI cyZ : ClassId} {ad : Nat → Nat} {Q : Int32 → gq_M → Prop} (C : gq_C p s m args meth c cX7_ones 3 RX7 wsX7_ones D (gm_T cyI cyZ) 17 ad (some .int)) (a1 : Int32) (σ : gq_M) (h : wq_X7_ones a1 σ Q) : gq_G p l e rq_X7_ones s m args below meth c (gq_Ri below args s D (gm_T cyI cyZ) 17 ad (gm_S cyI cyZ ad) Q) D 17 ad (gm_S cyI cyZ ad) 3 σ 0 [(0, .int a1)] [] := by
  unfold wq_X7_ones at h
  refine gq_iconst (v := 0) C dX7_ones_0 (by decide) ?_
  refine gq_istore_n (L' := [(0, .int a1), (1, .int 0)]) C [1, 0] dX7_ones_1 (by decide) rfl ?_
  refine gq_iconst (v := 0) C dX7_ones_2 (by decide) ?_
  refine gq_istore_n (L' := [(0, .int a1), (1, .int 0), (2, .int 0)]) C [1, 2, 0] dX7_ones_3 (by decide) rfl ?_
  obtain ⟨n6, h⟩ := h
  refine tq_X7_ones_l4 C (fun e4 σ5 h => ?_) n6 _ _ _ _ h
  refine gq_iload_n (j := 0) C dX7_ones_24 rfl ?_
  exact gq_iret C h dX7_ones_25
theorem mq_X7_ones {l : Launch} {D : va_G} {cyI cyZ : ClassId} {ad : Nat → Nat} (hap : gq_ap 17 ad) (a1 : Int32) (σ : gq_M) (Q : Int32 → gq_M → Prop) (h : wq_X7_ones a1 σ Q) : Met l yX7_ones wsX7_ones rq_X7_ones (va_Pc [.int a1] (gq_P D (gm_T cyI cyZ) 17 ad (gm_S cyI cyZ ad) σ)) (va_Qi Q (gq_P D (gm_T cyI cyZ) 17 ad (gm_S cyI cyZ ad)) (gq_A 17 ad)) 0 0 (gq_A 17 ad) :=
  gq_met hap (by decide) rfl rfl (Nat.le_of_ble_eq_true rfl) (fun _ _ _ _ _ _ _ C => tq_X7_ones C a1 σ h)
abbrev rq_X7_atLeast : Room := { frames := 0, cells := 0, slots := 0, locals := 0 }
theorem dq_X7_atLeast : gq_dsc yX7_atLeast 2 := by unfold gq_dsc; decide +kernel
def wq_X7_atLeast (a1 : Int32) (a2 : Int32) (σ : gq_M) (Q : Int32 → gq_M → Prop) : Prop := ((a2 ≤ a1 → Q a1 σ) ∧ (¬ a2 ≤ a1 → Q a2 σ))
set_option maxRecDepth 100000 in
set_option maxHeartbeats 4000000 in
theorem tq_X7_atLeast {p : Program} {l : Launch} {e : Env} {s : State} {m : MethodId} {args : Array Value} {below : List Frame} {meth : Method} {c : Code} {D : va_G} {cyI cyZ : ClassId} {ad : Nat → Nat} {Q : Int32 → gq_M → Prop} (C : gq_C p s m args meth c cX7_atLeast 2 RX7 wsX7_atLeast D (gm_T cyI cyZ) 17 ad (some .int)) (a1 : Int32) (a2 : Int32) (σ : gq_M) (h : wq_X7_atLeast a1 a2 σ Q) : gq_G p l e rq_X7_atLeast s m args below meth c (gq_Ri below args s D (gm_T cyI cyZ) 17 ad (gm_S cyI cyZ ad) Q) D 17 ad (gm_S cyI cyZ ad) 2 σ 0 [(0, .int a1), (1, .int a2)] [] := by
  unfold wq_X7_atLeast at h
  refine gq_iload_n (j := 0) C dX7_atLeast_0 rfl ?_
  refine gq_iload_n (j := 1) C dX7_atLeast_1 rfl ?_
  refine gq_icmp_ge (tgt := 9) C dX7_atLeast_2 (by decide) (fun c1 => ?_) (fun c1 => ?_)
  · have h := h.1 c1
    refine gq_iload_n (j := 0) C dX7_atLeast_9 rfl ?_
    exact gq_iret C h dX7_atLeast_10
  · have h := h.2 c1
    refine gq_iload_n (j := 1) C dX7_atLeast_5 rfl ?_
    refine gq_goto (tgt := 10) C dX7_atLeast_6 (by decide) ?_
    exact gq_iret C h dX7_atLeast_10
theorem mq_X7_atLeast {l : Launch} {D : va_G} {cyI cyZ : ClassId} {ad : Nat → Nat} (hap : gq_ap 17 ad) (a1 : Int32) (a2 : Int32) (σ : gq_M) (Q : Int32 → gq_M → Prop) (h : wq_X7_atLeast a1 a2 σ Q) : Met l yX7_atLeast wsX7_atLeast rq_X7_atLeast (va_Pc [.int a1, .int a2] (gq_P D (gm_T cyI cyZ) 17 ad (gm_S cyI cyZ ad) σ)) (va_Qi Q (gq_P D (gm_T cyI cyZ) 17 ad (gm_S cyI cyZ ad)) (gq_A 17 ad)) 0 0 (gq_A 17 ad) :=
  gq_met hap (by decide) rfl rfl (Nat.le_of_ble_eq_true rfl) (fun _ _ _ _ _ _ _ C => tq_X7_atLeast C a1 a2 σ h)
abbrev rq_X7_write : Room := { frames := 1, cells := 0, slots := 0, locals := 25 }
theorem dq_X7_write : gq_dsc yX7_write 1 := by unfold gq_dsc; decide +kernel
theorem iq_X7_write_X7 : ∀ w ∈ u_ws RX7 TX7 30, w ∈ wsX7_write := by decide +kernel
theorem fq_X7_write_65 : Cond.fieldLink RX7 65 (TX7 12).1 (TX7 12).2.1 (TX7 12).2.2.1 ∈ wsX7_write := by decide +kernel
theorem fq_X7_write_31 : Cond.fieldLink RX7 31 (TX7 11).1 (TX7 11).2.1 (TX7 11).2.2.1 ∈ wsX7_write := by decide +kernel
def wq_X7_write (a1 : Int32) (σ : gq_M) (Q : Int32 → gq_M → Prop) : Prop := wq_X7_in a1.toInt64 0 255 σ (fun r1 σ2 => ((¬ r1 = 0 → ((¬ (σ2.1 0 12) = 52 → vp_in (σ2.1 0 12) 52 ∧ Q (((gq_put (gq_put σ2 8 ((σ2.1 0 12)).toNatClampNeg a1) 0 12 ((((gq_put σ2 8 ((σ2.1 0 12)).toNatClampNeg a1)).1 0 12) + 1))).1 0 12) (gq_put (gq_put σ2 8 ((σ2.1 0 12)).toNatClampNeg a1) 0 12 ((((gq_put σ2 8 ((σ2.1 0 12)).toNatClampNeg a1)).1 0 12) + 1))) ∧ ((σ2.1 0 12) = 52 → Q (-4) σ2))) ∧ (r1 = 0 → Q (-2) σ2)))
set_option maxRecDepth 100000 in
set_option maxHeartbeats 4000000 in
theorem tq_X7_write {p : Program} {l : Launch} {e : Env} {s : State} {m : MethodId} {args : Array Value} {below : List Frame} {meth : Method} {c : Code} {D : va_G} {cyI cyZ : ClassId} {ad : Nat → Nat} {Q : Int32 → gq_M → Prop} (C : gq_C p s m args meth c cX7_write 2 RX7 wsX7_write D (gm_T cyI cyZ) 17 ad (some .int)) (a1 : Int32) (σ : gq_M) (h : wq_X7_write a1 σ Q) : gq_G p l e rq_X7_write s m args below meth c (gq_Ri below args s D (gm_T cyI cyZ) 17 ad (gm_S cyI cyZ ad) Q) D 17 ad (gm_S cyI cyZ ad) 2 σ 0 [(0, .ref (ad 0)), (1, .int a1)] [] := by
  unfold wq_X7_write at h
  refine gq_iload_n (j := 1) C dX7_write_0 rfl ?_
  refine gq_i2l C dX7_write_1 ?_
  refine gq_lconst (v := 0) C dX7_write_2 (by decide) ?_
  refine gq_ldc2 (v := 255) C (by decide +kernel) dX7_write_3 ?_
  refine gq_si C [.long a1.toInt64, .long 0, .long 255] (mq_X7_in C.2.2.1 a1.toInt64 0 255 σ _ h) gX7_write_X7_in rfl dq_X7_in ⟨rfl, rfl, by decide, by decide⟩ rfl rfl (Nat.le_of_ble_eq_true rfl) dX7_write_6 (fun r1 σ2 h => ?_)
  refine gq_if_ne (tgt := 15) C dX7_write_9 (by decide) (fun c3 => ?_) (fun c3 => ?_)
  · have h := h.1 c3
    refine gq_aload_n (j := 0) C dX7_write_15 rfl ?_
    refine gq_get (v := .int (σ2.1 0 12)) (i := 0) C gms_0 rfl iq_X7_write_X7 12 (by decide) fq_X7_write_65 rfl dX7_write_16 ?_
    refine gq_bipush (v := 52) C dX7_write_19 (by decide) ?_
    refine gq_icmp_ne (tgt := 27) C dX7_write_21 (by decide) (fun c4 => ?_) (fun c4 => ?_)
    · have h := h.1 c4
      refine gq_aload_n (j := 0) C dX7_write_27 rfl ?_
      refine gq_get (v := .ref (ad 8)) (i := 0) C gms_0 rfl iq_X7_write_X7 11 (by decide) fq_X7_write_31 rfl dX7_write_28 ?_
      refine gq_aload_n (j := 0) C dX7_write_31 rfl ?_
      refine gq_get (v := .int (σ2.1 0 12)) (i := 0) C gms_0 rfl iq_X7_write_X7 12 (by decide) fq_X7_write_65 rfl dX7_write_32 ?_
      refine gq_iload_n (j := 1) C dX7_write_35 rfl ?_
      refine gq_iast (i := 8) (j := ((σ2.1 0 12)).toNatClampNeg) C gms_8 0 rfl rfl h.1 dX7_write_36 ?_
      have h := h.2
      refine gq_aload_n (j := 0) C dX7_write_37 rfl ?_
      refine gq_dup C dX7_write_38 rfl ?_
      refine gq_get (v := .int (((gq_put σ2 8 ((σ2.1 0 12)).toNatClampNeg a1)).1 0 12)) (i := 0) C gms_0 rfl iq_X7_write_X7 12 (by decide) fq_X7_write_65 rfl dX7_write_39 ?_
      refine gq_iconst (v := 1) C dX7_write_42 (by decide) ?_
      refine gq_iadd C dX7_write_43 ?_
      refine gq_puti (i := 0) C gms_0 rfl iq_X7_write_X7 tyX7 tyX7_ok nmX7 12 (by decide) fq_X7_write_65 rfl rfl rfl (fun _ _ => Nat.le_of_ble_eq_true rfl) gs_X7_12 dX7_write_44 ?_
      refine gq_aload_n (j := 0) C dX7_write_47 rfl ?_
      refine gq_get (v := .int (((gq_put (gq_put σ2 8 ((σ2.1 0 12)).toNatClampNeg a1) 0 12 ((((gq_put σ2 8 ((σ2.1 0 12)).toNatClampNeg a1)).1 0 12) + 1))).1 0 12)) (i := 0) C gms_0 rfl iq_X7_write_X7 12 (by decide) fq_X7_write_65 rfl dX7_write_48 ?_
      exact gq_iret C h dX7_write_51
    · have h := h.2 c4
      refine gq_bipush (v := (-4)) C dX7_write_24 (by decide) ?_
      exact gq_iret C h dX7_write_26
  · have h := h.2 c3
    refine gq_bipush (v := (-2)) C dX7_write_12 (by decide) ?_
    exact gq_iret C h dX7_write_14
theorem mq_X7_write {l : Launch} {D : va_G} {cyI cyZ : ClassId} {ad : Nat → Nat} (hap : gq_ap 17 ad) (a1 : Int32) (σ : gq_M) (Q : Int32 → gq_M → Prop) (h : wq_X7_write a1 σ Q) : Met l yX7_write wsX7_write rq_X7_write (va_Pc [.ref (ad 0), .int a1] (gq_P D (gm_T cyI cyZ) 17 ad (gm_S cyI cyZ ad) σ)) (va_Qi Q (gq_P D (gm_T cyI cyZ) 17 ad (gm_S cyI cyZ ad)) (gq_A 17 ad)) 0 0 (gq_A 17 ad) :=
  gq_met hap (by decide) rfl rfl (Nat.le_of_ble_eq_true rfl) (fun _ _ _ _ _ _ _ C => tq_X7_write C a1 σ h)
abbrev rq_X7_wipe : Room := { frames := 0, cells := 0, slots := 0, locals := 0 }
theorem dq_X7_wipe : gq_dsc yX7_wipe 0 := by unfold gq_dsc; decide +kernel
theorem iq_X7_wipe_X7 : ∀ w ∈ u_ws RX7 TX7 30, w ∈ wsX7_wipe := by decide +kernel
theorem fq_X7_wipe_65 : Cond.fieldLink RX7 65 (TX7 12).1 (TX7 12).2.1 (TX7 12).2.2.1 ∈ wsX7_wipe := by decide +kernel
def wq_X7_wipe (σ : gq_M) (Q : Int32 → gq_M → Prop) : Prop := ∀ v1, v1 = (σ.1 0 12) → Q v1 (gq_put σ 0 12 0)
set_option maxRecDepth 100000 in
set_option maxHeartbeats 4000000 in
theorem tq_X7_wipe {p : Program} {l : Launch} {e : Env} {s : State} {m : MethodId} {args : Array Value} {below : List Frame} {meth : Method} {c : Code} {D : va_G} {cyI cyZ : ClassId} {ad : Nat → Nat} {Q : Int32 → gq_M → Prop} (C : gq_C p s m args meth c cX7_wipe 2 RX7 wsX7_wipe D (gm_T cyI cyZ) 17 ad (some .int)) (σ : gq_M) (h : wq_X7_wipe σ Q) : gq_G p l e rq_X7_wipe s m args below meth c (gq_Ri below args s D (gm_T cyI cyZ) 17 ad (gm_S cyI cyZ ad) Q) D 17 ad (gm_S cyI cyZ ad) 2 σ 0 [(0, .ref (ad 0))] [] := by
  unfold wq_X7_wipe at h
  refine gq_aload_n (j := 0) C dX7_wipe_0 rfl ?_
  refine gq_get (v := .int (σ.1 0 12)) (i := 0) C gms_0 rfl iq_X7_wipe_X7 12 (by decide) fq_X7_wipe_65 rfl dX7_wipe_1 ?_
  refine gq_topi (fun v1 qv1 => ?_)
  have h := h v1 qv1
  refine gq_istore_n (L' := [(0, .ref (ad 0)), (1, .int v1)]) C [1, 0] dX7_wipe_4 (by decide) rfl ?_
  refine gq_aload_n (j := 0) C dX7_wipe_5 rfl ?_
  refine gq_iconst (v := 0) C dX7_wipe_6 (by decide) ?_
  refine gq_puti (i := 0) C gms_0 rfl iq_X7_wipe_X7 tyX7 tyX7_ok nmX7 12 (by decide) fq_X7_wipe_65 rfl rfl rfl (fun _ _ => Nat.le_of_ble_eq_true rfl) gs_X7_12 dX7_wipe_7 ?_
  refine gq_iload_n (j := 1) C dX7_wipe_10 rfl ?_
  exact gq_iret C h dX7_wipe_11
theorem mq_X7_wipe {l : Launch} {D : va_G} {cyI cyZ : ClassId} {ad : Nat → Nat} (hap : gq_ap 17 ad) (σ : gq_M) (Q : Int32 → gq_M → Prop) (h : wq_X7_wipe σ Q) : Met l yX7_wipe wsX7_wipe rq_X7_wipe (va_Pc [.ref (ad 0)] (gq_P D (gm_T cyI cyZ) 17 ad (gm_S cyI cyZ ad) σ)) (va_Qi Q (gq_P D (gm_T cyI cyZ) 17 ad (gm_S cyI cyZ ad)) (gq_A 17 ad)) 0 0 (gq_A 17 ad) :=
  gq_met hap (by decide) rfl rfl (Nat.le_of_ble_eq_true rfl) (fun _ _ _ _ _ _ _ C => tq_X7_wipe C σ h)
abbrev rq_X7_figureOf : Room := { frames := 1, cells := 0, slots := 0, locals := 25 }
theorem dq_X7_figureOf : gq_dsc yX7_figureOf 2 := by unfold gq_dsc; decide +kernel
theorem iq_X7_figureOf_X7 : ∀ w ∈ u_ws RX7 TX7 30, w ∈ wsX7_figureOf := by decide +kernel
theorem fq_X7_figureOf_69 : Cond.fieldLink RX7 69 (TX7 14).1 (TX7 14).2.1 (TX7 14).2.2.1 ∈ wsX7_figureOf := by decide +kernel
theorem fq_X7_figureOf_72 : Cond.fieldLink RX7 72 (TX7 13).1 (TX7 13).2.1 (TX7 13).2.2.1 ∈ wsX7_figureOf := by decide +kernel
theorem fq_X7_figureOf_31 : Cond.fieldLink RX7 31 (TX7 11).1 (TX7 11).2.1 (TX7 11).2.2.1 ∈ wsX7_figureOf := by decide +kernel
theorem fq_X7_figureOf_65 : Cond.fieldLink RX7 65 (TX7 12).1 (TX7 12).2.1 (TX7 12).2.2.1 ∈ wsX7_figureOf := by decide +kernel
def wq_X7_figureOf_b86 (Q : Int32 → gq_M → Prop) (s1 : Int32) (σ : gq_M) : Prop := Q 0 (gq_put σ 0 14 s1)
set_option maxRecDepth 100000 in
set_option maxHeartbeats 4000000 in
theorem tq_X7_figureOf_b86 {p : Program} {l : Launch} {e : Env} {s : State} {m : MethodId} {args : Array Value} {below : List Frame} {meth : Method} {c : Code} {D : va_G} {cyI cyZ : ClassId} {ad : Nat → Nat} {Q : Int32 → gq_M → Prop} (C : gq_C p s m args meth c cX7_figureOf 5 RX7 wsX7_figureOf D (gm_T cyI cyZ) 17 ad (some .int)) (s1 : Int32) (σ : gq_M) (h : wq_X7_figureOf_b86 Q s1 σ) : gq_G p l e rq_X7_figureOf s m args below meth c (gq_Ri below args s D (gm_T cyI cyZ) 17 ad (gm_S cyI cyZ ad) Q) D 17 ad (gm_S cyI cyZ ad) 5 σ 86 [(0, .ref (ad 0))] [.int s1, .ref (ad 0)] := by
  unfold wq_X7_figureOf_b86 at h
  refine gq_puti (i := 0) C gms_0 rfl iq_X7_figureOf_X7 tyX7 tyX7_ok nmX7 14 (by decide) fq_X7_figureOf_69 rfl rfl rfl (fun _ _ => Nat.le_of_ble_eq_true rfl) gs_X7_14 dX7_figureOf_86 ?_
  refine gq_iconst (v := 0) C dX7_figureOf_89 (by decide) ?_
  exact gq_iret C h dX7_figureOf_90
def wq_X7_figureOf_b65 (Q : Int32 → gq_M → Prop) (σ : gq_M) : Prop := ((¬ (σ.1 0 14) = (-9) → wq_X7_figureOf_b86 Q (σ.1 0 14) σ) ∧ ((σ.1 0 14) = (-9) → wq_X7_figureOf_b86 Q (σ.1 0 13) σ))
set_option maxRecDepth 100000 in
set_option maxHeartbeats 4000000 in
theorem tq_X7_figureOf_b65 {p : Program} {l : Launch} {e : Env} {s : State} {m : MethodId} {args : Array Value} {below : List Frame} {meth : Method} {c : Code} {D : va_G} {cyI cyZ : ClassId} {ad : Nat → Nat} {Q : Int32 → gq_M → Prop} (C : gq_C p s m args meth c cX7_figureOf 5 RX7 wsX7_figureOf D (gm_T cyI cyZ) 17 ad (some .int)) (σ : gq_M) (h : wq_X7_figureOf_b65 Q σ) : gq_G p l e rq_X7_figureOf s m args below meth c (gq_Ri below args s D (gm_T cyI cyZ) 17 ad (gm_S cyI cyZ ad) Q) D 17 ad (gm_S cyI cyZ ad) 5 σ 65 [(0, .ref (ad 0))] [] := by
  unfold wq_X7_figureOf_b65 at h
  refine gq_aload_n (j := 0) C dX7_figureOf_65 rfl ?_
  refine gq_aload_n (j := 0) C dX7_figureOf_66 rfl ?_
  refine gq_get (v := .int (σ.1 0 14)) (i := 0) C gms_0 rfl iq_X7_figureOf_X7 14 (by decide) fq_X7_figureOf_69 rfl dX7_figureOf_67 ?_
  refine gq_bipush (v := (-9)) C dX7_figureOf_70 (by decide) ?_
  refine gq_icmp_ne (tgt := 82) C dX7_figureOf_72 (by decide) (fun c4 => ?_) (fun c4 => ?_)
  · have h := h.1 c4
    refine gq_aload_n (j := 0) C dX7_figureOf_82 rfl ?_
    refine gq_get (v := .int (σ.1 0 14)) (i := 0) C gms_0 rfl iq_X7_figureOf_X7 14 (by decide) fq_X7_figureOf_69 rfl dX7_figureOf_83 ?_
    exact tq_X7_figureOf_b86 C _ _ h
  · have h := h.2 c4
    refine gq_aload_n (j := 0) C dX7_figureOf_75 rfl ?_
    refine gq_get (v := .int (σ.1 0 13)) (i := 0) C gms_0 rfl iq_X7_figureOf_X7 13 (by decide) fq_X7_figureOf_72 rfl dX7_figureOf_76 ?_
    refine gq_goto (tgt := 86) C dX7_figureOf_79 (by decide) ?_
    exact tq_X7_figureOf_b86 C _ _ h
def wq_X7_figureOf_b46 (Q : Int32 → gq_M → Prop) (x1 : Int32) (x2 : Int32) (x3 : Int32) (s0 : Int32) (σ : gq_M) : Prop := ((x3 = 0 → wq_X7_figureOf_b65 Q σ) ∧ (¬ x3 = 0 → wq_X7_in s0.toInt64 x1.toInt64 x2.toInt64 σ (fun r5 σ6 => ((¬ r5 = 0 → Q s0 (gq_put σ6 0 13 ((σ6.1 0 13) + 1))) ∧ (r5 = 0 → wq_X7_figureOf_b65 Q σ6)))))
set_option maxRecDepth 100000 in
set_option maxHeartbeats 4000000 in
theorem tq_X7_figureOf_b46 {p : Program} {l : Launch} {e : Env} {s : State} {m : MethodId} {args : Array Value} {below : List Frame} {meth : Method} {c : Code} {D : va_G} {cyI cyZ : ClassId} {ad : Nat → Nat} {Q : Int32 → gq_M → Prop} (C : gq_C p s m args meth c cX7_figureOf 5 RX7 wsX7_figureOf D (gm_T cyI cyZ) 17 ad (some .int)) (x1 : Int32) (x2 : Int32) (x3 : Int32) (s0 : Int32) (σ : gq_M) (h : wq_X7_figureOf_b46 Q x1 x2 x3 s0 σ) : gq_G p l e rq_X7_figureOf s m args below meth c (gq_Ri below args s D (gm_T cyI cyZ) 17 ad (gm_S cyI cyZ ad) Q) D 17 ad (gm_S cyI cyZ ad) 5 σ 46 [(0, .ref (ad 0)), (1, .int x1), (2, .int x2), (3, .int x3)] [.int s0] := by
  unfold wq_X7_figureOf_b46 at h
  refine gq_istore (L' := [(0, .ref (ad 0)), (1, .int x1), (2, .int x2), (3, .int x3), (4, .int s0)]) C [1, 2, 3, 4, 0] dX7_figureOf_46 (by decide) rfl ?_
  refine gq_iload_n (j := 3) C dX7_figureOf_48 rfl ?_
  refine gq_if_eq (tgt := 65) C dX7_figureOf_49 (by decide) (fun c3 => ?_) (fun c3 => ?_)
  · have h := h.1 c3
    refine gq_sub [0] rfl ?_
    exact tq_X7_figureOf_b65 C _ h
  · have h := h.2 c3
    refine gq_iload (j := 4) C dX7_figureOf_52 rfl ?_
    refine gq_i2l C dX7_figureOf_54 ?_
    refine gq_iload_n (j := 1) C dX7_figureOf_55 rfl ?_
    refine gq_i2l C dX7_figureOf_56 ?_
    refine gq_iload_n (j := 2) C dX7_figureOf_57 rfl ?_
    refine gq_i2l C dX7_figureOf_58 ?_
    refine gq_si C [.long s0.toInt64, .long x1.toInt64, .long x2.toInt64] (mq_X7_in C.2.2.1 s0.toInt64 x1.toInt64 x2.toInt64 σ _ h) gX7_figureOf_X7_in rfl dq_X7_in ⟨rfl, rfl, by decide, by decide⟩ rfl rfl (Nat.le_of_ble_eq_true rfl) dX7_figureOf_59 (fun r5 σ6 h => ?_)
    refine gq_if_ne (tgt := 91) C dX7_figureOf_62 (by decide) (fun c7 => ?_) (fun c7 => ?_)
    · have h := h.1 c7
      refine gq_aload_n (j := 0) C dX7_figureOf_91 rfl ?_
      refine gq_dup C dX7_figureOf_92 rfl ?_
      refine gq_get (v := .int (σ6.1 0 13)) (i := 0) C gms_0 rfl iq_X7_figureOf_X7 13 (by decide) fq_X7_figureOf_72 rfl dX7_figureOf_93 ?_
      refine gq_iconst (v := 1) C dX7_figureOf_96 (by decide) ?_
      refine gq_iadd C dX7_figureOf_97 ?_
      refine gq_puti (i := 0) C gms_0 rfl iq_X7_figureOf_X7 tyX7 tyX7_ok nmX7 13 (by decide) fq_X7_figureOf_72 rfl rfl rfl (fun _ _ => Nat.le_of_ble_eq_true rfl) gs_X7_13 dX7_figureOf_98 ?_
      refine gq_iload (j := 4) C dX7_figureOf_101 rfl ?_
      exact gq_iret C h dX7_figureOf_103
    · have h := h.2 c7
      refine gq_sub [0] rfl ?_
      exact tq_X7_figureOf_b65 C _ h
def wq_X7_figureOf_b25 (Q : Int32 → gq_M → Prop) (x1 : Int32) (x2 : Int32) (s0 : Int32) (σ : gq_M) : Prop := ((s0 = 0 → wq_X7_figureOf_b46 Q x1 x2 s0 0 σ) ∧ (¬ s0 = 0 → vp_in (σ.1 0 13) 52 ∧ wq_X7_figureOf_b46 Q x1 x2 s0 ((σ.1 8 ((σ.1 0 13)).toNatClampNeg) - 48) σ))
set_option maxRecDepth 100000 in
set_option maxHeartbeats 4000000 in
theorem tq_X7_figureOf_b25 {p : Program} {l : Launch} {e : Env} {s : State} {m : MethodId} {args : Array Value} {below : List Frame} {meth : Method} {c : Code} {D : va_G} {cyI cyZ : ClassId} {ad : Nat → Nat} {Q : Int32 → gq_M → Prop} (C : gq_C p s m args meth c cX7_figureOf 5 RX7 wsX7_figureOf D (gm_T cyI cyZ) 17 ad (some .int)) (x1 : Int32) (x2 : Int32) (s0 : Int32) (σ : gq_M) (h : wq_X7_figureOf_b25 Q x1 x2 s0 σ) : gq_G p l e rq_X7_figureOf s m args below meth c (gq_Ri below args s D (gm_T cyI cyZ) 17 ad (gm_S cyI cyZ ad) Q) D 17 ad (gm_S cyI cyZ ad) 5 σ 25 [(0, .ref (ad 0)), (1, .int x1), (2, .int x2)] [.int s0] := by
  unfold wq_X7_figureOf_b25 at h
  refine gq_istore_n (L' := [(0, .ref (ad 0)), (1, .int x1), (2, .int x2), (3, .int s0)]) C [1, 2, 3, 0] dX7_figureOf_25 (by decide) rfl ?_
  refine gq_iload_n (j := 3) C dX7_figureOf_26 rfl ?_
  refine gq_if_eq (tgt := 45) C dX7_figureOf_27 (by decide) (fun c2 => ?_) (fun c2 => ?_)
  · have h := h.1 c2
    refine gq_iconst (v := 0) C dX7_figureOf_45 (by decide) ?_
    exact tq_X7_figureOf_b46 C _ _ _ _ _ h
  · have h := h.2 c2
    refine gq_aload_n (j := 0) C dX7_figureOf_30 rfl ?_
    refine gq_get (v := .ref (ad 8)) (i := 0) C gms_0 rfl iq_X7_figureOf_X7 11 (by decide) fq_X7_figureOf_31 rfl dX7_figureOf_31 ?_
    refine gq_aload_n (j := 0) C dX7_figureOf_34 rfl ?_
    refine gq_get (v := .int (σ.1 0 13)) (i := 0) C gms_0 rfl iq_X7_figureOf_X7 13 (by decide) fq_X7_figureOf_72 rfl dX7_figureOf_35 ?_
    refine gq_iald (i := 8) (j := ((σ.1 0 13)).toNatClampNeg) C gms_8 0 rfl rfl h.1 dX7_figureOf_38 ?_
    have h := h.2
    refine gq_bipush (v := 48) C dX7_figureOf_39 (by decide) ?_
    refine gq_isub C dX7_figureOf_41 ?_
    refine gq_goto (tgt := 46) C dX7_figureOf_42 (by decide) ?_
    exact tq_X7_figureOf_b46 C _ _ _ _ _ h
def wq_X7_figureOf (a1 : Int32) (a2 : Int32) (σ : gq_M) (Q : Int32 → gq_M → Prop) : Prop := ((¬ (σ.1 0 14) = (-9) → wq_X7_figureOf_b25 Q a1 a2 0 σ) ∧ ((σ.1 0 14) = (-9) → (((σ.1 0 12) ≤ (σ.1 0 13) → wq_X7_figureOf_b25 Q a1 a2 0 σ) ∧ (¬ (σ.1 0 12) ≤ (σ.1 0 13) → wq_X7_figureOf_b25 Q a1 a2 1 σ))))
set_option maxRecDepth 100000 in
set_option maxHeartbeats 4000000 in
theorem tq_X7_figureOf {p : Program} {l : Launch} {e : Env} {s : State} {m : MethodId} {args : Array Value} {below : List Frame} {meth : Method} {c : Code} {D : va_G} {cyI cyZ : ClassId} {ad : Nat → Nat} {Q : Int32 → gq_M → Prop} (C : gq_C p s m args meth c cX7_figureOf 5 RX7 wsX7_figureOf D (gm_T cyI cyZ) 17 ad (some .int)) (a1 : Int32) (a2 : Int32) (σ : gq_M) (h : wq_X7_figureOf a1 a2 σ Q) : gq_G p l e rq_X7_figureOf s m args below meth c (gq_Ri below args s D (gm_T cyI cyZ) 17 ad (gm_S cyI cyZ ad) Q) D 17 ad (gm_S cyI cyZ ad) 5 σ 0 [(0, .ref (ad 0)), (1, .int a1), (2, .int a2)] [] := by
  unfold wq_X7_figureOf at h
  refine gq_aload_n (j := 0) C dX7_figureOf_0 rfl ?_
  refine gq_get (v := .int (σ.1 0 14)) (i := 0) C gms_0 rfl iq_X7_figureOf_X7 14 (by decide) fq_X7_figureOf_69 rfl dX7_figureOf_1 ?_
  refine gq_bipush (v := (-9)) C dX7_figureOf_4 (by decide) ?_
  refine gq_icmp_ne (tgt := 24) C dX7_figureOf_6 (by decide) (fun c1 => ?_) (fun c1 => ?_)
  · have h := h.1 c1
    refine gq_iconst (v := 0) C dX7_figureOf_24 (by decide) ?_
    exact tq_X7_figureOf_b25 C _ _ _ _ h
  · have h := h.2 c1
    refine gq_aload_n (j := 0) C dX7_figureOf_9 rfl ?_
    refine gq_get (v := .int (σ.1 0 13)) (i := 0) C gms_0 rfl iq_X7_figureOf_X7 13 (by decide) fq_X7_figureOf_72 rfl dX7_figureOf_10 ?_
    refine gq_aload_n (j := 0) C dX7_figureOf_13 rfl ?_
    refine gq_get (v := .int (σ.1 0 12)) (i := 0) C gms_0 rfl iq_X7_figureOf_X7 12 (by decide) fq_X7_figureOf_65 rfl dX7_figureOf_14 ?_
    refine gq_icmp_ge (tgt := 24) C dX7_figureOf_17 (by decide) (fun c8 => ?_) (fun c8 => ?_)
    · have h := h.1 c8
      refine gq_iconst (v := 0) C dX7_figureOf_24 (by decide) ?_
      exact tq_X7_figureOf_b25 C _ _ _ _ h
    · have h := h.2 c8
      refine gq_iconst (v := 1) C dX7_figureOf_20 (by decide) ?_
      refine gq_goto (tgt := 25) C dX7_figureOf_21 (by decide) ?_
      exact tq_X7_figureOf_b25 C _ _ _ _ h
theorem mq_X7_figureOf {l : Launch} {D : va_G} {cyI cyZ : ClassId} {ad : Nat → Nat} (hap : gq_ap 17 ad) (a1 : Int32) (a2 : Int32) (σ : gq_M) (Q : Int32 → gq_M → Prop) (h : wq_X7_figureOf a1 a2 σ Q) : Met l yX7_figureOf wsX7_figureOf rq_X7_figureOf (va_Pc [.ref (ad 0), .int a1, .int a2] (gq_P D (gm_T cyI cyZ) 17 ad (gm_S cyI cyZ ad) σ)) (va_Qi Q (gq_P D (gm_T cyI cyZ) 17 ad (gm_S cyI cyZ ad)) (gq_A 17 ad)) 0 0 (gq_A 17 ad) :=
  gq_met hap (by decide) rfl rfl (Nat.le_of_ble_eq_true rfl) (fun _ _ _ _ _ _ _ C => tq_X7_figureOf C a1 a2 σ h)
abbrev rq_X7_readPart : Room := { frames := 2, cells := 0, slots := 0, locals := 49 }
theorem dq_X7_readPart : gq_dsc yX7_readPart 1 := by unfold gq_dsc; decide +kernel
theorem iq_X7_readPart_X7 : ∀ w ∈ u_ws RX7 TX7 30, w ∈ wsX7_readPart := by decide +kernel
theorem fq_X7_readPart_72 : Cond.fieldLink RX7 72 (TX7 13).1 (TX7 13).2.1 (TX7 13).2.2.1 ∈ wsX7_readPart := by decide +kernel
theorem fq_X7_readPart_69 : Cond.fieldLink RX7 69 (TX7 14).1 (TX7 14).2.1 (TX7 14).2.2.1 ∈ wsX7_readPart := by decide +kernel
theorem fq_X7_readPart_78 : Cond.fieldLink RX7 78 (TX7 10).1 (TX7 10).2.1 (TX7 10).2.2.1 ∈ wsX7_readPart := by decide +kernel
theorem fq_X7_readPart_28 : Cond.fieldLink RX7 28 (TX7 8).1 (TX7 8).2.1 (TX7 8).2.2.1 ∈ wsX7_readPart := by decide +kernel
theorem fq_X7_readPart_75 : Cond.fieldLink RX7 75 (TX7 9).1 (TX7 9).2.1 (TX7 9).2.2.1 ∈ wsX7_readPart := by decide +kernel
theorem fq_X7_readPart_25 : Cond.fieldLink RX7 25 (TX7 7).1 (TX7 7).2.1 (TX7 7).2.2.1 ∈ wsX7_readPart := by decide +kernel
def wq_X7_readPart_b185 (Q : gq_M → Prop) (σ : gq_M) : Prop := Q (gq_put σ 0 14 (σ.1 0 13))
set_option maxRecDepth 100000 in
set_option maxHeartbeats 4000000 in
theorem tq_X7_readPart_b185 {p : Program} {l : Launch} {e : Env} {s : State} {m : MethodId} {args : Array Value} {below : List Frame} {meth : Method} {c : Code} {D : va_G} {cyI cyZ : ClassId} {ad : Nat → Nat} {Q : gq_M → Prop} (C : gq_C p s m args meth c cX7_readPart 2 RX7 wsX7_readPart D (gm_T cyI cyZ) 17 ad none) (σ : gq_M) (h : wq_X7_readPart_b185 Q σ) : gq_G p l e rq_X7_readPart s m args below meth c (gq_Rv below args s D (gm_T cyI cyZ) 17 ad (gm_S cyI cyZ ad) Q) D 17 ad (gm_S cyI cyZ ad) 2 σ 185 [(0, .ref (ad 0))] [] := by
  unfold wq_X7_readPart_b185 at h
  refine gq_aload_n (j := 0) C dX7_readPart_185 rfl ?_
  refine gq_aload_n (j := 0) C dX7_readPart_186 rfl ?_
  refine gq_get (v := .int (σ.1 0 13)) (i := 0) C gms_0 rfl iq_X7_readPart_X7 13 (by decide) fq_X7_readPart_72 rfl dX7_readPart_187 ?_
  refine gq_puti (i := 0) C gms_0 rfl iq_X7_readPart_X7 tyX7 tyX7_ok nmX7 14 (by decide) fq_X7_readPart_69 rfl rfl rfl (fun _ _ => Nat.le_of_ble_eq_true rfl) gs_X7_14 dX7_readPart_190 ?_
  exact gq_vret C h dX7_readPart_193
def wq_X7_readPart_b129 (Q : gq_M → Prop) (s1 : Int32) (s3 : Int32) (s4 : Int32) (σ : gq_M) : Prop := wq_X7_figureOf s3 s4 σ (fun r5 σ6 => vp_in s1 15 ∧ wq_X7_figureOf 1 9 (gq_put σ6 7 s1.toNatClampNeg r5) (fun r7 σ8 => vp_in ((3 * (((gq_put σ6 7 s1.toNatClampNeg r5)).1 0 10)) + 1) 15 ∧ wq_X7_figureOf 0 3 (gq_put σ8 7 (((3 * (((gq_put σ6 7 s1.toNatClampNeg r5)).1 0 10)) + 1)).toNatClampNeg r7) (fun r9 σ10 => vp_in ((3 * (((gq_put σ8 7 (((3 * (((gq_put σ6 7 s1.toNatClampNeg r5)).1 0 10)) + 1)).toNatClampNeg r7)).1 0 10)) + 2) 15 ∧ Q (gq_put (gq_put σ10 7 (((3 * (((gq_put σ8 7 (((3 * (((gq_put σ6 7 s1.toNatClampNeg r5)).1 0 10)) + 1)).toNatClampNeg r7)).1 0 10)) + 2)).toNatClampNeg r9) 0 10 ((((gq_put σ10 7 (((3 * (((gq_put σ8 7 (((3 * (((gq_put σ6 7 s1.toNatClampNeg r5)).1 0 10)) + 1)).toNatClampNeg r7)).1 0 10)) + 2)).toNatClampNeg r9)).1 0 10) + 1)))))
set_option maxRecDepth 100000 in
set_option maxHeartbeats 4000000 in
theorem tq_X7_readPart_b129 {p : Program} {l : Launch} {e : Env} {s : State} {m : MethodId} {args : Array Value} {below : List Frame} {meth : Method} {c : Code} {D : va_G} {cyI cyZ : ClassId} {ad : Nat → Nat} {Q : gq_M → Prop} (C : gq_C p s m args meth c cX7_readPart 2 RX7 wsX7_readPart D (gm_T cyI cyZ) 17 ad none) (s1 : Int32) (s3 : Int32) (s4 : Int32) (σ : gq_M) (h : wq_X7_readPart_b129 Q s1 s3 s4 σ) : gq_G p l e rq_X7_readPart s m args below meth c (gq_Rv below args s D (gm_T cyI cyZ) 17 ad (gm_S cyI cyZ ad) Q) D 17 ad (gm_S cyI cyZ ad) 2 σ 129 [(0, .ref (ad 0))] [.int s4, .int s3, .ref (ad 0), .int s1, .ref (ad 7)] := by
  unfold wq_X7_readPart_b129 at h
  refine gq_vi (i := 0) C gms_0 rfl [.int s3, .int s4] (mq_X7_figureOf C.2.2.1 s3 s4 σ _ h) gX7_readPart_X7_figureOf rfl rfl dq_X7_figureOf ⟨rfl, rfl, by decide, by decide⟩ rfl rfl (Nat.le_of_ble_eq_true rfl) dX7_readPart_129 (fun r5 σ6 h => ?_)
  refine gq_iast (i := 7) (j := s1.toNatClampNeg) C gms_7 0 rfl rfl h.1 dX7_readPart_132 ?_
  have h := h.2
  refine gq_aload_n (j := 0) C dX7_readPart_133 rfl ?_
  refine gq_get (v := .ref (ad 7)) (i := 0) C gms_0 rfl iq_X7_readPart_X7 8 (by decide) fq_X7_readPart_28 rfl dX7_readPart_134 ?_
  refine gq_iconst (v := 3) C dX7_readPart_137 (by decide) ?_
  refine gq_aload_n (j := 0) C dX7_readPart_138 rfl ?_
  refine gq_get (v := .int (((gq_put σ6 7 s1.toNatClampNeg r5)).1 0 10)) (i := 0) C gms_0 rfl iq_X7_readPart_X7 10 (by decide) fq_X7_readPart_78 rfl dX7_readPart_139 ?_
  refine gq_imul C dX7_readPart_142 ?_
  refine gq_iconst (v := 1) C dX7_readPart_143 (by decide) ?_
  refine gq_iadd C dX7_readPart_144 ?_
  refine gq_aload_n (j := 0) C dX7_readPart_145 rfl ?_
  refine gq_iconst (v := 1) C dX7_readPart_146 (by decide) ?_
  refine gq_bipush (v := 9) C dX7_readPart_147 (by decide) ?_
  refine gq_vi (i := 0) C gms_0 rfl [.int 1, .int 9] (mq_X7_figureOf C.2.2.1 1 9 (gq_put σ6 7 s1.toNatClampNeg r5) _ h) gX7_readPart_X7_figureOf rfl rfl dq_X7_figureOf ⟨rfl, rfl, by decide, by decide⟩ rfl rfl (Nat.le_of_ble_eq_true rfl) dX7_readPart_149 (fun r7 σ8 h => ?_)
  refine gq_iast (i := 7) (j := (((3 * (((gq_put σ6 7 s1.toNatClampNeg r5)).1 0 10)) + 1)).toNatClampNeg) C gms_7 0 rfl rfl h.1 dX7_readPart_152 ?_
  have h := h.2
  refine gq_aload_n (j := 0) C dX7_readPart_153 rfl ?_
  refine gq_get (v := .ref (ad 7)) (i := 0) C gms_0 rfl iq_X7_readPart_X7 8 (by decide) fq_X7_readPart_28 rfl dX7_readPart_154 ?_
  refine gq_iconst (v := 3) C dX7_readPart_157 (by decide) ?_
  refine gq_aload_n (j := 0) C dX7_readPart_158 rfl ?_
  refine gq_get (v := .int (((gq_put σ8 7 (((3 * (((gq_put σ6 7 s1.toNatClampNeg r5)).1 0 10)) + 1)).toNatClampNeg r7)).1 0 10)) (i := 0) C gms_0 rfl iq_X7_readPart_X7 10 (by decide) fq_X7_readPart_78 rfl dX7_readPart_159 ?_
  refine gq_imul C dX7_readPart_162 ?_
  refine gq_iconst (v := 2) C dX7_readPart_163 (by decide) ?_
  refine gq_iadd C dX7_readPart_164 ?_
  refine gq_aload_n (j := 0) C dX7_readPart_165 rfl ?_
  refine gq_iconst (v := 0) C dX7_readPart_166 (by decide) ?_
  refine gq_iconst (v := 3) C dX7_readPart_167 (by decide) ?_
  refine gq_vi (i := 0) C gms_0 rfl [.int 0, .int 3] (mq_X7_figureOf C.2.2.1 0 3 (gq_put σ8 7 (((3 * (((gq_put σ6 7 s1.toNatClampNeg r5)).1 0 10)) + 1)).toNatClampNeg r7) _ h) gX7_readPart_X7_figureOf rfl rfl dq_X7_figureOf ⟨rfl, rfl, by decide, by decide⟩ rfl rfl (Nat.le_of_ble_eq_true rfl) dX7_readPart_168 (fun r9 σ10 h => ?_)
  refine gq_iast (i := 7) (j := (((3 * (((gq_put σ8 7 (((3 * (((gq_put σ6 7 s1.toNatClampNeg r5)).1 0 10)) + 1)).toNatClampNeg r7)).1 0 10)) + 2)).toNatClampNeg) C gms_7 0 rfl rfl h.1 dX7_readPart_171 ?_
  have h := h.2
  refine gq_aload_n (j := 0) C dX7_readPart_172 rfl ?_
  refine gq_dup C dX7_readPart_173 rfl ?_
  refine gq_get (v := .int (((gq_put σ10 7 (((3 * (((gq_put σ8 7 (((3 * (((gq_put σ6 7 s1.toNatClampNeg r5)).1 0 10)) + 1)).toNatClampNeg r7)).1 0 10)) + 2)).toNatClampNeg r9)).1 0 10)) (i := 0) C gms_0 rfl iq_X7_readPart_X7 10 (by decide) fq_X7_readPart_78 rfl dX7_readPart_174 ?_
  refine gq_iconst (v := 1) C dX7_readPart_177 (by decide) ?_
  refine gq_iadd C dX7_readPart_178 ?_
  refine gq_puti (i := 0) C gms_0 rfl iq_X7_readPart_X7 tyX7 tyX7_ok nmX7 10 (by decide) fq_X7_readPart_78 rfl rfl rfl (fun _ _ => Nat.le_of_ble_eq_true rfl) gs_X7_10 dX7_readPart_179 ?_
  refine gq_goto (tgt := 193) C dX7_readPart_182 (by decide) ?_
  exact gq_vret C h dX7_readPart_193
def wq_X7_readPart_b75 (Q : gq_M → Prop) (x1 : Int32) (σ : gq_M) : Prop := ((¬ x1 = 84 → wq_X7_readPart_b185 Q σ) ∧ (x1 = 84 → ((5 ≤ (σ.1 0 10) → wq_X7_readPart_b185 Q σ) ∧ (¬ 5 ≤ (σ.1 0 10) → ((9 ≤ (((gq_put σ 0 13 ((σ.1 0 13) + 1))).1 0 9) → wq_X7_readPart_b129 Q (3 * (((gq_put σ 0 13 ((σ.1 0 13) + 1))).1 0 10)) 0 9 (gq_put σ 0 13 ((σ.1 0 13) + 1))) ∧ (¬ 9 ≤ (((gq_put σ 0 13 ((σ.1 0 13) + 1))).1 0 9) → wq_X7_readPart_b129 Q (3 * (((gq_put σ 0 13 ((σ.1 0 13) + 1))).1 0 10)) 0 (((gq_put σ 0 13 ((σ.1 0 13) + 1))).1 0 9) (gq_put σ 0 13 ((σ.1 0 13) + 1))))))))
set_option maxRecDepth 100000 in
set_option maxHeartbeats 4000000 in
theorem tq_X7_readPart_b75 {p : Program} {l : Launch} {e : Env} {s : State} {m : MethodId} {args : Array Value} {below : List Frame} {meth : Method} {c : Code} {D : va_G} {cyI cyZ : ClassId} {ad : Nat → Nat} {Q : gq_M → Prop} (C : gq_C p s m args meth c cX7_readPart 2 RX7 wsX7_readPart D (gm_T cyI cyZ) 17 ad none) (x1 : Int32) (σ : gq_M) (h : wq_X7_readPart_b75 Q x1 σ) : gq_G p l e rq_X7_readPart s m args below meth c (gq_Rv below args s D (gm_T cyI cyZ) 17 ad (gm_S cyI cyZ ad) Q) D 17 ad (gm_S cyI cyZ ad) 2 σ 75 [(0, .ref (ad 0)), (1, .int x1)] [] := by
  unfold wq_X7_readPart_b75 at h
  refine gq_iload_n (j := 1) C dX7_readPart_75 rfl ?_
  refine gq_bipush (v := 84) C dX7_readPart_76 (by decide) ?_
  refine gq_icmp_ne (tgt := 185) C dX7_readPart_78 (by decide) (fun c2 => ?_) (fun c2 => ?_)
  · have h := h.1 c2
    refine gq_sub [0] rfl ?_
    exact tq_X7_readPart_b185 C _ h
  · have h := h.2 c2
    refine gq_aload_n (j := 0) C dX7_readPart_81 rfl ?_
    refine gq_get (v := .int (σ.1 0 10)) (i := 0) C gms_0 rfl iq_X7_readPart_X7 10 (by decide) fq_X7_readPart_78 rfl dX7_readPart_82 ?_
    refine gq_iconst (v := 5) C dX7_readPart_85 (by decide) ?_
    refine gq_icmp_ge (tgt := 185) C dX7_readPart_86 (by decide) (fun c3 => ?_) (fun c3 => ?_)
    · have h := h.1 c3
      refine gq_sub [0] rfl ?_
      exact tq_X7_readPart_b185 C _ h
    · have h := h.2 c3
      refine gq_aload_n (j := 0) C dX7_readPart_89 rfl ?_
      refine gq_dup C dX7_readPart_90 rfl ?_
      refine gq_get (v := .int (σ.1 0 13)) (i := 0) C gms_0 rfl iq_X7_readPart_X7 13 (by decide) fq_X7_readPart_72 rfl dX7_readPart_91 ?_
      refine gq_iconst (v := 1) C dX7_readPart_94 (by decide) ?_
      refine gq_iadd C dX7_readPart_95 ?_
      refine gq_puti (i := 0) C gms_0 rfl iq_X7_readPart_X7 tyX7 tyX7_ok nmX7 13 (by decide) fq_X7_readPart_72 rfl rfl rfl (fun _ _ => Nat.le_of_ble_eq_true rfl) gs_X7_13 dX7_readPart_96 ?_
      refine gq_aload_n (j := 0) C dX7_readPart_99 rfl ?_
      refine gq_get (v := .ref (ad 7)) (i := 0) C gms_0 rfl iq_X7_readPart_X7 8 (by decide) fq_X7_readPart_28 rfl dX7_readPart_100 ?_
      refine gq_iconst (v := 3) C dX7_readPart_103 (by decide) ?_
      refine gq_aload_n (j := 0) C dX7_readPart_104 rfl ?_
      refine gq_get (v := .int (((gq_put σ 0 13 ((σ.1 0 13) + 1))).1 0 10)) (i := 0) C gms_0 rfl iq_X7_readPart_X7 10 (by decide) fq_X7_readPart_78 rfl dX7_readPart_105 ?_
      refine gq_imul C dX7_readPart_108 ?_
      refine gq_aload_n (j := 0) C dX7_readPart_109 rfl ?_
      refine gq_iconst (v := 0) C dX7_readPart_110 (by decide) ?_
      refine gq_aload_n (j := 0) C dX7_readPart_111 rfl ?_
      refine gq_get (v := .int (((gq_put σ 0 13 ((σ.1 0 13) + 1))).1 0 9)) (i := 0) C gms_0 rfl iq_X7_readPart_X7 9 (by decide) fq_X7_readPart_75 rfl dX7_readPart_112 ?_
      refine gq_bipush (v := 9) C dX7_readPart_115 (by decide) ?_
      refine gq_icmp_ge (tgt := 127) C dX7_readPart_117 (by decide) (fun c4 => ?_) (fun c4 => ?_)
      · have h := h.1 c4
        refine gq_bipush (v := 9) C dX7_readPart_127 (by decide) ?_
        refine gq_sub [0] rfl ?_
        exact tq_X7_readPart_b129 C _ _ _ _ h
      · have h := h.2 c4
        refine gq_aload_n (j := 0) C dX7_readPart_120 rfl ?_
        refine gq_get (v := .int (((gq_put σ 0 13 ((σ.1 0 13) + 1))).1 0 9)) (i := 0) C gms_0 rfl iq_X7_readPart_X7 9 (by decide) fq_X7_readPart_75 rfl dX7_readPart_121 ?_
        refine gq_goto (tgt := 129) C dX7_readPart_124 (by decide) ?_
        refine gq_sub [0] rfl ?_
        exact tq_X7_readPart_b129 C _ _ _ _ h
def wq_X7_readPart (a1 : Int32) (σ : gq_M) (Q : gq_M → Prop) : Prop := ((¬ a1 = 70 → wq_X7_readPart_b75 Q a1 σ) ∧ (a1 = 70 → ((10 ≤ (σ.1 0 9) → wq_X7_readPart_b75 Q a1 σ) ∧ (¬ 10 ≤ (σ.1 0 9) → wq_X7_figureOf 1 9 (gq_put σ 0 13 ((σ.1 0 13) + 1)) (fun r12 σ13 => vp_in (2 * (((gq_put σ 0 13 ((σ.1 0 13) + 1))).1 0 9)) 20 ∧ wq_X7_figureOf 0 3 (gq_put σ13 6 ((2 * (((gq_put σ 0 13 ((σ.1 0 13) + 1))).1 0 9))).toNatClampNeg r12) (fun r14 σ15 => vp_in ((2 * (((gq_put σ13 6 ((2 * (((gq_put σ 0 13 ((σ.1 0 13) + 1))).1 0 9))).toNatClampNeg r12)).1 0 9)) + 1) 20 ∧ Q (gq_put (gq_put σ15 6 (((2 * (((gq_put σ13 6 ((2 * (((gq_put σ 0 13 ((σ.1 0 13) + 1))).1 0 9))).toNatClampNeg r12)).1 0 9)) + 1)).toNatClampNeg r14) 0 9 ((((gq_put σ15 6 (((2 * (((gq_put σ13 6 ((2 * (((gq_put σ 0 13 ((σ.1 0 13) + 1))).1 0 9))).toNatClampNeg r12)).1 0 9)) + 1)).toNatClampNeg r14)).1 0 9) + 1))))))))
set_option maxRecDepth 100000 in
set_option maxHeartbeats 4000000 in
theorem tq_X7_readPart {p : Program} {l : Launch} {e : Env} {s : State} {m : MethodId} {args : Array Value} {below : List Frame} {meth : Method} {c : Code} {D : va_G} {cyI cyZ : ClassId} {ad : Nat → Nat} {Q : gq_M → Prop} (C : gq_C p s m args meth c cX7_readPart 2 RX7 wsX7_readPart D (gm_T cyI cyZ) 17 ad none) (a1 : Int32) (σ : gq_M) (h : wq_X7_readPart a1 σ Q) : gq_G p l e rq_X7_readPart s m args below meth c (gq_Rv below args s D (gm_T cyI cyZ) 17 ad (gm_S cyI cyZ ad) Q) D 17 ad (gm_S cyI cyZ ad) 2 σ 0 [(0, .ref (ad 0)), (1, .int a1)] [] := by
  unfold wq_X7_readPart at h
  refine gq_iload_n (j := 1) C dX7_readPart_0 rfl ?_
  refine gq_bipush (v := 70) C dX7_readPart_1 (by decide) ?_
  refine gq_icmp_ne (tgt := 75) C dX7_readPart_3 (by decide) (fun c1 => ?_) (fun c1 => ?_)
  · have h := h.1 c1
    exact tq_X7_readPart_b75 C _ _ h
  · have h := h.2 c1
    refine gq_aload_n (j := 0) C dX7_readPart_6 rfl ?_
    refine gq_get (v := .int (σ.1 0 9)) (i := 0) C gms_0 rfl iq_X7_readPart_X7 9 (by decide) fq_X7_readPart_75 rfl dX7_readPart_7 ?_
    refine gq_bipush (v := 10) C dX7_readPart_10 (by decide) ?_
    refine gq_icmp_ge (tgt := 75) C dX7_readPart_12 (by decide) (fun c11 => ?_) (fun c11 => ?_)
    · have h := h.1 c11
      exact tq_X7_readPart_b75 C _ _ h
    · have h := h.2 c11
      refine gq_aload_n (j := 0) C dX7_readPart_15 rfl ?_
      refine gq_dup C dX7_readPart_16 rfl ?_
      refine gq_get (v := .int (σ.1 0 13)) (i := 0) C gms_0 rfl iq_X7_readPart_X7 13 (by decide) fq_X7_readPart_72 rfl dX7_readPart_17 ?_
      refine gq_iconst (v := 1) C dX7_readPart_20 (by decide) ?_
      refine gq_iadd C dX7_readPart_21 ?_
      refine gq_puti (i := 0) C gms_0 rfl iq_X7_readPart_X7 tyX7 tyX7_ok nmX7 13 (by decide) fq_X7_readPart_72 rfl rfl rfl (fun _ _ => Nat.le_of_ble_eq_true rfl) gs_X7_13 dX7_readPart_22 ?_
      refine gq_aload_n (j := 0) C dX7_readPart_25 rfl ?_
      refine gq_get (v := .ref (ad 6)) (i := 0) C gms_0 rfl iq_X7_readPart_X7 7 (by decide) fq_X7_readPart_25 rfl dX7_readPart_26 ?_
      refine gq_iconst (v := 2) C dX7_readPart_29 (by decide) ?_
      refine gq_aload_n (j := 0) C dX7_readPart_30 rfl ?_
      refine gq_get (v := .int (((gq_put σ 0 13 ((σ.1 0 13) + 1))).1 0 9)) (i := 0) C gms_0 rfl iq_X7_readPart_X7 9 (by decide) fq_X7_readPart_75 rfl dX7_readPart_31 ?_
      refine gq_imul C dX7_readPart_34 ?_
      refine gq_aload_n (j := 0) C dX7_readPart_35 rfl ?_
      refine gq_iconst (v := 1) C dX7_readPart_36 (by decide) ?_
      refine gq_bipush (v := 9) C dX7_readPart_37 (by decide) ?_
      refine gq_vi (i := 0) C gms_0 rfl [.int 1, .int 9] (mq_X7_figureOf C.2.2.1 1 9 (gq_put σ 0 13 ((σ.1 0 13) + 1)) _ h) gX7_readPart_X7_figureOf rfl rfl dq_X7_figureOf ⟨rfl, rfl, by decide, by decide⟩ rfl rfl (Nat.le_of_ble_eq_true rfl) dX7_readPart_39 (fun r12 σ13 h => ?_)
      refine gq_iast (i := 6) (j := ((2 * (((gq_put σ 0 13 ((σ.1 0 13) + 1))).1 0 9))).toNatClampNeg) C gms_6 0 rfl rfl h.1 dX7_readPart_42 ?_
      have h := h.2
      refine gq_aload_n (j := 0) C dX7_readPart_43 rfl ?_
      refine gq_get (v := .ref (ad 6)) (i := 0) C gms_0 rfl iq_X7_readPart_X7 7 (by decide) fq_X7_readPart_25 rfl dX7_readPart_44 ?_
      refine gq_iconst (v := 2) C dX7_readPart_47 (by decide) ?_
      refine gq_aload_n (j := 0) C dX7_readPart_48 rfl ?_
      refine gq_get (v := .int (((gq_put σ13 6 ((2 * (((gq_put σ 0 13 ((σ.1 0 13) + 1))).1 0 9))).toNatClampNeg r12)).1 0 9)) (i := 0) C gms_0 rfl iq_X7_readPart_X7 9 (by decide) fq_X7_readPart_75 rfl dX7_readPart_49 ?_
      refine gq_imul C dX7_readPart_52 ?_
      refine gq_iconst (v := 1) C dX7_readPart_53 (by decide) ?_
      refine gq_iadd C dX7_readPart_54 ?_
      refine gq_aload_n (j := 0) C dX7_readPart_55 rfl ?_
      refine gq_iconst (v := 0) C dX7_readPart_56 (by decide) ?_
      refine gq_iconst (v := 3) C dX7_readPart_57 (by decide) ?_
      refine gq_vi (i := 0) C gms_0 rfl [.int 0, .int 3] (mq_X7_figureOf C.2.2.1 0 3 (gq_put σ13 6 ((2 * (((gq_put σ 0 13 ((σ.1 0 13) + 1))).1 0 9))).toNatClampNeg r12) _ h) gX7_readPart_X7_figureOf rfl rfl dq_X7_figureOf ⟨rfl, rfl, by decide, by decide⟩ rfl rfl (Nat.le_of_ble_eq_true rfl) dX7_readPart_58 (fun r14 σ15 h => ?_)
      refine gq_iast (i := 6) (j := (((2 * (((gq_put σ13 6 ((2 * (((gq_put σ 0 13 ((σ.1 0 13) + 1))).1 0 9))).toNatClampNeg r12)).1 0 9)) + 1)).toNatClampNeg) C gms_6 0 rfl rfl h.1 dX7_readPart_61 ?_
      have h := h.2
      refine gq_aload_n (j := 0) C dX7_readPart_62 rfl ?_
      refine gq_dup C dX7_readPart_63 rfl ?_
      refine gq_get (v := .int (((gq_put σ15 6 (((2 * (((gq_put σ13 6 ((2 * (((gq_put σ 0 13 ((σ.1 0 13) + 1))).1 0 9))).toNatClampNeg r12)).1 0 9)) + 1)).toNatClampNeg r14)).1 0 9)) (i := 0) C gms_0 rfl iq_X7_readPart_X7 9 (by decide) fq_X7_readPart_75 rfl dX7_readPart_64 ?_
      refine gq_iconst (v := 1) C dX7_readPart_67 (by decide) ?_
      refine gq_iadd C dX7_readPart_68 ?_
      refine gq_puti (i := 0) C gms_0 rfl iq_X7_readPart_X7 tyX7 tyX7_ok nmX7 9 (by decide) fq_X7_readPart_75 rfl rfl rfl (fun _ _ => Nat.le_of_ble_eq_true rfl) gs_X7_9 dX7_readPart_69 ?_
      refine gq_goto (tgt := 193) C dX7_readPart_72 (by decide) ?_
      exact gq_vret C h dX7_readPart_193
theorem mq_X7_readPart {l : Launch} {D : va_G} {cyI cyZ : ClassId} {ad : Nat → Nat} (hap : gq_ap 17 ad) (a1 : Int32) (σ : gq_M) (Q : gq_M → Prop) (h : wq_X7_readPart a1 σ Q) : Met l yX7_readPart wsX7_readPart rq_X7_readPart (va_Pc [.ref (ad 0), .int a1] (gq_P D (gm_T cyI cyZ) 17 ad (gm_S cyI cyZ ad) σ)) (va_Qv Q (gq_P D (gm_T cyI cyZ) 17 ad (gm_S cyI cyZ ad)) (gq_A 17 ad)) 0 0 (gq_A 17 ad) :=
  gq_met hap (by decide) rfl rfl (Nat.le_of_ble_eq_true rfl) (fun _ _ _ _ _ _ _ C => tq_X7_readPart C a1 σ h)
abbrev rq_X7_readText : Room := { frames := 3, cells := 0, slots := 0, locals := 70 }
theorem dq_X7_readText : gq_dsc yX7_readText 0 := by unfold gq_dsc; decide +kernel
theorem iq_X7_readText_X7 : ∀ w ∈ u_ws RX7 TX7 30, w ∈ wsX7_readText := by decide +kernel
theorem fq_X7_readText_72 : Cond.fieldLink RX7 72 (TX7 13).1 (TX7 13).2.1 (TX7 13).2.2.1 ∈ wsX7_readText := by decide +kernel
theorem fq_X7_readText_69 : Cond.fieldLink RX7 69 (TX7 14).1 (TX7 14).2.1 (TX7 14).2.2.1 ∈ wsX7_readText := by decide +kernel
theorem fq_X7_readText_75 : Cond.fieldLink RX7 75 (TX7 9).1 (TX7 9).2.1 (TX7 9).2.2.1 ∈ wsX7_readText := by decide +kernel
theorem fq_X7_readText_78 : Cond.fieldLink RX7 78 (TX7 10).1 (TX7 10).2.1 (TX7 10).2.2.1 ∈ wsX7_readText := by decide +kernel
theorem fq_X7_readText_65 : Cond.fieldLink RX7 65 (TX7 12).1 (TX7 12).2.1 (TX7 12).2.2.1 ∈ wsX7_readText := by decide +kernel
theorem fq_X7_readText_31 : Cond.fieldLink RX7 31 (TX7 11).1 (TX7 11).2.1 (TX7 11).2.2.1 ∈ wsX7_readText := by decide +kernel
def wq_X7_readText_l46 (Q : Int32 → gq_M → Prop) (K82 : gq_M → Prop) : Nat → gq_M → Prop
  | 0, _ => False
  | n + 1, σ => ((¬ (σ.1 0 14) = (-9) → K82 σ) ∧ ((σ.1 0 14) = (-9) → (((σ.1 0 12) ≤ (σ.1 0 13) → K82 σ) ∧ (¬ (σ.1 0 12) ≤ (σ.1 0 13) → vp_in (σ.1 0 13) 52 ∧ wq_X7_readPart (σ.1 8 ((σ.1 0 13)).toNatClampNeg) σ (fun σ6 => wq_X7_readText_l46 Q K82 n σ6)))))
set_option maxRecDepth 100000 in
set_option maxHeartbeats 4000000 in
theorem tq_X7_readText_l46 {p : Program} {l : Launch} {e : Env} {s : State} {m : MethodId} {args : Array Value} {below : List Frame} {meth : Method} {c : Code} {D : va_G} {cyI cyZ : ClassId} {ad : Nat → Nat} {Q : Int32 → gq_M → Prop} {K82 : gq_M → Prop} (C : gq_C p s m args meth c cX7_readText 1 RX7 wsX7_readText D (gm_T cyI cyZ) 17 ad (some .int)) (hK82 : ∀ (τ : gq_M), K82 τ → gq_G p l e rq_X7_readText s m args below meth c (gq_Ri below args s D (gm_T cyI cyZ) 17 ad (gm_S cyI cyZ ad) Q) D 17 ad (gm_S cyI cyZ ad) 1 τ 82 [(0, .ref (ad 0))] []) : ∀ (n : Nat) (σ : gq_M), wq_X7_readText_l46 Q K82 n σ → gq_G p l e rq_X7_readText s m args below meth c (gq_Ri below args s D (gm_T cyI cyZ) 17 ad (gm_S cyI cyZ ad) Q) D 17 ad (gm_S cyI cyZ ad) 1 σ 46 [(0, .ref (ad 0))] [] := by
  intro n
  induction n with
  | zero =>
    intro  σ h
    exact absurd h (fun q => q)
  | succ n ih =>
    intro  σ h
    unfold wq_X7_readText_l46 at h
    refine gq_aload_n (j := 0) C dX7_readText_46 rfl ?_
    refine gq_get (v := .int (σ.1 0 14)) (i := 0) C gms_0 rfl iq_X7_readText_X7 14 (by decide) fq_X7_readText_69 rfl dX7_readText_47 ?_
    refine gq_bipush (v := (-9)) C dX7_readText_50 (by decide) ?_
    refine gq_icmp_ne (tgt := 82) C dX7_readText_52 (by decide) (fun c3 => ?_) (fun c3 => ?_)
    · have h := h.1 c3
      exact hK82  _ h
    · have h := h.2 c3
      refine gq_aload_n (j := 0) C dX7_readText_55 rfl ?_
      refine gq_get (v := .int (σ.1 0 13)) (i := 0) C gms_0 rfl iq_X7_readText_X7 13 (by decide) fq_X7_readText_72 rfl dX7_readText_56 ?_
      refine gq_aload_n (j := 0) C dX7_readText_59 rfl ?_
      refine gq_get (v := .int (σ.1 0 12)) (i := 0) C gms_0 rfl iq_X7_readText_X7 12 (by decide) fq_X7_readText_65 rfl dX7_readText_60 ?_
      refine gq_icmp_ge (tgt := 82) C dX7_readText_63 (by decide) (fun c4 => ?_) (fun c4 => ?_)
      · have h := h.1 c4
        exact hK82  _ h
      · have h := h.2 c4
        refine gq_aload_n (j := 0) C dX7_readText_66 rfl ?_
        refine gq_aload_n (j := 0) C dX7_readText_67 rfl ?_
        refine gq_get (v := .ref (ad 8)) (i := 0) C gms_0 rfl iq_X7_readText_X7 11 (by decide) fq_X7_readText_31 rfl dX7_readText_68 ?_
        refine gq_aload_n (j := 0) C dX7_readText_71 rfl ?_
        refine gq_get (v := .int (σ.1 0 13)) (i := 0) C gms_0 rfl iq_X7_readText_X7 13 (by decide) fq_X7_readText_72 rfl dX7_readText_72 ?_
        refine gq_iald (i := 8) (j := ((σ.1 0 13)).toNatClampNeg) C gms_8 0 rfl rfl h.1 dX7_readText_75 ?_
        have h := h.2
        refine gq_vv (i := 0) C gms_0 rfl [.int (σ.1 8 ((σ.1 0 13)).toNatClampNeg)] (mq_X7_readPart C.2.2.1 (σ.1 8 ((σ.1 0 13)).toNatClampNeg) σ _ h) gX7_readText_X7_readPart rfl rfl dq_X7_readPart ⟨rfl, rfl, by decide, by decide⟩ rfl rfl (Nat.le_of_ble_eq_true rfl) dX7_readText_76 (fun σ6 h => ?_)
        refine gq_goto (tgt := 46) C dX7_readText_79 (by decide) ?_
        exact ih  _ h
def wq_X7_readText_b82 (Q : Int32 → gq_M → Prop) (σ : gq_M) : Prop := Q (σ.1 0 14) σ
set_option maxRecDepth 100000 in
set_option maxHeartbeats 4000000 in
theorem tq_X7_readText_b82 {p : Program} {l : Launch} {e : Env} {s : State} {m : MethodId} {args : Array Value} {below : List Frame} {meth : Method} {c : Code} {D : va_G} {cyI cyZ : ClassId} {ad : Nat → Nat} {Q : Int32 → gq_M → Prop} (C : gq_C p s m args meth c cX7_readText 1 RX7 wsX7_readText D (gm_T cyI cyZ) 17 ad (some .int)) (σ : gq_M) (h : wq_X7_readText_b82 Q σ) : gq_G p l e rq_X7_readText s m args below meth c (gq_Ri below args s D (gm_T cyI cyZ) 17 ad (gm_S cyI cyZ ad) Q) D 17 ad (gm_S cyI cyZ ad) 1 σ 82 [(0, .ref (ad 0))] [] := by
  unfold wq_X7_readText_b82 at h
  refine gq_aload_n (j := 0) C dX7_readText_82 rfl ?_
  refine gq_get (v := .int (σ.1 0 14)) (i := 0) C gms_0 rfl iq_X7_readText_X7 14 (by decide) fq_X7_readText_69 rfl dX7_readText_83 ?_
  exact gq_iret C h dX7_readText_86
def wq_X7_readText (σ : gq_M) (Q : Int32 → gq_M → Prop) : Prop := (((((gq_put (gq_put (gq_put (gq_put σ 0 13 0) 0 14 (-9)) 0 9 0) 0 10 0)).1 0 12) = 0 → Q 0 (gq_put (gq_put (gq_put (gq_put σ 0 13 0) 0 14 (-9)) 0 9 0) 0 10 0)) ∧ (¬ (((gq_put (gq_put (gq_put (gq_put σ 0 13 0) 0 14 (-9)) 0 9 0) 0 10 0)).1 0 12) = 0 → ((((gq_put (gq_put (gq_put (gq_put σ 0 13 0) 0 14 (-9)) 0 9 0) 0 10 0).1 8 0) = 82 → (∃ n8, wq_X7_readText_l46 Q (fun σ7 => wq_X7_readText_b82 Q σ7) n8 (gq_put (gq_put (gq_put (gq_put (gq_put σ 0 13 0) 0 14 (-9)) 0 9 0) 0 10 0) 0 13 1))) ∧ (¬ ((gq_put (gq_put (gq_put (gq_put σ 0 13 0) 0 14 (-9)) 0 9 0) 0 10 0).1 8 0) = 82 → Q 0 (gq_put (gq_put (gq_put (gq_put σ 0 13 0) 0 14 (-9)) 0 9 0) 0 10 0)))))
set_option maxRecDepth 100000 in
set_option maxHeartbeats 4000000 in
theorem tq_X7_readText {p : Program} {l : Launch} {e : Env} {s : State} {m : MethodId} {args : Array Value} {below : List Frame} {meth : Method} {c : Code} {D : va_G} {cyI cyZ : ClassId} {ad : Nat → Nat} {Q : Int32 → gq_M → Prop} (C : gq_C p s m args meth c cX7_readText 1 RX7 wsX7_readText D (gm_T cyI cyZ) 17 ad (some .int)) (σ : gq_M) (h : wq_X7_readText σ Q) : gq_G p l e rq_X7_readText s m args below meth c (gq_Ri below args s D (gm_T cyI cyZ) 17 ad (gm_S cyI cyZ ad) Q) D 17 ad (gm_S cyI cyZ ad) 1 σ 0 [(0, .ref (ad 0))] [] := by
  unfold wq_X7_readText at h
  refine gq_aload_n (j := 0) C dX7_readText_0 rfl ?_
  refine gq_iconst (v := 0) C dX7_readText_1 (by decide) ?_
  refine gq_puti (i := 0) C gms_0 rfl iq_X7_readText_X7 tyX7 tyX7_ok nmX7 13 (by decide) fq_X7_readText_72 rfl rfl rfl (fun _ _ => Nat.le_of_ble_eq_true rfl) gs_X7_13 dX7_readText_2 ?_
  refine gq_aload_n (j := 0) C dX7_readText_5 rfl ?_
  refine gq_bipush (v := (-9)) C dX7_readText_6 (by decide) ?_
  refine gq_puti (i := 0) C gms_0 rfl iq_X7_readText_X7 tyX7 tyX7_ok nmX7 14 (by decide) fq_X7_readText_69 rfl rfl rfl (fun _ _ => Nat.le_of_ble_eq_true rfl) gs_X7_14 dX7_readText_8 ?_
  refine gq_aload_n (j := 0) C dX7_readText_11 rfl ?_
  refine gq_iconst (v := 0) C dX7_readText_12 (by decide) ?_
  refine gq_puti (i := 0) C gms_0 rfl iq_X7_readText_X7 tyX7 tyX7_ok nmX7 9 (by decide) fq_X7_readText_75 rfl rfl rfl (fun _ _ => Nat.le_of_ble_eq_true rfl) gs_X7_9 dX7_readText_13 ?_
  refine gq_aload_n (j := 0) C dX7_readText_16 rfl ?_
  refine gq_iconst (v := 0) C dX7_readText_17 (by decide) ?_
  refine gq_puti (i := 0) C gms_0 rfl iq_X7_readText_X7 tyX7 tyX7_ok nmX7 10 (by decide) fq_X7_readText_78 rfl rfl rfl (fun _ _ => Nat.le_of_ble_eq_true rfl) gs_X7_10 dX7_readText_18 ?_
  refine gq_aload_n (j := 0) C dX7_readText_21 rfl ?_
  refine gq_get (v := .int (((gq_put (gq_put (gq_put (gq_put σ 0 13 0) 0 14 (-9)) 0 9 0) 0 10 0)).1 0 12)) (i := 0) C gms_0 rfl iq_X7_readText_X7 12 (by decide) fq_X7_readText_65 rfl dX7_readText_22 ?_
  refine gq_if_eq (tgt := 39) C dX7_readText_25 (by decide) (fun c1 => ?_) (fun c1 => ?_)
  · have h := h.1 c1
    refine gq_iconst (v := 0) C dX7_readText_39 (by decide) ?_
    exact gq_iret C h dX7_readText_40
  · have h := h.2 c1
    refine gq_aload_n (j := 0) C dX7_readText_28 rfl ?_
    refine gq_get (v := .ref (ad 8)) (i := 0) C gms_0 rfl iq_X7_readText_X7 11 (by decide) fq_X7_readText_31 rfl dX7_readText_29 ?_
    refine gq_iconst (v := 0) C dX7_readText_32 (by decide) ?_
    refine gq_iald (i := 8) (j := 0) C gms_8 0 rfl (by decide) (vp_in_iff.mpr ⟨by decide, by decide⟩) dX7_readText_33 ?_
    refine gq_bipush (v := 82) C dX7_readText_34 (by decide) ?_
    refine gq_icmp_eq (tgt := 41) C dX7_readText_36 (by decide) (fun c2 => ?_) (fun c2 => ?_)
    · have h := h.1 c2
      refine gq_aload_n (j := 0) C dX7_readText_41 rfl ?_
      refine gq_iconst (v := 1) C dX7_readText_42 (by decide) ?_
      refine gq_puti (i := 0) C gms_0 rfl iq_X7_readText_X7 tyX7 tyX7_ok nmX7 13 (by decide) fq_X7_readText_72 rfl rfl rfl (fun _ _ => Nat.le_of_ble_eq_true rfl) gs_X7_13 dX7_readText_43 ?_
      obtain ⟨n8, h⟩ := h
      refine tq_X7_readText_l46 C (fun σ7 h => ?_) n8 _ h
      exact tq_X7_readText_b82 C _ h
    · have h := h.2 c2
      refine gq_iconst (v := 0) C dX7_readText_39 (by decide) ?_
      exact gq_iret C h dX7_readText_40
theorem mq_X7_readText {l : Launch} {D : va_G} {cyI cyZ : ClassId} {ad : Nat → Nat} (hap : gq_ap 17 ad) (σ : gq_M) (Q : Int32 → gq_M → Prop) (h : wq_X7_readText σ Q) : Met l yX7_readText wsX7_readText rq_X7_readText (va_Pc [.ref (ad 0)] (gq_P D (gm_T cyI cyZ) 17 ad (gm_S cyI cyZ ad) σ)) (va_Qi Q (gq_P D (gm_T cyI cyZ) 17 ad (gm_S cyI cyZ ad)) (gq_A 17 ad)) 0 0 (gq_A 17 ad) :=
  gq_met hap (by decide) rfl rfl (Nat.le_of_ble_eq_true rfl) (fun _ _ _ _ _ _ _ C => tq_X7_readText C σ h)
abbrev rq_X7_fault : Room := { frames := 4, cells := 0, slots := 0, locals := 90 }
theorem dq_X7_fault : gq_dsc yX7_fault 0 := by unfold gq_dsc; decide +kernel
def wq_X7_fault (σ : gq_M) (Q : Int32 → gq_M → Prop) : Prop := wq_X7_readText σ (fun r1 σ2 => Q r1 σ2)
set_option maxRecDepth 100000 in
set_option maxHeartbeats 4000000 in
theorem tq_X7_fault {p : Program} {l : Launch} {e : Env} {s : State} {m : MethodId} {args : Array Value} {below : List Frame} {meth : Method} {c : Code} {D : va_G} {cyI cyZ : ClassId} {ad : Nat → Nat} {Q : Int32 → gq_M → Prop} (C : gq_C p s m args meth c cX7_fault 1 RX7 wsX7_fault D (gm_T cyI cyZ) 17 ad (some .int)) (σ : gq_M) (h : wq_X7_fault σ Q) : gq_G p l e rq_X7_fault s m args below meth c (gq_Ri below args s D (gm_T cyI cyZ) 17 ad (gm_S cyI cyZ ad) Q) D 17 ad (gm_S cyI cyZ ad) 1 σ 0 [(0, .ref (ad 0))] [] := by
  unfold wq_X7_fault at h
  refine gq_aload_n (j := 0) C dX7_fault_0 rfl ?_
  refine gq_vi (i := 0) C gms_0 rfl [] (mq_X7_readText C.2.2.1 σ _ h) gX7_fault_X7_readText rfl rfl dq_X7_readText ⟨rfl, rfl, by decide, by decide⟩ rfl rfl (Nat.le_of_ble_eq_true rfl) dX7_fault_1 (fun r1 σ2 h => ?_)
  exact gq_iret C h dX7_fault_4
theorem mq_X7_fault {l : Launch} {D : va_G} {cyI cyZ : ClassId} {ad : Nat → Nat} (hap : gq_ap 17 ad) (σ : gq_M) (Q : Int32 → gq_M → Prop) (h : wq_X7_fault σ Q) : Met l yX7_fault wsX7_fault rq_X7_fault (va_Pc [.ref (ad 0)] (gq_P D (gm_T cyI cyZ) 17 ad (gm_S cyI cyZ ad) σ)) (va_Qi Q (gq_P D (gm_T cyI cyZ) 17 ad (gm_S cyI cyZ ad)) (gq_A 17 ad)) 0 0 (gq_A 17 ad) :=
  gq_met hap (by decide) rfl rfl (Nat.le_of_ble_eq_true rfl) (fun _ _ _ _ _ _ _ C => tq_X7_fault C σ h)
abbrev rq_X7_smooth : Room := { frames := 0, cells := 0, slots := 0, locals := 0 }
theorem dq_X7_smooth : gq_dsc yX7_smooth 0 := by unfold gq_dsc; decide +kernel
theorem iq_X7_smooth_X7 : ∀ w ∈ u_ws RX7 TX7 30, w ∈ wsX7_smooth := by decide +kernel
theorem fq_X7_smooth_93 : Cond.fieldLink RX7 93 (TX7 0).1 (TX7 0).2.1 (TX7 0).2.2.1 ∈ wsX7_smooth := by decide +kernel
theorem fq_X7_smooth_13 : Cond.fieldLink RX7 13 (TX7 3).1 (TX7 3).2.1 (TX7 3).2.2.1 ∈ wsX7_smooth := by decide +kernel
def wq_X7_smooth_b30 (Q : Int32 → gq_M → Prop) (K4 : Int32 → Int32 → gq_M → Prop) (x2 : Int32) (s0 : Int32) (s1 : Int32) (σ : gq_M) : Prop := ∀ v3, v3 = (s0 ||| s1) → ∀ v4, v4 = (x2 + 1) → K4 v3 v4 σ
set_option maxRecDepth 100000 in
set_option maxHeartbeats 4000000 in
theorem tq_X7_smooth_b30 {p : Program} {l : Launch} {e : Env} {s : State} {m : MethodId} {args : Array Value} {below : List Frame} {meth : Method} {c : Code} {D : va_G} {cyI cyZ : ClassId} {ad : Nat → Nat} {Q : Int32 → gq_M → Prop} {K4 : Int32 → Int32 → gq_M → Prop} (C : gq_C p s m args meth c cX7_smooth 3 RX7 wsX7_smooth D (gm_T cyI cyZ) 17 ad (some .int)) (hK4 : ∀ (y1 : Int32) (y2 : Int32) (τ : gq_M), K4 y1 y2 τ → gq_G p l e rq_X7_smooth s m args below meth c (gq_Ri below args s D (gm_T cyI cyZ) 17 ad (gm_S cyI cyZ ad) Q) D 17 ad (gm_S cyI cyZ ad) 3 τ 4 [(0, .ref (ad 0)), (1, .int y1), (2, .int y2)] []) (x2 : Int32) (s0 : Int32) (s1 : Int32) (σ : gq_M) (h : wq_X7_smooth_b30 Q K4 x2 s0 s1 σ) : gq_G p l e rq_X7_smooth s m args below meth c (gq_Ri below args s D (gm_T cyI cyZ) 17 ad (gm_S cyI cyZ ad) Q) D 17 ad (gm_S cyI cyZ ad) 3 σ 30 [(0, .ref (ad 0)), (2, .int x2)] [.int s1, .int s0] := by
  unfold wq_X7_smooth_b30 at h
  refine gq_ior C dX7_smooth_30 ?_
  refine gq_topi (fun v3 qv3 => ?_)
  have h := h v3 qv3
  refine gq_istore_n (L' := [(0, .ref (ad 0)), (1, .int v3), (2, .int x2)]) C [1, 0, 2] dX7_smooth_31 (by decide) rfl ?_
  obtain ⟨v4, qv4⟩ : ∃ y : Int32, y = (x2 + 1) := ⟨_, rfl⟩
  have h := h v4 qv4
  refine gq_iinc (j := 2) (v := v4) (L' := [(0, .ref (ad 0)), (1, .int v3), (2, .int v4)]) C [1, 2, 0] dX7_smooth_32 rfl (by rw [qv4]; rfl) (by decide) rfl ?_
  refine gq_goto (tgt := 4) C dX7_smooth_35 (by decide) ?_
  exact hK4 _ _ _ h
def wq_X7_smooth_l4 (Q : Int32 → gq_M → Prop) (K38 : Int32 → gq_M → Prop) : Nat → Int32 → Int32 → gq_M → Prop
  | 0, _, _, _ => False
  | n + 1, x1, x2, σ => (((σ.1 0 0) ≤ x2 → K38 x1 σ) ∧ (¬ (σ.1 0 0) ≤ x2 → vp_in x2 10 ∧ ((¬ (σ.1 2 x2.toNatClampNeg) = 2 → wq_X7_smooth_b30 Q (wq_X7_smooth_l4 Q K38 n) x2 x1 0 σ) ∧ ((σ.1 2 x2.toNatClampNeg) = 2 → wq_X7_smooth_b30 Q (wq_X7_smooth_l4 Q K38 n) x2 x1 ((1 : Int32) <<< (x2 &&& 31)) σ))))
set_option maxRecDepth 100000 in
set_option maxHeartbeats 4000000 in
theorem tq_X7_smooth_l4 {p : Program} {l : Launch} {e : Env} {s : State} {m : MethodId} {args : Array Value} {below : List Frame} {meth : Method} {c : Code} {D : va_G} {cyI cyZ : ClassId} {ad : Nat → Nat} {Q : Int32 → gq_M → Prop} {K38 : Int32 → gq_M → Prop} (C : gq_C p s m args meth c cX7_smooth 3 RX7 wsX7_smooth D (gm_T cyI cyZ) 17 ad (some .int)) (hK38 : ∀ (y1 : Int32) (τ : gq_M), K38 y1 τ → gq_G p l e rq_X7_smooth s m args below meth c (gq_Ri below args s D (gm_T cyI cyZ) 17 ad (gm_S cyI cyZ ad) Q) D 17 ad (gm_S cyI cyZ ad) 3 τ 38 [(0, .ref (ad 0)), (1, .int y1)] []) : ∀ (n : Nat) (x1 : Int32) (x2 : Int32) (σ : gq_M), wq_X7_smooth_l4 Q K38 n x1 x2 σ → gq_G p l e rq_X7_smooth s m args below meth c (gq_Ri below args s D (gm_T cyI cyZ) 17 ad (gm_S cyI cyZ ad) Q) D 17 ad (gm_S cyI cyZ ad) 3 σ 4 [(0, .ref (ad 0)), (1, .int x1), (2, .int x2)] [] := by
  intro n
  induction n with
  | zero =>
    intro x1 x2 σ h
    exact absurd h (fun q => q)
  | succ n ih =>
    intro x1 x2 σ h
    unfold wq_X7_smooth_l4 at h
    refine gq_iload_n (j := 2) C dX7_smooth_4 rfl ?_
    refine gq_aload_n (j := 0) C dX7_smooth_5 rfl ?_
    refine gq_get (v := .int (σ.1 0 0)) (i := 0) C gms_0 rfl iq_X7_smooth_X7 0 (by decide) fq_X7_smooth_93 rfl dX7_smooth_6 ?_
    refine gq_icmp_ge (tgt := 38) C dX7_smooth_9 (by decide) (fun c1 => ?_) (fun c1 => ?_)
    · have h := h.1 c1
      refine gq_sub [0, 1] rfl ?_
      exact hK38 _ _ h
    · have h := h.2 c1
      refine gq_iload_n (j := 1) C dX7_smooth_12 rfl ?_
      refine gq_aload_n (j := 0) C dX7_smooth_13 rfl ?_
      refine gq_get (v := .ref (ad 2)) (i := 0) C gms_0 rfl iq_X7_smooth_X7 3 (by decide) fq_X7_smooth_13 rfl dX7_smooth_14 ?_
      refine gq_iload_n (j := 2) C dX7_smooth_17 rfl ?_
      refine gq_iald (i := 2) (j := x2.toNatClampNeg) C gms_2 0 rfl rfl h.1 dX7_smooth_18 ?_
      have h := h.2
      refine gq_iconst (v := 2) C dX7_smooth_19 (by decide) ?_
      refine gq_icmp_ne (tgt := 29) C dX7_smooth_20 (by decide) (fun c2 => ?_) (fun c2 => ?_)
      · have h := h.1 c2
        refine gq_iconst (v := 0) C dX7_smooth_29 (by decide) ?_
        refine gq_sub [0, 2] rfl ?_
        exact tq_X7_smooth_b30 C (ih) _ _ _ _ h
      · have h := h.2 c2
        refine gq_iconst (v := 1) C dX7_smooth_23 (by decide) ?_
        refine gq_iload_n (j := 2) C dX7_smooth_24 rfl ?_
        refine gq_ishl C dX7_smooth_25 ?_
        refine gq_goto (tgt := 30) C dX7_smooth_26 (by decide) ?_
        refine gq_sub [0, 2] rfl ?_
        exact tq_X7_smooth_b30 C (ih) _ _ _ _ h
def wq_X7_smooth (σ : gq_M) (Q : Int32 → gq_M → Prop) : Prop := (∃ n7, wq_X7_smooth_l4 Q (fun e5 σ6 => Q e5 σ6) n7 0 0 σ)
set_option maxRecDepth 100000 in
set_option maxHeartbeats 4000000 in
theorem tq_X7_smooth {p : Program} {l : Launch} {e : Env} {s : State} {m : MethodId} {args : Array Value} {below : List Frame} {meth : Method} {c : Code} {D : va_G} {cyI cyZ : ClassId} {ad : Nat → Nat} {Q : Int32 → gq_M → Prop} (C : gq_C p s m args meth c cX7_smooth 3 RX7 wsX7_smooth D (gm_T cyI cyZ) 17 ad (some .int)) (σ : gq_M) (h : wq_X7_smooth σ Q) : gq_G p l e rq_X7_smooth s m args below meth c (gq_Ri below args s D (gm_T cyI cyZ) 17 ad (gm_S cyI cyZ ad) Q) D 17 ad (gm_S cyI cyZ ad) 3 σ 0 [(0, .ref (ad 0))] [] := by
  unfold wq_X7_smooth at h
  refine gq_iconst (v := 0) C dX7_smooth_0 (by decide) ?_
  refine gq_istore_n (L' := [(0, .ref (ad 0)), (1, .int 0)]) C [1, 0] dX7_smooth_1 (by decide) rfl ?_
  refine gq_iconst (v := 0) C dX7_smooth_2 (by decide) ?_
  refine gq_istore_n (L' := [(0, .ref (ad 0)), (1, .int 0), (2, .int 0)]) C [1, 2, 0] dX7_smooth_3 (by decide) rfl ?_
  obtain ⟨n7, h⟩ := h
  refine tq_X7_smooth_l4 C (fun e5 σ6 h => ?_) n7 _ _ _ h
  refine gq_iload_n (j := 1) C dX7_smooth_38 rfl ?_
  exact gq_iret C h dX7_smooth_39
theorem mq_X7_smooth {l : Launch} {D : va_G} {cyI cyZ : ClassId} {ad : Nat → Nat} (hap : gq_ap 17 ad) (σ : gq_M) (Q : Int32 → gq_M → Prop) (h : wq_X7_smooth σ Q) : Met l yX7_smooth wsX7_smooth rq_X7_smooth (va_Pc [.ref (ad 0)] (gq_P D (gm_T cyI cyZ) 17 ad (gm_S cyI cyZ ad) σ)) (va_Qi Q (gq_P D (gm_T cyI cyZ) 17 ad (gm_S cyI cyZ ad)) (gq_A 17 ad)) 0 0 (gq_A 17 ad) :=
  gq_met hap (by decide) rfl rfl (Nat.le_of_ble_eq_true rfl) (fun _ _ _ _ _ _ _ C => tq_X7_smooth C σ h)
