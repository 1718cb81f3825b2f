/-! ===== walks of X1_firstOne, X2_hasPleat, X2_hasTraveller, X2_hasPlace, X2_clear, X2_addPleat, X2_addTraveller, X2_canBeIced, X2_windRested, X3_append, X3_figure, X3_figureFault, X3_readPleat, X3_readTraveller, X3_readPart (by wip/gen) ===== -/
abbrev rq_X1_firstOne : Room := { frames := 3, cells := 0, slots := 0, locals := 75 }
theorem dq_X1_firstOne : gq_dsc yX1_firstOne 0 := by unfold gq_dsc; decide +kernel
def wq_X1_firstOne_l9 (Q : Int32 → gq_M → Prop) (K37 : Int32 → gq_M → Prop) : Nat → Int32 → Int32 → gq_M → Prop
  | 0, _, _, _ => False
  | n + 1, x1, x2, σ => ((9 < x2 → K37 x1 σ) ∧ (¬ 9 < x2 → wq_X1_isOne x1 x2 σ (fun r3 σ4 => ((r3 = 0 → ∀ v6, v6 = (x2 + 1) → wq_X1_firstOne_l9 Q K37 n x1 v6 σ4) ∧ (¬ r3 = 0 → Q ((10 * x1) + x2) σ4)))))
set_option maxRecDepth 100000 in
set_option maxHeartbeats 4000000 in
theorem tq_X1_firstOne_l9 {p : Program} {l : Launch} {e : Env} {s : State} {m : MethodId} {args : Array Value} {below : List Frame} {meth : Method} {c : Code} {D : va_G} {cyI cyZ cyS : ClassId} {ad : Nat → Nat} {Q : Int32 → gq_M → Prop} {K37 : Int32 → gq_M → Prop} (C : gq_C p s m args meth c cX1_firstOne 3 RX1 wsX1_firstOne D (gc_T cyI cyZ cyS) 84 ad (some .int)) (hK37 : ∀ (y1 : Int32) (τ : gq_M), K37 y1 τ → gq_G p l e rq_X1_firstOne s m args below meth c (gq_Ri below args s D (gc_T cyI cyZ cyS) 84 ad (gc_S cyI cyZ cyS ad) Q) D 84 ad (gc_S cyI cyZ cyS ad) 3 τ 37 [(0, .ref (ad 15)), (1, .int y1)] []) : ∀ (n : Nat) (x1 : Int32) (x2 : Int32) (σ : gq_M), wq_X1_firstOne_l9 Q K37 n x1 x2 σ → gq_G p l e rq_X1_firstOne s m args below meth c (gq_Ri below args s D (gc_T cyI cyZ cyS) 84 ad (gc_S cyI cyZ cyS ad) Q) D 84 ad (gc_S cyI cyZ cyS ad) 3 σ 9 [(0, .ref (ad 15)), (1, .int x1), (2, .int x2)] [] := by
  intro n
  induction n with
  | zero =>
    intro x1 x2 σ h
    exact absurd h (fun q => q)
  | succ n ih =>
    intro x1 x2 σ h
    unfold wq_X1_firstOne_l9 at h
    refine gq_iload_n (j := 2) C dX1_firstOne_9 rfl ?_
    refine gq_bipush (v := 9) C dX1_firstOne_10 (by decide) ?_
    refine gq_icmp_gt (tgt := 37) C dX1_firstOne_12 (by decide) (fun c2 => ?_) (fun c2 => ?_)
    · have h := h.1 c2
      refine gq_sub [0, 1] rfl ?_
      exact hK37 _ _ h
    · have h := h.2 c2
      refine gq_aload_n (j := 0) C dX1_firstOne_15 rfl ?_
      refine gq_iload_n (j := 1) C dX1_firstOne_16 rfl ?_
      refine gq_iload_n (j := 2) C dX1_firstOne_17 rfl ?_
      refine gq_vi (i := 15) C gcs_15 rfl [.int x1, .int x2] (mq_X1_isOne C.2.2.1 x1 x2 σ _ h) gX1_firstOne_X1_isOne rfl rfl dq_X1_isOne ⟨rfl, rfl, by decide, by decide⟩ rfl rfl (Nat.le_of_ble_eq_true rfl) dX1_firstOne_18 (fun r3 σ4 h => ?_)
      refine gq_if_eq (tgt := 31) C dX1_firstOne_21 (by decide) (fun c5 => ?_) (fun c5 => ?_)
      · have h := h.1 c5
        obtain ⟨v6, qv6⟩ : ∃ y : Int32, y = (x2 + 1) := ⟨_, rfl⟩
        have h := h v6 qv6
        refine gq_iinc (j := 2) (v := v6) (L' := [(0, .ref (ad 15)), (1, .int x1), (2, .int v6)]) C [1, 2, 0] dX1_firstOne_31 rfl (by rw [qv6]; rfl) (by decide) rfl ?_
        refine gq_goto (tgt := 9) C dX1_firstOne_34 (by decide) ?_
        exact ih _ _ _ h
      · have h := h.2 c5
        refine gq_bipush (v := 10) C dX1_firstOne_24 (by decide) ?_
        refine gq_iload_n (j := 1) C dX1_firstOne_26 rfl ?_
        refine gq_imul C dX1_firstOne_27 ?_
        refine gq_iload_n (j := 2) C dX1_firstOne_28 rfl ?_
        refine gq_iadd C dX1_firstOne_29 ?_
        exact gq_iret C h dX1_firstOne_30
def wq_X1_firstOne_l2 (Q : Int32 → gq_M → Prop) (K43 : gq_M → Prop) : Nat → Int32 → gq_M → Prop
  | 0, _, _ => False
  | n + 1, x1, σ => ((4 ≤ x1 → K43 σ) ∧ (¬ 4 ≤ x1 → (∃ n10, wq_X1_firstOne_l9 Q (fun e7 σ8 => ∀ v9, v9 = (e7 + 1) → wq_X1_firstOne_l2 Q K43 n v9 σ8) n10 x1 1 σ)))
set_option maxRecDepth 100000 in
set_option maxHeartbeats 4000000 in
theorem tq_X1_firstOne_l2 {p : Program} {l : Launch} {e : Env} {s : State} {m : MethodId} {args : Array Value} {below : List Frame} {meth : Method} {c : Code} {D : va_G} {cyI cyZ cyS : ClassId} {ad : Nat → Nat} {Q : Int32 → gq_M → Prop} {K43 : gq_M → Prop} (C : gq_C p s m args meth c cX1_firstOne 3 RX1 wsX1_firstOne D (gc_T cyI cyZ cyS) 84 ad (some .int)) (hK43 : ∀ (τ : gq_M), K43 τ → gq_G p l e rq_X1_firstOne s m args below meth c (gq_Ri below args s D (gc_T cyI cyZ cyS) 84 ad (gc_S cyI cyZ cyS ad) Q) D 84 ad (gc_S cyI cyZ cyS ad) 3 τ 43 [(0, .ref (ad 15))] []) : ∀ (n : Nat) (x1 : Int32) (σ : gq_M), wq_X1_firstOne_l2 Q K43 n x1 σ → gq_G p l e rq_X1_firstOne s m args below meth c (gq_Ri below args s D (gc_T cyI cyZ cyS) 84 ad (gc_S cyI cyZ cyS ad) Q) D 84 ad (gc_S cyI cyZ cyS ad) 3 σ 2 [(0, .ref (ad 15)), (1, .int x1)] [] := by
  intro n
  induction n with
  | zero =>
    intro x1 σ h
    exact absurd h (fun q => q)
  | succ n ih =>
    intro x1 σ h
    unfold wq_X1_firstOne_l2 at h
    refine gq_iload_n (j := 1) C dX1_firstOne_2 rfl ?_
    refine gq_iconst (v := 4) C dX1_firstOne_3 (by decide) ?_
    refine gq_icmp_ge (tgt := 43) C dX1_firstOne_4 (by decide) (fun c1 => ?_) (fun c1 => ?_)
    · have h := h.1 c1
      refine gq_sub [0] rfl ?_
      exact hK43  _ h
    · have h := h.2 c1
      refine gq_iconst (v := 1) C dX1_firstOne_7 (by decide) ?_
      refine gq_istore_n (L' := [(0, .ref (ad 15)), (1, .int x1), (2, .int 1)]) C [1, 2, 0] dX1_firstOne_8 (by decide) rfl ?_
      obtain ⟨n10, h⟩ := h
      refine tq_X1_firstOne_l9 C (fun e7 σ8 h => ?_) n10 _ _ _ h
      obtain ⟨v9, qv9⟩ : ∃ y : Int32, y = (e7 + 1) := ⟨_, rfl⟩
      have h := h v9 qv9
      refine gq_iinc (j := 1) (v := v9) (L' := [(0, .ref (ad 15)), (1, .int v9)]) C [1, 0] dX1_firstOne_37 rfl (by rw [qv9]; rfl) (by decide) rfl ?_
      refine gq_goto (tgt := 2) C dX1_firstOne_40 (by decide) ?_
      exact ih _ _ h
def wq_X1_firstOne (σ : gq_M) (Q : Int32 → gq_M → Prop) : Prop := (∃ n12, wq_X1_firstOne_l2 Q (fun σ11 => Q (-9) σ11) n12 0 σ)
set_option maxRecDepth 100000 in
set_option maxHeartbeats 4000000 in
theorem tq_X1_firstOne {p : Program} {l : Launch} {e : Env} {s : State} {m : MethodId} {args : Array Value} {below : List Frame} {meth : Method} {c : Code} {D : va_G} {cyI cyZ cyS : ClassId} {ad : Nat → Nat} {Q : Int32 → gq_M → Prop} (C : gq_C p s m args meth c cX1_firstOne 3 RX1 wsX1_firstOne D (gc_T cyI cyZ cyS) 84 ad (some .int)) (σ : gq_M) (h : wq_X1_firstOne σ Q) : gq_G p l e rq_X1_firstOne s m args below meth c (gq_Ri below args s D (gc_T cyI cyZ cyS) 84 ad (gc_S cyI cyZ cyS ad) Q) D 84 ad (gc_S cyI cyZ cyS ad) 3 σ 0 [(0, .ref (ad 15))] [] := by
  unfold wq_X1_firstOne at h
  refine gq_iconst (v := 0) C dX1_firstOne_0 (by decide) ?_
  refine gq_istore_n (L' := [(0, .ref (ad 15)), (1, .int 0)]) C [1, 0] dX1_firstOne_1 (by decide) rfl ?_
  obtain ⟨n12, h⟩ := h
  refine tq_X1_firstOne_l2 C (fun σ11 h => ?_) n12 _ _ h
  refine gq_bipush (v := (-9)) C dX1_firstOne_43 (by decide) ?_
  exact gq_iret C h dX1_firstOne_45
theorem mq_X1_firstOne {l : Launch} {D : va_G} {cyI cyZ cyS : ClassId} {ad : Nat → Nat} (hap : gq_ap 84 ad) (σ : gq_M) (Q : Int32 → gq_M → Prop) (h : wq_X1_firstOne σ Q) : Met l yX1_firstOne wsX1_firstOne rq_X1_firstOne (va_Pc [.ref (ad 15)] (gq_P D (gc_T cyI cyZ cyS) 84 ad (gc_S cyI cyZ cyS ad) σ)) (va_Qi Q (gq_P D (gc_T cyI cyZ cyS) 84 ad (gc_S cyI cyZ cyS ad)) (gq_A 84 ad)) 0 0 (gq_A 84 ad) :=
  gq_met hap (by decide) rfl rfl (Nat.le_of_ble_eq_true rfl) (fun _ _ _ _ _ _ _ C => tq_X1_firstOne C σ h)
abbrev rq_X2_hasPleat : Room := { frames := 0, cells := 0, slots := 0, locals := 0 }
theorem dq_X2_hasPleat : gq_dsc yX2_hasPleat 1 := by unfold gq_dsc; decide +kernel
theorem iq_X2_hasPleat_X2 : ∀ w ∈ u_ws RX2 TX2 7, w ∈ wsX2_hasPleat := by decide +kernel
theorem fq_X2_hasPleat_27 : Cond.fieldLink RX2 27 (TX2 5).1 (TX2 5).2.1 (TX2 5).2.2.1 ∈ wsX2_hasPleat := by decide +kernel
def wq_X2_hasPleat (r : Nat) (a1 : Int32) (σ : gq_M) (Q : Int32 → gq_M → Prop) : Prop := ((a1 < 0 → Q 0 σ) ∧ (¬ a1 < 0 → (((σ.1 r 5) ≤ a1 → Q 0 σ) ∧ (¬ (σ.1 r 5) ≤ a1 → Q 1 σ))))
set_option maxRecDepth 100000 in
set_option maxHeartbeats 4000000 in
theorem tq_X2_hasPleat {p : Program} {l : Launch} {e : Env} {s : State} {m : MethodId} {args : Array Value} {below : List Frame} {meth : Method} {c : Code} {D : va_G} {cyI cyZ cyS : ClassId} {ad : Nat → Nat} {r : Nat} {Q : Int32 → gq_M → Prop} (C : gq_C p s m args meth c cX2_hasPleat 2 RX2 wsX2_hasPleat D (gc_T cyI cyZ cyS) 84 ad (some .boolean)) (hr : gr_r r) (a1 : Int32) (σ : gq_M) (h : wq_X2_hasPleat r a1 σ Q) : gq_G p l e rq_X2_hasPleat s m args below meth c (gq_Ri below args s D (gc_T cyI cyZ cyS) 84 ad (gc_S cyI cyZ cyS ad) Q) D 84 ad (gc_S cyI cyZ cyS ad) 2 σ 0 [(0, .ref (ad r)), (1, .int a1)] [] := by
  unfold wq_X2_hasPleat at h
  refine gq_iload_n (j := 1) C dX2_hasPleat_0 rfl ?_
  refine gq_if_lt (tgt := 16) C dX2_hasPleat_1 (by decide) (fun c1 => ?_) (fun c1 => ?_)
  · have h := h.1 c1
    refine gq_iconst (v := 0) C dX2_hasPleat_16 (by decide) ?_
    exact gq_zret C (Or.inl rfl) h dX2_hasPleat_17
  · have h := h.2 c1
    refine gq_iload_n (j := 1) C dX2_hasPleat_4 rfl ?_
    refine gq_aload_n (j := 0) C dX2_hasPleat_5 rfl ?_
    refine gq_get (v := .int (σ.1 r 5)) (i := r) C (gcs_X2 hr) rfl iq_X2_hasPleat_X2 5 (by decide) fq_X2_hasPleat_27 rfl dX2_hasPleat_6 ?_
    refine gq_icmp_ge (tgt := 16) C dX2_hasPleat_9 (by decide) (fun c2 => ?_) (fun c2 => ?_)
    · have h := h.1 c2
      refine gq_iconst (v := 0) C dX2_hasPleat_16 (by decide) ?_
      exact gq_zret C (Or.inl rfl) h dX2_hasPleat_17
    · have h := h.2 c2
      refine gq_iconst (v := 1) C dX2_hasPleat_12 (by decide) ?_
      refine gq_goto (tgt := 17) C dX2_hasPleat_13 (by decide) ?_
      exact gq_zret C (Or.inr rfl) h dX2_hasPleat_17
theorem mq_X2_hasPleat {l : Launch} {D : va_G} {cyI cyZ cyS : ClassId} {ad : Nat → Nat} (hap : gq_ap 84 ad) {r : Nat} (hr : gr_r r) (a1 : Int32) (σ : gq_M) (Q : Int32 → gq_M → Prop) (h : wq_X2_hasPleat r a1 σ Q) : Met l yX2_hasPleat wsX2_hasPleat rq_X2_hasPleat (va_Pc [.ref (ad r), .int a1] (gq_P D (gc_T cyI cyZ cyS) 84 ad (gc_S cyI cyZ cyS ad) σ)) (va_Qi Q (gq_P D (gc_T cyI cyZ cyS) 84 ad (gc_S cyI cyZ cyS ad)) (gq_A 84 ad)) 0 0 (gq_A 84 ad) :=
  gq_met hap (by decide) rfl rfl (Nat.le_of_ble_eq_true rfl) (fun _ _ _ _ _ _ _ C => tq_X2_hasPleat C hr a1 σ h)
abbrev rq_X2_hasTraveller : Room := { frames := 0, cells := 0, slots := 0, locals := 0 }
theorem dq_X2_hasTraveller : gq_dsc yX2_hasTraveller 1 := by unfold gq_dsc; decide +kernel
theorem iq_X2_hasTraveller_X2 : ∀ w ∈ u_ws RX2 TX2 7, w ∈ wsX2_hasTraveller := by decide +kernel
theorem fq_X2_hasTraveller_31 : Cond.fieldLink RX2 31 (TX2 6).1 (TX2 6).2.1 (TX2 6).2.2.1 ∈ wsX2_hasTraveller := by decide +kernel
def wq_X2_hasTraveller (r : Nat) (a1 : Int32) (σ : gq_M) (Q : Int32 → gq_M → Prop) : Prop := ((a1 < 0 → Q 0 σ) ∧ (¬ a1 < 0 → (((σ.1 r 6) ≤ a1 → Q 0 σ) ∧ (¬ (σ.1 r 6) ≤ a1 → Q 1 σ))))
set_option maxRecDepth 100000 in
set_option maxHeartbeats 4000000 in
theorem tq_X2_hasTraveller {p : Program} {l : Launch} {e : Env} {s : State} {m : MethodId} {args : Array Value} {below : List Frame} {meth : Method} {c : Code} {D : va_G} {cyI cyZ cyS : ClassId} {ad : Nat → Nat} {r : Nat} {Q : Int32 → gq_M → Prop} (C : gq_C p s m args meth c cX2_hasTraveller 2 RX2 wsX2_hasTraveller D (gc_T cyI cyZ cyS) 84 ad (some .boolean)) (hr : gr_r r) (a1 : Int32) (σ : gq_M) (h : wq_X2_hasTraveller r a1 σ Q) : gq_G p l e rq_X2_hasTraveller s m args below meth c (gq_Ri below args s D (gc_T cyI cyZ cyS) 84 ad (gc_S cyI cyZ cyS ad) Q) D 84 ad (gc_S cyI cyZ cyS ad) 2 σ 0 [(0, .ref (ad r)), (1, .int a1)] [] := by
  unfold wq_X2_hasTraveller at h
  refine gq_iload_n (j := 1) C dX2_hasTraveller_0 rfl ?_
  refine gq_if_lt (tgt := 16) C dX2_hasTraveller_1 (by decide) (fun c1 => ?_) (fun c1 => ?_)
  · have h := h.1 c1
    refine gq_iconst (v := 0) C dX2_hasTraveller_16 (by decide) ?_
    exact gq_zret C (Or.inl rfl) h dX2_hasTraveller_17
  · have h := h.2 c1
    refine gq_iload_n (j := 1) C dX2_hasTraveller_4 rfl ?_
    refine gq_aload_n (j := 0) C dX2_hasTraveller_5 rfl ?_
    refine gq_get (v := .int (σ.1 r 6)) (i := r) C (gcs_X2 hr) rfl iq_X2_hasTraveller_X2 6 (by decide) fq_X2_hasTraveller_31 rfl dX2_hasTraveller_6 ?_
    refine gq_icmp_ge (tgt := 16) C dX2_hasTraveller_9 (by decide) (fun c2 => ?_) (fun c2 => ?_)
    · have h := h.1 c2
      refine gq_iconst (v := 0) C dX2_hasTraveller_16 (by decide) ?_
      exact gq_zret C (Or.inl rfl) h dX2_hasTraveller_17
    · have h := h.2 c2
      refine gq_iconst (v := 1) C dX2_hasTraveller_12 (by decide) ?_
      refine gq_goto (tgt := 17) C dX2_hasTraveller_13 (by decide) ?_
      exact gq_zret C (Or.inr rfl) h dX2_hasTraveller_17
theorem mq_X2_hasTraveller {l : Launch} {D : va_G} {cyI cyZ cyS : ClassId} {ad : Nat → Nat} (hap : gq_ap 84 ad) {r : Nat} (hr : gr_r r) (a1 : Int32) (σ : gq_M) (Q : Int32 → gq_M → Prop) (h : wq_X2_hasTraveller r a1 σ Q) : Met l yX2_hasTraveller wsX2_hasTraveller rq_X2_hasTraveller (va_Pc [.ref (ad r), .int a1] (gq_P D (gc_T cyI cyZ cyS) 84 ad (gc_S cyI cyZ cyS ad) σ)) (va_Qi Q (gq_P D (gc_T cyI cyZ cyS) 84 ad (gc_S cyI cyZ cyS ad)) (gq_A 84 ad)) 0 0 (gq_A 84 ad) :=
  gq_met hap (by decide) rfl rfl (Nat.le_of_ble_eq_true rfl) (fun _ _ _ _ _ _ _ C => tq_X2_hasTraveller C hr a1 σ h)
abbrev rq_X2_hasPlace : Room := { frames := 0, cells := 0, slots := 0, locals := 0 }
theorem dq_X2_hasPlace : gq_dsc yX2_hasPlace 1 := by unfold gq_dsc; decide +kernel
theorem iq_X2_hasPlace_X2 : ∀ w ∈ u_ws RX2 TX2 7, w ∈ wsX2_hasPlace := by decide +kernel
theorem fq_X2_hasPlace_27 : Cond.fieldLink RX2 27 (TX2 5).1 (TX2 5).2.1 (TX2 5).2.2.1 ∈ wsX2_hasPlace := by decide +kernel
def wq_X2_hasPlace (r : Nat) (a1 : Int32) (σ : gq_M) (Q : Int32 → gq_M → Prop) : Prop := ((a1 < 0 → Q 0 σ) ∧ (¬ a1 < 0 → (((σ.1 r 5) < a1 → Q 0 σ) ∧ (¬ (σ.1 r 5) < a1 → Q 1 σ))))
set_option maxRecDepth 100000 in
set_option maxHeartbeats 4000000 in
theorem tq_X2_hasPlace {p : Program} {l : Launch} {e : Env} {s : State} {m : MethodId} {args : Array Value} {below : List Frame} {meth : Method} {c : Code} {D : va_G} {cyI cyZ cyS : ClassId} {ad : Nat → Nat} {r : Nat} {Q : Int32 → gq_M → Prop} (C : gq_C p s m args meth c cX2_hasPlace 2 RX2 wsX2_hasPlace D (gc_T cyI cyZ cyS) 84 ad (some .boolean)) (hr : gr_r r) (a1 : Int32) (σ : gq_M) (h : wq_X2_hasPlace r a1 σ Q) : gq_G p l e rq_X2_hasPlace s m args below meth c (gq_Ri below args s D (gc_T cyI cyZ cyS) 84 ad (gc_S cyI cyZ cyS ad) Q) D 84 ad (gc_S cyI cyZ cyS ad) 2 σ 0 [(0, .ref (ad r)), (1, .int a1)] [] := by
  unfold wq_X2_hasPlace at h
  refine gq_iload_n (j := 1) C dX2_hasPlace_0 rfl ?_
  refine gq_if_lt (tgt := 16) C dX2_hasPlace_1 (by decide) (fun c1 => ?_) (fun c1 => ?_)
  · have h := h.1 c1
    refine gq_iconst (v := 0) C dX2_hasPlace_16 (by decide) ?_
    exact gq_zret C (Or.inl rfl) h dX2_hasPlace_17
  · have h := h.2 c1
    refine gq_iload_n (j := 1) C dX2_hasPlace_4 rfl ?_
    refine gq_aload_n (j := 0) C dX2_hasPlace_5 rfl ?_
    refine gq_get (v := .int (σ.1 r 5)) (i := r) C (gcs_X2 hr) rfl iq_X2_hasPlace_X2 5 (by decide) fq_X2_hasPlace_27 rfl dX2_hasPlace_6 ?_
    refine gq_icmp_gt (tgt := 16) C dX2_hasPlace_9 (by decide) (fun c2 => ?_) (fun c2 => ?_)
    · have h := h.1 c2
      refine gq_iconst (v := 0) C dX2_hasPlace_16 (by decide) ?_
      exact gq_zret C (Or.inl rfl) h dX2_hasPlace_17
    · have h := h.2 c2
      refine gq_iconst (v := 1) C dX2_hasPlace_12 (by decide) ?_
      refine gq_goto (tgt := 17) C dX2_hasPlace_13 (by decide) ?_
      exact gq_zret C (Or.inr rfl) h dX2_hasPlace_17
theorem mq_X2_hasPlace {l : Launch} {D : va_G} {cyI cyZ cyS : ClassId} {ad : Nat → Nat} (hap : gq_ap 84 ad) {r : Nat} (hr : gr_r r) (a1 : Int32) (σ : gq_M) (Q : Int32 → gq_M → Prop) (h : wq_X2_hasPlace r a1 σ Q) : Met l yX2_hasPlace wsX2_hasPlace rq_X2_hasPlace (va_Pc [.ref (ad r), .int a1] (gq_P D (gc_T cyI cyZ cyS) 84 ad (gc_S cyI cyZ cyS ad) σ)) (va_Qi Q (gq_P D (gc_T cyI cyZ cyS) 84 ad (gc_S cyI cyZ cyS ad)) (gq_A 84 ad)) 0 0 (gq_A 84 ad) :=
  gq_met hap (by decide) rfl rfl (Nat.le_of_ble_eq_true rfl) (fun _ _ _ _ _ _ _ C => tq_X2_hasPlace C hr a1 σ h)
abbrev rq_X2_clear : Room := { frames := 0, cells := 0, slots := 0, locals := 0 }
theorem dq_X2_clear : gq_dsc yX2_clear 0 := by unfold gq_dsc; decide +kernel
theorem iq_X2_clear_X2 : ∀ w ∈ u_ws RX2 TX2 7, w ∈ wsX2_clear := by decide +kernel
theorem fq_X2_clear_27 : Cond.fieldLink RX2 27 (TX2 5).1 (TX2 5).2.1 (TX2 5).2.2.1 ∈ wsX2_clear := by decide +kernel
theorem fq_X2_clear_31 : Cond.fieldLink RX2 31 (TX2 6).1 (TX2 6).2.1 (TX2 6).2.2.1 ∈ wsX2_clear := by decide +kernel
def wq_X2_clear (r : Nat) (σ : gq_M) (Q : gq_M → Prop) : Prop := Q (gq_put (gq_put σ r 5 0) r 6 0)
set_option maxRecDepth 100000 in
set_option maxHeartbeats 4000000 in
theorem tq_X2_clear {p : Program} {l : Launch} {e : Env} {s : State} {m : MethodId} {args : Array Value} {below : List Frame} {meth : Method} {c : Code} {D : va_G} {cyI cyZ cyS : ClassId} {ad : Nat → Nat} {r : Nat} {Q : gq_M → Prop} (C : gq_C p s m args meth c cX2_clear 1 RX2 wsX2_clear D (gc_T cyI cyZ cyS) 84 ad none) (hr : gr_r r) (σ : gq_M) (h : wq_X2_clear r σ Q) : gq_G p l e rq_X2_clear s m args below meth c (gq_Rv below args s D (gc_T cyI cyZ cyS) 84 ad (gc_S cyI cyZ cyS ad) Q) D 84 ad (gc_S cyI cyZ cyS ad) 1 σ 0 [(0, .ref (ad r))] [] := by
  unfold wq_X2_clear at h
  refine gq_aload_n (j := 0) C dX2_clear_0 rfl ?_
  refine gq_iconst (v := 0) C dX2_clear_1 (by decide) ?_
  refine gq_puti (i := r) C (gcs_X2 hr) rfl iq_X2_clear_X2 tyX2 tyX2_ok nmX2 5 (by decide) fq_X2_clear_27 rfl rfl rfl (fun _ _ => Nat.le_of_ble_eq_true rfl) gs_X2_5 dX2_clear_2 ?_
  refine gq_aload_n (j := 0) C dX2_clear_5 rfl ?_
  refine gq_iconst (v := 0) C dX2_clear_6 (by decide) ?_
  refine gq_puti (i := r) C (gcs_X2 hr) rfl iq_X2_clear_X2 tyX2 tyX2_ok nmX2 6 (by decide) fq_X2_clear_31 rfl rfl rfl (fun _ _ => Nat.le_of_ble_eq_true rfl) gs_X2_6 dX2_clear_7 ?_
  exact gq_vret C h dX2_clear_10
theorem mq_X2_clear {l : Launch} {D : va_G} {cyI cyZ cyS : ClassId} {ad : Nat → Nat} (hap : gq_ap 84 ad) {r : Nat} (hr : gr_r r) (σ : gq_M) (Q : gq_M → Prop) (h : wq_X2_clear r σ Q) : Met l yX2_clear wsX2_clear rq_X2_clear (va_Pc [.ref (ad r)] (gq_P D (gc_T cyI cyZ cyS) 84 ad (gc_S cyI cyZ cyS ad) σ)) (va_Qv Q (gq_P D (gc_T cyI cyZ cyS) 84 ad (gc_S cyI cyZ cyS ad)) (gq_A 84 ad)) 0 0 (gq_A 84 ad) :=
  gq_met hap (by decide) rfl rfl (Nat.le_of_ble_eq_true rfl) (fun _ _ _ _ _ _ _ C => tq_X2_clear C hr σ h)
abbrev rq_X2_addPleat : Room := { frames := 0, cells := 0, slots := 0, locals := 0 }
theorem dq_X2_addPleat : gq_dsc yX2_addPleat 2 := by unfold gq_dsc; decide +kernel
theorem iq_X2_addPleat_X2 : ∀ w ∈ u_ws RX2 TX2 7, w ∈ wsX2_addPleat := by decide +kernel
theorem fq_X2_addPleat_27 : Cond.fieldLink RX2 27 (TX2 5).1 (TX2 5).2.1 (TX2 5).2.2.1 ∈ wsX2_addPleat := by decide +kernel
theorem fq_X2_addPleat_9 : Cond.fieldLink RX2 9 (TX2 0).1 (TX2 0).2.1 (TX2 0).2.2.1 ∈ wsX2_addPleat := by decide +kernel
theorem fq_X2_addPleat_15 : Cond.fieldLink RX2 15 (TX2 1).1 (TX2 1).2.1 (TX2 1).2.2.1 ∈ wsX2_addPleat := by decide +kernel
def wq_X2_addPleat (r : Nat) (a1 : Int32) (a2 : Int32) (σ : gq_M) (Q : gq_M → Prop) : Prop := ((10 ≤ (σ.1 r 5) → Q σ) ∧ (¬ 10 ≤ (σ.1 r 5) → vp_in (σ.1 r 5) 10 ∧ vp_in (((gq_put σ (r + 1) ((σ.1 r 5)).toNatClampNeg a1)).1 r 5) 10 ∧ Q (gq_put (gq_put (gq_put σ (r + 1) ((σ.1 r 5)).toNatClampNeg a1) (r + 2) ((((gq_put σ (r + 1) ((σ.1 r 5)).toNatClampNeg a1)).1 r 5)).toNatClampNeg a2) r 5 ((((gq_put (gq_put σ (r + 1) ((σ.1 r 5)).toNatClampNeg a1) (r + 2) ((((gq_put σ (r + 1) ((σ.1 r 5)).toNatClampNeg a1)).1 r 5)).toNatClampNeg a2)).1 r 5) + 1))))
set_option maxRecDepth 100000 in
set_option maxHeartbeats 4000000 in
theorem tq_X2_addPleat {p : Program} {l : Launch} {e : Env} {s : State} {m : MethodId} {args : Array Value} {below : List Frame} {meth : Method} {c : Code} {D : va_G} {cyI cyZ cyS : ClassId} {ad : Nat → Nat} {r : Nat} {Q : gq_M → Prop} (C : gq_C p s m args meth c cX2_addPleat 3 RX2 wsX2_addPleat D (gc_T cyI cyZ cyS) 84 ad none) (hr : gr_r r) (a1 : Int32) (a2 : Int32) (σ : gq_M) (h : wq_X2_addPleat r a1 a2 σ Q) : gq_G p l e rq_X2_addPleat s m args below meth c (gq_Rv below args s D (gc_T cyI cyZ cyS) 84 ad (gc_S cyI cyZ cyS ad) Q) D 84 ad (gc_S cyI cyZ cyS ad) 3 σ 0 [(0, .ref (ad r)), (1, .int a1), (2, .int a2)] [] := by
  unfold wq_X2_addPleat at h
  refine gq_aload_n (j := 0) C dX2_addPleat_0 rfl ?_
  refine gq_get (v := .int (σ.1 r 5)) (i := r) C (gcs_X2 hr) rfl iq_X2_addPleat_X2 5 (by decide) fq_X2_addPleat_27 rfl dX2_addPleat_1 ?_
  refine gq_bipush (v := 10) C dX2_addPleat_4 (by decide) ?_
  refine gq_icmp_ge (tgt := 39) C dX2_addPleat_6 (by decide) (fun c1 => ?_) (fun c1 => ?_)
  · have h := h.1 c1
    exact gq_vret C h dX2_addPleat_39
  · have h := h.2 c1
    refine gq_aload_n (j := 0) C dX2_addPleat_9 rfl ?_
    refine gq_get (v := .ref (ad (r + 1))) (i := r) C (gcs_X2 hr) rfl iq_X2_addPleat_X2 0 (by decide) fq_X2_addPleat_9 rfl dX2_addPleat_10 ?_
    refine gq_aload_n (j := 0) C dX2_addPleat_13 rfl ?_
    refine gq_get (v := .int (σ.1 r 5)) (i := r) C (gcs_X2 hr) rfl iq_X2_addPleat_X2 5 (by decide) fq_X2_addPleat_27 rfl dX2_addPleat_14 ?_
    refine gq_iload_n (j := 1) C dX2_addPleat_17 rfl ?_
    refine gq_iast (i := (r + 1)) (j := ((σ.1 r 5)).toNatClampNeg) C (gcs_X2_1 hr) 0 rfl rfl h.1 dX2_addPleat_18 ?_
    have h := h.2
    refine gq_aload_n (j := 0) C dX2_addPleat_19 rfl ?_
    refine gq_get (v := .ref (ad (r + 2))) (i := r) C (gcs_X2 hr) rfl iq_X2_addPleat_X2 1 (by decide) fq_X2_addPleat_15 rfl dX2_addPleat_20 ?_
    refine gq_aload_n (j := 0) C dX2_addPleat_23 rfl ?_
    refine gq_get (v := .int (((gq_put σ (r + 1) ((σ.1 r 5)).toNatClampNeg a1)).1 r 5)) (i := r) C (gcs_X2 hr) rfl iq_X2_addPleat_X2 5 (by decide) fq_X2_addPleat_27 rfl dX2_addPleat_24 ?_
    refine gq_iload_n (j := 2) C dX2_addPleat_27 rfl ?_
    refine gq_iast (i := (r + 2)) (j := ((((gq_put σ (r + 1) ((σ.1 r 5)).toNatClampNeg a1)).1 r 5)).toNatClampNeg) C (gcs_X2_2 hr) 0 rfl rfl h.1 dX2_addPleat_28 ?_
    have h := h.2
    refine gq_aload_n (j := 0) C dX2_addPleat_29 rfl ?_
    refine gq_dup C dX2_addPleat_30 rfl ?_
    refine gq_get (v := .int (((gq_put (gq_put σ (r + 1) ((σ.1 r 5)).toNatClampNeg a1) (r + 2) ((((gq_put σ (r + 1) ((σ.1 r 5)).toNatClampNeg a1)).1 r 5)).toNatClampNeg a2)).1 r 5)) (i := r) C (gcs_X2 hr) rfl iq_X2_addPleat_X2 5 (by decide) fq_X2_addPleat_27 rfl dX2_addPleat_31 ?_
    refine gq_iconst (v := 1) C dX2_addPleat_34 (by decide) ?_
    refine gq_iadd C dX2_addPleat_35 ?_
    refine gq_puti (i := r) C (gcs_X2 hr) rfl iq_X2_addPleat_X2 tyX2 tyX2_ok nmX2 5 (by decide) fq_X2_addPleat_27 rfl rfl rfl (fun _ _ => Nat.le_of_ble_eq_true rfl) gs_X2_5 dX2_addPleat_36 ?_
    exact gq_vret C h dX2_addPleat_39
theorem mq_X2_addPleat {l : Launch} {D : va_G} {cyI cyZ cyS : ClassId} {ad : Nat → Nat} (hap : gq_ap 84 ad) {r : Nat} (hr : gr_r r) (a1 : Int32) (a2 : Int32) (σ : gq_M) (Q : gq_M → Prop) (h : wq_X2_addPleat r a1 a2 σ Q) : Met l yX2_addPleat wsX2_addPleat rq_X2_addPleat (va_Pc [.ref (ad r), .int a1, .int a2] (gq_P D (gc_T cyI cyZ cyS) 84 ad (gc_S cyI cyZ cyS ad) σ)) (va_Qv Q (gq_P D (gc_T cyI cyZ cyS) 84 ad (gc_S cyI cyZ cyS ad)) (gq_A 84 ad)) 0 0 (gq_A 84 ad) :=
  gq_met hap (by decide) rfl rfl (Nat.le_of_ble_eq_true rfl) (fun _ _ _ _ _ _ _ C => tq_X2_addPleat C hr a1 a2 σ h)
abbrev rq_X2_addTraveller : Room := { frames := 0, cells := 0, slots := 0, locals := 0 }
theorem dq_X2_addTraveller : gq_dsc yX2_addTraveller 3 := by unfold gq_dsc; decide +kernel
theorem iq_X2_addTraveller_X2 : ∀ w ∈ u_ws RX2 TX2 7, w ∈ wsX2_addTraveller := by decide +kernel
theorem fq_X2_addTraveller_31 : Cond.fieldLink RX2 31 (TX2 6).1 (TX2 6).2.1 (TX2 6).2.2.1 ∈ wsX2_addTraveller := by decide +kernel
theorem fq_X2_addTraveller_18 : Cond.fieldLink RX2 18 (TX2 2).1 (TX2 2).2.1 (TX2 2).2.2.1 ∈ wsX2_addTraveller := by decide +kernel
theorem fq_X2_addTraveller_21 : Cond.fieldLink RX2 21 (TX2 3).1 (TX2 3).2.1 (TX2 3).2.2.1 ∈ wsX2_addTraveller := by decide +kernel
theorem fq_X2_addTraveller_24 : Cond.fieldLink RX2 24 (TX2 4).1 (TX2 4).2.1 (TX2 4).2.2.1 ∈ wsX2_addTraveller := by decide +kernel
def wq_X2_addTraveller (r : Nat) (a1 : Int32) (a2 : Int32) (a3 : Int32) (σ : gq_M) (Q : gq_M → Prop) : Prop := ((5 ≤ (σ.1 r 6) → Q σ) ∧ (¬ 5 ≤ (σ.1 r 6) → vp_in (σ.1 r 6) 5 ∧ vp_in (((gq_put σ (r + 3) ((σ.1 r 6)).toNatClampNeg a1)).1 r 6) 5 ∧ vp_in (((gq_put (gq_put σ (r + 3) ((σ.1 r 6)).toNatClampNeg a1) (r + 4) ((((gq_put σ (r + 3) ((σ.1 r 6)).toNatClampNeg a1)).1 r 6)).toNatClampNeg a2)).1 r 6) 5 ∧ Q (gq_put (gq_put (gq_put (gq_put σ (r + 3) ((σ.1 r 6)).toNatClampNeg a1) (r + 4) ((((gq_put σ (r + 3) ((σ.1 r 6)).toNatClampNeg a1)).1 r 6)).toNatClampNeg a2) (r + 5) ((((gq_put (gq_put σ (r + 3) ((σ.1 r 6)).toNatClampNeg a1) (r + 4) ((((gq_put σ (r + 3) ((σ.1 r 6)).toNatClampNeg a1)).1 r 6)).toNatClampNeg a2)).1 r 6)).toNatClampNeg a3) r 6 ((((gq_put (gq_put (gq_put σ (r + 3) ((σ.1 r 6)).toNatClampNeg a1) (r + 4) ((((gq_put σ (r + 3) ((σ.1 r 6)).toNatClampNeg a1)).1 r 6)).toNatClampNeg a2) (r + 5) ((((gq_put (gq_put σ (r + 3) ((σ.1 r 6)).toNatClampNeg a1) (r + 4) ((((gq_put σ (r + 3) ((σ.1 r 6)).toNatClampNeg a1)).1 r 6)).toNatClampNeg a2)).1 r 6)).toNatClampNeg a3)).1 r 6) + 1))))
set_option maxRecDepth 100000 in
set_option maxHeartbeats 4000000 in
theorem tq_X2_addTraveller {p : Program} {l : Launch} {e : Env} {s : State} {m : MethodId} {args : Array Value} {below : List Frame} {meth : Method} {c : Code} {D : va_G} {cyI cyZ cyS : ClassId} {ad : Nat → Nat} {r : Nat} {Q : gq_M → Prop} (C : gq_C p s m args meth c cX2_addTraveller 4 RX2 wsX2_addTraveller D (gc_T cyI cyZ cyS) 84 ad none) (hr : gr_r r) (a1 : Int32) (a2 : Int32) (a3 : Int32) (σ : gq_M) (h : wq_X2_addTraveller r a1 a2 a3 σ Q) : gq_G p l e rq_X2_addTraveller s m args below meth c (gq_Rv below args s D (gc_T cyI cyZ cyS) 84 ad (gc_S cyI cyZ cyS ad) Q) D 84 ad (gc_S cyI cyZ cyS ad) 4 σ 0 [(0, .ref (ad r)), (1, .int a1), (2, .int a2), (3, .int a3)] [] := by
  unfold wq_X2_addTraveller at h
  refine gq_aload_n (j := 0) C dX2_addTraveller_0 rfl ?_
  refine gq_get (v := .int (σ.1 r 6)) (i := r) C (gcs_X2 hr) rfl iq_X2_addTraveller_X2 6 (by decide) fq_X2_addTraveller_31 rfl dX2_addTraveller_1 ?_
  refine gq_iconst (v := 5) C dX2_addTraveller_4 (by decide) ?_
  refine gq_icmp_ge (tgt := 48) C dX2_addTraveller_5 (by decide) (fun c1 => ?_) (fun c1 => ?_)
  · have h := h.1 c1
    exact gq_vret C h dX2_addTraveller_48
  · have h := h.2 c1
    refine gq_aload_n (j := 0) C dX2_addTraveller_8 rfl ?_
    refine gq_get (v := .ref (ad (r + 3))) (i := r) C (gcs_X2 hr) rfl iq_X2_addTraveller_X2 2 (by decide) fq_X2_addTraveller_18 rfl dX2_addTraveller_9 ?_
    refine gq_aload_n (j := 0) C dX2_addTraveller_12 rfl ?_
    refine gq_get (v := .int (σ.1 r 6)) (i := r) C (gcs_X2 hr) rfl iq_X2_addTraveller_X2 6 (by decide) fq_X2_addTraveller_31 rfl dX2_addTraveller_13 ?_
    refine gq_iload_n (j := 1) C dX2_addTraveller_16 rfl ?_
    refine gq_iast (i := (r + 3)) (j := ((σ.1 r 6)).toNatClampNeg) C (gcs_X2_3 hr) 0 rfl rfl h.1 dX2_addTraveller_17 ?_
    have h := h.2
    refine gq_aload_n (j := 0) C dX2_addTraveller_18 rfl ?_
    refine gq_get (v := .ref (ad (r + 4))) (i := r) C (gcs_X2 hr) rfl iq_X2_addTraveller_X2 3 (by decide) fq_X2_addTraveller_21 rfl dX2_addTraveller_19 ?_
    refine gq_aload_n (j := 0) C dX2_addTraveller_22 rfl ?_
    refine gq_get (v := .int (((gq_put σ (r + 3) ((σ.1 r 6)).toNatClampNeg a1)).1 r 6)) (i := r) C (gcs_X2 hr) rfl iq_X2_addTraveller_X2 6 (by decide) fq_X2_addTraveller_31 rfl dX2_addTraveller_23 ?_
    refine gq_iload_n (j := 2) C dX2_addTraveller_26 rfl ?_
    refine gq_iast (i := (r + 4)) (j := ((((gq_put σ (r + 3) ((σ.1 r 6)).toNatClampNeg a1)).1 r 6)).toNatClampNeg) C (gcs_X2_4 hr) 0 rfl rfl h.1 dX2_addTraveller_27 ?_
    have h := h.2
    refine gq_aload_n (j := 0) C dX2_addTraveller_28 rfl ?_
    refine gq_get (v := .ref (ad (r + 5))) (i := r) C (gcs_X2 hr) rfl iq_X2_addTraveller_X2 4 (by decide) fq_X2_addTraveller_24 rfl dX2_addTraveller_29 ?_
    refine gq_aload_n (j := 0) C dX2_addTraveller_32 rfl ?_
    refine gq_get (v := .int (((gq_put (gq_put σ (r + 3) ((σ.1 r 6)).toNatClampNeg a1) (r + 4) ((((gq_put σ (r + 3) ((σ.1 r 6)).toNatClampNeg a1)).1 r 6)).toNatClampNeg a2)).1 r 6)) (i := r) C (gcs_X2 hr) rfl iq_X2_addTraveller_X2 6 (by decide) fq_X2_addTraveller_31 rfl dX2_addTraveller_33 ?_
    refine gq_iload_n (j := 3) C dX2_addTraveller_36 rfl ?_
    refine gq_iast (i := (r + 5)) (j := ((((gq_put (gq_put σ (r + 3) ((σ.1 r 6)).toNatClampNeg a1) (r + 4) ((((gq_put σ (r + 3) ((σ.1 r 6)).toNatClampNeg a1)).1 r 6)).toNatClampNeg a2)).1 r 6)).toNatClampNeg) C (gcs_X2_5 hr) 0 rfl rfl h.1 dX2_addTraveller_37 ?_
    have h := h.2
    refine gq_aload_n (j := 0) C dX2_addTraveller_38 rfl ?_
    refine gq_dup C dX2_addTraveller_39 rfl ?_
    refine gq_get (v := .int (((gq_put (gq_put (gq_put σ (r + 3) ((σ.1 r 6)).toNatClampNeg a1) (r + 4) ((((gq_put σ (r + 3) ((σ.1 r 6)).toNatClampNeg a1)).1 r 6)).toNatClampNeg a2) (r + 5) ((((gq_put (gq_put σ (r + 3) ((σ.1 r 6)).toNatClampNeg a1) (r + 4) ((((gq_put σ (r + 3) ((σ.1 r 6)).toNatClampNeg a1)).1 r 6)).toNatClampNeg a2)).1 r 6)).toNatClampNeg a3)).1 r 6)) (i := r) C (gcs_X2 hr) rfl iq_X2_addTraveller_X2 6 (by decide) fq_X2_addTraveller_31 rfl dX2_addTraveller_40 ?_
    refine gq_iconst (v := 1) C dX2_addTraveller_43 (by decide) ?_
    refine gq_iadd C dX2_addTraveller_44 ?_
    refine gq_puti (i := r) C (gcs_X2 hr) rfl iq_X2_addTraveller_X2 tyX2 tyX2_ok nmX2 6 (by decide) fq_X2_addTraveller_31 rfl rfl rfl (fun _ _ => Nat.le_of_ble_eq_true rfl) gs_X2_6 dX2_addTraveller_45 ?_
    exact gq_vret C h dX2_addTraveller_48
theorem mq_X2_addTraveller {l : Launch} {D : va_G} {cyI cyZ cyS : ClassId} {ad : Nat → Nat} (hap : gq_ap 84 ad) {r : Nat} (hr : gr_r r) (a1 : Int32) (a2 : Int32) (a3 : Int32) (σ : gq_M) (Q : gq_M → Prop) (h : wq_X2_addTraveller r a1 a2 a3 σ Q) : Met l yX2_addTraveller wsX2_addTraveller rq_X2_addTraveller (va_Pc [.ref (ad r), .int a1, .int a2, .int a3] (gq_P D (gc_T cyI cyZ cyS) 84 ad (gc_S cyI cyZ cyS ad) σ)) (va_Qv Q (gq_P D (gc_T cyI cyZ cyS) 84 ad (gc_S cyI cyZ cyS ad)) (gq_A 84 ad)) 0 0 (gq_A 84 ad) :=
  gq_met hap (by decide) rfl rfl (Nat.le_of_ble_eq_true rfl) (fun _ _ _ _ _ _ _ C => tq_X2_addTraveller C hr a1 a2 a3 σ h)
abbrev rq_X2_canBeIced : Room := { frames := 0, cells := 0, slots := 0, locals := 0 }
theorem dq_X2_canBeIced : gq_dsc yX2_canBeIced 0 := by unfold gq_dsc; decide +kernel
theorem iq_X2_canBeIced_X2 : ∀ w ∈ u_ws RX2 TX2 7, w ∈ wsX2_canBeIced := by decide +kernel
theorem fq_X2_canBeIced_27 : Cond.fieldLink RX2 27 (TX2 5).1 (TX2 5).2.1 (TX2 5).2.2.1 ∈ wsX2_canBeIced := by decide +kernel
theorem fq_X2_canBeIced_15 : Cond.fieldLink RX2 15 (TX2 1).1 (TX2 1).2.1 (TX2 1).2.2.1 ∈ wsX2_canBeIced := by decide +kernel
def wq_X2_canBeIced_b36 (r : Nat) (Q : Int32 → gq_M → Prop) (K4 : Int32 → Int32 → gq_M → Prop) (x2 : Int32) (s0 : Int32) (s1 : Int32) (σ : gq_M) : Prop := ∀ v4, v4 = (s0 ||| s1) → ∀ v5, v5 = (x2 + 1) → K4 v4 v5 σ
set_option maxRecDepth 100000 in
set_option maxHeartbeats 4000000 in
theorem tq_X2_canBeIced_b36 {p : Program} {l : Launch} {e : Env} {s : State} {m : MethodId} {args : Array Value} {below : List Frame} {meth : Method} {c : Code} {D : va_G} {cyI cyZ cyS : ClassId} {ad : Nat → Nat} {r : Nat} {Q : Int32 → gq_M → Prop} {K4 : Int32 → Int32 → gq_M → Prop} (C : gq_C p s m args meth c cX2_canBeIced 3 RX2 wsX2_canBeIced D (gc_T cyI cyZ cyS) 84 ad (some .int)) (hr : gr_r r) (hK4 : ∀ (y1 : Int32) (y2 : Int32) (τ : gq_M), K4 y1 y2 τ → gq_G p l e rq_X2_canBeIced s m args below meth c (gq_Ri below args s D (gc_T cyI cyZ cyS) 84 ad (gc_S cyI cyZ cyS ad) Q) D 84 ad (gc_S cyI cyZ cyS ad) 3 τ 4 [(0, .ref (ad r)), (1, .int y1), (2, .int y2)] []) (x2 : Int32) (s0 : Int32) (s1 : Int32) (σ : gq_M) (h : wq_X2_canBeIced_b36 r Q K4 x2 s0 s1 σ) : gq_G p l e rq_X2_canBeIced s m args below meth c (gq_Ri below args s D (gc_T cyI cyZ cyS) 84 ad (gc_S cyI cyZ cyS ad) Q) D 84 ad (gc_S cyI cyZ cyS ad) 3 σ 36 [(0, .ref (ad r)), (2, .int x2)] [.int s1, .int s0] := by
  unfold wq_X2_canBeIced_b36 at h
  refine gq_ior C dX2_canBeIced_36 ?_
  refine gq_topi (fun v4 qv4 => ?_)
  have h := h v4 qv4
  refine gq_istore_n (L' := [(0, .ref (ad r)), (1, .int v4), (2, .int x2)]) C [1, 0, 2] dX2_canBeIced_37 (by decide) rfl ?_
  obtain ⟨v5, qv5⟩ : ∃ y : Int32, y = (x2 + 1) := ⟨_, rfl⟩
  have h := h v5 qv5
  refine gq_iinc (j := 2) (v := v5) (L' := [(0, .ref (ad r)), (1, .int v4), (2, .int v5)]) C [1, 2, 0] dX2_canBeIced_38 rfl (by rw [qv5]; rfl) (by decide) rfl ?_
  refine gq_goto (tgt := 4) C dX2_canBeIced_41 (by decide) ?_
  exact hK4 _ _ _ h
def wq_X2_canBeIced_l4 (r : Nat) (Q : Int32 → gq_M → Prop) (K44 : Int32 → gq_M → Prop) : Nat → Int32 → Int32 → gq_M → Prop
  | 0, _, _, _ => False
  | n + 1, x1, x2, σ => (((σ.1 r 5) ≤ x2 → K44 x1 σ) ∧ (¬ (σ.1 r 5) ≤ x2 → ((8 ≤ x2 → K44 x1 σ) ∧ (¬ 8 ≤ x2 → vp_in x2 10 ∧ (((σ.1 (r + 2) x2.toNatClampNeg) = 3 → wq_X2_canBeIced_b36 r Q (wq_X2_canBeIced_l4 r Q K44 n) x2 x1 0 σ) ∧ (¬ (σ.1 (r + 2) x2.toNatClampNeg) = 3 → wq_X2_canBeIced_b36 r Q (wq_X2_canBeIced_l4 r Q K44 n) x2 x1 ((1 : Int32) <<< (x2 &&& 31)) σ))))))
set_option maxRecDepth 100000 in
set_option maxHeartbeats 4000000 in
theorem tq_X2_canBeIced_l4 {p : Program} {l : Launch} {e : Env} {s : State} {m : MethodId} {args : Array Value} {below : List Frame} {meth : Method} {c : Code} {D : va_G} {cyI cyZ cyS : ClassId} {ad : Nat → Nat} {r : Nat} {Q : Int32 → gq_M → Prop} {K44 : Int32 → gq_M → Prop} (C : gq_C p s m args meth c cX2_canBeIced 3 RX2 wsX2_canBeIced D (gc_T cyI cyZ cyS) 84 ad (some .int)) (hr : gr_r r) (hK44 : ∀ (y1 : Int32) (τ : gq_M), K44 y1 τ → gq_G p l e rq_X2_canBeIced s m args below meth c (gq_Ri below args s D (gc_T cyI cyZ cyS) 84 ad (gc_S cyI cyZ cyS ad) Q) D 84 ad (gc_S cyI cyZ cyS ad) 3 τ 44 [(0, .ref (ad r)), (1, .int y1)] []) : ∀ (n : Nat) (x1 : Int32) (x2 : Int32) (σ : gq_M), wq_X2_canBeIced_l4 r Q K44 n x1 x2 σ → gq_G p l e rq_X2_canBeIced s m args below meth c (gq_Ri below args s D (gc_T cyI cyZ cyS) 84 ad (gc_S cyI cyZ cyS ad) Q) D 84 ad (gc_S cyI cyZ cyS ad) 3 σ 4 [(0, .ref (ad r)), (1, .int x1), (2, .int x2)] [] := by
  intro n
  induction n with
  | zero =>
    intro x1 x2 σ h
    exact absurd h (fun q => q)
  | succ n ih =>
    intro x1 x2 σ h
    unfold wq_X2_canBeIced_l4 at h
    refine gq_iload_n (j := 2) C dX2_canBeIced_4 rfl ?_
    refine gq_aload_n (j := 0) C dX2_canBeIced_5 rfl ?_
    refine gq_get (v := .int (σ.1 r 5)) (i := r) C (gcs_X2 hr) rfl iq_X2_canBeIced_X2 5 (by decide) fq_X2_canBeIced_27 rfl dX2_canBeIced_6 ?_
    refine gq_icmp_ge (tgt := 44) C dX2_canBeIced_9 (by decide) (fun c1 => ?_) (fun c1 => ?_)
    · have h := h.1 c1
      refine gq_sub [0, 1] rfl ?_
      exact hK44 _ _ h
    · have h := h.2 c1
      refine gq_iload_n (j := 2) C dX2_canBeIced_12 rfl ?_
      refine gq_bipush (v := 8) C dX2_canBeIced_13 (by decide) ?_
      refine gq_icmp_ge (tgt := 44) C dX2_canBeIced_15 (by decide) (fun c2 => ?_) (fun c2 => ?_)
      · have h := h.1 c2
        refine gq_sub [0, 1] rfl ?_
        exact hK44 _ _ h
      · have h := h.2 c2
        refine gq_iload_n (j := 1) C dX2_canBeIced_18 rfl ?_
        refine gq_aload_n (j := 0) C dX2_canBeIced_19 rfl ?_
        refine gq_get (v := .ref (ad (r + 2))) (i := r) C (gcs_X2 hr) rfl iq_X2_canBeIced_X2 1 (by decide) fq_X2_canBeIced_15 rfl dX2_canBeIced_20 ?_
        refine gq_iload_n (j := 2) C dX2_canBeIced_23 rfl ?_
        refine gq_iald (i := (r + 2)) (j := x2.toNatClampNeg) C (gcs_X2_2 hr) 0 rfl rfl h.1 dX2_canBeIced_24 ?_
        have h := h.2
        refine gq_iconst (v := 3) C dX2_canBeIced_25 (by decide) ?_
        refine gq_icmp_eq (tgt := 35) C dX2_canBeIced_26 (by decide) (fun c3 => ?_) (fun c3 => ?_)
        · have h := h.1 c3
          refine gq_iconst (v := 0) C dX2_canBeIced_35 (by decide) ?_
          refine gq_sub [0, 2] rfl ?_
          exact tq_X2_canBeIced_b36 C hr (ih) _ _ _ _ h
        · have h := h.2 c3
          refine gq_iconst (v := 1) C dX2_canBeIced_29 (by decide) ?_
          refine gq_iload_n (j := 2) C dX2_canBeIced_30 rfl ?_
          refine gq_ishl C dX2_canBeIced_31 ?_
          refine gq_goto (tgt := 36) C dX2_canBeIced_32 (by decide) ?_
          refine gq_sub [0, 2] rfl ?_
          exact tq_X2_canBeIced_b36 C hr (ih) _ _ _ _ h
def wq_X2_canBeIced (r : Nat) (σ : gq_M) (Q : Int32 → gq_M → Prop) : Prop := (∃ n8, wq_X2_canBeIced_l4 r Q (fun e6 σ7 => Q e6 σ7) n8 0 0 σ)
set_option maxRecDepth 100000 in
set_option maxHeartbeats 4000000 in
theorem tq_X2_canBeIced {p : Program} {l : Launch} {e : Env} {s : State} {m : MethodId} {args : Array Value} {below : List Frame} {meth : Method} {c : Code} {D : va_G} {cyI cyZ cyS : ClassId} {ad : Nat → Nat} {r : Nat} {Q : Int32 → gq_M → Prop} (C : gq_C p s m args meth c cX2_canBeIced 3 RX2 wsX2_canBeIced D (gc_T cyI cyZ cyS) 84 ad (some .int)) (hr : gr_r r) (σ : gq_M) (h : wq_X2_canBeIced r σ Q) : gq_G p l e rq_X2_canBeIced s m args below meth c (gq_Ri below args s D (gc_T cyI cyZ cyS) 84 ad (gc_S cyI cyZ cyS ad) Q) D 84 ad (gc_S cyI cyZ cyS ad) 3 σ 0 [(0, .ref (ad r))] [] := by
  unfold wq_X2_canBeIced at h
  refine gq_iconst (v := 0) C dX2_canBeIced_0 (by decide) ?_
  refine gq_istore_n (L' := [(0, .ref (ad r)), (1, .int 0)]) C [1, 0] dX2_canBeIced_1 (by decide) rfl ?_
  refine gq_iconst (v := 0) C dX2_canBeIced_2 (by decide) ?_
  refine gq_istore_n (L' := [(0, .ref (ad r)), (1, .int 0), (2, .int 0)]) C [1, 2, 0] dX2_canBeIced_3 (by decide) rfl ?_
  obtain ⟨n8, h⟩ := h
  refine tq_X2_canBeIced_l4 C hr (fun e6 σ7 h => ?_) n8 _ _ _ h
  refine gq_iload_n (j := 1) C dX2_canBeIced_44 rfl ?_
  exact gq_iret C h dX2_canBeIced_45
theorem mq_X2_canBeIced {l : Launch} {D : va_G} {cyI cyZ cyS : ClassId} {ad : Nat → Nat} (hap : gq_ap 84 ad) {r : Nat} (hr : gr_r r) (σ : gq_M) (Q : Int32 → gq_M → Prop) (h : wq_X2_canBeIced r σ Q) : Met l yX2_canBeIced wsX2_canBeIced rq_X2_canBeIced (va_Pc [.ref (ad r)] (gq_P D (gc_T cyI cyZ cyS) 84 ad (gc_S cyI cyZ cyS ad) σ)) (va_Qi Q (gq_P D (gc_T cyI cyZ cyS) 84 ad (gc_S cyI cyZ cyS ad)) (gq_A 84 ad)) 0 0 (gq_A 84 ad) :=
  gq_met hap (by decide) rfl rfl (Nat.le_of_ble_eq_true rfl) (fun _ _ _ _ _ _ _ C => tq_X2_canBeIced C hr σ h)
abbrev rq_X2_windRested : Room := { frames := 1, cells := 0, slots := 0, locals := 21 }
theorem dq_X2_windRested : gq_dsc yX2_windRested 2 := by unfold gq_dsc; decide +kernel
def wq_X2_windRested (a1 : Int32) (a2 : Int32) (σ : gq_M) (Q : Int32 → gq_M → Prop) : Prop := Q (if (a1 + (if 1 < (a2 / 2) then (a2 / 2) else 1)) < a2 then (a1 + (if 1 < (a2 / 2) then (a2 / 2) else 1)) else a2) σ
set_option maxRecDepth 100000 in
set_option maxHeartbeats 4000000 in
theorem tq_X2_windRested {p : Program} {l : Launch} {e : Env} {s : State} {m : MethodId} {args : Array Value} {below : List Frame} {meth : Method} {c : Code} {D : va_G} {cyI cyZ cyS : ClassId} {ad : Nat → Nat} {Q : Int32 → gq_M → Prop} (C : gq_C p s m args meth c cX2_windRested 2 RX2 wsX2_windRested D (gc_T cyI cyZ cyS) 84 ad (some .int)) (a1 : Int32) (a2 : Int32) (σ : gq_M) (h : wq_X2_windRested a1 a2 σ Q) : gq_G p l e rq_X2_windRested s m args below meth c (gq_Ri below args s D (gc_T cyI cyZ cyS) 84 ad (gc_S cyI cyZ cyS ad) Q) D 84 ad (gc_S cyI cyZ cyS ad) 2 σ 0 [(0, .int a1), (1, .int a2)] [] := by
  unfold wq_X2_windRested at h
  refine gq_iload_n (j := 1) C dX2_windRested_0 rfl ?_
  refine gq_iload_n (j := 0) C dX2_windRested_1 rfl ?_
  refine gq_iconst (v := 1) C dX2_windRested_2 (by decide) ?_
  refine gq_iload_n (j := 1) C dX2_windRested_3 rfl ?_
  refine gq_iconst (v := 2) C dX2_windRested_4 (by decide) ?_
  refine gq_idiv C dX2_windRested_5 (by decide) ?_
  refine gq_mmax C (by decide +kernel) (by decide +kernel) (by decide +kernel) (by decide +kernel) (by decide) (Nat.le_of_ble_eq_true rfl) dX2_windRested_6 ?_
  refine gq_iadd C dX2_windRested_9 ?_
  refine gq_mmin C (by decide +kernel) (by decide +kernel) (by decide +kernel) (by decide +kernel) (by decide) (Nat.le_of_ble_eq_true rfl) dX2_windRested_10 ?_
  exact gq_iret C h dX2_windRested_13
theorem mq_X2_windRested {l : Launch} {D : va_G} {cyI cyZ cyS : ClassId} {ad : Nat → Nat} (hap : gq_ap 84 ad) (a1 : Int32) (a2 : Int32) (σ : gq_M) (Q : Int32 → gq_M → Prop) (h : wq_X2_windRested a1 a2 σ Q) : Met l yX2_windRested wsX2_windRested rq_X2_windRested (va_Pc [.int a1, .int a2] (gq_P D (gc_T cyI cyZ cyS) 84 ad (gc_S cyI cyZ cyS ad) σ)) (va_Qi Q (gq_P D (gc_T cyI cyZ cyS) 84 ad (gc_S cyI cyZ cyS ad)) (gq_A 84 ad)) 0 0 (gq_A 84 ad) :=
  gq_met hap (by decide) rfl rfl (Nat.le_of_ble_eq_true rfl) (fun _ _ _ _ _ _ _ C => tq_X2_windRested C a1 a2 σ h)
abbrev rq_X3_append : Room := { frames := 0, cells := 0, slots := 0, locals := 0 }
theorem dq_X3_append : gq_dsc yX3_append 1 := by unfold gq_dsc; decide +kernel
theorem iq_X3_append_X3 : ∀ w ∈ u_ws RX3 TX3 2, w ∈ wsX3_append := by decide +kernel
theorem fq_X3_append_15 : Cond.fieldLink RX3 15 (TX3 1).1 (TX3 1).2.1 (TX3 1).2.2.1 ∈ wsX3_append := by decide +kernel
theorem fq_X3_append_9 : Cond.fieldLink RX3 9 (TX3 0).1 (TX3 0).2.1 (TX3 0).2.2.1 ∈ wsX3_append := by decide +kernel
def wq_X3_append (a1 : Int32) (σ : gq_M) (Q : Int32 → gq_M → Prop) : Prop := (((σ.1 1 1) < 52 → vp_in (σ.1 1 1) 52 ∧ Q (((gq_put (gq_put σ 2 ((σ.1 1 1)).toNatClampNeg a1) 1 1 ((((gq_put σ 2 ((σ.1 1 1)).toNatClampNeg a1)).1 1 1) + 1))).1 1 1) (gq_put (gq_put σ 2 ((σ.1 1 1)).toNatClampNeg a1) 1 1 ((((gq_put σ 2 ((σ.1 1 1)).toNatClampNeg a1)).1 1 1) + 1))) ∧ (¬ (σ.1 1 1) < 52 → Q (-4) σ))
set_option maxRecDepth 100000 in
set_option maxHeartbeats 4000000 in
theorem tq_X3_append {p : Program} {l : Launch} {e : Env} {s : State} {m : MethodId} {args : Array Value} {below : List Frame} {meth : Method} {c : Code} {D : va_G} {cyI cyZ cyS : ClassId} {ad : Nat → Nat} {Q : Int32 → gq_M → Prop} (C : gq_C p s m args meth c cX3_append 2 RX3 wsX3_append D (gc_T cyI cyZ cyS) 84 ad (some .int)) (a1 : Int32) (σ : gq_M) (h : wq_X3_append a1 σ Q) : gq_G p l e rq_X3_append s m args below meth c (gq_Ri below args s D (gc_T cyI cyZ cyS) 84 ad (gc_S cyI cyZ cyS ad) Q) D 84 ad (gc_S cyI cyZ cyS ad) 2 σ 0 [(0, .ref (ad 1)), (1, .int a1)] [] := by
  unfold wq_X3_append at h
  refine gq_aload_n (j := 0) C dX3_append_0 rfl ?_
  refine gq_get (v := .int (σ.1 1 1)) (i := 1) C gcs_1 rfl iq_X3_append_X3 1 (by decide) fq_X3_append_15 rfl dX3_append_1 ?_
  refine gq_bipush (v := 52) C dX3_append_4 (by decide) ?_
  refine gq_icmp_lt (tgt := 12) C dX3_append_6 (by decide) (fun c1 => ?_) (fun c1 => ?_)
  · have h := h.1 c1
    refine gq_aload_n (j := 0) C dX3_append_12 rfl ?_
    refine gq_get (v := .ref (ad 2)) (i := 1) C gcs_1 rfl iq_X3_append_X3 0 (by decide) fq_X3_append_9 rfl dX3_append_13 ?_
    refine gq_aload_n (j := 0) C dX3_append_16 rfl ?_
    refine gq_get (v := .int (σ.1 1 1)) (i := 1) C gcs_1 rfl iq_X3_append_X3 1 (by decide) fq_X3_append_15 rfl dX3_append_17 ?_
    refine gq_iload_n (j := 1) C dX3_append_20 rfl ?_
    refine gq_iast (i := 2) (j := ((σ.1 1 1)).toNatClampNeg) C gcs_2 0 rfl rfl h.1 dX3_append_21 ?_
    have h := h.2
    refine gq_aload_n (j := 0) C dX3_append_22 rfl ?_
    refine gq_dup C dX3_append_23 rfl ?_
    refine gq_get (v := .int (((gq_put σ 2 ((σ.1 1 1)).toNatClampNeg a1)).1 1 1)) (i := 1) C gcs_1 rfl iq_X3_append_X3 1 (by decide) fq_X3_append_15 rfl dX3_append_24 ?_
    refine gq_iconst (v := 1) C dX3_append_27 (by decide) ?_
    refine gq_iadd C dX3_append_28 ?_
    refine gq_puti (i := 1) C gcs_1 rfl iq_X3_append_X3 tyX3 tyX3_ok nmX3 1 (by decide) fq_X3_append_15 rfl rfl rfl (fun _ _ => Nat.le_of_ble_eq_true rfl) gs_X3_1 dX3_append_29 ?_
    refine gq_aload_n (j := 0) C dX3_append_32 rfl ?_
    refine gq_get (v := .int (((gq_put (gq_put σ 2 ((σ.1 1 1)).toNatClampNeg a1) 1 1 ((((gq_put σ 2 ((σ.1 1 1)).toNatClampNeg a1)).1 1 1) + 1))).1 1 1)) (i := 1) C gcs_1 rfl iq_X3_append_X3 1 (by decide) fq_X3_append_15 rfl dX3_append_33 ?_
    exact gq_iret C h dX3_append_36
  · have h := h.2 c1
    refine gq_bipush (v := (-4)) C dX3_append_9 (by decide) ?_
    exact gq_iret C h dX3_append_11
theorem mq_X3_append {l : Launch} {D : va_G} {cyI cyZ cyS : ClassId} {ad : Nat → Nat} (hap : gq_ap 84 ad) (a1 : Int32) (σ : gq_M) (Q : Int32 → gq_M → Prop) (h : wq_X3_append a1 σ Q) : Met l yX3_append wsX3_append rq_X3_append (va_Pc [.ref (ad 1), .int a1] (gq_P D (gc_T cyI cyZ cyS) 84 ad (gc_S cyI cyZ cyS ad) σ)) (va_Qi Q (gq_P D (gc_T cyI cyZ cyS) 84 ad (gc_S cyI cyZ cyS ad)) (gq_A 84 ad)) 0 0 (gq_A 84 ad) :=
  gq_met hap (by decide) rfl rfl (Nat.le_of_ble_eq_true rfl) (fun _ _ _ _ _ _ _ C => tq_X3_append C a1 σ h)
abbrev rq_X3_figure : Room := { frames := 0, cells := 0, slots := 0, locals := 0 }
theorem dq_X3_figure : gq_dsc yX3_figure 1 := by unfold gq_dsc; decide +kernel
theorem iq_X3_figure_X3 : ∀ w ∈ u_ws RX3 TX3 2, w ∈ wsX3_figure := by decide +kernel
theorem fq_X3_figure_9 : Cond.fieldLink RX3 9 (TX3 0).1 (TX3 0).2.1 (TX3 0).2.2.1 ∈ wsX3_figure := by decide +kernel
def wq_X3_figure (a1 : Int32) (σ : gq_M) (Q : Int32 → gq_M → Prop) : Prop := ((a1 < 0 → Q (-1) σ) ∧ (¬ a1 < 0 → ((52 ≤ a1 → Q (-1) σ) ∧ (¬ 52 ≤ a1 → vp_in a1 52 ∧ Q ((σ.1 2 a1.toNatClampNeg) - 48) σ))))
set_option maxRecDepth 100000 in
set_option maxHeartbeats 4000000 in
theorem tq_X3_figure {p : Program} {l : Launch} {e : Env} {s : State} {m : MethodId} {args : Array Value} {below : List Frame} {meth : Method} {c : Code} {D : va_G} {cyI cyZ cyS : ClassId} {ad : Nat → Nat} {Q : Int32 → gq_M → Prop} (C : gq_C p s m args meth c cX3_figure 2 RX3 wsX3_figure D (gc_T cyI cyZ cyS) 84 ad (some .int)) (a1 : Int32) (σ : gq_M) (h : wq_X3_figure a1 σ Q) : gq_G p l e rq_X3_figure s m args below meth c (gq_Ri below args s D (gc_T cyI cyZ cyS) 84 ad (gc_S cyI cyZ cyS ad) Q) D 84 ad (gc_S cyI cyZ cyS ad) 2 σ 0 [(0, .ref (ad 1)), (1, .int a1)] [] := by
  unfold wq_X3_figure at h
  refine gq_iload_n (j := 1) C dX3_figure_0 rfl ?_
  refine gq_if_lt (tgt := 22) C dX3_figure_1 (by decide) (fun c1 => ?_) (fun c1 => ?_)
  · have h := h.1 c1
    refine gq_iconst (v := (-1)) C dX3_figure_22 (by decide) ?_
    exact gq_iret C h dX3_figure_23
  · have h := h.2 c1
    refine gq_iload_n (j := 1) C dX3_figure_4 rfl ?_
    refine gq_bipush (v := 52) C dX3_figure_5 (by decide) ?_
    refine gq_icmp_ge (tgt := 22) C dX3_figure_7 (by decide) (fun c2 => ?_) (fun c2 => ?_)
    · have h := h.1 c2
      refine gq_iconst (v := (-1)) C dX3_figure_22 (by decide) ?_
      exact gq_iret C h dX3_figure_23
    · have h := h.2 c2
      refine gq_aload_n (j := 0) C dX3_figure_10 rfl ?_
      refine gq_get (v := .ref (ad 2)) (i := 1) C gcs_1 rfl iq_X3_figure_X3 0 (by decide) fq_X3_figure_9 rfl dX3_figure_11 ?_
      refine gq_iload_n (j := 1) C dX3_figure_14 rfl ?_
      refine gq_iald (i := 2) (j := a1.toNatClampNeg) C gcs_2 0 rfl rfl h.1 dX3_figure_15 ?_
      have h := h.2
      refine gq_bipush (v := 48) C dX3_figure_16 (by decide) ?_
      refine gq_isub C dX3_figure_18 ?_
      refine gq_goto (tgt := 23) C dX3_figure_19 (by decide) ?_
      exact gq_iret C h dX3_figure_23
theorem mq_X3_figure {l : Launch} {D : va_G} {cyI cyZ cyS : ClassId} {ad : Nat → Nat} (hap : gq_ap 84 ad) (a1 : Int32) (σ : gq_M) (Q : Int32 → gq_M → Prop) (h : wq_X3_figure a1 σ Q) : Met l yX3_figure wsX3_figure rq_X3_figure (va_Pc [.ref (ad 1), .int a1] (gq_P D (gc_T cyI cyZ cyS) 84 ad (gc_S cyI cyZ cyS ad) σ)) (va_Qi Q (gq_P D (gc_T cyI cyZ cyS) 84 ad (gc_S cyI cyZ cyS ad)) (gq_A 84 ad)) 0 0 (gq_A 84 ad) :=
  gq_met hap (by decide) rfl rfl (Nat.le_of_ble_eq_true rfl) (fun _ _ _ _ _ _ _ C => tq_X3_figure C a1 σ h)
abbrev rq_X3_figureFault : Room := { frames := 1, cells := 0, slots := 0, locals := 21 }
theorem dq_X3_figureFault : gq_dsc yX3_figureFault 3 := by unfold gq_dsc; decide +kernel
theorem iq_X3_figureFault_X3 : ∀ w ∈ u_ws RX3 TX3 2, w ∈ wsX3_figureFault := by decide +kernel
theorem fq_X3_figureFault_15 : Cond.fieldLink RX3 15 (TX3 1).1 (TX3 1).2.1 (TX3 1).2.2.1 ∈ wsX3_figureFault := by decide +kernel
def wq_X3_figureFault (a1 : Int32) (a2 : Int32) (a3 : Int32) (σ : gq_M) (Q : Int32 → gq_M → Prop) : Prop := ((a1 < (σ.1 1 1) → wq_X3_figure a1 σ (fun r2 σ3 => ((r2 < a2 → Q a1 σ3) ∧ (¬ r2 < a2 → wq_X3_figure a1 σ3 (fun r5 σ6 => ((a3 < r5 → Q a1 σ6) ∧ (¬ a3 < r5 → Q (-9) σ6))))))) ∧ (¬ a1 < (σ.1 1 1) → Q (σ.1 1 1) σ))
set_option maxRecDepth 100000 in
set_option maxHeartbeats 4000000 in
theorem tq_X3_figureFault {p : Program} {l : Launch} {e : Env} {s : State} {m : MethodId} {args : Array Value} {below : List Frame} {meth : Method} {c : Code} {D : va_G} {cyI cyZ cyS : ClassId} {ad : Nat → Nat} {Q : Int32 → gq_M → Prop} (C : gq_C p s m args meth c cX3_figureFault 4 RX3 wsX3_figureFault D (gc_T cyI cyZ cyS) 84 ad (some .int)) (a1 : Int32) (a2 : Int32) (a3 : Int32) (σ : gq_M) (h : wq_X3_figureFault a1 a2 a3 σ Q) : gq_G p l e rq_X3_figureFault s m args below meth c (gq_Ri below args s D (gc_T cyI cyZ cyS) 84 ad (gc_S cyI cyZ cyS ad) Q) D 84 ad (gc_S cyI cyZ cyS ad) 4 σ 0 [(0, .ref (ad 1)), (1, .int a1), (2, .int a2), (3, .int a3)] [] := by
  unfold wq_X3_figureFault at h
  refine gq_iload_n (j := 1) C dX3_figureFault_0 rfl ?_
  refine gq_aload_n (j := 0) C dX3_figureFault_1 rfl ?_
  refine gq_get (v := .int (σ.1 1 1)) (i := 1) C gcs_1 rfl iq_X3_figureFault_X3 1 (by decide) fq_X3_figureFault_15 rfl dX3_figureFault_2 ?_
  refine gq_icmp_lt (tgt := 13) C dX3_figureFault_5 (by decide) (fun c1 => ?_) (fun c1 => ?_)
  · have h := h.1 c1
    refine gq_aload_n (j := 0) C dX3_figureFault_13 rfl ?_
    refine gq_iload_n (j := 1) C dX3_figureFault_14 rfl ?_
    refine gq_vi (i := 1) C gcs_1 rfl [.int a1] (mq_X3_figure C.2.2.1 a1 σ _ h) gX3_figureFault_X3_figure rfl rfl dq_X3_figure ⟨rfl, rfl, by decide, by decide⟩ rfl rfl (Nat.le_of_ble_eq_true rfl) dX3_figureFault_15 (fun r2 σ3 h => ?_)
    refine gq_iload_n (j := 2) C dX3_figureFault_18 rfl ?_
    refine gq_icmp_lt (tgt := 36) C dX3_figureFault_19 (by decide) (fun c4 => ?_) (fun c4 => ?_)
    · have h := h.1 c4
      refine gq_iload_n (j := 1) C dX3_figureFault_36 rfl ?_
      exact gq_iret C h dX3_figureFault_37
    · have h := h.2 c4
      refine gq_aload_n (j := 0) C dX3_figureFault_22 rfl ?_
      refine gq_iload_n (j := 1) C dX3_figureFault_23 rfl ?_
      refine gq_vi (i := 1) C gcs_1 rfl [.int a1] (mq_X3_figure C.2.2.1 a1 σ3 _ h) gX3_figureFault_X3_figure rfl rfl dq_X3_figure ⟨rfl, rfl, by decide, by decide⟩ rfl rfl (Nat.le_of_ble_eq_true rfl) dX3_figureFault_24 (fun r5 σ6 h => ?_)
      refine gq_iload_n (j := 3) C dX3_figureFault_27 rfl ?_
      refine gq_icmp_gt (tgt := 36) C dX3_figureFault_28 (by decide) (fun c7 => ?_) (fun c7 => ?_)
      · have h := h.1 c7
        refine gq_iload_n (j := 1) C dX3_figureFault_36 rfl ?_
        exact gq_iret C h dX3_figureFault_37
      · have h := h.2 c7
        refine gq_bipush (v := (-9)) C dX3_figureFault_31 (by decide) ?_
        refine gq_goto (tgt := 37) C dX3_figureFault_33 (by decide) ?_
        exact gq_iret C h dX3_figureFault_37
  · have h := h.2 c1
    refine gq_aload_n (j := 0) C dX3_figureFault_8 rfl ?_
    refine gq_get (v := .int (σ.1 1 1)) (i := 1) C gcs_1 rfl iq_X3_figureFault_X3 1 (by decide) fq_X3_figureFault_15 rfl dX3_figureFault_9 ?_
    exact gq_iret C h dX3_figureFault_12
theorem mq_X3_figureFault {l : Launch} {D : va_G} {cyI cyZ cyS : ClassId} {ad : Nat → Nat} (hap : gq_ap 84 ad) (a1 : Int32) (a2 : Int32) (a3 : Int32) (σ : gq_M) (Q : Int32 → gq_M → Prop) (h : wq_X3_figureFault a1 a2 a3 σ Q) : Met l yX3_figureFault wsX3_figureFault rq_X3_figureFault (va_Pc [.ref (ad 1), .int a1, .int a2, .int a3] (gq_P D (gc_T cyI cyZ cyS) 84 ad (gc_S cyI cyZ cyS ad) σ)) (va_Qi Q (gq_P D (gc_T cyI cyZ cyS) 84 ad (gc_S cyI cyZ cyS ad)) (gq_A 84 ad)) 0 0 (gq_A 84 ad) :=
  gq_met hap (by decide) rfl rfl (Nat.le_of_ble_eq_true rfl) (fun _ _ _ _ _ _ _ C => tq_X3_figureFault C a1 a2 a3 σ h)
abbrev rq_X3_readPleat : Room := { frames := 2, cells := 0, slots := 0, locals := 44 }
theorem dq_X3_readPleat : gq_dsc yX3_readPleat 2 := by unfold gq_dsc; decide +kernel
def wq_X3_readPleat_b27 (r2 : Nat) (Q : Int32 → gq_M → Prop) (x1 : Int32) (x3 : Int32) (σ : gq_M) : Prop := ((¬ x3 = (-9) → Q x3 σ) ∧ (x3 = (-9) → wq_X3_figure (x1 + 1) σ (fun r5 σ6 => wq_X3_figure (x1 + 2) σ6 (fun r7 σ8 => wq_X2_addPleat r2 r5 r7 σ8 (fun σ10 => Q x3 σ10)))))
set_option maxRecDepth 100000 in
set_option maxHeartbeats 4000000 in
theorem tq_X3_readPleat_b27 {p : Program} {l : Launch} {e : Env} {s : State} {m : MethodId} {args : Array Value} {below : List Frame} {meth : Method} {c : Code} {D : va_G} {cyI cyZ cyS : ClassId} {ad : Nat → Nat} {r2 : Nat} {Q : Int32 → gq_M → Prop} (C : gq_C p s m args meth c cX3_readPleat 4 RX3 wsX3_readPleat D (gc_T cyI cyZ cyS) 84 ad (some .int)) (hr2 : gr_r r2) (x1 : Int32) (x3 : Int32) (σ : gq_M) (h : wq_X3_readPleat_b27 r2 Q x1 x3 σ) : gq_G p l e rq_X3_readPleat s m args below meth c (gq_Ri below args s D (gc_T cyI cyZ cyS) 84 ad (gc_S cyI cyZ cyS ad) Q) D 84 ad (gc_S cyI cyZ cyS ad) 4 σ 27 [(0, .ref (ad 1)), (1, .int x1), (2, .ref (ad r2)), (3, .int x3)] [] := by
  unfold wq_X3_readPleat_b27 at h
  refine gq_iload_n (j := 3) C dX3_readPleat_27 rfl ?_
  refine gq_bipush (v := (-9)) C dX3_readPleat_28 (by decide) ?_
  refine gq_icmp_ne (tgt := 51) C dX3_readPleat_30 (by decide) (fun c4 => ?_) (fun c4 => ?_)
  · have h := h.1 c4
    refine gq_iload_n (j := 3) C dX3_readPleat_51 rfl ?_
    exact gq_iret C h dX3_readPleat_52
  · have h := h.2 c4
    refine gq_aload_n (j := 2) C dX3_readPleat_33 rfl ?_
    refine gq_aload_n (j := 0) C dX3_readPleat_34 rfl ?_
    refine gq_iload_n (j := 1) C dX3_readPleat_35 rfl ?_
    refine gq_iconst (v := 1) C dX3_readPleat_36 (by decide) ?_
    refine gq_iadd C dX3_readPleat_37 ?_
    refine gq_vi (i := 1) C gcs_1 rfl [.int (x1 + 1)] (mq_X3_figure C.2.2.1 (x1 + 1) σ _ h) gX3_readPleat_X3_figure rfl rfl dq_X3_figure ⟨rfl, rfl, by decide, by decide⟩ rfl rfl (Nat.le_of_ble_eq_true rfl) dX3_readPleat_38 (fun r5 σ6 h => ?_)
    refine gq_aload_n (j := 0) C dX3_readPleat_41 rfl ?_
    refine gq_iload_n (j := 1) C dX3_readPleat_42 rfl ?_
    refine gq_iconst (v := 2) C dX3_readPleat_43 (by decide) ?_
    refine gq_iadd C dX3_readPleat_44 ?_
    refine gq_vi (i := 1) C gcs_1 rfl [.int (x1 + 2)] (mq_X3_figure C.2.2.1 (x1 + 2) σ6 _ h) gX3_readPleat_X3_figure rfl rfl dq_X3_figure ⟨rfl, rfl, by decide, by decide⟩ rfl rfl (Nat.le_of_ble_eq_true rfl) dX3_readPleat_45 (fun r7 σ8 h => ?_)
    refine gq_vv (i := r2) C (gcs_X2 hr2) rfl [.int r5, .int r7] (mq_X2_addPleat C.2.2.1 hr2 r5 r7 σ8 _ h) gX3_readPleat_X2_addPleat rfl rfl dq_X2_addPleat ⟨rfl, rfl, by decide, by decide⟩ rfl rfl (Nat.le_of_ble_eq_true rfl) dX3_readPleat_48 (fun σ10 h => ?_)
    refine gq_iload_n (j := 3) C dX3_readPleat_51 rfl ?_
    exact gq_iret C h dX3_readPleat_52
def wq_X3_readPleat (r2 : Nat) (a1 : Int32) (σ : gq_M) (Q : Int32 → gq_M → Prop) : Prop := wq_X3_figureFault (a1 + 1) 1 9 σ (fun r1 σ2 => ((¬ r1 = (-9) → wq_X3_readPleat_b27 r2 Q a1 r1 σ2) ∧ (r1 = (-9) → wq_X3_figureFault (a1 + 2) 0 3 σ2 (fun r11 σ12 => wq_X3_readPleat_b27 r2 Q a1 r11 σ12))))
set_option maxRecDepth 100000 in
set_option maxHeartbeats 4000000 in
theorem tq_X3_readPleat {p : Program} {l : Launch} {e : Env} {s : State} {m : MethodId} {args : Array Value} {below : List Frame} {meth : Method} {c : Code} {D : va_G} {cyI cyZ cyS : ClassId} {ad : Nat → Nat} {r2 : Nat} {Q : Int32 → gq_M → Prop} (C : gq_C p s m args meth c cX3_readPleat 4 RX3 wsX3_readPleat D (gc_T cyI cyZ cyS) 84 ad (some .int)) (hr2 : gr_r r2) (a1 : Int32) (σ : gq_M) (h : wq_X3_readPleat r2 a1 σ Q) : gq_G p l e rq_X3_readPleat s m args below meth c (gq_Ri below args s D (gc_T cyI cyZ cyS) 84 ad (gc_S cyI cyZ cyS ad) Q) D 84 ad (gc_S cyI cyZ cyS ad) 4 σ 0 [(0, .ref (ad 1)), (1, .int a1), (2, .ref (ad r2))] [] := by
  unfold wq_X3_readPleat at h
  refine gq_aload_n (j := 0) C dX3_readPleat_0 rfl ?_
  refine gq_iload_n (j := 1) C dX3_readPleat_1 rfl ?_
  refine gq_iconst (v := 1) C dX3_readPleat_2 (by decide) ?_
  refine gq_iadd C dX3_readPleat_3 ?_
  refine gq_iconst (v := 1) C dX3_readPleat_4 (by decide) ?_
  refine gq_bipush (v := 9) C dX3_readPleat_5 (by decide) ?_
  refine gq_vi (i := 1) C gcs_1 rfl [.int (a1 + 1), .int 1, .int 9] (mq_X3_figureFault C.2.2.1 (a1 + 1) 1 9 σ _ h) gX3_readPleat_X3_figureFault rfl rfl dq_X3_figureFault ⟨rfl, rfl, by decide, by decide⟩ rfl rfl (Nat.le_of_ble_eq_true rfl) dX3_readPleat_7 (fun r1 σ2 h => ?_)
  refine gq_istore_n (L' := [(0, .ref (ad 1)), (1, .int a1), (2, .ref (ad r2)), (3, .int r1)]) C [1, 2, 3, 0] dX3_readPleat_10 (by decide) rfl ?_
  refine gq_iload_n (j := 3) C dX3_readPleat_11 rfl ?_
  refine gq_bipush (v := (-9)) C dX3_readPleat_12 (by decide) ?_
  refine gq_icmp_ne (tgt := 27) C dX3_readPleat_14 (by decide) (fun c3 => ?_) (fun c3 => ?_)
  · have h := h.1 c3
    exact tq_X3_readPleat_b27 C hr2 _ _ _ h
  · have h := h.2 c3
    refine gq_aload_n (j := 0) C dX3_readPleat_17 rfl ?_
    refine gq_iload_n (j := 1) C dX3_readPleat_18 rfl ?_
    refine gq_iconst (v := 2) C dX3_readPleat_19 (by decide) ?_
    refine gq_iadd C dX3_readPleat_20 ?_
    refine gq_iconst (v := 0) C dX3_readPleat_21 (by decide) ?_
    refine gq_iconst (v := 3) C dX3_readPleat_22 (by decide) ?_
    refine gq_vi (i := 1) C gcs_1 rfl [.int (a1 + 2), .int 0, .int 3] (mq_X3_figureFault C.2.2.1 (a1 + 2) 0 3 σ2 _ h) gX3_readPleat_X3_figureFault rfl rfl dq_X3_figureFault ⟨rfl, rfl, by decide, by decide⟩ rfl rfl (Nat.le_of_ble_eq_true rfl) dX3_readPleat_23 (fun r11 σ12 h => ?_)
    refine gq_istore_n (L' := [(0, .ref (ad 1)), (1, .int a1), (2, .ref (ad r2)), (3, .int r11)]) C [1, 2, 3, 0] dX3_readPleat_26 (by decide) rfl ?_
    exact tq_X3_readPleat_b27 C hr2 _ _ _ h
theorem mq_X3_readPleat {l : Launch} {D : va_G} {cyI cyZ cyS : ClassId} {ad : Nat → Nat} (hap : gq_ap 84 ad) {r2 : Nat} (hr2 : gr_r r2) (a1 : Int32) (σ : gq_M) (Q : Int32 → gq_M → Prop) (h : wq_X3_readPleat r2 a1 σ Q) : Met l yX3_readPleat wsX3_readPleat rq_X3_readPleat (va_Pc [.ref (ad 1), .int a1, .ref (ad r2)] (gq_P D (gc_T cyI cyZ cyS) 84 ad (gc_S cyI cyZ cyS ad) σ)) (va_Qi Q (gq_P D (gc_T cyI cyZ cyS) 84 ad (gc_S cyI cyZ cyS ad)) (gq_A 84 ad)) 0 0 (gq_A 84 ad) :=
  gq_met hap (by decide) rfl rfl (Nat.le_of_ble_eq_true rfl) (fun _ _ _ _ _ _ _ C => tq_X3_readPleat C hr2 a1 σ h)
abbrev rq_X3_readTraveller : Room := { frames := 2, cells := 0, slots := 0, locals := 44 }
theorem dq_X3_readTraveller : gq_dsc yX3_readTraveller 2 := by unfold gq_dsc; decide +kernel
theorem iq_X3_readTraveller_X2 : ∀ w ∈ u_ws RX2 TX2 7, w ∈ wsX3_readTraveller := by decide +kernel
theorem fq_X3_readTraveller_28 : Cond.fieldLink RX3 28 (TX2 5).1 (TX2 5).2.1 (TX2 5).2.2.1 ∈ wsX3_readTraveller := by decide +kernel
def wq_X3_readTraveller_b51 (r2 : Nat) (Q : Int32 → gq_M → Prop) (x1 : Int32) (x3 : Int32) (σ : gq_M) : Prop := ((¬ x3 = (-9) → Q x3 σ) ∧ (x3 = (-9) → wq_X3_figure (x1 + 1) σ (fun r6 σ7 => wq_X3_figure (x1 + 2) σ7 (fun r8 σ9 => wq_X3_figure (x1 + 3) σ9 (fun r10 σ11 => wq_X2_addTraveller r2 r6 r8 r10 σ11 (fun σ13 => Q x3 σ13))))))
set_option maxRecDepth 100000 in
set_option maxHeartbeats 4000000 in
theorem tq_X3_readTraveller_b51 {p : Program} {l : Launch} {e : Env} {s : State} {m : MethodId} {args : Array Value} {below : List Frame} {meth : Method} {c : Code} {D : va_G} {cyI cyZ cyS : ClassId} {ad : Nat → Nat} {r2 : Nat} {Q : Int32 → gq_M → Prop} (C : gq_C p s m args meth c cX3_readTraveller 4 RX3 wsX3_readTraveller D (gc_T cyI cyZ cyS) 84 ad (some .int)) (hr2 : gr_r r2) (x1 : Int32) (x3 : Int32) (σ : gq_M) (h : wq_X3_readTraveller_b51 r2 Q x1 x3 σ) : gq_G p l e rq_X3_readTraveller s m args below meth c (gq_Ri below args s D (gc_T cyI cyZ cyS) 84 ad (gc_S cyI cyZ cyS ad) Q) D 84 ad (gc_S cyI cyZ cyS ad) 4 σ 51 [(0, .ref (ad 1)), (1, .int x1), (2, .ref (ad r2)), (3, .int x3)] [] := by
  unfold wq_X3_readTraveller_b51 at h
  refine gq_iload_n (j := 3) C dX3_readTraveller_51 rfl ?_
  refine gq_bipush (v := (-9)) C dX3_readTraveller_52 (by decide) ?_
  refine gq_icmp_ne (tgt := 82) C dX3_readTraveller_54 (by decide) (fun c5 => ?_) (fun c5 => ?_)
  · have h := h.1 c5
    refine gq_iload_n (j := 3) C dX3_readTraveller_82 rfl ?_
    exact gq_iret C h dX3_readTraveller_83
  · have h := h.2 c5
    refine gq_aload_n (j := 2) C dX3_readTraveller_57 rfl ?_
    refine gq_aload_n (j := 0) C dX3_readTraveller_58 rfl ?_
    refine gq_iload_n (j := 1) C dX3_readTraveller_59 rfl ?_
    refine gq_iconst (v := 1) C dX3_readTraveller_60 (by decide) ?_
    refine gq_iadd C dX3_readTraveller_61 ?_
    refine gq_vi (i := 1) C gcs_1 rfl [.int (x1 + 1)] (mq_X3_figure C.2.2.1 (x1 + 1) σ _ h) gX3_readTraveller_X3_figure rfl rfl dq_X3_figure ⟨rfl, rfl, by decide, by decide⟩ rfl rfl (Nat.le_of_ble_eq_true rfl) dX3_readTraveller_62 (fun r6 σ7 h => ?_)
    refine gq_aload_n (j := 0) C dX3_readTraveller_65 rfl ?_
    refine gq_iload_n (j := 1) C dX3_readTraveller_66 rfl ?_
    refine gq_iconst (v := 2) C dX3_readTraveller_67 (by decide) ?_
    refine gq_iadd C dX3_readTraveller_68 ?_
    refine gq_vi (i := 1) C gcs_1 rfl [.int (x1 + 2)] (mq_X3_figure C.2.2.1 (x1 + 2) σ7 _ h) gX3_readTraveller_X3_figure rfl rfl dq_X3_figure ⟨rfl, rfl, by decide, by decide⟩ rfl rfl (Nat.le_of_ble_eq_true rfl) dX3_readTraveller_69 (fun r8 σ9 h => ?_)
    refine gq_aload_n (j := 0) C dX3_readTraveller_72 rfl ?_
    refine gq_iload_n (j := 1) C dX3_readTraveller_73 rfl ?_
    refine gq_iconst (v := 3) C dX3_readTraveller_74 (by decide) ?_
    refine gq_iadd C dX3_readTraveller_75 ?_
    refine gq_vi (i := 1) C gcs_1 rfl [.int (x1 + 3)] (mq_X3_figure C.2.2.1 (x1 + 3) σ9 _ h) gX3_readTraveller_X3_figure rfl rfl dq_X3_figure ⟨rfl, rfl, by decide, by decide⟩ rfl rfl (Nat.le_of_ble_eq_true rfl) dX3_readTraveller_76 (fun r10 σ11 h => ?_)
    refine gq_vv (i := r2) C (gcs_X2 hr2) rfl [.int r6, .int r8, .int r10] (mq_X2_addTraveller C.2.2.1 hr2 r6 r8 r10 σ11 _ h) gX3_readTraveller_X2_addTraveller rfl rfl dq_X2_addTraveller ⟨rfl, rfl, by decide, by decide⟩ rfl rfl (Nat.le_of_ble_eq_true rfl) dX3_readTraveller_79 (fun σ13 h => ?_)
    refine gq_iload_n (j := 3) C dX3_readTraveller_82 rfl ?_
    exact gq_iret C h dX3_readTraveller_83
def wq_X3_readTraveller_b35 (r2 : Nat) (Q : Int32 → gq_M → Prop) (x1 : Int32) (x3 : Int32) (σ : gq_M) : Prop := ((¬ x3 = (-9) → wq_X3_readTraveller_b51 r2 Q x1 x3 σ) ∧ (x3 = (-9) → wq_X3_figureFault (x1 + 3) 0 3 σ (fun r14 σ15 => wq_X3_readTraveller_b51 r2 Q x1 r14 σ15)))
set_option maxRecDepth 100000 in
set_option maxHeartbeats 4000000 in
theorem tq_X3_readTraveller_b35 {p : Program} {l : Launch} {e : Env} {s : State} {m : MethodId} {args : Array Value} {below : List Frame} {meth : Method} {c : Code} {D : va_G} {cyI cyZ cyS : ClassId} {ad : Nat → Nat} {r2 : Nat} {Q : Int32 → gq_M → Prop} (C : gq_C p s m args meth c cX3_readTraveller 4 RX3 wsX3_readTraveller D (gc_T cyI cyZ cyS) 84 ad (some .int)) (hr2 : gr_r r2) (x1 : Int32) (x3 : Int32) (σ : gq_M) (h : wq_X3_readTraveller_b35 r2 Q x1 x3 σ) : gq_G p l e rq_X3_readTraveller s m args below meth c (gq_Ri below args s D (gc_T cyI cyZ cyS) 84 ad (gc_S cyI cyZ cyS ad) Q) D 84 ad (gc_S cyI cyZ cyS ad) 4 σ 35 [(0, .ref (ad 1)), (1, .int x1), (2, .ref (ad r2)), (3, .int x3)] [] := by
  unfold wq_X3_readTraveller_b35 at h
  refine gq_iload_n (j := 3) C dX3_readTraveller_35 rfl ?_
  refine gq_bipush (v := (-9)) C dX3_readTraveller_36 (by decide) ?_
  refine gq_icmp_ne (tgt := 51) C dX3_readTraveller_38 (by decide) (fun c4 => ?_) (fun c4 => ?_)
  · have h := h.1 c4
    exact tq_X3_readTraveller_b51 C hr2 _ _ _ h
  · have h := h.2 c4
    refine gq_aload_n (j := 0) C dX3_readTraveller_41 rfl ?_
    refine gq_iload_n (j := 1) C dX3_readTraveller_42 rfl ?_
    refine gq_iconst (v := 3) C dX3_readTraveller_43 (by decide) ?_
    refine gq_iadd C dX3_readTraveller_44 ?_
    refine gq_iconst (v := 0) C dX3_readTraveller_45 (by decide) ?_
    refine gq_iconst (v := 3) C dX3_readTraveller_46 (by decide) ?_
    refine gq_vi (i := 1) C gcs_1 rfl [.int (x1 + 3), .int 0, .int 3] (mq_X3_figureFault C.2.2.1 (x1 + 3) 0 3 σ _ h) gX3_readTraveller_X3_figureFault rfl rfl dq_X3_figureFault ⟨rfl, rfl, by decide, by decide⟩ rfl rfl (Nat.le_of_ble_eq_true rfl) dX3_readTraveller_47 (fun r14 σ15 h => ?_)
    refine gq_istore_n (L' := [(0, .ref (ad 1)), (1, .int x1), (2, .ref (ad r2)), (3, .int r14)]) C [1, 2, 3, 0] dX3_readTraveller_50 (by decide) rfl ?_
    exact tq_X3_readTraveller_b51 C hr2 _ _ _ h
def wq_X3_readTraveller (r2 : Nat) (a1 : Int32) (σ : gq_M) (Q : Int32 → gq_M → Prop) : Prop := wq_X3_figureFault (a1 + 1) 0 (if (σ.1 r2 5) < 9 then (σ.1 r2 5) else 9) σ (fun r1 σ2 => ((¬ r1 = (-9) → wq_X3_readTraveller_b35 r2 Q a1 r1 σ2) ∧ (r1 = (-9) → wq_X3_figureFault (a1 + 2) 1 9 σ2 (fun r16 σ17 => wq_X3_readTraveller_b35 r2 Q a1 r16 σ17))))
set_option maxRecDepth 100000 in
set_option maxHeartbeats 4000000 in
theorem tq_X3_readTraveller {p : Program} {l : Launch} {e : Env} {s : State} {m : MethodId} {args : Array Value} {below : List Frame} {meth : Method} {c : Code} {D : va_G} {cyI cyZ cyS : ClassId} {ad : Nat → Nat} {r2 : Nat} {Q : Int32 → gq_M → Prop} (C : gq_C p s m args meth c cX3_readTraveller 4 RX3 wsX3_readTraveller D (gc_T cyI cyZ cyS) 84 ad (some .int)) (hr2 : gr_r r2) (a1 : Int32) (σ : gq_M) (h : wq_X3_readTraveller r2 a1 σ Q) : gq_G p l e rq_X3_readTraveller s m args below meth c (gq_Ri below args s D (gc_T cyI cyZ cyS) 84 ad (gc_S cyI cyZ cyS ad) Q) D 84 ad (gc_S cyI cyZ cyS ad) 4 σ 0 [(0, .ref (ad 1)), (1, .int a1), (2, .ref (ad r2))] [] := by
  unfold wq_X3_readTraveller at h
  refine gq_aload_n (j := 0) C dX3_readTraveller_0 rfl ?_
  refine gq_iload_n (j := 1) C dX3_readTraveller_1 rfl ?_
  refine gq_iconst (v := 1) C dX3_readTraveller_2 (by decide) ?_
  refine gq_iadd C dX3_readTraveller_3 ?_
  refine gq_iconst (v := 0) C dX3_readTraveller_4 (by decide) ?_
  refine gq_bipush (v := 9) C dX3_readTraveller_5 (by decide) ?_
  refine gq_aload_n (j := 2) C dX3_readTraveller_7 rfl ?_
  refine gq_get (v := .int (σ.1 r2 5)) (i := r2) C (gcs_X2 hr2) rfl iq_X3_readTraveller_X2 5 (by decide) fq_X3_readTraveller_28 rfl dX3_readTraveller_8 ?_
  refine gq_mmin C (by decide +kernel) (by decide +kernel) (by decide +kernel) (by decide +kernel) (by decide) (Nat.le_of_ble_eq_true rfl) dX3_readTraveller_11 ?_
  refine gq_vi (i := 1) C gcs_1 rfl [.int (a1 + 1), .int 0, .int (if (σ.1 r2 5) < 9 then (σ.1 r2 5) else 9)] (mq_X3_figureFault C.2.2.1 (a1 + 1) 0 (if (σ.1 r2 5) < 9 then (σ.1 r2 5) else 9) σ _ h) gX3_readTraveller_X3_figureFault rfl rfl dq_X3_figureFault ⟨rfl, rfl, by decide, by decide⟩ rfl rfl (Nat.le_of_ble_eq_true rfl) dX3_readTraveller_14 (fun r1 σ2 h => ?_)
  refine gq_istore_n (L' := [(0, .ref (ad 1)), (1, .int a1), (2, .ref (ad r2)), (3, .int r1)]) C [1, 2, 3, 0] dX3_readTraveller_17 (by decide) rfl ?_
  refine gq_iload_n (j := 3) C dX3_readTraveller_18 rfl ?_
  refine gq_bipush (v := (-9)) C dX3_readTraveller_19 (by decide) ?_
  refine gq_icmp_ne (tgt := 35) C dX3_readTraveller_21 (by decide) (fun c3 => ?_) (fun c3 => ?_)
  · have h := h.1 c3
    exact tq_X3_readTraveller_b35 C hr2 _ _ _ h
  · have h := h.2 c3
    refine gq_aload_n (j := 0) C dX3_readTraveller_24 rfl ?_
    refine gq_iload_n (j := 1) C dX3_readTraveller_25 rfl ?_
    refine gq_iconst (v := 2) C dX3_readTraveller_26 (by decide) ?_
    refine gq_iadd C dX3_readTraveller_27 ?_
    refine gq_iconst (v := 1) C dX3_readTraveller_28 (by decide) ?_
    refine gq_bipush (v := 9) C dX3_readTraveller_29 (by decide) ?_
    refine gq_vi (i := 1) C gcs_1 rfl [.int (a1 + 2), .int 1, .int 9] (mq_X3_figureFault C.2.2.1 (a1 + 2) 1 9 σ2 _ h) gX3_readTraveller_X3_figureFault rfl rfl dq_X3_figureFault ⟨rfl, rfl, by decide, by decide⟩ rfl rfl (Nat.le_of_ble_eq_true rfl) dX3_readTraveller_31 (fun r16 σ17 h => ?_)
    refine gq_istore_n (L' := [(0, .ref (ad 1)), (1, .int a1), (2, .ref (ad r2)), (3, .int r16)]) C [1, 2, 3, 0] dX3_readTraveller_34 (by decide) rfl ?_
    exact tq_X3_readTraveller_b35 C hr2 _ _ _ h
theorem mq_X3_readTraveller {l : Launch} {D : va_G} {cyI cyZ cyS : ClassId} {ad : Nat → Nat} (hap : gq_ap 84 ad) {r2 : Nat} (hr2 : gr_r r2) (a1 : Int32) (σ : gq_M) (Q : Int32 → gq_M → Prop) (h : wq_X3_readTraveller r2 a1 σ Q) : Met l yX3_readTraveller wsX3_readTraveller rq_X3_readTraveller (va_Pc [.ref (ad 1), .int a1, .ref (ad r2)] (gq_P D (gc_T cyI cyZ cyS) 84 ad (gc_S cyI cyZ cyS ad) σ)) (va_Qi Q (gq_P D (gc_T cyI cyZ cyS) 84 ad (gc_S cyI cyZ cyS ad)) (gq_A 84 ad)) 0 0 (gq_A 84 ad) :=
  gq_met hap (by decide) rfl rfl (Nat.le_of_ble_eq_true rfl) (fun _ _ _ _ _ _ _ C => tq_X3_readTraveller C hr2 a1 σ h)
abbrev rq_X3_readPart : Room := { frames := 3, cells := 0, slots := 0, locals := 67 }
theorem dq_X3_readPart : gq_dsc yX3_readPart 2 := by unfold gq_dsc; decide +kernel
theorem iq_X3_readPart_X3 : ∀ w ∈ u_ws RX3 TX3 2, w ∈ wsX3_readPart := by decide +kernel
theorem fq_X3_readPart_9 : Cond.fieldLink RX3 9 (TX3 0).1 (TX3 0).2.1 (TX3 0).2.2.1 ∈ wsX3_readPart := by decide +kernel
theorem iq_X3_readPart_X2 : ∀ w ∈ u_ws RX2 TX2 7, w ∈ wsX3_readPart := by decide +kernel
theorem fq_X3_readPart_34 : Cond.fieldLink RX3 34 (TX2 6).1 (TX2 6).2.1 (TX2 6).2.2.1 ∈ wsX3_readPart := by decide +kernel
theorem fq_X3_readPart_28 : Cond.fieldLink RX3 28 (TX2 5).1 (TX2 5).2.1 (TX2 5).2.2.1 ∈ wsX3_readPart := by decide +kernel
def wq_X3_readPart_b27 (r2 : Nat) (Q : Int32 → gq_M → Prop) (x1 : Int32) (σ : gq_M) : Prop := vp_in x1 52 ∧ ((¬ (σ.1 2 x1.toNatClampNeg) = 84 → Q x1 σ) ∧ ((σ.1 2 x1.toNatClampNeg) = 84 → ((5 ≤ (σ.1 r2 6) → Q x1 σ) ∧ (¬ 5 ≤ (σ.1 r2 6) → wq_X3_readTraveller r2 x1 σ (fun r4 σ5 => Q r4 σ5)))))
set_option maxRecDepth 100000 in
set_option maxHeartbeats 4000000 in
theorem tq_X3_readPart_b27 {p : Program} {l : Launch} {e : Env} {s : State} {m : MethodId} {args : Array Value} {below : List Frame} {meth : Method} {c : Code} {D : va_G} {cyI cyZ cyS : ClassId} {ad : Nat → Nat} {r2 : Nat} {Q : Int32 → gq_M → Prop} (C : gq_C p s m args meth c cX3_readPart 3 RX3 wsX3_readPart D (gc_T cyI cyZ cyS) 84 ad (some .int)) (hr2 : gr_r r2) (x1 : Int32) (σ : gq_M) (h : wq_X3_readPart_b27 r2 Q x1 σ) : gq_G p l e rq_X3_readPart s m args below meth c (gq_Ri below args s D (gc_T cyI cyZ cyS) 84 ad (gc_S cyI cyZ cyS ad) Q) D 84 ad (gc_S cyI cyZ cyS ad) 3 σ 27 [(0, .ref (ad 1)), (1, .int x1), (2, .ref (ad r2))] [] := by
  unfold wq_X3_readPart_b27 at h
  refine gq_aload_n (j := 0) C dX3_readPart_27 rfl ?_
  refine gq_get (v := .ref (ad 2)) (i := 1) C gcs_1 rfl iq_X3_readPart_X3 0 (by decide) fq_X3_readPart_9 rfl dX3_readPart_28 ?_
  refine gq_iload_n (j := 1) C dX3_readPart_31 rfl ?_
  refine gq_iald (i := 2) (j := x1.toNatClampNeg) C gcs_2 0 rfl rfl h.1 dX3_readPart_32 ?_
  have h := h.2
  refine gq_bipush (v := 84) C dX3_readPart_33 (by decide) ?_
  refine gq_icmp_ne (tgt := 53) C dX3_readPart_35 (by decide) (fun c2 => ?_) (fun c2 => ?_)
  · have h := h.1 c2
    refine gq_iload_n (j := 1) C dX3_readPart_53 rfl ?_
    exact gq_iret C h dX3_readPart_54
  · have h := h.2 c2
    refine gq_aload_n (j := 2) C dX3_readPart_38 rfl ?_
    refine gq_get (v := .int (σ.1 r2 6)) (i := r2) C (gcs_X2 hr2) rfl iq_X3_readPart_X2 6 (by decide) fq_X3_readPart_34 rfl dX3_readPart_39 ?_
    refine gq_iconst (v := 5) C dX3_readPart_42 (by decide) ?_
    refine gq_icmp_ge (tgt := 53) C dX3_readPart_43 (by decide) (fun c3 => ?_) (fun c3 => ?_)
    · have h := h.1 c3
      refine gq_iload_n (j := 1) C dX3_readPart_53 rfl ?_
      exact gq_iret C h dX3_readPart_54
    · have h := h.2 c3
      refine gq_aload_n (j := 0) C dX3_readPart_46 rfl ?_
      refine gq_iload_n (j := 1) C dX3_readPart_47 rfl ?_
      refine gq_aload_n (j := 2) C dX3_readPart_48 rfl ?_
      refine gq_vi (i := 1) C gcs_1 rfl [.int x1, .ref (ad r2)] (mq_X3_readTraveller C.2.2.1 hr2 x1 σ _ h) gX3_readPart_X3_readTraveller rfl rfl dq_X3_readTraveller ⟨rfl, rfl, by decide, by decide⟩ rfl rfl (Nat.le_of_ble_eq_true rfl) dX3_readPart_49 (fun r4 σ5 h => ?_)
      exact gq_iret C h dX3_readPart_52
def wq_X3_readPart (r2 : Nat) (a1 : Int32) (σ : gq_M) (Q : Int32 → gq_M → Prop) : Prop := vp_in a1 52 ∧ ((¬ (σ.1 2 a1.toNatClampNeg) = 70 → wq_X3_readPart_b27 r2 Q a1 σ) ∧ ((σ.1 2 a1.toNatClampNeg) = 70 → ((10 ≤ (σ.1 r2 5) → wq_X3_readPart_b27 r2 Q a1 σ) ∧ (¬ 10 ≤ (σ.1 r2 5) → wq_X3_readPleat r2 a1 σ (fun r7 σ8 => Q r7 σ8)))))
set_option maxRecDepth 100000 in
set_option maxHeartbeats 4000000 in
theorem tq_X3_readPart {p : Program} {l : Launch} {e : Env} {s : State} {m : MethodId} {args : Array Value} {below : List Frame} {meth : Method} {c : Code} {D : va_G} {cyI cyZ cyS : ClassId} {ad : Nat → Nat} {r2 : Nat} {Q : Int32 → gq_M → Prop} (C : gq_C p s m args meth c cX3_readPart 3 RX3 wsX3_readPart D (gc_T cyI cyZ cyS) 84 ad (some .int)) (hr2 : gr_r r2) (a1 : Int32) (σ : gq_M) (h : wq_X3_readPart r2 a1 σ Q) : gq_G p l e rq_X3_readPart s m args below meth c (gq_Ri below args s D (gc_T cyI cyZ cyS) 84 ad (gc_S cyI cyZ cyS ad) Q) D 84 ad (gc_S cyI cyZ cyS ad) 3 σ 0 [(0, .ref (ad 1)), (1, .int a1), (2, .ref (ad r2))] [] := by
  unfold wq_X3_readPart at h
  refine gq_aload_n (j := 0) C dX3_readPart_0 rfl ?_
  refine gq_get (v := .ref (ad 2)) (i := 1) C gcs_1 rfl iq_X3_readPart_X3 0 (by decide) fq_X3_readPart_9 rfl dX3_readPart_1 ?_
  refine gq_iload_n (j := 1) C dX3_readPart_4 rfl ?_
  refine gq_iald (i := 2) (j := a1.toNatClampNeg) C gcs_2 0 rfl rfl h.1 dX3_readPart_5 ?_
  have h := h.2
  refine gq_bipush (v := 70) C dX3_readPart_6 (by decide) ?_
  refine gq_icmp_ne (tgt := 27) C dX3_readPart_8 (by decide) (fun c1 => ?_) (fun c1 => ?_)
  · have h := h.1 c1
    exact tq_X3_readPart_b27 C hr2 _ _ h
  · have h := h.2 c1
    refine gq_aload_n (j := 2) C dX3_readPart_11 rfl ?_
    refine gq_get (v := .int (σ.1 r2 5)) (i := r2) C (gcs_X2 hr2) rfl iq_X3_readPart_X2 5 (by decide) fq_X3_readPart_28 rfl dX3_readPart_12 ?_
    refine gq_bipush (v := 10) C dX3_readPart_15 (by decide) ?_
    refine gq_icmp_ge (tgt := 27) C dX3_readPart_17 (by decide) (fun c6 => ?_) (fun c6 => ?_)
    · have h := h.1 c6
      exact tq_X3_readPart_b27 C hr2 _ _ h
    · have h := h.2 c6
      refine gq_aload_n (j := 0) C dX3_readPart_20 rfl ?_
      refine gq_iload_n (j := 1) C dX3_readPart_21 rfl ?_
      refine gq_aload_n (j := 2) C dX3_readPart_22 rfl ?_
      refine gq_vi (i := 1) C gcs_1 rfl [.int a1, .ref (ad r2)] (mq_X3_readPleat C.2.2.1 hr2 a1 σ _ h) gX3_readPart_X3_readPleat rfl rfl dq_X3_readPleat ⟨rfl, rfl, by decide, by decide⟩ rfl rfl (Nat.le_of_ble_eq_true rfl) dX3_readPart_23 (fun r7 σ8 h => ?_)
      exact gq_iret C h dX3_readPart_26
theorem mq_X3_readPart {l : Launch} {D : va_G} {cyI cyZ cyS : ClassId} {ad : Nat → Nat} (hap : gq_ap 84 ad) {r2 : Nat} (hr2 : gr_r r2) (a1 : Int32) (σ : gq_M) (Q : Int32 → gq_M → Prop) (h : wq_X3_readPart r2 a1 σ Q) : Met l yX3_readPart wsX3_readPart rq_X3_readPart (va_Pc [.ref (ad 1), .int a1, .ref (ad r2)] (gq_P D (gc_T cyI cyZ cyS) 84 ad (gc_S cyI cyZ cyS ad) σ)) (va_Qi Q (gq_P D (gc_T cyI cyZ cyS) 84 ad (gc_S cyI cyZ cyS ad)) (gq_A 84 ad)) 0 0 (gq_A 84 ad) :=
  gq_met hap (by decide) rfl rfl (Nat.le_of_ble_eq_true rfl) (fun _ _ _ _ _ _ _ C => tq_X3_readPart C hr2 a1 σ h)
