/-! ===== maths 11: sums over travellers; count; doings told and drawn ===== -/
def px_sum (f : Nat → Nat) : Nat → Nat
  | 0 => 0
  | n + 1 => px_sum f n + f n
def px_orr (f : Nat → Nat) : Nat → Nat
  | 0 => 0
  | n + 1 => px_orr f n ||| 2 ^ f n
theorem px_sum_s (f : Nat → Nat) (n : Nat) : px_sum f (n + 1) = px_sum f n + f n := rfl
theorem px_orr_s (f : Nat → Nat) (n : Nat) : px_orr f (n + 1) = px_orr f n ||| 2 ^ f n := rfl
theorem sp4_placesTogether {R S : Nat → Nat → Nat} {z : Nat} {c : Int32} {σ : gq_M} {Q : Int32 → gq_M → Prop} (hR : rOK R) (hc : cRd σ R) (hS : cSt σ z R S c) (h : Q (nI (px_sum (S 0) (R 1 0))) σ) : wq_X4_placesTogether z σ Q := by
  have hT := hR.2.1
  have key : ∀ m k, k + m = R 1 0 → wq_X4_placesTogether_l4 z Q (fun e4 σ5 => Q e4 σ5) (m + 1) (nI (px_sum (S 0) k)) (nI k) σ := by
    intro m
    induction m with
    | zero =>
      intro k hk
      obtain rfl : k = R 1 0 := by omega
      unfold wq_X4_placesTogether_l4
      rw [hc.2.1]
      exact ⟨fun _ => h, fun q => absurd (Int32.le_refl _) q⟩
    | succ m ih =>
      intro k hk
      unfold wq_X4_placesTogether_l4
      rw [hc.2.1, nI_leI (by omega) (by omega), nI_clamp (by omega), (hS.1 k (by omega)).1]
      refine ⟨fun q => by omega, fun _ => ⟨vp_in_nI (by omega) (by omega), fun v2 e2 v3 e3 => ?_⟩⟩
      rw [e2, e3, nI_add, nI_1, ← px_sum_s]
      exact ih (k + 1) (by omega)
  exact ⟨R 1 0 + 1, key (R 1 0) 0 (by omega)⟩
theorem sp4_windTogether {R S : Nat → Nat → Nat} {z : Nat} {c : Int32} {σ : gq_M} {Q : Int32 → gq_M → Prop} (hR : rOK R) (hc : cRd σ R) (hS : cSt σ z R S c) (h : Q (nI (px_sum (S 1) (R 1 0))) σ) : wq_X4_windTogether z σ Q := by
  have hT := hR.2.1
  have key : ∀ m k, k + m = R 1 0 → wq_X4_windTogether_l4 z Q (fun e4 σ5 => Q e4 σ5) (m + 1) (nI (px_sum (S 1) k)) (nI k) σ := by
    intro m
    induction m with
    | zero =>
      intro k hk
      obtain rfl : k = R 1 0 := by omega
      unfold wq_X4_windTogether_l4
      rw [hc.2.1]
      exact ⟨fun _ => h, fun q => absurd (Int32.le_refl _) q⟩
    | succ m ih =>
      intro k hk
      unfold wq_X4_windTogether_l4
      rw [hc.2.1, nI_leI (by omega) (by omega), nI_clamp (by omega), (hS.1 k (by omega)).2]
      refine ⟨fun q => by omega, fun _ => ⟨vp_in_nI (by omega) (by omega), fun v2 e2 v3 e3 => ?_⟩⟩
      rw [e2, e3, nI_add, nI_1, ← px_sum_s]
      exact ih (k + 1) (by omega)
  exact ⟨R 1 0 + 1, key (R 1 0) 0 (by omega)⟩
theorem sp4_placesTaken {R S : Nat → Nat → Nat} {z : Nat} {c : Int32} {σ : gq_M} {Q : Int32 → gq_M → Prop} (hR : rOK R) (hO : sOK R S) (hc : cRd σ R) (hS : cSt σ z R S c) (h : Q (nI (px_orr (S 0) (R 1 0))) σ) : wq_X4_placesTaken z σ Q := by
  have hT := hR.2.1
  have hP := hR.1
  have key : ∀ m k, k + m = R 1 0 → wq_X4_placesTaken_l4 z Q (fun e4 σ5 => Q e4 σ5) (m + 1) (nI (px_orr (S 0) k)) (nI k) σ := by
    intro m
    induction m with
    | zero =>
      intro k hk
      obtain rfl : k = R 1 0 := by omega
      unfold wq_X4_placesTaken_l4
      rw [hc.2.1]
      exact ⟨fun _ => h, fun q => absurd (Int32.le_refl _) q⟩
    | succ m ih =>
      intro k hk
      have hp := (hO.1 k (by omega)).1
      unfold wq_X4_placesTaken_l4
      rw [hc.2.1, nI_leI (by omega) (by omega), nI_clamp (by omega), (hS.1 k (by omega)).1, mx_shl (by omega), mx_or]
      refine ⟨fun q => by omega, fun _ => ⟨vp_in_nI (by omega) (by omega), fun v2 e2 v3 e3 => ?_⟩⟩
      rw [e2, e3, nI_1, ← px_orr_s]
      exact ih (k + 1) (by omega)
  exact ⟨R 1 0 + 1, key (R 1 0) 0 (by omega)⟩
theorem sp7_placesOf {R S : Nat → Nat → Nat} {c : Int32} {σ : gq_M} {Q : Int32 → gq_M → Prop} (hR : rOK R) (hO : sOK R S) (hc : mRd σ R) (hS : mSt σ 5 0 R S c) (h : Q (nI (px_orr (S 0) (R 1 0))) σ) : wq_X7_placesOf σ Q := by
  have hT := hR.2.1
  have hP := hR.1
  have key : ∀ m k, k + m = R 1 0 → wq_X7_placesOf_l4 Q (fun e4 σ5 => Q e4 σ5) (m + 1) (nI (px_orr (S 0) k)) (nI k) σ := by
    intro m
    induction m with
    | zero =>
      intro k hk
      obtain rfl : k = R 1 0 := by omega
      unfold wq_X7_placesOf_l4
      rw [hc.2.1]
      exact ⟨fun _ => h, fun q => absurd (Int32.le_refl _) q⟩
    | succ m ih =>
      intro k hk
      have hp := (hO.1 k (by omega)).1
      have e1 := (hS.1 k (by omega)).1
      rw [Nat.zero_add] at e1
      unfold wq_X7_placesOf_l4
      rw [hc.2.1, nI_leI (by omega) (by omega), nI_clamp (by omega), e1, mx_shl (by omega), mx_or]
      refine ⟨fun q => by omega, fun _ => ⟨vp_in_nI (by omega) (by omega), fun v2 e2 v3 e3 => ?_⟩⟩
      rw [e2, e3, nI_1, ← px_orr_s]
      exact ih (k + 1) (by omega)
  exact ⟨R 1 0 + 1, key (R 1 0) 0 (by omega)⟩
theorem sp7_windOfAll {R S : Nat → Nat → Nat} {c : Int32} {σ : gq_M} {Q : Int32 → gq_M → Prop} (hR : rOK R) (hc : mRd σ R) (hS : mSt σ 5 0 R S c) (h : Q (nI (px_sum (S 1) (R 1 0))) σ) : wq_X7_windOfAll σ Q := by
  have hT := hR.2.1
  have key : ∀ m k, k + m = R 1 0 → wq_X7_windOfAll_l4 Q (fun e4 σ5 => Q e4 σ5) (m + 1) (nI (px_sum (S 1) k)) (nI k) σ := by
    intro m
    induction m with
    | zero =>
      intro k hk
      obtain rfl : k = R 1 0 := by omega
      unfold wq_X7_windOfAll_l4
      rw [hc.2.1]
      exact ⟨fun _ => h, fun q => absurd (Int32.le_refl _) q⟩
    | succ m ih =>
      intro k hk
      have e1 := (hS.1 k (by omega)).2
      rw [Nat.zero_add] at e1
      unfold wq_X7_windOfAll_l4
      rw [hc.2.1, nI_leI (by omega) (by omega), mx_5, nI_add, nI_clamp (by omega), e1]
      refine ⟨fun q => by omega, fun _ => ⟨vp_in_nI (by omega) (by omega), fun v2 e2 v3 e3 => ?_⟩⟩
      rw [e2, e3, nI_add, nI_1, ← px_sum_s]
      exact ih (k + 1) (by omega)
  exact ⟨R 1 0 + 1, key (R 1 0) 0 (by omega)⟩
theorem sim_count {σ μ : gq_M} (h : Rel σ μ) : gl_S_count Rel σ μ := by
  obtain ⟨⟨R, hR, hc, hm, ⟨S, c, hS, hcS, hmS⟩, ⟨e, n, he, hn, r1, r2, r3, r4, ha⟩, hk⟩, ⟨tn, _, t1, t2, _⟩, ⟨hn2, _, h1, h2, _⟩, h2s, hi⟩ := id h
  have ho := hS.2.2.1
  have hP := hR.1
  have m10 : μ.1 5 10 = nI (S 2 0) := hmS.2.1
  have m11 : μ.1 5 11 = nI (S 2 1) := hmS.2.2.1
  have m12 : μ.1 5 12 = nI (S 2 2) := hmS.2.2.2.1
  have m13 : μ.1 5 13 = c := hmS.2.2.2.2
  intro a
  unfold wq_X6_count
  rw [t1, hc.1, hc.2.1, hcS.2.2.2.2, hcS.2.2.2.1, hcS.2.1, hcS.2.2.1, r3, h1]
  have key : ∀ (r : Int32), (a = 0 → r = nI tn) → (a = 1 → r = nI (R 0 0)) → (a = 2 → r = nI (R 1 0)) → (a = 3 → r = c) → (a = 4 → r = nI (S 2 2)) → (a = 5 → r = nI (S 2 0)) → (a = 6 → r = nI (px_ob (S 2 1))) → (a = 7 → r = nI (px_orr (S 0) (R 1 0))) → (a = 8 → r = nI (px_sum (S 1) (R 1 0))) → (a = 9 → r = nI n) → (a = 10 → r = nI hn2) → (¬ a = 0 → ¬ a = 1 → ¬ a = 2 → ¬ a = 3 → ¬ a = 4 → ¬ a = 5 → ¬ a = 6 → ¬ a = 7 → ¬ a = 8 → ¬ a = 9 → ¬ a = 10 → r = -2) → wq_X7_count a μ (fun r2 ν => r = r2 ∧ Rel σ ν) := by
    intro r k0 k1 k2 k3 k4 k5 k6 k7 k8 k9 k10 k11
    unfold wq_X7_count
    rw [t2, hm.1, hm.2.1, m13, m12, m10, m11, r4, h2]
    refine ⟨fun q => ⟨k0 q, h⟩, fun q0 => ⟨fun q => ⟨k1 q, h⟩, fun q1 => ⟨fun q => ⟨k2 q, h⟩, fun q2 => ⟨fun q => ⟨k3 q, h⟩, fun q3 => ⟨fun q => ⟨k4 q, h⟩, fun q4 => ⟨fun q => ⟨k5 q, h⟩, fun q5 => ⟨fun q => ?_, fun q6 => ⟨fun q => sp7_placesOf hR hS hm hmS ⟨k7 q, h⟩, fun q7 => ⟨fun q => sp7_windOfAll hR hm hmS ⟨k8 q, h⟩, fun q8 => ⟨fun q => ⟨k9 q, h⟩, fun q9 => ⟨fun q => ⟨k10 q, h⟩, fun q10 => ⟨k11 q0 q1 q2 q3 q4 q5 q6 q7 q8 q9 q10, h⟩⟩⟩⟩⟩⟩⟩⟩⟩⟩⟩⟩
    rw [k6 q, mx_0, nI_eq (by omega) (by omega)]
    unfold px_ob
    refine ⟨fun z => ⟨?_, h⟩, fun z => ⟨?_, h⟩⟩
    · rw [if_neg z, mx_1, pk_sub (by omega), ← mx_1, mx_shl (by omega)]
    · rw [if_pos z]
  refine ⟨fun q => ?_, fun q0 => ⟨fun q => ?_, fun q1 => ⟨fun q => ?_, fun q2 => ⟨fun q => ?_, fun q3 => ⟨fun q => ?_, fun q4 => ⟨fun q => ?_, fun q5 => ⟨fun q => ?_, fun q6 => ⟨fun q => sp4_placesTaken hR hS hc hcS ?_, fun q7 => ⟨fun q => sp4_windTogether hR hc hcS ?_, fun q8 => ⟨fun q => ?_, fun q9 => ⟨fun q => ?_, fun q10 => ?_⟩⟩⟩⟩⟩⟩⟩⟩⟩⟩⟩
  all_goals (first | (subst q; refine key _ ?_ ?_ ?_ ?_ ?_ ?_ ?_ ?_ ?_ ?_ ?_ ?_ <;> first | exact fun _ => rfl | exact fun z => absurd z (by decide) | (intros; simp_all)) | exact key _ (fun z => absurd z q0) (fun z => absurd z q1) (fun z => absurd z q2) (fun z => absurd z q3) (fun z => absurd z q4) (fun z => absurd z q5) (fun z => absurd z q6) (fun z => absurd z q7) (fun z => absurd z q8) (fun z => absurd z q9) (fun z => absurd z q10) (fun _ _ _ _ _ _ _ _ _ _ _ => rfl))
theorem px_can_t {R S : Nat → Nat → Nat} {t : Nat} {on : Bool} (h : px_can R S t on = true) : ∃ k, px_pl (R 0 0) (S 0 t) on = some k ∧ px_pay (R 5 t) (px_cost R k (S 2 1) (S 2 0) (S 2 2) 0) ≤ S 1 t := by
  unfold px_can at h
  cases hk : px_pl (R 0 0) (S 0 t) on with
  | none => rw [hk] at h; cases h
  | some k => rw [hk] at h; exact ⟨k, rfl, of_decide_eq_true h⟩
theorem sp4_stepIf_yes {R S : Nat → Nat → Nat} {z t k : Nat} {d c : Int32} {σ : gq_M} {Q : Int32 → gq_M → Prop} (hz : 30 ≤ z) (hR : rOK R) (hM : cRd σ R) (hS : sOK R S) (hm : cSt σ z R S c) (ht : t < R 1 0) (hcan : px_can R S t (px_on d) = true) (hk : px_pl (R 0 0) (S 0 t) (px_on d) = some k) (hc : px_pay (R 5 t) (px_cost R k (S 2 1) (S 2 0) (S 2 2) 0) ≤ S 1 t) (h : ∀ τ, cSt τ z R (px_step R S t (px_on d) k) (c + 1) → fS σ τ z → Q 1 τ) : wq_X4_stepIfItCan z (nI t) d σ Q := by
  have hT := hR.2.1
  unfold wq_X4_stepIfItCan
  refine sp4_canStep hR hM hS hm (fun u hu e => ?_) (fun v => absurd (vp_in_nI ht (by omega)) v)
  rw [nI_eq (by omega) (by omega)] at e
  subst e
  rw [hcan]
  exact ⟨fun q => absurd q (by decide), fun _ => sp4_doStep hz hR hM hS hm ht hk hc (fun τ a b => ⟨Or.inr rfl, h τ a b⟩)⟩
theorem sp4_stepIf_no {R S : Nat → Nat → Nat} {z t : Nat} {d c : Int32} {σ : gq_M} {Q : Int32 → gq_M → Prop} (hR : rOK R) (hM : cRd σ R) (hS : sOK R S) (hm : cSt σ z R S c) (ht : t < 100) (hcan : t < R 1 0 → px_can R S t (px_on d) = false) (h : Q 0 σ) : wq_X4_stepIfItCan z (nI t) d σ Q := by
  have hT := hR.2.1
  unfold wq_X4_stepIfItCan
  refine sp4_canStep hR hM hS hm (fun u hu e => ?_) (fun v => ⟨fun _ => ⟨Or.inl rfl, h⟩, fun q => absurd rfl q⟩)
  rw [nI_eq (by omega) (by omega)] at e
  subst e
  rw [hcan hu]
  exact ⟨fun _ => ⟨Or.inl rfl, h⟩, fun q => absurd rfl q⟩
theorem mx_nin {t T : Nat} (ht : t < 100) (hT : T < 100) (h : ¬ t < T) : ¬ vp_in (nI t) T := fun v => by
  obtain ⟨j, hj, e⟩ := (mx_in (by omega)).mp v
  rw [nI_eq (by omega) (by omega)] at e
  omega
/-- a doing, on both sides: what it answers, how all stand behind it -/
def bothDo (R S : Nat → Nat → Nat) (c : Int32) (w4 : gq_M → (Int32 → gq_M → Prop) → Prop) (w7 : gq_M → (Int32 → gq_M → Prop) → Prop) : Prop :=
  ∃ (r : Int32) (S2 : Nat → Nat → Nat) (c2 : Int32), gq_b r ∧ sOK R S2 ∧ (∀ (σ : gq_M) (Q : Int32 → gq_M → Prop), cRd σ R → cSt σ 33 R S c → (∀ τ, cSt τ 33 R S2 c2 → fS σ τ 33 → Q r τ) → w4 σ Q) ∧ (∀ (μ : gq_M) (Q : Int32 → gq_M → Prop), mRd μ R → mSt μ 5 14 R S c → μ.1 0 15 = nI 0 → (∀ ν, mSt ν 5 14 R S2 c2 → fM μ ν 14 → Q r ν) → w7 μ Q)
theorem both_step {R S : Nat → Nat → Nat} {c : Int32} {t b : Nat} (hR : rOK R) (hS : sOK R S) (ht : t < 100) (hb : b < 2) : bothDo R S c (fun σ Q => wq_X4_stepIfItCan 33 (nI t) (nI b) σ Q) (fun μ Q => wq_X7_tryThing 1 (nI t) (nI b) μ Q) := by
  have hT := hR.2.1
  have hP := hR.1
  have m7 : ∀ (μ : gq_M) (Q : Int32 → gq_M → Prop), wq_X7_tryThing_b54 Q (nI t) (nI b) 1 (nI t) (nI b) μ → wq_X7_tryThing 1 (nI t) (nI b) μ Q := by
    intro μ Q h
    unfold wq_X7_tryThing
    refine ⟨fun _ => ⟨fun q => ?_, fun _ => ⟨fun q => ?_, fun q => ?_⟩⟩, fun q => absurd rfl q⟩
    · rw [mx_2, nI_leI (by omega) (by omega)] at q; omega
    · rw [mx_1, nI_eq (by omega) (by omega)] at q
      obtain rfl : b = 0 := by omega
      exact h
    · rw [mx_1, nI_eq (by omega) (by omega)] at q
      subst q
      exact h
  by_cases hcan : t < R 1 0 ∧ px_can R S t (px_on (nI b)) = true
  · obtain ⟨ht', hc1⟩ := hcan
    obtain ⟨k, hk, hpay⟩ := px_can_t hc1
    refine ⟨1, _, _, Or.inr rfl, sOK_step hS ht' hk, fun σ Q h1 h2 h3 => sp4_stepIf_yes (by omega) hR h1 hS h2 ht' hc1 hk hpay h3, fun μ Q h1 h2 h3 h4 => m7 μ Q ?_⟩
    unfold wq_X7_tryThing_b54
    refine sp7_canStep (lv := 1) hR h1 (by omega) hS h2 h3 (fun u hu e => ?_) (fun v => absurd (vp_in_nI ht' (by omega)) v)
    rw [nI_eq (by omega) (by omega)] at e
    subst e
    rw [hc1]
    refine ⟨fun q => absurd q (by decide), fun _ => ?_⟩
    unfold wq_X7_tryThing_b65 wq_X7_tryThing_b85
    have fin : wq_X7_stepOn 1 (nI t) (nI b) μ (fun σ6 => (gq_b 1 ∧ Q 1 σ6)) := sp7_stepOn (lv := 1) hR h1 (by omega) hS h2 h3 ht' hk hpay (fun ν a b => ⟨Or.inr rfl, h4 ν a b⟩)
    refine ⟨fun q => absurd q (by decide), fun _ => ⟨fun q => ?_, fun q => ?_⟩⟩
    · rw [mx_1, nI_eq (by omega) (by omega)] at q
      obtain rfl : b = 0 := by omega
      exact fin
    · rw [mx_1, nI_eq (by omega) (by omega)] at q
      subst q
      exact fin
  · have hno : t < R 1 0 → px_can R S t (px_on (nI b)) = false := fun g => by
      cases hx : px_can R S t (px_on (nI b))
      · rfl
      · exact absurd ⟨g, hx⟩ hcan
    refine ⟨0, S, c, Or.inl rfl, hS, fun σ Q h1 h2 h3 => sp4_stepIf_no hR h1 hS h2 ht hno (h3 σ h2 fS.rf), fun μ Q h1 h2 h3 h4 => m7 μ Q ?_⟩
    unfold wq_X7_tryThing_b54
    have fin : wq_X7_tryThing_b65 Q (nI t) (nI b) 0 μ := ⟨fun _ => ⟨Or.inl rfl, h4 μ h2 fM.rf⟩, fun q => absurd rfl q⟩
    refine sp7_canStep (lv := 1) hR h1 (by omega) hS h2 h3 (fun u hu e => ?_) (fun v => ⟨fun _ => fin, fun q => absurd rfl q⟩)
    rw [nI_eq (by omega) (by omega)] at e
    subst e
    rw [hno hu]
    exact ⟨fun _ => fin, fun q => absurd rfl q⟩
theorem both_rest {R S : Nat → Nat → Nat} {c : Int32} {t : Nat} (hR : rOK R) (hS : sOK R S) (ht : t < 100) : bothDo R S c (fun σ Q => wq_X4_restIfItCan 33 (nI t) σ Q) (fun μ Q => wq_X7_tryThing 2 0 (nI t) μ Q) := by
  have hT := hR.2.1
  have m7 : ∀ (μ : gq_M) (Q : Int32 → gq_M → Prop), wq_X7_isTraveller (nI t) μ (fun r16 σ17 => ((r16 = 0 → wq_X7_tryThing_b108 Q (nI t) 0 σ17) ∧ (¬ r16 = 0 → wq_X7_tryThing_b108 Q (nI t) 1 σ17))) → wq_X7_tryThing 2 0 (nI t) μ Q := by
    intro μ Q h
    unfold wq_X7_tryThing
    exact ⟨fun q => absurd q (by decide), fun _ => ⟨fun _ => ⟨fun q => absurd rfl q, fun _ => h⟩, fun q => absurd rfl q⟩⟩
  by_cases ht' : t < R 1 0
  · refine ⟨1, px_rest R S t, c + 1, Or.inr rfl, sOK_rest hS, fun σ Q h1 h2 h3 => ?_, fun μ Q h1 h2 h3 h4 => m7 μ Q ?_⟩
    · unfold wq_X4_restIfItCan
      exact sp2_hasTraveller h1.2.1 (by omega) (fun _ => ⟨fun q => absurd q (by decide), fun _ => sp4_doRest (by omega) hR h1 hS h2 ht' (fun τ a b => ⟨Or.inr rfl, h3 τ a b⟩)⟩) (fun v => absurd (vp_in_nI ht' (by omega)) v)
    · refine sp7_isTraveller h1.2.1 (by omega) (fun _ => ⟨fun q => absurd q (by decide), fun _ => ⟨fun q => absurd q (by decide), fun _ => ?_⟩⟩) (fun v => absurd (vp_in_nI ht' (by omega)) v)
      exact sp7_restOn (lv := 1) hR h1 (by omega) hS h2 ht' (fun ν a b => ⟨Or.inr rfl, h4 ν a b⟩)
  · have hv := mx_nin ht (by omega) ht'
    refine ⟨0, S, c, Or.inl rfl, hS, fun σ Q h1 h2 h3 => ?_, fun μ Q h1 h2 h3 h4 => m7 μ Q ?_⟩
    · unfold wq_X4_restIfItCan
      exact sp2_hasTraveller h1.2.1 (by omega) (fun v => absurd v hv) (fun _ => ⟨fun _ => ⟨Or.inl rfl, h3 σ h2 fS.rf⟩, fun q => absurd rfl q⟩)
    · exact sp7_isTraveller h1.2.1 (by omega) (fun v => absurd v hv) (fun _ => ⟨fun _ => ⟨fun _ => ⟨Or.inl rfl, h4 μ h2 fM.rf⟩, fun q => absurd rfl q⟩, fun q => absurd rfl q⟩)
theorem both_grease {R S : Nat → Nat → Nat} {c : Int32} {i : Nat} (hR : rOK R) (hS : sOK R S) (hi : i < 100) : bothDo R S c (fun σ Q => wq_X4_greaseIfItCan 33 (nI i) σ Q) (fun μ Q => wq_X7_tryThing 3 0 (nI i) μ Q) := by
  have hP := hR.1
  have hg := hS.2.1
  have m7 : ∀ (μ : gq_M) (Q : Int32 → gq_M → Prop), wq_X7_isPleat (nI i) μ (fun r22 σ23 => ((r22 = 0 → wq_X7_tryThing_b155 Q (nI i) 0 σ23) ∧ (¬ r22 = 0 → wq_X7_has (σ23.1 5 24) (nI i) σ23 (fun r25 σ26 => ((¬ r25 = 0 → wq_X7_tryThing_b155 Q (nI i) 0 σ26) ∧ (r25 = 0 → wq_X7_tryThing_b155 Q (nI i) 1 σ26)))))) → wq_X7_tryThing 3 0 (nI i) μ Q := by
    intro μ Q h
    unfold wq_X7_tryThing
    exact ⟨fun q => absurd q (by decide), fun _ => ⟨fun q => absurd q (by decide), fun _ => ⟨fun _ => ⟨fun q => absurd rfl q, fun _ => h⟩, fun q => absurd rfl q⟩⟩⟩
  have no7 : ∀ (μ : gq_M) (Q : Int32 → gq_M → Prop), mSt μ 5 14 R S c → Q 0 (gq_put μ 5 24 (nI (S 2 0))) → wq_X7_tryThing_b155 Q (nI i) 0 μ := by
    intro μ Q h2 h
    have e : μ.1 5 24 = nI (S 2 0) := h2.2.1
    unfold wq_X7_tryThing_b155 wq_X7_tryThing_b177
    refine ⟨fun _ => ⟨vp_in_iff.mpr ⟨by decide, by decide⟩, Or.inl rfl, ?_⟩, fun q => absurd rfl q⟩
    rw [e, mx_0, mx_or, Nat.or_zero]
    exact h
  have put0 : ∀ (μ : gq_M), mSt μ 5 14 R S c → mSt (gq_put μ 5 24 (nI (S 2 0))) 5 14 R S c := by
    intro μ h2
    have e : μ.1 5 24 = nI (S 2 0) := h2.2.1
    refine mSt_cpy hR (fun k hk => ?_) h2
    rw [mx_r5]
    by_cases ek : 14 + k = 24
    · rw [if_pos ek, ek, e]
    · rw [if_neg ek]
  by_cases hp : i < R 0 0
  · have hin : vp_in (nI i) (R 0 0) := vp_in_nI hp (by omega)
    cases hb : (S 2 0).testBit i
    · have hg2 := px_or_lt hg (show i < 10 by omega)
      refine ⟨1, _, c, Or.inr rfl, sOK_g hS hg2, fun σ Q h1 h2 h3 => ?_, fun μ Q h1 h2 h3 h4 => m7 μ Q ?_⟩
      · unfold wq_X4_greaseIfItCan wq_X4_canGrease
        refine sp2_hasPleat h1.1 (by omega) (fun _ => ⟨fun q => absurd q (by decide), fun _ => ?_⟩) (fun v => absurd hin v)
        rw [h2.2.1, mx_bit0 (by omega) (by omega)]
        refine ⟨fun q => absurd hb q, fun _ => ⟨fun q => absurd q (by decide), fun _ => ?_⟩⟩
        unfold wq_X4_doGrease
        rw [h2.2.1, mx_shl (by omega), mx_or]
        exact ⟨Or.inr rfl, h3 _ (cSt_set h2).1 (fS.rf.put (Or.inl rfl))⟩
      · refine sp7_isPleat h1.1 (by omega) (fun _ => ⟨fun q => absurd q (by decide), fun _ => ?_⟩) (fun v => absurd hin v)
        have e : μ.1 5 24 = nI (S 2 0) := h2.2.1
        rw [e]
        refine sp7_has (by omega) (by omega) (fun q => by rw [hb] at q; cases q) (fun _ => ⟨fun q => absurd rfl q, fun _ => ?_⟩)
        unfold wq_X7_tryThing_b155 wq_X7_tryThing_b177
        refine ⟨fun q => absurd q (by decide), fun _ => ⟨vp_in_iff.mpr ⟨by decide, by decide⟩, Or.inr rfl, ?_⟩⟩
        rw [e, mx_shl (by omega), mx_or]
        exact h4 _ (mSt_set hR h2).1 (fM.rf.put (by decide) (by decide))
    · refine ⟨0, S, c, Or.inl rfl, hS, fun σ Q h1 h2 h3 => ?_, fun μ Q h1 h2 h3 h4 => m7 μ Q ?_⟩
      · unfold wq_X4_greaseIfItCan wq_X4_canGrease
        refine sp2_hasPleat h1.1 (by omega) (fun _ => ⟨fun q => absurd q (by decide), fun _ => ?_⟩) (fun v => absurd hin v)
        rw [h2.2.1, mx_bit0 (by omega) (by omega), hb]
        exact ⟨fun _ => ⟨fun _ => ⟨Or.inl rfl, h3 σ h2 fS.rf⟩, fun q => absurd rfl q⟩, fun q => absurd q (by decide)⟩
      · refine sp7_isPleat h1.1 (by omega) (fun _ => ⟨fun q => absurd q (by decide), fun _ => ?_⟩) (fun v => absurd hin v)
        have e : μ.1 5 24 = nI (S 2 0) := h2.2.1
        rw [e]
        refine sp7_has (by omega) (by omega) (fun _ => ⟨fun _ => ?_, fun q => absurd q (by decide)⟩) (fun q => by rw [hb] at q; cases q)
        exact no7 μ Q h2 (h4 _ (put0 μ h2) (fM.rf.put (by decide) (by decide)))
  · have hv := mx_nin hi (by omega) hp
    refine ⟨0, S, c, Or.inl rfl, hS, fun σ Q h1 h2 h3 => ?_, fun μ Q h1 h2 h3 h4 => m7 μ Q ?_⟩
    · unfold wq_X4_greaseIfItCan wq_X4_canGrease
      exact sp2_hasPleat h1.1 (by omega) (fun v => absurd v hv) (fun _ => ⟨fun _ => ⟨fun _ => ⟨Or.inl rfl, h3 σ h2 fS.rf⟩, fun q => absurd rfl q⟩, fun q => absurd rfl q⟩)
    · exact sp7_isPleat h1.1 (by omega) (fun v => absurd v hv) (fun _ => ⟨fun _ => no7 μ Q h2 (h4 _ (put0 μ h2) (fM.rf.put (by decide) (by decide))), fun q => absurd rfl q⟩)
