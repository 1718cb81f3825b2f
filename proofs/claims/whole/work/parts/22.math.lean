/-! ===== maths 3: steps and rests of a standing, on both sides ===== -/
/-- the pleat that a step goes over -/
def px_pl (P p : Nat) (on : Bool) : Option Nat := if on then (if p < P then some p else none) else (if 0 < p then some (p - 1) else none)
theorem px_pl_lt {P p k : Nat} {on : Bool} (hp : p ≤ P) (h : px_pl P p on = some k) : k < P := by
  unfold px_pl at h
  split at h
  · split at h
    · cases h; assumption
    · cases h
  · split at h
    · cases h; omega
    · cases h
def px_on (a : Int32) : Bool := decide (¬ a = 0)
/-- whether a step can be -/
def px_can (R S : Nat → Nat → Nat) (t : Nat) (on : Bool) : Bool := match px_pl (R 0 0) (S 0 t) on with
  | none => false
  | some k => decide (px_pay (R 5 t) (px_cost R k (S 2 1) (S 2 0) (S 2 2) 0) ≤ S 1 t)
def px_set (S : Nat → Nat → Nat) (a j v : Nat) : Nat → Nat → Nat := fun c k => if c = a ∧ k = j then v else S c k
/-- how all stand behind a step over pleat k -/
def px_step (R S : Nat → Nat → Nat) (t : Nat) (on : Bool) (k : Nat) : Nat → Nat → Nat :=
  px_set (px_set (px_set S 1 t (if R 3 k = 3 then R 4 t else S 1 t - px_pay (R 5 t) (px_cost R k (S 2 1) (S 2 0) (S 2 2) 0))) 0 t (if on then S 0 t + 1 else S 0 t - 1)) 2 1 (if R 5 t = 3 then k + 1 else 0)
def px_restW (b w : Nat) : Nat := min b (w + max (b / 2) 1)
def px_rest (R S : Nat → Nat → Nat) (t : Nat) : Nat → Nat → Nat := px_set (px_set S 1 t (px_restW (R 4 t) (S 1 t))) 2 1 0
theorem sOK_step {R S : Nat → Nat → Nat} {t k : Nat} {on : Bool} (h : sOK R S) (ht : t < R 1 0) (hk : px_pl (R 0 0) (S 0 t) on = some k) : sOK R (px_step R S t on k) := by
  have hk2 := px_pl_lt (h.1 t ht).1 hk
  have h0 := h.1 t ht
  refine ⟨fun u hu => ?_, ?_, ?_, ?_⟩
  · have hu2 := h.1 u hu
    unfold px_step px_set px_pl at *
    by_cases e : u = t
    · subst e
      cases on <;> simp at hk ⊢ <;> (constructor <;> (try split) <;> omega)
    · simp [e]; exact hu2
  · unfold px_step px_set; simpa using h.2.1
  · unfold px_step px_set; simp; split <;> omega
  · unfold px_step px_set; simpa using h.2.2.2
theorem sOK_rest {R S : Nat → Nat → Nat} {t : Nat} (h : sOK R S) : sOK R (px_rest R S t) := by
  refine ⟨fun u hu => ?_, ?_, ?_, ?_⟩
  · have hu2 := h.1 u hu
    unfold px_rest px_set px_restW
    by_cases e : u = t
    · subst e; simp; omega
    · simp [e]; exact hu2
  · unfold px_rest px_set; simpa using h.2.1
  · unfold px_rest px_set; simp
  · unfold px_rest px_set; simpa using h.2.2.2
theorem mRd_of {σ τ : gq_M} {R : Nat → Nat → Nat} (hf : ∀ c, c ≤ 4 → τ.1 c = σ.1 c) (h : mRd σ R) : mRd τ R := by
  unfold mRd at *
  rw [hf 0 (by omega), hf 1 (by omega), hf 2 (by omega), hf 3 (by omega), hf 4 (by omega)]
  exact h
theorem cRd_of {σ τ : gq_M} {R : Nat → Nat → Nat} (hf : ∀ c, 9 ≤ c → c ≤ 14 → τ.1 c = σ.1 c) (h : cRd σ R) : cRd τ R := by
  unfold cRd at *
  rw [hf 9 (by omega) (by omega), hf 10 (by omega) (by omega), hf 11 (by omega) (by omega), hf 13 (by omega) (by omega), hf 14 (by omega) (by omega)]
  exact h
/-- only the 14 numbers at b of row 5 have changed -/
def fM (σ τ : gq_M) (b : Nat) : Prop := (∀ c, c ≠ 5 → τ.1 c = σ.1 c) ∧ (∀ j, (j < b ∨ b + 14 ≤ j) → τ.1 5 j = σ.1 5 j) ∧ τ.2 = σ.2
theorem fM.rf {σ : gq_M} {b : Nat} : fM σ σ b := ⟨fun _ _ => rfl, fun _ _ => rfl, rfl⟩
theorem fM.tr {σ τ υ : gq_M} {b : Nat} (h1 : fM σ τ b) (h2 : fM τ υ b) : fM σ υ b := ⟨fun c hc => (h2.1 c hc).trans (h1.1 c hc), fun j hj => (h2.2.1 j hj).trans (h1.2.1 j hj), h2.2.2.trans h1.2.2⟩
theorem fM.rd {σ τ : gq_M} {b : Nat} {R : Nat → Nat → Nat} (h : fM σ τ b) (hM : mRd σ R) : mRd τ R := mRd_of (fun c hc => h.1 c (by omega)) hM
theorem fM.put {σ τ : gq_M} {b j : Nat} {x : Int32} (h : fM σ τ b) (h1 : b ≤ j) (h2 : j < b + 14) : fM σ (gq_put τ 5 j x) b := by
  refine ⟨fun c hc => ?_, fun i hi => ?_, h.2.2⟩
  · rw [gq_put_other _ _ _ _ hc]; exact h.1 c hc
  · rw [mx_rd, if_pos rfl, if_neg (by omega)]; exact h.2.1 i hi
/-- only the three rows of a standing have changed -/
def fS (σ τ : gq_M) (z : Nat) : Prop := (∀ c, c ≠ z → c ≠ z + 1 → c ≠ z + 2 → τ.1 c = σ.1 c) ∧ τ.2 = σ.2
theorem fS.rf {σ : gq_M} {z : Nat} : fS σ σ z := ⟨fun _ _ _ _ => rfl, rfl⟩
theorem fS.tr {σ τ υ : gq_M} {z : Nat} (h1 : fS σ τ z) (h2 : fS τ υ z) : fS σ υ z := ⟨fun c a b d => (h2.1 c a b d).trans (h1.1 c a b d), h2.2.trans h1.2⟩
theorem fS.rd {σ τ : gq_M} {z : Nat} {R : Nat → Nat → Nat} (hz : 30 ≤ z) (h : fS σ τ z) (hM : cRd σ R) : cRd τ R := cRd_of (fun c _ hc => h.1 c (by omega) (by omega) (by omega)) hM
theorem fS.put {σ τ : gq_M} {z i j : Nat} {x : Int32} (h : fS σ τ z) (hi : i = z ∨ i = z + 1 ∨ i = z + 2) : fS σ (gq_put τ i j x) z := by
  refine ⟨fun c a b d => ?_, h.2⟩
  rw [gq_put_other _ _ _ _ (by omega)]; exact h.1 c a b d
/-- row 5 behind a put into it -/
theorem mx_r5 (σ : gq_M) (k : Nat) (x : Int32) (j : Nat) : (gq_put σ 5 k x).1 5 j = if j = k then x else σ.1 5 j := by rw [mx_rd, if_pos rfl]
theorem mx_rs (σ : gq_M) (i k : Nat) (x : Int32) (j : Nat) : (gq_put σ i k x).1 i j = if j = k then x else σ.1 i j := by rw [mx_rd, if_pos rfl]
theorem mx_ro {σ : gq_M} {i k : Nat} {x : Int32} {c : Nat} (h : c ≠ i) (j : Nat) : (gq_put σ i k x).1 c j = σ.1 c j := by rw [mx_rd, if_neg h]
theorem mx_sub1 {P p : Nat} (hp : p ≤ P) (hP : P ≤ 10) : (0 < p → (nI p - 1 : Int32) = nI (p - 1)) ∧ (p = 0 → ¬ vp_in (nI p - 1) P) := by
  refine ⟨fun h => pk_sub h, fun h q => ?_⟩
  subst h
  have h1 := (vp_in_iff.mp q).1
  exact absurd h1 (by decide)
theorem sp7_pleatOf {P p : Nat} {a : Int32} {σ : gq_M} {Q : Int32 → gq_M → Prop} (hP : σ.1 0 0 = nI P) (hb : P ≤ 10) (hp : p ≤ P) (h1 : ∀ k, px_pl P p (px_on a) = some k → Q (nI k) σ) (h2 : px_pl P p (px_on a) = none → Q (-9) σ) : wq_X7_pleatOf (nI p) a σ Q := by
  unfold wq_X7_pleatOf wq_X7_pleatOf_b11
  unfold px_pl px_on at h1 h2
  refine ⟨fun q => ?_, fun q => ?_⟩
  · simp only [q, not_true, decide_false, Bool.false_eq_true, if_false] at h1 h2
    rcases Nat.eq_zero_or_pos p with h | h
    · refine sp7_isPleat hP hb (fun v => absurd v ((mx_sub1 hp hb).2 h)) (fun _ => ⟨fun _ => h2 (by simp [h]), fun q => absurd rfl q⟩)
    · rw [(mx_sub1 hp hb).1 h]
      refine sp7_isPleat hP hb (fun _ => ⟨fun q => absurd q (by decide), fun _ => h1 _ (by simp [h])⟩) (fun v => absurd (vp_in_nI (by omega) (by omega)) v)
  · simp only [q, not_false_iff, decide_true, if_true] at h1 h2
    refine sp7_isPleat hP hb (fun v => ⟨fun q => absurd q (by decide), fun _ => h1 _ ?_⟩) (fun v => ⟨fun _ => h2 ?_, fun q => absurd rfl q⟩)
    · rw [if_pos]
      obtain ⟨j, hj, e⟩ := (mx_in (by omega)).mp v
      rw [nI_eq (by omega) (by omega)] at e
      omega
    · rw [if_neg]
      exact fun q => v (vp_in_nI q (by omega))
theorem sp7_paysOn {R S : Nat → Nat → Nat} {lv t k ice : Nat} {c : Int32} {σ : gq_M} {Q : Int32 → gq_M → Prop} (hR : rOK R) (hM : mRd σ R) (hl : lv ≤ 1) (hS : sOK R S) (hm : mSt σ 5 (14 * lv) R S c) (ht : t < R 1 0) (hk : k < R 0 0) (hice : ice < 1024) (hie : σ.1 0 15 = nI ice) (h : Q (nI (px_pay (R 5 t) (px_cost R k (S 2 1) (S 2 0) (S 2 2) ice))) σ) : wq_X7_paysOn (nI lv) (nI t) (nI k) σ Q := by
  have hT := hR.2.1
  have hP := hR.1
  have hg := hS.2.1
  have ho := hS.2.2.1
  have hf := hS.2.2.2
  unfold wq_X7_paysOn
  intro v1 e1
  rw [mx_14, pk_mul] at e1
  subst e1
  have a1 : (nI (14 * lv) + 11 : Int32) = nI (14 * lv + 11) := nI_add _ 11
  have a2 : (nI (14 * lv) + 10 : Int32) = nI (14 * lv + 10) := nI_add _ 10
  have a3 : (nI (14 * lv) + 12 : Int32) = nI (14 * lv + 12) := nI_add _ 12
  rw [a1, a2, a3, nI_clamp (by omega), nI_clamp (by omega), nI_clamp (by omega), nI_clamp (by omega), hm.2.1, hm.2.2.1, hm.2.2.2.1]
  refine ⟨vp_in_nI (by omega) (by omega), vp_in_nI (by omega) (by omega), vp_in_nI (by omega) (by omega), vp_in_nI (by omega) (by omega), ?_⟩
  refine sp7_costs hR hM hk (by omega) hg hf hice hie ?_
  rw [(hM.2.2.2 t ht).2]
  have h3 := (hR.2.2.2 t ht).2.2
  refine sp7_pays h3 ?_ h
  have := px_cost_le (o := S 2 1) (g := S 2 0) (ice := ice) hR hk hf
  omega
theorem sp7_canStep {R S : Nat → Nat → Nat} {lv : Nat} {a d c : Int32} {σ : gq_M} {Q : Int32 → gq_M → Prop} (hR : rOK R) (hM : mRd σ R) (hl : lv ≤ 1) (hS : sOK R S) (hm : mSt σ 5 (14 * lv) R S c) (hie : σ.1 0 15 = nI 0) (h1 : ∀ t, t < R 1 0 → a = nI t → Q (if px_can R S t (px_on d) then 1 else 0) σ) (h2 : ¬ vp_in a (R 1 0) → Q 0 σ) : wq_X7_canStep (nI lv) a d σ Q := by
  have hT := hR.2.1
  have hP := hR.1
  unfold wq_X7_canStep
  intro v1 e1
  rw [mx_14, pk_mul] at e1
  subst e1
  refine sp7_isTraveller hM.2.1 (by omega) (fun v => ⟨fun q => absurd q (by decide), fun _ => ?_⟩) (fun v => ⟨fun _ => ?_, fun q => absurd rfl q⟩)
  · obtain ⟨t, ht, e⟩ := (mx_in (by omega)).mp v
    replace h1 := h1 t ht e
    subst e
    have a1 : (nI (14 * lv) + nI t : Int32) = nI (14 * lv + t) := nI_add _ _
    rw [a1, nI_clamp (by omega), (hm.1 t ht).1]
    refine ⟨vp_in_nI (by omega) (by omega), ?_⟩
    refine sp7_pleatOf hM.1 hP (hS.1 t ht).1 (fun k hk => ?_) (fun hk => ?_)
    · have hk2 := px_pl_lt (hS.1 t ht).1 hk
      unfold wq_X7_canStep_b33
      refine ⟨fun q => absurd q ?_, fun _ => ?_⟩
      · intro q
        have := congrArg Int32.toInt q
        rw [nI_toInt (by omega)] at this
        have e9 : (-9 : Int32).toInt = -9 := by decide
        omega
      · have a2 : (nI (14 * lv) + 5 + nI t : Int32) = nI (14 * lv + 5 + t) := by rw [mx_5, nI_add, nI_add]
        rw [a2, nI_clamp (by omega), (hm.1 t ht).2]
        refine ⟨vp_in_nI (by omega) (by omega), ?_⟩
        refine sp7_paysOn hR hM hl hS hm ht hk2 (by omega) hie ?_
        unfold px_can at h1
        rw [hk] at h1
        have hw := (hS.1 t ht).2
        have hb := (hR.2.2.2 t ht).2.1
        have hc := px_cost_le (o := S 2 1) (g := S 2 0) (ice := 0) hR hk2 hS.2.2.2
        have hp := px_pay_le (h := R 5 t) (c := px_cost R k (S 2 1) (S 2 0) (S 2 2) 0)
        rw [nI_ltI (by omega) (by omega)]
        simp only [decide_eq_true_eq] at h1
        refine ⟨fun q => ?_, fun q => ?_⟩
        · rw [if_neg (by omega)] at h1; exact h1
        · rw [if_pos (by omega)] at h1; exact h1
    · unfold wq_X7_canStep_b33
      unfold px_can at h1
      rw [hk] at h1
      exact ⟨fun _ => h1, fun q => absurd rfl q⟩
  · unfold wq_X7_canStep_b33
    exact ⟨fun _ => h2 v, fun q => absurd rfl q⟩
