/-! ===== maths 4: the model's step and rest; the component's ===== -/
theorem mx_m9 {k : Nat} (hk : k < 2 ^ 31) : ¬ nI k = -9 := by
  intro q
  have h := congrArg Int32.toInt q
  rw [nI_toInt hk] at h
  have e9 : (-9 : Int32).toInt = -9 := by decide
  omega
theorem mx_pm {p : Nat} (h : 0 < p) : (nI p + (-1) : Int32) = nI (p - 1) := by
  obtain ⟨q, rfl⟩ : ∃ q, p = q + 1 := ⟨p - 1, by omega⟩
  exact pk_m1 q
theorem sp7_stepOn {R S : Nat → Nat → Nat} {lv t k : Nat} {d c : Int32} {σ : gq_M} {Q : gq_M → Prop} (hR : rOK R) (hM : mRd σ R) (hl : lv ≤ 1) (hS : sOK R S) (hm : mSt σ 5 (14 * lv) R S c) (hie : σ.1 0 15 = nI 0) (ht : t < R 1 0) (hk : px_pl (R 0 0) (S 0 t) (px_on d) = some k) (hc : px_pay (R 5 t) (px_cost R k (S 2 1) (S 2 0) (S 2 2) 0) ≤ S 1 t) (h : ∀ τ, mSt τ 5 (14 * lv) R (px_step R S t (px_on d) k) (c + 1) → fM σ τ (14 * lv) → Q τ) : wq_X7_stepOn (nI lv) (nI t) d σ Q := by
  have hT := hR.2.1
  have hP := hR.1
  have hk2 := px_pl_lt (hS.1 t ht).1 hk
  have hw := (hS.1 t ht).2
  have hbr := (hR.2.2.2 t ht).2.1
  have hpl := (hS.1 t ht).1
  have hk3 := (hR.2.2.1 k hk2).2.2
  have hh3 := (hR.2.2.2 t ht).2.2
  unfold wq_X7_stepOn
  intro v1 e1
  rw [mx_14, pk_mul] at e1
  subst e1
  have a1 : (nI (14 * lv) + nI t : Int32) = nI (14 * lv + t) := nI_add _ _
  have a2 : (nI (14 * lv) + 5 + nI t : Int32) = nI (14 * lv + 5 + t) := by rw [mx_5, nI_add, nI_add]
  have a3 : (nI (14 * lv) + 11 : Int32) = nI (14 * lv + 11) := nI_add _ 11
  have a4 : (nI (14 * lv) + 13 : Int32) = nI (14 * lv + 13) := nI_add _ 13
  rw [a1, a2, nI_clamp (by omega), (hm.1 t ht).1]
  refine ⟨vp_in_nI (by omega) (by omega), ?_⟩
  refine sp7_pleatOf hM.1 hP hpl (fun k' hk' => ?_) (fun hk' => by rw [hk] at hk'; cases hk')
  rw [hk] at hk'
  cases hk'
  refine ⟨vp_in_nI (by omega) (by omega), ?_⟩
  -- the last blocks, with the new wind w
  have fin : ∀ w : Nat, w = (if R 3 k = 3 then R 4 t else S 1 t - px_pay (R 5 t) (px_cost R k (S 2 1) (S 2 0) (S 2 2) 0)) → wq_X7_stepOn_b72 Q (nI t) d (nI (14 * lv)) (nI k) (nI (14 * lv + 5 + t)) (nI w) σ := by
    intro w ew
    unfold wq_X7_stepOn_b72 wq_X7_stepOn_b92 wq_X7_stepOn_b121
    rw [a1, a3, a4, nI_clamp (by omega), nI_clamp (by omega), nI_clamp (by omega), nI_clamp (by omega), nI_clamp (by omega)]
    have hin1 : vp_in (nI (14 * lv + 5 + t)) 28 := vp_in_nI (by omega) (by omega)
    have hin2 : vp_in (nI (14 * lv + t)) 28 := vp_in_nI (by omega) (by omega)
    have hin3 : vp_in (nI t) 5 := vp_in_nI (by omega) (by omega)
    have hin4 : vp_in (nI (14 * lv + 11)) 28 := vp_in_nI (by omega) (by omega)
    have hin5 : vp_in (nI (14 * lv + 13)) 28 := vp_in_nI (by omega) (by omega)
    -- the memory behind it
    have endm : ∀ (x : Int32) (o : Nat), x = nI (if px_on d then S 0 t + 1 else S 0 t - 1) → o = (if R 5 t = 3 then k + 1 else 0) → Q (gq_put (gq_put (gq_put (gq_put σ 5 (14 * lv + 5 + t) (nI w)) 5 (14 * lv + t) x) 5 (14 * lv + 11) (nI o)) 5 (14 * lv + 13) ((gq_put (gq_put (gq_put σ 5 (14 * lv + 5 + t) (nI w)) 5 (14 * lv + t) x) 5 (14 * lv + 11) (nI o)).1 5 (14 * lv + 13) + 1)) := by
      intro x o ex eo
      subst ex
      refine h _ ⟨fun u hu => ⟨?_, ?_⟩, ?_, ?_, ?_, ?_⟩ ((((fM.rf.put (by omega) (by omega)).put (by omega) (by omega)).put (by omega) (by omega)).put (by omega) (by omega))
      · simp only [mx_r5]
        rw [if_neg (by omega), if_neg (by omega)]
        unfold px_step px_set
        by_cases e : u = t
        · subst e; simp
        · rw [if_neg (by omega), if_neg (by omega)]
          simp [e]
          exact (hm.1 u hu).1
      · simp only [mx_r5]
        rw [if_neg (by omega), if_neg (by omega), if_neg (by omega)]
        unfold px_step px_set
        by_cases e : u = t
        · subst e; simp [ew]
        · rw [if_neg (by omega)]
          simp [e]
          exact (hm.1 u hu).2
      · simp only [mx_r5]
        rw [if_neg (by omega), if_neg (by omega), if_neg (by omega), if_neg (by omega)]
        unfold px_step px_set
        simpa using hm.2.1
      · simp only [mx_r5]
        rw [if_neg (by omega)]
        unfold px_step px_set
        simp [eo]
      · simp only [mx_r5]
        rw [if_neg (by omega), if_neg (by omega), if_neg (by omega), if_neg (by omega)]
        unfold px_step px_set
        simpa using hm.2.2.2.1
      · simp only [mx_r5]
        rw [if_pos trivial, if_neg (by omega), if_neg (by omega), if_neg (by omega), hm.2.2.2.2]
    have er : (gq_put σ 5 (14 * lv + 5 + t) (nI w)).1 5 (14 * lv + t) = nI (S 0 t) := by
      rw [mx_r5, if_neg (by omega)]; exact (hm.1 t ht).1
    have ek : ∀ x : Int32, (gq_put (gq_put σ 5 (14 * lv + 5 + t) (nI w)) 5 (14 * lv + t) x).1 4 t = nI (R 5 t) := fun x => by
      rw [mx_ro (by decide), mx_ro (by decide)]; exact (hM.2.2.2 t ht).2
    rw [er]
    simp only [ek]
    rw [mx_3, mx_eq (by omega) (by omega), nI_1]
    refine ⟨hin1, hin2, fun q => ?_, fun q => ?_⟩
    · have hpos : 0 < S 0 t := by
        unfold px_pl px_on at hk
        simp [q] at hk
        omega
      refine ⟨hin2, hin3, fun q3 => ⟨hin4, hin5, hin5, ?_⟩, fun q3 => ⟨hin4, hin5, hin5, ?_⟩⟩
      · exact endm _ 0 (by rw [mx_pm hpos]; unfold px_on; simp [q]) (by simp [q3])
      · exact endm _ (k + 1) (by rw [mx_pm hpos]; unfold px_on; simp [q]) (by simp [q3])
    · refine ⟨hin2, hin3, fun q3 => ⟨hin4, hin5, hin5, ?_⟩, fun q3 => ⟨hin4, hin5, hin5, ?_⟩⟩
      · exact endm _ 0 (by rw [mx_1, nI_add]; unfold px_on; simp [q]) (by simp [q3])
      · exact endm _ (k + 1) (by rw [mx_1, nI_add]; unfold px_on; simp [q]) (by simp [q3])
  rw [nI_clamp (by omega), (hM.2.2.1 k hk2).2, mx_3, mx_eq (by omega) (by omega), nI_clamp (by omega), nI_clamp (by omega), (hM.2.2.2 t ht).1, (hm.1 t ht).2]
  refine ⟨fun q => ⟨vp_in_nI (by omega) (by omega), ?_⟩, fun q => ⟨vp_in_nI (by omega) (by omega), ?_⟩⟩
  · refine sp7_paysOn hR hM hl hS hm ht hk2 (by omega) hie ?_
    rw [pk_sub hc]
    exact fin _ (by rw [if_neg q])
  · exact fin _ (by rw [if_pos q])
theorem sp7_rested {R : Nat → Nat → Nat} {t w : Nat} {σ : gq_M} {Q : Int32 → gq_M → Prop} (hR : rOK R) (hM : mRd σ R) (ht : t < R 1 0) (hw : w < 100) (h : Q (nI (px_restW (R 4 t) w)) σ) : wq_X7_rested (nI t) (nI w) σ Q := by
  have hT := hR.2.1
  have hb := (hR.2.2.2 t ht).2.1
  have hin3 : vp_in (nI t) 5 := vp_in_nI (by omega) (by omega)
  unfold wq_X7_rested
  rw [nI_clamp (by omega), (hM.2.2.2 t ht).1, mx_2, pk_div (by omega) (by omega) (by omega)]
  refine ⟨hin3, ?_⟩
  refine sp7_atLeast (b := 1) (by omega) (by decide) ?_
  intro v3 e3
  rw [nI_add] at e3
  subst e3
  rw [(hM.2.2.2 t ht).1, nI_leI (by omega) (by omega)]
  unfold px_restW at h
  refine ⟨hin3, fun q => ?_, fun q => ⟨hin3, ?_⟩⟩
  · rw [Nat.min_eq_right q] at h; exact h
  · rw [Nat.min_eq_left (by omega)] at h; exact h
theorem px_restW_le {b w : Nat} : px_restW b w ≤ b := by unfold px_restW; omega
theorem sp7_restOn {R S : Nat → Nat → Nat} {lv t : Nat} {c : Int32} {σ : gq_M} {Q : gq_M → Prop} (hR : rOK R) (hM : mRd σ R) (hl : lv ≤ 1) (hS : sOK R S) (hm : mSt σ 5 (14 * lv) R S c) (ht : t < R 1 0) (h : ∀ τ, mSt τ 5 (14 * lv) R (px_rest R S t) (c + 1) → fM σ τ (14 * lv) → Q τ) : wq_X7_restOn (nI lv) (nI t) σ Q := by
  have hT := hR.2.1
  have hw := (hS.1 t ht).2
  have hbr := (hR.2.2.2 t ht).2.1
  unfold wq_X7_restOn
  intro v1 e1
  rw [mx_14, pk_mul] at e1
  subst e1
  have a2 : (nI (14 * lv) + 5 + nI t : Int32) = nI (14 * lv + 5 + t) := by rw [mx_5, nI_add, nI_add]
  have a3 : (nI (14 * lv) + 11 : Int32) = nI (14 * lv + 11) := nI_add _ 11
  have a4 : (nI (14 * lv) + 13 : Int32) = nI (14 * lv + 13) := nI_add _ 13
  rw [a2, a3, a4, nI_clamp (by omega), nI_clamp (by omega), nI_clamp (by omega), (hm.1 t ht).2]
  have hin1 : vp_in (nI (14 * lv + 5 + t)) 28 := vp_in_nI (by omega) (by omega)
  have hin4 : vp_in (nI (14 * lv + 11)) 28 := vp_in_nI (by omega) (by omega)
  have hin5 : vp_in (nI (14 * lv + 13)) 28 := vp_in_nI (by omega) (by omega)
  refine ⟨hin1, sp7_rested hR hM ht (by omega) ⟨hin1, hin4, hin5, hin5, ?_⟩⟩
  refine h _ ⟨fun u hu => ⟨?_, ?_⟩, ?_, ?_, ?_, ?_⟩ (((fM.rf.put (by omega) (by omega)).put (by omega) (by omega)).put (by omega) (by omega))
  · simp only [mx_r5]
    rw [if_neg (by omega), if_neg (by omega), if_neg (by omega)]
    unfold px_rest px_set
    simpa using (hm.1 u hu).1
  · simp only [mx_r5]
    rw [if_neg (by omega), if_neg (by omega)]
    unfold px_rest px_set
    by_cases e : u = t
    · subst e; simp
    · rw [if_neg (by omega)]
      simp [e]
      exact (hm.1 u hu).2
  · simp only [mx_r5]
    rw [if_neg (by omega), if_neg (by omega), if_neg (by omega)]
    unfold px_rest px_set
    simpa using hm.2.1
  · simp only [mx_r5]
    rw [if_neg (by omega), if_pos trivial]
    unfold px_rest px_set
    simp
    rfl
  · simp only [mx_r5]
    rw [if_neg (by omega), if_neg (by omega), if_neg (by omega)]
    unfold px_rest px_set
    simpa using hm.2.2.2.1
  · simp only [mx_r5]
    rw [if_pos trivial, if_neg (by omega), if_neg (by omega), hm.2.2.2.2]
