/-! ===== maths 5: the component's standing ===== -/
theorem px_ob_bit (o k : Nat) : (px_ob o).testBit k = decide (o = k + 1) := by
  unfold px_ob
  by_cases h : o = 0
  · subst h; simp
  · rw [if_neg h, Nat.testBit_two_pow]
    by_cases e : o = k + 1
    · subst e; simp
    · have : ¬ o - 1 = k := by omega
      simp [e, this]
theorem px_ob_lt {o : Nat} (h : o ≤ 10) : px_ob o < 1024 := by
  unfold px_ob
  split
  · omega
  · exact Nat.lt_of_le_of_lt (Nat.pow_le_pow_right (by omega) (show o - 1 ≤ 9 by omega)) (by decide)
theorem px_cost0 (R : Nat → Nat → Nat) (i o g f : Nat) : px_cost R i o g f 0 = if o = i + 1 then 0 else px_c0 (R 2 i) (R 3 i) f (g.testBit i) := by
  unfold px_cost
  simp
theorem sp4_costOf {R S : Nat → Nat → Nat} {z i : Nat} {c : Int32} {σ : gq_M} {Q : Int32 → gq_M → Prop} (hR : rOK R) (hM : cRd σ R) (hS : sOK R S) (hm : cSt σ z R S c) (hi : i < R 0 0) (h : Q (nI (px_cost R i (S 2 1) (S 2 0) (S 2 2) 0)) σ) : wq_X4_costOf z (nI i) σ Q := by
  have hP := hR.1
  have ho := hS.2.2.1
  unfold wq_X4_costOf
  rw [hm.2.2.1, hm.2.2.2.1, hm.2.1, mx_bit1 (by have := px_ob_lt (o := S 2 1) (by omega); omega) (by omega), px_ob_bit]
  rw [px_cost0] at h
  simp only [decide_eq_true_eq]
  refine ⟨fun q => ?_, fun q => ?_⟩
  · rw [if_neg q] at h
    exact sp2_costShut hR hM hi hS.2.1 hS.2.2.2 h
  · rw [if_pos q] at h
    exact h
theorem sp4_pleatBeside {R S : Nat → Nat → Nat} {z t : Nat} {d c : Int32} {σ : gq_M} {Q : Int32 → gq_M → Prop} (hR : rOK R) (hm : cSt σ z R S c) (ht : t < R 1 0) (h1 : d = 0 → Q (nI (S 0 t) - 1) σ) (h2 : ¬ d = 0 → Q (nI (S 0 t)) σ) : wq_X4_pleatBeside z (nI t) d σ Q := by
  have hT := hR.2.1
  have hin3 : vp_in (nI t) 5 := vp_in_nI (by omega) (by omega)
  unfold wq_X4_pleatBeside
  rw [nI_clamp (by omega), (hm.1 t ht).1]
  exact ⟨fun q => ⟨hin3, h1 q⟩, fun q => ⟨hin3, h2 q⟩⟩
/-- the pleat beside: the two tests of the component in one -/
theorem sp4_beside {R S : Nat → Nat → Nat} {z t : Nat} {d c : Int32} {σ : gq_M} {B : Int32 → Int32 → gq_M → Prop} (hR : rOK R) (hM : cRd σ R) (hS : sOK R S) (hm : cSt σ z R S c) (ht : t < R 1 0) (h1 : ∀ k, px_pl (R 0 0) (S 0 t) (px_on d) = some k → B (nI k) 1 σ) (h2 : px_pl (R 0 0) (S 0 t) (px_on d) = none → ∀ x, B x 0 σ) : wq_X4_pleatBeside z (nI t) d σ (fun r1 σ2 => wq_X2_hasPleat 9 r1 σ2 (fun r3 σ4 => B r1 r3 σ4)) := by
  have hP := hR.1
  have hp := (hS.1 t ht).1
  unfold px_pl px_on at h1 h2
  refine sp4_pleatBeside hR hm ht (fun q => ?_) (fun q => ?_)
  · simp only [q, not_true, decide_false, Bool.false_eq_true, if_false] at h1 h2
    rcases Nat.eq_zero_or_pos (S 0 t) with h | h
    · exact sp2_hasPleat hM.1 hP (fun v => absurd v ((mx_sub1 hp hP).2 h)) (fun _ => h2 (by simp [h]) _)
    · rw [(mx_sub1 hp hP).1 h]
      exact sp2_hasPleat hM.1 hP (fun _ => h1 _ (by simp [h])) (fun v => absurd (vp_in_nI (by omega) (by omega)) v)
  · simp only [q, not_false_iff, decide_true, if_true] at h1 h2
    refine sp2_hasPleat hM.1 hP (fun v => h1 _ ?_) (fun v => h2 ?_ _)
    · rw [if_pos]
      obtain ⟨j, hj, e⟩ := (mx_in (by omega)).mp v
      rw [nI_eq (by omega) (by omega)] at e
      omega
    · rw [if_neg]
      exact fun q => v (vp_in_nI q (by omega))
theorem sp4_tollBeside {R S : Nat → Nat → Nat} {z t : Nat} {d c : Int32} {σ : gq_M} {Q : Int32 → gq_M → Prop} (hR : rOK R) (hM : cRd σ R) (hS : sOK R S) (hm : cSt σ z R S c) (ht : t < R 1 0) (h1 : ∀ k, px_pl (R 0 0) (S 0 t) (px_on d) = some k → Q (nI (px_pay (R 5 t) (px_cost R k (S 2 1) (S 2 0) (S 2 2) 0))) σ) (h2 : px_pl (R 0 0) (S 0 t) (px_on d) = none → Q (-9) σ) : wq_X4_tollBeside z (nI t) d σ Q := by
  have hT := hR.2.1
  have hin3 : vp_in (nI t) 5 := vp_in_nI (by omega) (by omega)
  have hp := (hS.1 t ht).1
  unfold wq_X4_tollBeside
  refine sp4_beside hR hM hS hm ht (fun k hk => ?_) (fun hk x => ?_)
  · have hk2 := px_pl_lt hp hk
    refine ⟨fun q => absurd q (by decide), fun _ => ⟨hin3, ?_⟩⟩
    refine sp4_costOf hR hM hS hm hk2 ?_
    rw [nI_clamp (by omega), (hM.2.2.2 t ht).2]
    have hc := px_cost_le (o := S 2 1) (g := S 2 0) (ice := 0) hR hk2 hS.2.2.2
    exact sp2_tollFor (hR.2.2.2 t ht).2.2 (by omega) (h1 k hk)
  · exact ⟨fun _ => h2 hk, fun q => absurd rfl q⟩
theorem sp4_canStep {R S : Nat → Nat → Nat} {z : Nat} {a d c : Int32} {σ : gq_M} {Q : Int32 → gq_M → Prop} (hR : rOK R) (hM : cRd σ R) (hS : sOK R S) (hm : cSt σ z R S c) (h1 : ∀ t, t < R 1 0 → a = nI t → Q (if px_can R S t (px_on d) then 1 else 0) σ) (h2 : ¬ vp_in a (R 1 0) → Q 0 σ) : wq_X4_canStep z a d σ Q := by
  have hT := hR.2.1
  unfold wq_X4_canStep
  refine sp2_hasTraveller hM.2.1 (by omega) (fun v => ⟨fun _ => ?_, fun q => absurd q (by decide)⟩) (fun v => ⟨fun q => absurd rfl q, fun _ => h2 v⟩)
  obtain ⟨t, ht, e⟩ := (mx_in (by omega)).mp v
  replace h1 := h1 t ht e
  subst e
  have hin3 : vp_in (nI t) 5 := vp_in_nI (by omega) (by omega)
  unfold px_can at h1
  refine sp4_tollBeside hR hM hS hm ht (fun k hk => ?_) (fun hk => ?_)
  · rw [hk] at h1
    have hk2 := px_pl_lt (hS.1 t ht).1 hk
    have hw := (hS.1 t ht).2
    have hb := (hR.2.2.2 t ht).2.1
    have hc := px_cost_le (o := S 2 1) (g := S 2 0) (ice := 0) hR hk2 hS.2.2.2
    have hp := px_pay_le (h := R 5 t) (c := px_cost R k (S 2 1) (S 2 0) (S 2 2) 0)
    refine ⟨fun q => absurd q (mx_m9 (by omega)), fun _ => ⟨hin3, ?_⟩⟩
    rw [nI_clamp (by omega), (hm.1 t ht).2, nI_ltI (by omega) (by omega)]
    simp only [decide_eq_true_eq] at h1
    refine ⟨fun q => ?_, fun q => ?_⟩
    · rw [if_neg (by omega)] at h1; exact h1
    · rw [if_pos (by omega)] at h1; exact h1
  · rw [hk] at h1
    exact ⟨fun _ => h1, fun q => absurd rfl q⟩
theorem sp4_doStep {R S : Nat → Nat → Nat} {z t k : Nat} {d c : Int32} {σ : gq_M} {Q : gq_M → Prop} (hz : 30 ≤ z) (hR : rOK R) (hM : cRd σ R) (hS : sOK R S) (hm : cSt σ z R S c) (ht : t < R 1 0) (hk : px_pl (R 0 0) (S 0 t) (px_on d) = some k) (hc : px_pay (R 5 t) (px_cost R k (S 2 1) (S 2 0) (S 2 2) 0) ≤ S 1 t) (h : ∀ τ, cSt τ z R (px_step R S t (px_on d) k) (c + 1) → fS σ τ z → Q τ) : wq_X4_doStep z (nI t) d σ Q := by
  have hT := hR.2.1
  have hP := hR.1
  have hk2 := px_pl_lt (hS.1 t ht).1 hk
  have hw := (hS.1 t ht).2
  have hbr := (hR.2.2.2 t ht).2.1
  have hk3 := (hR.2.2.1 k hk2).2.2
  have hh3 := (hR.2.2.2 t ht).2.2
  have hin3 : vp_in (nI t) 5 := vp_in_nI (by omega) (by omega)
  unfold wq_X4_doStep
  refine sp4_beside hR hM hS hm ht (fun k' hk' => ?_) (fun hk' => by rw [hk] at hk'; cases hk')
  rw [hk] at hk'
  cases hk'
  refine ⟨fun _ => ⟨vp_in_nI (by omega) (by omega), ?_⟩, fun q => absurd q (by decide)⟩
  have fin : ∀ w : Nat, w = (if R 3 k = 3 then R 4 t else S 1 t - px_pay (R 5 t) (px_cost R k (S 2 1) (S 2 0) (S 2 2) 0)) → wq_X4_doStep_b74 z Q (nI t) d (nI k) (nI t) (nI w) σ := by
    intro w ew
    unfold wq_X4_doStep_b74 wq_X4_doStep_b91 wq_X4_doStep_b114
    rw [nI_clamp (by omega)]
    have er : (gq_put σ (z + 2) t (nI w)).1 (z + 1) t = nI (S 0 t) := by
      rw [mx_ro (by omega)]; exact (hm.1 t ht).1
    have ek : ∀ x : Int32, (gq_put (gq_put σ (z + 2) t (nI w)) (z + 1) t x).1 14 t = nI (R 5 t) := fun x => by
      rw [mx_ro (by omega), mx_ro (by omega)]; exact (hM.2.2.2 t ht).2
    have endm : ∀ (x : Int32) (o : Nat), x = nI (if px_on d then S 0 t + 1 else S 0 t - 1) → o = (if R 5 t = 3 then k + 1 else 0) → Q (gq_put (gq_put (gq_put (gq_put σ (z + 2) t (nI w)) (z + 1) t x) z 4 (nI (px_ob o))) z 6 ((gq_put (gq_put (gq_put σ (z + 2) t (nI w)) (z + 1) t x) z 4 (nI (px_ob o))).1 z 6 + 1)) := by
      intro x o ex eo
      subst ex
      refine h _ ⟨fun u hu => ⟨?_, ?_⟩, ?_, ?_, ?_, ?_⟩ ((((fS.rf.put (by omega)).put (by omega)).put (by omega)).put (by omega))
      · rw [mx_ro (by omega), mx_ro (by omega), mx_rs, mx_ro (by omega)]
        unfold px_step px_set
        by_cases e : u = t
        · subst e; simp
        · rw [if_neg e]
          simp [e]
          exact (hm.1 u hu).1
      · rw [mx_ro (by omega), mx_ro (by omega), mx_ro (by omega), mx_rs]
        unfold px_step px_set
        by_cases e : u = t
        · subst e; simp [ew]
        · rw [if_neg e]
          simp [e]
          exact (hm.1 u hu).2
      · rw [mx_rs, if_neg (by omega), mx_rs, if_neg (by omega), mx_ro (by omega), mx_ro (by omega)]
        unfold px_step px_set
        simpa using hm.2.1
      · rw [mx_rs, if_neg (by omega), mx_rs, if_pos rfl]
        unfold px_step px_set
        simp [eo]
      · rw [mx_rs, if_neg (by omega), mx_rs, if_neg (by omega), mx_ro (by omega), mx_ro (by omega)]
        unfold px_step px_set
        simpa using hm.2.2.2.1
      · rw [mx_rs, if_pos rfl, mx_rs, if_neg (by omega), mx_ro (by omega), mx_ro (by omega), hm.2.2.2.2]
    rw [er]
    simp only [ek]
    rw [mx_3, mx_eq (by omega) (by omega), mx_shl (by omega)]
    have eo : nI (2 ^ k) = nI (px_ob (k + 1)) := by unfold px_ob; simp
    rw [eo]
    refine ⟨hin3, hin3, fun q => ?_, fun q => ?_⟩
    · have hpos : 0 < S 0 t := by
        unfold px_pl px_on at hk
        simp [q] at hk
        omega
      refine ⟨hin3, hin3, fun q3 => ?_, fun q3 => ?_⟩
      · exact endm _ 0 (by rw [mx_pm hpos]; unfold px_on; simp [q]) (by simp [q3])
      · exact endm _ (k + 1) (by rw [mx_pm hpos]; unfold px_on; simp [q]) (by simp [q3])
    · refine ⟨hin3, hin3, fun q3 => ?_, fun q3 => ?_⟩
      · exact endm _ 0 (by rw [mx_1, nI_add]; unfold px_on; simp [q]) (by simp [q3])
      · exact endm _ (k + 1) (by rw [mx_1, nI_add]; unfold px_on; simp [q]) (by simp [q3])
  unfold wq_X4_doStep_b37
  rw [nI_clamp (by omega), (hM.2.2.1 k hk2).2, mx_3, mx_eq (by omega) (by omega), nI_clamp (by omega), (hm.1 t ht).2, (hM.2.2.2 t ht).1]
  refine ⟨fun q => ⟨fun _ => ⟨hin3, ?_⟩, fun r => absurd rfl r⟩, fun q => ⟨fun r => absurd r (by decide), fun _ => ⟨hin3, ?_⟩⟩⟩
  · refine sp4_tollBeside hR hM hS hm ht (fun k' hk' => ?_) (fun hk' => by rw [hk] at hk'; cases hk')
    rw [hk] at hk'
    cases hk'
    rw [pk_sub hc]
    exact fin _ (by rw [if_neg q])
  · exact fin _ (by rw [if_pos q])
theorem mx_max {a b : Nat} (ha : a < 2 ^ 31) (hb : b < 2 ^ 31) : (if nI a < nI b then nI b else nI a) = nI (max a b) := by
  by_cases h : a < b
  · rw [if_pos ((nI_ltI ha hb).mpr h), Nat.max_eq_right (by omega)]
  · rw [if_neg (fun q => h ((nI_ltI ha hb).mp q)), Nat.max_eq_left (by omega)]
theorem mx_min {a b : Nat} (ha : a < 2 ^ 31) (hb : b < 2 ^ 31) : (if nI b < nI a then nI b else nI a) = nI (min a b) := by
  by_cases h : b < a
  · rw [if_pos ((nI_ltI hb ha).mpr h), Nat.min_eq_right (by omega)]
  · rw [if_neg (fun q => h ((nI_ltI hb ha).mp q)), Nat.min_eq_left (by omega)]
theorem sp2_windRested {b w : Nat} {σ : gq_M} {Q : Int32 → gq_M → Prop} (hb : b ≤ 9) (hw : w < 100) (h : Q (nI (px_restW b w)) σ) : wq_X2_windRested (nI w) (nI b) σ Q := by
  unfold wq_X2_windRested
  rw [mx_1, mx_2, pk_div (by omega) (by omega) (by omega), mx_max (by omega) (by omega), nI_add, mx_min (by omega) (by omega), Nat.max_comm]
  exact h
theorem sp4_doRest {R S : Nat → Nat → Nat} {z t : Nat} {c : Int32} {σ : gq_M} {Q : gq_M → Prop} (hz : 30 ≤ z) (hR : rOK R) (hM : cRd σ R) (hS : sOK R S) (hm : cSt σ z R S c) (ht : t < R 1 0) (h : ∀ τ, cSt τ z R (px_rest R S t) (c + 1) → fS σ τ z → Q τ) : wq_X4_doRest z (nI t) σ Q := by
  have hT := hR.2.1
  have hw := (hS.1 t ht).2
  have hbr := (hR.2.2.2 t ht).2.1
  have hin3 : vp_in (nI t) 5 := vp_in_nI (by omega) (by omega)
  unfold wq_X4_doRest
  rw [nI_clamp (by omega), (hm.1 t ht).2, (hM.2.2.2 t ht).1]
  refine ⟨hin3, hin3, sp2_windRested hbr (by omega) ⟨hin3, ?_⟩⟩
  refine h _ ⟨fun u hu => ⟨?_, ?_⟩, ?_, ?_, ?_, ?_⟩ (((fS.rf.put (by omega)).put (by omega)).put (by omega))
  · rw [mx_ro (by omega), mx_ro (by omega), mx_ro (by omega)]
    unfold px_rest px_set
    simpa using (hm.1 u hu).1
  · rw [mx_ro (by omega), mx_ro (by omega), mx_rs]
    unfold px_rest px_set
    by_cases e : u = t
    · subst e; simp
    · rw [if_neg e]
      simp [e]
      exact (hm.1 u hu).2
  · rw [mx_rs, if_neg (by omega), mx_rs, if_neg (by omega), mx_ro (by omega)]
    unfold px_rest px_set
    simpa using hm.2.1
  · rw [mx_rs, if_neg (by omega), mx_rs, if_pos rfl]
    unfold px_rest px_set px_ob
    simp
    rfl
  · rw [mx_rs, if_neg (by omega), mx_rs, if_neg (by omega), mx_ro (by omega)]
    unfold px_rest px_set
    simpa using hm.2.2.2.1
  · rw [mx_rs, if_pos rfl, mx_rs, if_neg (by omega), mx_ro (by omega), hm.2.2.2.2]
