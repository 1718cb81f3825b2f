/-! ===== maths 12: doings told: judge ===== -/
theorem both_wrap {R S : Nat → Nat → Nat} {c : Int32} {w4 v4 w7 : gq_M → (Int32 → gq_M → Prop) → Prop} (h : bothDo R S c w4 w7) (hw : ∀ σ Q, w4 σ (fun r τ => (r = 0 → Q 0 τ) ∧ (¬ r = 0 → Q 1 τ)) → v4 σ Q) : bothDo R S c v4 w7 := by
  obtain ⟨r, S2, c2, h1, h2, h3, h4⟩ := h
  refine ⟨r, S2, c2, h1, h2, fun σ Q a b d => hw σ Q (h3 σ _ a b (fun τ e f => ?_)), h4⟩
  rcases h1 with rfl | rfl
  · exact ⟨fun _ => d τ e f, fun q => absurd rfl q⟩
  · exact ⟨fun q => absurd q (by decide), fun _ => d τ e f⟩
theorem both_no {R S : Nat → Nat → Nat} {c : Int32} {w4 w7 : gq_M → (Int32 → gq_M → Prop) → Prop} (hS : sOK R S) (h4 : ∀ σ Q, cRd σ R → cSt σ 33 R S c → Q 0 σ → w4 σ Q) (h7 : ∀ μ Q, mRd μ R → mSt μ 5 14 R S c → (∀ ν, mSt ν 5 14 R S c → fM μ ν 14 → Q 0 ν) → w7 μ Q) : bothDo R S c w4 w7 :=
  ⟨0, S, c, Or.inl rfl, hS, fun σ Q a b d => h4 σ Q a b (d σ b fS.rf), fun μ Q a b _ d => h7 μ Q a b d⟩
theorem mx_add0 {R S : Nat → Nat → Nat} {c : Int32} {μ : gq_M} {j : Nat} (hR : rOK R) (h2 : mSt μ 5 14 R S c) : mSt (gq_put μ 5 j (μ.1 5 j)) 5 14 R S c := by
  refine mSt_cpy hR (fun k hk => ?_) h2
  rw [mx_r5]
  by_cases ek : 14 + k = j
  · rw [if_pos ek, ek]
  · rw [if_neg ek]
theorem mx_addz (x : Int32) : x + 0 = x := by
  apply Int32.toBitVec_inj.1
  simp
theorem mx_orz (x : Int32) : x ||| 0 = x := by
  apply Int32.toBitVec_inj.1
  simp
theorem both_freeze {R S : Nat → Nat → Nat} {c : Int32} (hR : rOK R) (hS : sOK R S) : bothDo R S c (fun σ Q => wq_X4_freezeIfItCan 33 σ Q) (fun μ Q => wq_X7_tryThing 4 0 0 μ Q) := by
  have hf := hS.2.2.2
  have m7 : ∀ (μ : gq_M) (Q : Int32 → gq_M → Prop), ((5 ≤ (μ.1 5 26) → wq_X7_tryThing_b206 Q 0 μ) ∧ (¬ 5 ≤ (μ.1 5 26) → wq_X7_tryThing_b206 Q 1 μ)) → wq_X7_tryThing 4 0 0 μ Q := by
    intro μ Q h
    unfold wq_X7_tryThing
    exact ⟨fun q => absurd q (by decide), fun _ => ⟨fun q => absurd q (by decide), fun _ => ⟨fun q => absurd q (by decide), fun _ => ⟨fun _ => ⟨fun q => absurd rfl q, fun _ => ⟨fun q => absurd rfl q, fun _ => h⟩⟩, fun q => absurd rfl q⟩⟩⟩⟩
  by_cases h5 : S 2 2 < 5
  · refine ⟨1, px_set S 2 2 (S 2 2 + 1), c, Or.inr rfl, sOK_f hS (by omega), fun σ Q h1 h2 h3 => ?_, fun μ Q h1 h2 h3 h4 => m7 μ Q ?_⟩
    · show wq_X4_freezeIfItCan 33 σ Q
      unfold wq_X4_freezeIfItCan wq_X4_canFreeze
      rw [h2.2.2.2.1, mx_5, nI_leI (by omega) (by omega)]
      refine ⟨fun q => by omega, fun _ => ⟨fun q => absurd q (by decide), fun _ => ⟨Or.inr rfl, ?_⟩⟩⟩
      rw [h2.2.2.2.1, nI_1]
      exact h3 _ (cSt_set h2).2 (fS.rf.put (Or.inl rfl))
    · have e : μ.1 5 26 = nI (S 2 2) := h2.2.2.2.1
      unfold wq_X7_tryThing_b206 wq_X7_tryThing_b226
      rw [e, mx_5, nI_leI (by omega) (by omega), nI_1]
      exact ⟨fun q => by omega, fun _ => ⟨fun q => absurd q (by decide), fun _ => ⟨vp_in_iff.mpr ⟨by decide, by decide⟩, Or.inr rfl, h4 _ (mSt_set hR h2).2 (fM.rf.put (by decide) (by decide))⟩⟩⟩
  · refine both_no hS (fun σ Q h1 h2 h => ?_) (fun μ Q _ h2 h4 => m7 μ Q ?_)
    · show wq_X4_freezeIfItCan 33 σ Q
      unfold wq_X4_freezeIfItCan wq_X4_canFreeze
      rw [h2.2.2.2.1, mx_5, nI_leI (by omega) (by omega)]
      exact ⟨fun _ => ⟨fun _ => ⟨Or.inl rfl, h⟩, fun q => absurd rfl q⟩, fun q => by omega⟩
    · have e : μ.1 5 26 = nI (S 2 2) := h2.2.2.2.1
      have k := h4 _ (mx_add0 (j := 26) hR h2) (fM.rf.put (by decide) (by decide))
      unfold wq_X7_tryThing_b206 wq_X7_tryThing_b226
      refine ⟨fun _ => ⟨fun _ => ⟨vp_in_iff.mpr ⟨by decide, by decide⟩, Or.inl rfl, by rw [mx_addz]; exact k⟩, fun q => absurd rfl q⟩, fun q => ?_⟩
      rw [e, mx_5, nI_leI (by omega) (by omega)] at q
      omega
theorem both_told {R S : Nat → Nat → Nat} {c : Int32} {how a b : Nat} (hR : rOK R) (hS : sOK R S) (hh : how < 10) (ha : a < 10) (hb : b < 10) : bothDo R S c (fun σ Q => wq_X4_doTold 33 (nI how) (nI a) (nI b) σ Q) (fun μ Q => wq_X7_tryThing (nI how) (nI a) (nI b) μ Q) := by
  have hT := hR.2.1
  have hP := hR.1
  have e1 : (nI how = 1) ↔ how = 1 := by rw [mx_1, nI_eq (by omega) (by omega)]
  have e2 : (nI how = 2) ↔ how = 2 := by rw [mx_2, nI_eq (by omega) (by omega)]
  have e3 : (nI how = 3) ↔ how = 3 := by rw [mx_3, nI_eq (by omega) (by omega)]
  have e4 : (nI how = 4) ↔ how = 4 := by rw [mx_4, nI_eq (by omega) (by omega)]
  have e5 : (nI how = 5) ↔ how = 5 := by rw [mx_5, nI_eq (by omega) (by omega)]
  have a0 : (nI a = 0) ↔ a = 0 := by rw [mx_0, nI_eq (by omega) (by omega)]
  have b0 : (nI b = 0) ↔ b = 0 := by rw [mx_0, nI_eq (by omega) (by omega)]
  have b1 : (nI b = 1) ↔ b = 1 := by rw [mx_1, nI_eq (by omega) (by omega)]
  have bl1 : (1 < nI b) ↔ 1 < b := by rw [mx_1, nI_ltI (by omega) (by omega)]
  have bg2 : (2 ≤ nI b) ↔ 2 ≤ b := by rw [mx_2, nI_leI (by omega) (by omega)]
  have same : ∀ {μ : gq_M} {Q : Int32 → gq_M → Prop}, mSt μ 5 14 R S c → (∀ ν, mSt ν 5 14 R S c → fM μ ν 14 → Q 0 ν) → Q 0 μ := fun h2 h => h _ h2 fM.rf
  rcases (show how = 1 ∨ how = 2 ∨ how = 3 ∨ how = 4 ∨ how = 5 ∨ (how = 0 ∨ 5 < how) by omega) with g | g | g | g | g | g
  · by_cases hb2 : b < 2
    · have hx : nI how = 1 := e1.mpr g
      rw [hx]
      refine both_wrap (both_step hR hS (show a < 100 by omega) hb2) (fun σ Q h => ?_)
      unfold wq_X4_doTold wq_X4_doTold_b53
      refine ⟨fun _ => ⟨fun q => absurd (bl1.mp q) (by omega), fun _ => ⟨fun q => ?_, fun q => ?_⟩⟩, fun q => absurd rfl q⟩
      · have hb0 : b = 0 := by
          have nz : ¬ b = 1 := fun z => q (b1.mpr z)
          omega
        subst hb0
        exact h
      · have hb1 : b = 1 := b1.mp q
        subst hb1
        exact h
    · refine both_no hS (fun σ Q h1 h2 h => ?_) (fun μ Q h1 h2 h4 => ?_)
      · unfold wq_X4_doTold
        exact ⟨fun _ => ⟨fun _ => h, fun q => absurd (bl1.mpr (by omega)) q⟩, fun q => absurd (e1.mpr g) q⟩
      · unfold wq_X7_tryThing wq_X7_tryThing_b65
        exact ⟨fun _ => ⟨fun _ => ⟨fun _ => ⟨Or.inl rfl, same h2 h4⟩, fun q => absurd rfl q⟩, fun q => absurd (bg2.mpr (by omega)) q⟩, fun q => absurd (e1.mpr g) q⟩
  · by_cases ha0 : a = 0
    · have hx : nI how = 2 := e2.mpr g
      have hy : nI a = 0 := a0.mpr ha0
      rw [hx, hy]
      refine both_wrap (both_rest hR hS (show b < 100 by omega)) (fun σ Q h => ?_)
      unfold wq_X4_doTold
      exact ⟨fun q => absurd q (by decide), fun _ => ⟨fun _ => ⟨fun q => absurd rfl q, fun _ => h⟩, fun q => absurd rfl q⟩⟩
    · have na : ¬ nI a = 0 := fun z => ha0 (a0.mp z)
      refine both_no hS (fun σ Q h1 h2 h => ?_) (fun μ Q h1 h2 h4 => ?_)
      · unfold wq_X4_doTold
        exact ⟨fun q => absurd (e1.mp q) (by omega), fun _ => ⟨fun _ => ⟨fun _ => h, fun q => absurd q na⟩, fun q => absurd (e2.mpr g) q⟩⟩
      · unfold wq_X7_tryThing wq_X7_tryThing_b108
        exact ⟨fun q => absurd (e1.mp q) (by omega), fun _ => ⟨fun _ => ⟨fun _ => ⟨fun _ => ⟨Or.inl rfl, same h2 h4⟩, fun q => absurd rfl q⟩, fun q => absurd q na⟩, fun q => absurd (e2.mpr g) q⟩⟩
  · by_cases ha0 : a = 0
    · have hx : nI how = 3 := e3.mpr g
      have hy : nI a = 0 := a0.mpr ha0
      rw [hx, hy]
      refine both_wrap (both_grease hR hS (show b < 100 by omega)) (fun σ Q h => ?_)
      unfold wq_X4_doTold
      exact ⟨fun q => absurd q (by decide), fun _ => ⟨fun q => absurd q (by decide), fun _ => ⟨fun _ => ⟨fun q => absurd rfl q, fun _ => h⟩, fun q => absurd rfl q⟩⟩⟩
    · have na : ¬ nI a = 0 := fun z => ha0 (a0.mp z)
      refine both_no hS (fun σ Q h1 h2 h => ?_) (fun μ Q h1 h2 h4 => ?_)
      · unfold wq_X4_doTold
        exact ⟨fun q => absurd (e1.mp q) (by omega), fun _ => ⟨fun q => absurd (e2.mp q) (by omega), fun _ => ⟨fun _ => ⟨fun _ => h, fun q => absurd q na⟩, fun q => absurd (e3.mpr g) q⟩⟩⟩
      · have k := h4 _ (mx_add0 (j := 24) hR h2) (fM.rf.put (by decide) (by decide))
        unfold wq_X7_tryThing wq_X7_tryThing_b155 wq_X7_tryThing_b177
        exact ⟨fun q => absurd (e1.mp q) (by omega), fun _ => ⟨fun q => absurd (e2.mp q) (by omega), fun _ => ⟨fun _ => ⟨fun _ => ⟨fun _ => ⟨vp_in_iff.mpr ⟨by decide, by decide⟩, Or.inl rfl, by rw [mx_orz]; exact k⟩, fun q => absurd rfl q⟩, fun q => absurd q na⟩, fun q => absurd (e3.mpr g) q⟩⟩⟩
  · by_cases ha0 : a = 0 ∧ b = 0
    · have hx : nI how = 4 := e4.mpr g
      have hy : nI a = 0 := a0.mpr ha0.1
      have hz : nI b = 0 := b0.mpr ha0.2
      rw [hx, hy, hz]
      refine both_wrap (both_freeze hR hS) (fun σ Q h => ?_)
      unfold wq_X4_doTold
      exact ⟨fun q => absurd q (by decide), fun _ => ⟨fun q => absurd q (by decide), fun _ => ⟨fun q => absurd q (by decide), fun _ => ⟨fun _ => ⟨fun q => absurd rfl q, fun _ => ⟨fun q => absurd rfl q, fun _ => h⟩⟩, fun q => absurd rfl q⟩⟩⟩⟩
    · refine both_no hS (fun σ Q h1 h2 h => ?_) (fun μ Q h1 h2 h4 => ?_)
      · unfold wq_X4_doTold
        exact ⟨fun q => absurd (e1.mp q) (by omega), fun _ => ⟨fun q => absurd (e2.mp q) (by omega), fun _ => ⟨fun q => absurd (e3.mp q) (by omega), fun _ => ⟨fun _ => ⟨fun _ => h, fun q => ⟨fun _ => h, fun r => absurd ⟨a0.mp q, b0.mp r⟩ ha0⟩⟩, fun q => absurd (e4.mpr g) q⟩⟩⟩⟩
      · have k := h4 _ (mx_add0 (j := 26) hR h2) (fM.rf.put (by decide) (by decide))
        have fin : wq_X7_tryThing_b206 Q 0 μ := by
          unfold wq_X7_tryThing_b206 wq_X7_tryThing_b226
          exact ⟨fun _ => ⟨vp_in_iff.mpr ⟨by decide, by decide⟩, Or.inl rfl, by rw [mx_addz]; exact k⟩, fun q => absurd rfl q⟩
        unfold wq_X7_tryThing
        exact ⟨fun q => absurd (e1.mp q) (by omega), fun _ => ⟨fun q => absurd (e2.mp q) (by omega), fun _ => ⟨fun q => absurd (e3.mp q) (by omega), fun _ => ⟨fun _ => ⟨fun _ => fin, fun q => ⟨fun _ => fin, fun r => absurd ⟨a0.mp q, b0.mp r⟩ ha0⟩⟩, fun q => absurd (e4.mpr g) q⟩⟩⟩⟩
  · by_cases hg : a < R 1 0 ∧ S 0 a = b
    · obtain ⟨g1, g2⟩ := hg
      have hp := (hS.1 a g1).1
      refine ⟨1, S, c, Or.inr rfl, hS, fun σ Q h1 h2 h => ?_, fun μ Q h1 h2 _ h4 => ?_⟩
      · unfold wq_X4_doTold
        refine ⟨fun q => absurd (e1.mp q) (by omega), fun _ => ⟨fun q => absurd (e2.mp q) (by omega), fun _ => ⟨fun q => absurd (e3.mp q) (by omega), fun _ => ⟨fun q => absurd (e4.mp q) (by omega), fun _ => ⟨fun _ => ?_, fun q => absurd (e5.mpr g) q⟩⟩⟩⟩⟩
        refine sp2_hasTraveller h1.2.1 (by omega) (fun _ => ⟨fun q => absurd q (by decide), fun _ => ⟨vp_in_nI (by omega) (by omega), ?_⟩⟩) (fun v => absurd (vp_in_nI g1 (by omega)) v)
        rw [nI_clamp (by omega), (h2.1 a g1).1, g2]
        exact ⟨fun q => absurd rfl q, fun _ => h σ h2 fS.rf⟩
      · unfold wq_X7_tryThing
        refine ⟨fun q => absurd (e1.mp q) (by omega), fun _ => ⟨fun q => absurd (e2.mp q) (by omega), fun _ => ⟨fun q => absurd (e3.mp q) (by omega), fun _ => ⟨fun q => absurd (e4.mp q) (by omega), fun _ => ⟨fun _ => ?_, fun q => absurd (e5.mpr g) q⟩⟩⟩⟩⟩
        refine sp7_isTraveller h1.2.1 (by omega) (fun _ => ⟨fun q => absurd q (by decide), fun _ => ?_⟩) (fun v => absurd (vp_in_nI g1 (by omega)) v)
        rw [mx_14, nI_add, nI_clamp (by omega), (h2.1 a g1).1, g2]
        exact ⟨vp_in_nI (by omega) (by omega), fun q => absurd rfl q, fun _ => h4 μ h2 fM.rf⟩
    · refine both_no hS (fun σ Q h1 h2 h => ?_) (fun μ Q h1 h2 h4 => ?_)
      · unfold wq_X4_doTold
        refine ⟨fun q => absurd (e1.mp q) (by omega), fun _ => ⟨fun q => absurd (e2.mp q) (by omega), fun _ => ⟨fun q => absurd (e3.mp q) (by omega), fun _ => ⟨fun q => absurd (e4.mp q) (by omega), fun _ => ⟨fun _ => ?_, fun q => absurd (e5.mpr g) q⟩⟩⟩⟩⟩
        refine sp2_hasTraveller h1.2.1 (by omega) (fun v => ⟨fun q => absurd q (by decide), fun _ => ⟨?_, ?_⟩⟩) (fun v => ⟨fun _ => h, fun q => absurd rfl q⟩)
        all_goals obtain ⟨j, hj, ej⟩ := (mx_in (by omega)).mp v
        all_goals rw [nI_eq (by omega) (by omega)] at ej
        all_goals subst ej
        · exact vp_in_nI (by omega) (by omega)
        · have hp := (hS.1 a hj).1
          rw [nI_clamp (by omega), (h2.1 a hj).1, nI_eq (by omega) (by omega)]
          exact ⟨fun _ => h, fun q => absurd ⟨hj, q⟩ hg⟩
      · unfold wq_X7_tryThing
        refine ⟨fun q => absurd (e1.mp q) (by omega), fun _ => ⟨fun q => absurd (e2.mp q) (by omega), fun _ => ⟨fun q => absurd (e3.mp q) (by omega), fun _ => ⟨fun q => absurd (e4.mp q) (by omega), fun _ => ⟨fun _ => ?_, fun q => absurd (e5.mpr g) q⟩⟩⟩⟩⟩
        refine sp7_isTraveller h1.2.1 (by omega) (fun v => ⟨fun q => absurd q (by decide), fun _ => ?_⟩) (fun v => ⟨fun _ => same h2 h4, fun q => absurd rfl q⟩)
        obtain ⟨j, hj, ej⟩ := (mx_in (by omega)).mp v
        rw [nI_eq (by omega) (by omega)] at ej
        subst ej
        have hp := (hS.1 a hj).1
        rw [mx_14, nI_add, nI_clamp (by omega), (h2.1 a hj).1, nI_eq (by omega) (by omega)]
        exact ⟨vp_in_nI (by omega) (by omega), fun _ => same h2 h4, fun q => absurd ⟨hj, q⟩ hg⟩
  · refine both_no hS (fun σ Q h1 h2 h => ?_) (fun μ Q h1 h2 h4 => ?_)
    · unfold wq_X4_doTold
      exact ⟨fun q => absurd (e1.mp q) (by omega), fun _ => ⟨fun q => absurd (e2.mp q) (by omega), fun _ => ⟨fun q => absurd (e3.mp q) (by omega), fun _ => ⟨fun q => absurd (e4.mp q) (by omega), fun _ => ⟨fun q => absurd (e5.mp q) (by omega), fun _ => h⟩⟩⟩⟩⟩
    · unfold wq_X7_tryThing
      exact ⟨fun q => absurd (e1.mp q) (by omega), fun _ => ⟨fun q => absurd (e2.mp q) (by omega), fun _ => ⟨fun q => absurd (e3.mp q) (by omega), fun _ => ⟨fun q => absurd (e4.mp q) (by omega), fun _ => ⟨fun q => absurd (e5.mp q) (by omega), fun _ => same h2 h4⟩⟩⟩⟩⟩
