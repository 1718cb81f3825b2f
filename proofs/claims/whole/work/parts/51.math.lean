/-! ===== maths 32: wants ===== -/
theorem px_mask_mono {R S : Nat → Nat → Nat} {t g g' ice p : Nat} (hR : rOK R) (hS : sOK R S) (ht : t < R 1 0) (hg : ∀ i, i < R 0 0 → g.testBit i = true → g'.testBit i = true) (h : (px_mask R S t g ice).testBit p = true) : (px_mask R S t g' ice).testBit p = true := by
  rw [(px_mask_is hR hS ht).2] at h ⊢
  obtain ⟨n, e, h1, h2⟩ := h
  obtain ⟨e', a1, a2, _⟩ := px_at_mono hR ht (px_s0_v hR hS ht).1 hg n e h1
  refine ⟨n, e', a1, ?_⟩
  rw [← (px_nd_p e').1, ← a2, (px_nd_p e).1]
  exact h2
theorem sp6_wants {R S : Nat → Nat → Nat} {t p : Nat} {c : Int32} {σ : gq_M} {Q : Int32 → gq_M → Prop} (hR : rOK R) (hS : sOK R S) (ht : t < R 1 0) (hp : p ≤ 10) (hc : cRd σ R) (hcS : cSt σ 30 R S c) (h1 : ∀ b, px_best R S t p (2 ^ R 0 0) b → ∀ τ, fP kW σ τ → Q (nI b) τ) (h2 : (∀ s, s < 2 ^ R 0 0 → ¬ px_gs R S t p s) → ∀ τ, fP kW σ τ → Q (-9) τ) : ∃ n29, wq_X6_wants_l53 Q (fun σ28 => Q (-9) σ28) n29 (nI t) (nI p) (nI (2 ^ R 0 0 - 1)) 0 σ := by
  have hP := hR.1
  have hg := hS.2.1
  have h2p : 2 ^ R 0 0 ≤ 2 ^ 10 := Nat.pow_le_pow_right (by omega) hP
  have hpos : 0 < 2 ^ R 0 0 := Nat.two_pow_pos _
  have key : ∀ m z τ, z + m = R 0 0 + 1 → fP kW σ τ → (∀ s, s < 2 ^ R 0 0 → px_pc s 11 < z → ¬ px_gs R S t p s) → wq_X6_wants_l53 Q (fun σ28 => Q (-9) σ28) (m + 1) (nI t) (nI p) (nI (2 ^ R 0 0 - 1)) (nI z) τ := by
    intro m
    induction m with
    | zero =>
      intro z τ hz hf hno
      obtain rfl : z = R 0 0 + 1 := by omega
      unfold wq_X6_wants_l53
      rw [(hf.cRd hc).1, nI_ltI (by omega) (by omega)]
      refine ⟨fun _ => h2 (fun s hs => hno s hs ?_) τ hf, fun q => by omega⟩
      have := px_pc_lt hs 11
      omega
    | succ m ih =>
      intro z τ hz hf hno
      unfold wq_X6_wants_l53
      rw [(hf.cRd hc).1, nI_ltI (by omega) (by omega)]
      refine ⟨fun q => by omega, fun _ => ?_⟩
      have kin : ∀ n k τ2, k + n = 2 ^ R 0 0 → fP kW σ τ2 → (∀ s, s < k → px_pc s 11 = z → ¬ px_gs R S t p s) → wq_X6_wants_l68 Q (fun e21 e22 e23 e24 σ25 => ∀ v26, v26 = (e24 + 1) → wq_X6_wants_l53 Q (fun σ28 => Q (-9) σ28) (m + 1) e21 e22 e23 v26 σ25) (n + 1) (nI t) (nI p) (nI (2 ^ R 0 0 - 1)) (nI z) (nI k) τ2 := by
        intro n
        induction n with
        | zero =>
          intro k τ2 hk hf2 hno2
          have hk' : k = 2 ^ R 0 0 := by omega
          unfold wq_X6_wants_l68
          rw [nI_ltI (by omega) (by omega)]
          refine ⟨fun _ v26 e26 => ?_, fun q => by omega⟩
          rw [e26, nI_1]
          refine ih (z + 1) τ2 (by omega) hf2 (fun s hs hpc => ?_)
          rcases Nat.lt_or_ge (px_pc s 11) z with y | y
          · exact hno s hs y
          · exact hno2 s (by omega) (by omega)
        | succ n ihn =>
          intro k τ2 hk hf2 hno2
          have hk' : k < 2 ^ R 0 0 := by omega
          have hand : k &&& S 2 0 ≤ k := Nat.and_le_left
          have hor : S 2 0 ||| k < 1024 := Nat.or_lt_two_pow (n := 10) hg (by omega)
          have l2 := px_pc_le k 11
          have e30 : τ2.1 30 3 = nI (S 2 0) := (hf2.cSt (by omega) hcS).2.1
          unfold wq_X6_wants_l68
          rw [nI_ltI (by omega) (by omega)]
          refine ⟨fun q => by omega, fun _ => sp6_bitCount (by omega) ?_⟩
          rw [e30, mx_and, nI_eq (by omega) (by omega), mx_or, mx_0, nI_eq (by omega) (by omega)]
          have skip : ∀ τ3, fP kW σ τ3 → (px_pc k 11 = z → ¬ px_gs R S t p k) → wq_X6_wants_b120 Q (wq_X6_wants_l68 Q (fun e21 e22 e23 e24 σ25 => ∀ v26, v26 = (e24 + 1) → wq_X6_wants_l53 Q (fun σ28 => Q (-9) σ28) (m + 1) e21 e22 e23 v26 σ25) (n + 1)) (nI t) (nI p) (nI (2 ^ R 0 0 - 1)) (nI z) (nI k) τ3 := by
            intro τ3 hf3 hk3
            unfold wq_X6_wants_b120
            intro v16 e16
            rw [e16, nI_1]
            refine ihn (k + 1) τ3 (by omega) hf3 (fun s hs hpc => ?_)
            rcases Nat.lt_or_ge s k with y | y
            · exact hno2 s y hpc
            · have es : s = k := by omega
              rw [es] at hpc ⊢
              exact hk3 hpc
          refine ⟨fun q => skip τ2 hf2 (fun y => absurd y q), fun q => ⟨fun q2 => skip τ2 hf2 (fun _ y => q2 y.1), fun q2 => ?_⟩⟩
          refine sp6_comesWith (ice := 0) hR hS ht hp (hf2.cRd hc) (hf2.cSt (by omega) hcS) hor (by omega) (fun τ3 hf3 => ?_)
          cases hx : (px_mask R S t (S 2 0 ||| k) 0).testBit p with
          | false => exact ⟨fun _ => skip τ3 (hf2.tr hf3) (fun _ y => by have := y.2; rw [hx] at this; cases this), fun y => absurd rfl y⟩
          | true =>
            refine ⟨fun y => absurd y (by decide), fun _ => h1 k ⟨hk', ⟨q2, hx⟩, fun s hs gs => ?_⟩ τ3 (hf2.tr hf3)⟩
            rcases Nat.lt_trichotomy (px_pc s 11) z with y | y | y
            · exact absurd gs (hno s hs y)
            · rcases Nat.lt_or_ge s k with w | w
              · exact absurd gs (hno2 s w y)
              · exact Or.inr ⟨by omega, w⟩
            · exact Or.inl (by omega)
      exact ⟨2 ^ R 0 0 + 1, kin (2 ^ R 0 0) 0 τ (by omega) hf (fun s hs => absurd hs (by omega))⟩
  exact ⟨R 0 0 + 2, key (R 0 0 + 1) 0 σ (by omega) fP.rf (fun s hs hpc => absurd hpc (by omega))⟩
theorem sim_wants {σ μ : gq_M} (h : Rel σ μ) : gl_S_wants Rel σ μ := by
  obtain ⟨⟨R, hR, hc, hm, ⟨S, c, hS, hcS, hmS⟩, ha, hk⟩, ht, hh, h2s, hi⟩ := id h
  have hT := hR.2.1
  have hP := hR.1
  have h2p : 2 ^ R 0 0 ≤ 2 ^ 10 := Nat.pow_le_pow_right (by omega) hP
  have hpos : 0 < 2 ^ R 0 0 := Nat.two_pow_pos _
  intro a1 a2
  unfold wq_X6_wants
  refine sp2_hasTraveller hc.2.1 (by omega) (fun v => ⟨fun q => absurd q (by decide), fun _ => ?_⟩) (fun v => ⟨fun _ => ?_, fun q => absurd rfl q⟩)
  · refine sp2_hasPlace hc.1 (by omega) (fun v2 => ⟨fun _ => ?_, fun q => absurd q (by decide)⟩) (fun v2 => ⟨fun q => absurd rfl q, fun _ => ?_⟩)
    · obtain ⟨t, ht1, e⟩ := (mx_in (by omega)).mp v
      subst e
      obtain ⟨p, hp1, e⟩ := (mx_in (by omega)).mp v2
      subst e
      have m7 : ∀ Q : Int32 → gq_M → Prop, (∃ n24, wq_X7_wants_l24 Q (fun e22 σ23 => Q e22 σ23) n24 (nI t) (nI p) (-9) 0 μ) → wq_X7_wants (nI t) (nI p) μ Q := by
        intro Q hQ
        unfold wq_X7_wants
        refine sp7_isTraveller hm.2.1 (by omega) (fun _ => ⟨fun q => absurd q (by decide), fun _ => ?_⟩) (fun w => absurd v w)
        exact sp7_isPlace hm.1 (by omega) (fun _ => ⟨fun _ => hQ, fun q => absurd q (by decide)⟩) (fun w => absurd v2 w)
      intro v7 e7
      rw [hc.1, mx_shl (by omega), mx_1, pk_sub (by omega)] at e7
      subst e7
      refine sp6_comesWith (ice := 0) hR hS ht1 (by omega) hc hcS (by omega) (by omega) (fun τ a => ?_)
      cases hx : (px_mask R S t (2 ^ R 0 0 - 1) 0).testBit p with
      | false =>
        refine ⟨fun q => absurd rfl q, fun _ => m7 _ ?_⟩
        refine sp7_wants hR hS ht1 (by omega) hm hmS hi (fun b g => ?_) (fun _ ν b => ⟨rfl, h.fx a.fxC b⟩)
        have := px_mask_mono hR hS ht1 (g' := 2 ^ R 0 0 - 1) (fun i hi2 _ => by rw [Nat.testBit_two_pow_sub_one]; simpa using hi2) g.2.1.2
        rw [hx] at this
        cases this
      | true =>
        refine ⟨fun _ => ?_, fun q => absurd q (by decide)⟩
        refine sp6_wants hR hS ht1 (by omega) (a.cRd hc) (a.cSt (by omega) hcS) (fun b g τ2 a2 => m7 _ ?_) (fun g τ2 a2 => m7 _ ?_)
        · refine sp7_wants hR hS ht1 (by omega) hm hmS hi (fun b' g' ν y => ⟨by rw [px_best_u g g'], h.fx (a.tr a2).fxC y⟩) (fun g' => absurd g.2.1 (g' b g.1))
        · exact sp7_wants hR hS ht1 (by omega) hm hmS hi (fun b' g' => absurd g'.2.1 (g b' g'.1)) (fun _ ν y => ⟨rfl, h.fx (a.tr a2).fxC y⟩)
    · unfold wq_X7_wants
      refine sp7_isTraveller hm.2.1 (by omega) (fun _ => ⟨fun q => absurd q (by decide), fun _ => ?_⟩) (fun w => absurd v w)
      exact sp7_isPlace hm.1 (by omega) (fun w => absurd w v2) (fun _ => ⟨fun q => absurd rfl q, fun _ => ⟨rfl, h⟩⟩)
  · unfold wq_X7_wants
    exact sp7_isTraveller hm.2.1 (by omega) (fun w => absurd w v) (fun _ => ⟨fun _ => ⟨rfl, h⟩, fun q => absurd rfl q⟩)
