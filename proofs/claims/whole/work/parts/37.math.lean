/-! ===== maths 18: the whole reading, on both sides; fault ===== -/
theorem sp3_readPart_no {σ : gq_M} {r n i : Nat} {T : Nat → Int32} {F : Nat → Nat → Nat} {Q : Int32 → gq_M → Prop} (ht : tC σ n T) (hi : i < n) (hF : fOK F) (h : hC σ r F) (h1 : ¬ (T i = 70 ∧ F 0 0 < 10)) (h2 : ¬ (T i = 84 ∧ F 1 0 < 5)) (hQ : Q (nI i) σ) : wq_X3_readPart r (nI i) σ Q := by
  have hn := ht.1
  have hP := hF.1.1
  have hT := hF.1.2.1
  have hin : vp_in (nI i) 52 := vp_in_nI (by omega) (by omega)
  unfold wq_X3_readPart wq_X3_readPart_b27
  rw [nI_clamp (by omega), ht.2.2 i hi, h.1, h.2.1, mx_5, mx_10, nI_leI (by omega) (by omega), nI_leI (by omega) (by omega)]
  have m : vp_in (nI i) 52 ∧ ((¬ T i = 84 → Q (nI i) σ) ∧ (T i = 84 → ((5 ≤ F 1 0 → Q (nI i) σ) ∧ (¬ 5 ≤ F 1 0 → wq_X3_readTraveller r (nI i) σ (fun r4 σ5 => Q r4 σ5))))) := ⟨hin, fun _ => hQ, fun q => ⟨fun _ => hQ, fun r => absurd ⟨q, by omega⟩ h2⟩⟩
  exact ⟨hin, fun _ => m, fun q => ⟨fun _ => m, fun r => absurd ⟨q, by omega⟩ h1⟩⟩
theorem sp3_readPart_F {σ : gq_M} {r n i : Nat} {T : Nat → Int32} {F : Nat → Nat → Nat} {Q : Int32 → gq_M → Prop} (ht : tC σ n T) (hi : i < n) (h : hC σ r F) (h1 : T i = 70) (h2 : F 0 0 < 10) (hQ : wq_X3_readPleat r (nI i) σ Q) : wq_X3_readPart r (nI i) σ Q := by
  have hn := ht.1
  have hin : vp_in (nI i) 52 := vp_in_nI (by omega) (by omega)
  unfold wq_X3_readPart
  rw [nI_clamp (by omega), ht.2.2 i hi, h.1, mx_10, nI_leI (by omega) (by omega)]
  exact ⟨hin, fun q => absurd h1 q, fun _ => ⟨fun q => by omega, fun _ => hQ⟩⟩
theorem sp3_readPart_T {σ : gq_M} {r n i : Nat} {T : Nat → Int32} {F : Nat → Nat → Nat} {Q : Int32 → gq_M → Prop} (ht : tC σ n T) (hi : i < n) (h : hC σ r F) (h1 : T i = 84) (h2 : F 1 0 < 5) (hQ : wq_X3_readTraveller r (nI i) σ Q) : wq_X3_readPart r (nI i) σ Q := by
  have hn := ht.1
  have hin : vp_in (nI i) 52 := vp_in_nI (by omega) (by omega)
  unfold wq_X3_readPart wq_X3_readPart_b27
  rw [nI_clamp (by omega), ht.2.2 i hi, h.2.1, mx_5, nI_leI (by omega) (by omega), h1]
  exact ⟨hin, fun _ => ⟨hin, fun q => absurd rfl q, fun _ => ⟨fun q => by omega, fun _ => hQ⟩⟩, fun q => absurd q (by decide)⟩
theorem both_read {n : Nat} {T : Nat → Int32} (hn : n ≤ 52) : ∀ m i k (F : Nat → Nat → Nat), n - i ≤ m → i ≤ n → 1 + 3 * k ≤ i → fOK F → ∃ (res : Int32) (F2 : Nat → Nat → Nat), fOK F2 ∧ (∀ (r : Nat) (σ : gq_M) (Q : Int32 → gq_M → Prop), 3 ≤ r → tC σ n T → hC σ r F → (∀ τ, fRd σ τ r → (res = -9 → hC τ r F2) → Q res τ) → wq_X3_readInto_l28 r Q (fun τ => Q (-9) τ) (m + 1) (nI i) (nI k) σ) ∧ (∀ (μ : gq_M) (Q : Int32 → gq_M → Prop) (K : gq_M → Prop), tM μ n T → hM μ F → μ.1 0 13 = nI i → μ.1 0 14 = -9 → (∀ ν, fxM μ ν → ν.1 0 14 = res → (res = -9 → hM ν F2) → K ν) → wq_X7_readText_l46 Q K (m + 2) μ) := by
  intro m
  induction m with
  | zero =>
    intro i k F hm hi hk hF
    obtain rfl : i = n := by omega
    refine ⟨-9, F, hF, fun r σ Q hr ht hc h => ?_, fun μ Q K ht hc ha h9 h => ?_⟩
    · unfold wq_X3_readInto_l28
      rw [ht.2.1]
      exact ⟨fun _ => h σ fRd.rf (fun _ => hc), fun _ => ⟨fun _ => h σ fRd.rf (fun _ => hc), fun q => absurd (Int32.le_refl _) q⟩⟩
    · unfold wq_X7_readText_l46
      rw [h9, ht.2.1, ha]
      exact ⟨fun q => absurd rfl q, fun _ => ⟨fun _ => h μ fxM.rf h9 (fun _ => hc), fun q => absurd (Int32.le_refl _) q⟩⟩
  | succ m ih =>
    intro i k F hm hi hk hF
    have hP := hF.1.1
    have hT := hF.1.2.1
    by_cases hin : i = n
    · subst hin
      refine ⟨-9, F, hF, fun r σ Q hr ht hc h => ?_, fun μ Q K ht hc ha h9 h => ?_⟩
      · unfold wq_X3_readInto_l28
        rw [ht.2.1]
        exact ⟨fun _ => h σ fRd.rf (fun _ => hc), fun _ => ⟨fun _ => h σ fRd.rf (fun _ => hc), fun q => absurd (Int32.le_refl _) q⟩⟩
      · unfold wq_X7_readText_l46
        rw [h9, ht.2.1, ha]
        exact ⟨fun q => absurd rfl q, fun _ => ⟨fun _ => h μ fxM.rf h9 (fun _ => hc), fun q => absurd (Int32.le_refl _) q⟩⟩
    have hin' : i < n := by omega
    -- what a step of each loop asks
    have c6 : ∀ (r : Nat) (σ : gq_M) (Q : Int32 → gq_M → Prop), tC σ n T → wq_X3_readPart r (nI i) σ (fun r7 σ8 => ((r7 = (-9) → vp_in (nI i) 52 ∧ ((¬ (σ8.1 2 i) = 70 → wq_X3_readInto_b77 r Q (wq_X3_readInto_l28 r Q (fun τ => Q (-9) τ) (m + 1)) (nI k) (nI i) 4 σ8) ∧ ((σ8.1 2 i) = 70 → wq_X3_readInto_b77 r Q (wq_X3_readInto_l28 r Q (fun τ => Q (-9) τ) (m + 1)) (nI k) (nI i) 3 σ8))) ∧ (¬ r7 = (-9) → Q r7 σ8))) → wq_X3_readInto_l28 r Q (fun τ => Q (-9) τ) (m + 1 + 1) (nI i) (nI k) σ := by
      intro r σ Q ht h
      unfold wq_X3_readInto_l28
      rw [ht.2.1, mx_52, nI_leI (by omega) (by omega), nI_leI (by omega) (by omega), nI_clamp (by omega)]
      exact ⟨fun q => by omega, fun _ => ⟨fun q => by omega, fun _ => h⟩⟩
    have c7 : ∀ (μ : gq_M) (Q : Int32 → gq_M → Prop) (K : gq_M → Prop), tM μ n T → μ.1 0 13 = nI i → μ.1 0 14 = -9 → wq_X7_readPart (T i) μ (fun σ6 => wq_X7_readText_l46 Q K (m + 2) σ6) → wq_X7_readText_l46 Q K (m + 1 + 2) μ := by
      intro μ Q K ht ha h9 h
      unfold wq_X7_readText_l46
      rw [h9, ht.2.1, ha, nI_leI (by omega) (by omega), nI_clamp (by omega), ht.2.2 i hin']
      exact ⟨fun q => absurd rfl q, fun _ => ⟨fun q => by omega, fun _ => ⟨vp_in_nI (by omega) (by omega), h⟩⟩⟩
    -- the end at a fault
    have x7 : ∀ (μ ν : gq_M) (e : Nat) (Q : Int32 → gq_M → Prop) (K : gq_M → Prop), e < 100 → fxM μ ν → ν.1 0 14 = nI e → (∀ ν, fxM μ ν → ν.1 0 14 = nI e → (nI e = -9 → hM ν F) → K ν) → wq_X7_readText_l46 Q K (m + 2) ν := by
      intro μ ν e Q K he hf h9 h
      unfold wq_X7_readText_l46
      rw [h9]
      exact ⟨fun _ => h ν hf h9 (fun q => absurd q (mx_m9 (by omega))), fun q => absurd q (mx_m9 (by omega))⟩
    have bad : ∀ e : Nat, e < 100 → (∀ (r : Nat) (σ : gq_M) (Q : Int32 → gq_M → Prop), 3 ≤ r → tC σ n T → hC σ r F → Q (nI e) σ → wq_X3_readPart r (nI i) σ Q) → (∀ (μ : gq_M) (Q : gq_M → Prop), tM μ n T → hM μ F → μ.1 0 13 = nI i → μ.1 0 14 = -9 → (∀ ν, fxM μ ν → ν.1 0 14 = nI e → Q ν) → wq_X7_readPart (T i) μ Q) → ∃ (res : Int32) (F2 : Nat → Nat → Nat), fOK F2 ∧ (∀ (r : Nat) (σ : gq_M) (Q : Int32 → gq_M → Prop), 3 ≤ r → tC σ n T → hC σ r F → (∀ τ, fRd σ τ r → (res = -9 → hC τ r F2) → Q res τ) → wq_X3_readInto_l28 r Q (fun τ => Q (-9) τ) (m + 1 + 1) (nI i) (nI k) σ) ∧ (∀ (μ : gq_M) (Q : Int32 → gq_M → Prop) (K : gq_M → Prop), tM μ n T → hM μ F → μ.1 0 13 = nI i → μ.1 0 14 = -9 → (∀ ν, fxM μ ν → ν.1 0 14 = res → (res = -9 → hM ν F2) → K ν) → wq_X7_readText_l46 Q K (m + 1 + 2) μ) := by
      intro e he w3 w7
      refine ⟨nI e, F, hF, fun r σ Q hr ht hc h => c6 r σ Q ht (w3 r σ _ hr ht hc ⟨fun q => absurd q (mx_m9 (by omega)), fun _ => h σ fRd.rf (fun _ => hc)⟩), fun μ Q K ht hc ha h9 h => c7 μ Q K ht ha h9 (w7 μ _ ht hc ha h9 (fun ν hf h14 => x7 μ ν e Q K he hf h14 h))⟩
    by_cases hA : T i = 70 ∧ F 0 0 < 10
    · obtain ⟨eA, lA⟩ := hA
      by_cases g1 : px_gd T n (i + 1) 1 9
      · by_cases g2 : px_gd T n (i + 2) 0 3
        · have d1 := px_gd_d g1
          have d2 := px_gd_d g2
          obtain ⟨res, F2, o1, o2, o3⟩ := ih (i + 3) (k + 1) (px_addP F (px_d T (i + 1)) (px_d T (i + 2))) (by omega) (by omega) (by omega) (fOK_addP hF lA d1.2.1 d1.2.2.1 d2.2.2.1)
          refine ⟨res, F2, o1, fun r σ Q hr ht hc h => c6 r σ Q ht (sp3_readPart_F ht hin' hc eA lA (sp3_readPleat ht hin' lA hc (fun _ _ τ a b => ⟨fun _ => ⟨vp_in_nI (by omega) (by omega), ?_, ?_⟩, fun q => absurd rfl q⟩) (fun q => absurd g1 q) (fun _ q => absurd g2 q))), fun μ Q K ht hc ha h9 h => c7 μ Q K ht ha h9 ?_⟩
          · intro q
            rw [(a.t hr ht).2.2 i hin'] at q
            exact absurd eA q
          · intro _ v11 e11 v12 e12
            rw [e11, e12, mx_3, nI_add, nI_1]
            exact o2 r τ Q hr (a.t hr ht) b (fun υ p q => h υ (a.tr p) q)
          · rw [eA]
            exact sp7_readPart_F ht h9 ha hin' lA hc (fun _ _ ν a b c d => o3 ν Q K (a.t ht) d b c (fun ξ p q s => h ξ (a.tr p) q s)) (fun q => absurd g1 q) (fun _ q => absurd g2 q)
        · refine bad (i + 2) (by omega) (fun r σ Q hr ht hc h => sp3_readPart_F ht hin' hc eA lA (sp3_readPleat ht hin' lA hc (fun _ q => absurd q g2) (fun q => absurd g1 q) (fun _ _ => h))) (fun μ Q ht hc ha h9 h => ?_)
          rw [eA]
          exact sp7_readPart_F ht h9 ha hin' lA hc (fun _ q => absurd q g2) (fun q => absurd g1 q) (fun _ _ => h)
      · refine bad (i + 1) (by omega) (fun r σ Q hr ht hc h => sp3_readPart_F ht hin' hc eA lA (sp3_readPleat ht hin' lA hc (fun q => absurd q g1) (fun _ => h) (fun q => absurd q g1))) (fun μ Q ht hc ha h9 h => ?_)
        rw [eA]
        exact sp7_readPart_F ht h9 ha hin' lA hc (fun q => absurd q g1) (fun _ => h) (fun q => absurd q g1)
    by_cases hB : T i = 84 ∧ F 1 0 < 5
    · obtain ⟨eB, lB⟩ := hB
      by_cases g1 : px_gd T n (i + 1) 0 (min 9 (F 0 0))
      · by_cases g2 : px_gd T n (i + 2) 1 9
        · by_cases g3 : px_gd T n (i + 3) 0 3
          · have d1 := px_gd_d g1
            have d2 := px_gd_d g2
            have d3 := px_gd_d g3
            obtain ⟨res, F2, o1, o2, o3⟩ := ih (i + 4) (k + 1) (px_addT F (px_d T (i + 1)) (px_d T (i + 2)) (px_d T (i + 3))) (by omega) (by omega) (by omega) (fOK_addT hF lB (by omega) d2.2.1 d2.2.2.1 d3.2.2.1)
            refine ⟨res, F2, o1, fun r σ Q hr ht hc h => c6 r σ Q ht (sp3_readPart_T ht hin' hc eB lB (sp3_readTraveller ht hin' hP lB hc (fun _ _ _ τ a b => ⟨fun _ => ⟨vp_in_nI (by omega) (by omega), ?_, ?_⟩, fun q => absurd rfl q⟩) (fun q => absurd g1 q) (fun _ q => absurd g2 q) (fun _ _ q => absurd g3 q))), fun μ Q K ht hc ha h9 h => c7 μ Q K ht ha h9 ?_⟩
            · intro _ v11 e11 v12 e12
              rw [e11, e12, mx_4, nI_add, nI_1]
              exact o2 r τ Q hr (a.t hr ht) b (fun υ p q => h υ (a.tr p) q)
            · intro q
              rw [(a.t hr ht).2.2 i hin', eB] at q
              exact absurd q (by decide)
            · rw [eB]
              exact sp7_readPart_T ht h9 ha hin' hP lB hc (fun _ _ _ ν a b c d => o3 ν Q K (a.t ht) d b c (fun ξ p q s => h ξ (a.tr p) q s)) (fun q => absurd g1 q) (fun _ q => absurd g2 q) (fun _ _ q => absurd g3 q)
          · refine bad (i + 3) (by omega) (fun r σ Q hr ht hc h => sp3_readPart_T ht hin' hc eB lB (sp3_readTraveller ht hin' hP lB hc (fun _ _ q => absurd q g3) (fun q => absurd g1 q) (fun _ q => absurd g2 q) (fun _ _ _ => h))) (fun μ Q ht hc ha h9 h => ?_)
            rw [eB]
            exact sp7_readPart_T ht h9 ha hin' hP lB hc (fun _ _ q => absurd q g3) (fun q => absurd g1 q) (fun _ q => absurd g2 q) (fun _ _ _ => h)
        · refine bad (i + 2) (by omega) (fun r σ Q hr ht hc h => sp3_readPart_T ht hin' hc eB lB (sp3_readTraveller ht hin' hP lB hc (fun _ q => absurd q g2) (fun q => absurd g1 q) (fun _ _ => h) (fun _ q => absurd q g2))) (fun μ Q ht hc ha h9 h => ?_)
          rw [eB]
          exact sp7_readPart_T ht h9 ha hin' hP lB hc (fun _ q => absurd q g2) (fun q => absurd g1 q) (fun _ _ => h) (fun _ q => absurd q g2)
      · refine bad (i + 1) (by omega) (fun r σ Q hr ht hc h => sp3_readPart_T ht hin' hc eB lB (sp3_readTraveller ht hin' hP lB hc (fun q => absurd q g1) (fun _ => h) (fun q => absurd q g1) (fun q => absurd q g1))) (fun μ Q ht hc ha h9 h => ?_)
        rw [eB]
        exact sp7_readPart_T ht h9 ha hin' hP lB hc (fun q => absurd q g1) (fun _ => h) (fun q => absurd q g1) (fun q => absurd q g1)
    · exact bad i (by omega) (fun r σ Q hr ht hc h => sp3_readPart_no ht hin' hF hc hA hB h) (fun μ Q ht hc ha h9 h => sp7_readPart_no ha hF hc hA hB h)
def px_F0 : Nat → Nat → Nat := fun _ _ => 0
theorem fOK0 : fOK px_F0 := ⟨⟨by decide, by decide, fun i hi => absurd hi (Nat.not_lt_zero _), fun i hi => absurd hi (Nat.not_lt_zero _)⟩, fun i hi => absurd hi (Nat.not_lt_zero _)⟩
theorem both_text {n : Nat} (T : Nat → Int32) (hn : n ≤ 52) : ∃ (res : Int32) (F2 : Nat → Nat → Nat), fOK F2 ∧ (∀ (r : Nat) (σ : gq_M) (Q : Int32 → gq_M → Prop), 3 ≤ r → tC σ n T → (∀ τ, fRd σ τ r → (res = -9 → hC τ r F2) → Q res τ) → wq_X3_readInto r σ Q) ∧ (∀ (μ : gq_M) (Q : Int32 → gq_M → Prop), tM μ n T → (∀ ν, fxM μ ν → (res = -9 → hM ν F2) → Q res ν) → wq_X7_readText μ Q) := by
  have cl : ∀ (r : Nat) (σ : gq_M), fRd σ (gq_put (gq_put σ r 5 0) r 6 0) r ∧ hC (gq_put (gq_put σ r 5 0) r 6 0) r px_F0 := fun r σ => ⟨(fRd.rf.put (by omega) (by omega)).put (by omega) (by omega), by rw [mx_rs, if_neg (by omega), mx_rs, if_pos rfl]; rfl, by rw [mx_rs, if_pos rfl]; rfl, fun i hi => absurd hi (Nat.not_lt_zero _), fun i hi => absurd hi (Nat.not_lt_zero _)⟩
  have fb : ∀ μ : gq_M, fxM μ (gq_put (gq_put (gq_put (gq_put μ 0 13 0) 0 14 (-9)) 0 9 0) 0 10 0) := fun μ => (((fxM.rf.put0 (by omega)).put0 (by omega)).put0 (by omega)).put0 (by omega)
  have bad0 : (∀ σ : gq_M, tC σ n T → σ.1 1 1 = 0 ∨ ¬ σ.1 1 1 = 0 ∧ ¬ σ.1 2 0 = 82) → (∀ μ : gq_M, tM μ n T → μ.1 0 12 = 0 ∨ ¬ μ.1 0 12 = 0 ∧ ¬ μ.1 8 0 = 82) → ∃ (res : Int32) (F2 : Nat → Nat → Nat), fOK F2 ∧ (∀ (r : Nat) (σ : gq_M) (Q : Int32 → gq_M → Prop), 3 ≤ r → tC σ n T → (∀ τ, fRd σ τ r → (res = -9 → hC τ r F2) → Q res τ) → wq_X3_readInto r σ Q) ∧ (∀ (μ : gq_M) (Q : Int32 → gq_M → Prop), tM μ n T → (∀ ν, fxM μ ν → (res = -9 → hM ν F2) → Q res ν) → wq_X7_readText μ Q) := by
    intro b3 b7
    refine ⟨0, px_F0, fOK0, fun r σ Q hr ht h => ?_, fun μ Q ht h => ?_⟩
    · unfold wq_X3_readInto wq_X2_clear
      have fin := h _ (cl r σ).1 (fun q => absurd q (by decide))
      rcases b3 _ ((cl r σ).1.t hr ht) with b | ⟨b, d⟩
      · exact ⟨fun _ => fin, fun q => absurd b q⟩
      · exact ⟨fun _ => fin, fun _ => ⟨fun q => absurd q d, fun _ => fin⟩⟩
    · unfold wq_X7_readText
      have fin := h _ (fb μ) (fun q => absurd q (by decide))
      rcases b7 _ ((fb μ).t ht) with b | ⟨b, d⟩
      · exact ⟨fun _ => fin, fun q => absurd b q⟩
      · exact ⟨fun _ => fin, fun _ => ⟨fun q => absurd q d, fun _ => fin⟩⟩
  by_cases h0 : n = 0
  · subst h0
    exact bad0 (fun σ ht => Or.inl ht.2.1) (fun μ ht => Or.inl ht.2.1)
  by_cases h82 : T 0 = 82
  · obtain ⟨res, F2, o1, o2, o3⟩ := both_read (T := T) hn (n - 1) 1 0 px_F0 (by omega) (by omega) (by omega) fOK0
    refine ⟨res, F2, o1, fun r σ Q hr ht h => ?_, fun μ Q ht h => ?_⟩
    · unfold wq_X3_readInto wq_X2_clear
      have ht' := (cl r σ).1.t hr ht
      have nz : ¬ nI n = 0 := nI_ne0 (by omega) (by omega)
      exact ⟨fun q => absurd (ht'.2.1.symm.trans q) nz, fun _ => ⟨fun _ => ⟨n - 1 + 1, o2 r _ Q hr ht' (cl r σ).2 (fun τ a b => h τ ((cl r σ).1.tr a) b)⟩, fun q => absurd ((ht'.2.2 0 (by omega)).trans h82) q⟩⟩
    · unfold wq_X7_readText wq_X7_readText_b82
      have ht' := (fb μ).t ht
      have nz : ¬ nI n = 0 := nI_ne0 (by omega) (by omega)
      have f13 : fxM μ (gq_put (gq_put (gq_put (gq_put (gq_put μ 0 13 0) 0 14 (-9)) 0 9 0) 0 10 0) 0 13 1) := (fb μ).put0 (by omega)
      refine ⟨fun q => absurd (ht'.2.1.symm.trans q) nz, fun _ => ⟨fun _ => ⟨n - 1 + 2, o3 _ Q _ (f13.t ht) ⟨?_, ?_, fun i hi => absurd hi (Nat.not_lt_zero _), fun i hi => absurd hi (Nat.not_lt_zero _)⟩ ?_ ?_ (fun ν a b c => by rw [b]; exact h ν (f13.tr a) c)⟩, fun q => absurd ((ht'.2.2 0 (by omega)).trans h82) q⟩⟩
      · rw [mx_0j (by omega), mx_0j (by omega), mx_0s]; rfl
      · rw [mx_0j (by omega), mx_0s]; rfl
      · rw [mx_0s]; rfl
      · rw [mx_0j (by omega), mx_0j (by omega), mx_0j (by omega), mx_0s]
  · exact bad0 (fun σ ht => Or.inr ⟨by rw [ht.2.1]; exact nI_ne0 (by omega) (by omega), by rw [ht.2.2 0 (by omega)]; exact h82⟩) (fun μ ht => Or.inr ⟨by rw [ht.2.1]; exact nI_ne0 (by omega) (by omega), by rw [ht.2.2 0 (by omega)]; exact h82⟩)
theorem sim_fault {σ μ : gq_M} (h : Rel σ μ) : gl_S_fault Rel σ μ := by
  obtain ⟨_, ⟨n, hn, t1, t2, t3⟩, _⟩ := id h
  obtain ⟨res, F2, o1, o2, o3⟩ := both_text (n := n) (σ.1 2) hn
  unfold gl_S_fault wq_X6_fault wq_X7_fault
  refine o2 3 σ _ (by omega) ⟨hn, t1, fun _ _ => rfl⟩ (fun τ a _ => ?_)
  refine o3 μ _ ⟨hn, t2, fun i hi => (t3 i hi).symm⟩ (fun ν b _ => ⟨rfl, h.fx ⟨fun c hc => a.1 c ?_, a.2⟩ b⟩)
  unfold kC at hc
  omega
