/-! ===== maths 19: road ===== -/
def fP (P : Nat → Prop) (σ τ : gq_M) : Prop := (∀ c, ¬ P c → τ.1 c = σ.1 c) ∧ τ.2 = σ.2
theorem fP.rf {P : Nat → Prop} {σ : gq_M} : fP P σ σ := ⟨fun _ _ => rfl, rfl⟩
theorem fP.tr {P : Nat → Prop} {σ τ υ : gq_M} (h1 : fP P σ τ) (h2 : fP P τ υ) : fP P σ υ := ⟨fun c h => (h2.1 c h).trans (h1.1 c h), h2.2.trans h1.2⟩
theorem fP.put {P : Nat → Prop} {σ τ : gq_M} {i j : Nat} {x : Int32} (h : fP P σ τ) (hi : P i) : fP P σ (gq_put τ i j x) := ⟨fun c hc => by rw [gq_put_other _ _ _ _ (fun (e : c = i) => hc (by rw [e]; exact hi))]; exact h.1 c hc, h.2⟩
def px_sm (R : Nat → Nat → Nat) : Nat → Nat
  | 0 => 0
  | n + 1 => px_sm R n ||| (if R 3 n = 2 then 2 ^ n else 0)
theorem px_sm_lt (R : Nat → Nat → Nat) : ∀ n, px_sm R n < 2 ^ n
  | 0 => by unfold px_sm; decide
  | n + 1 => by
    have h1 := px_sm_lt R n
    have h2 : 2 ^ n < 2 ^ (n + 1) := Nat.pow_lt_pow_right (by omega) (by omega)
    unfold px_sm
    split
    · exact Nat.or_lt_two_pow (by omega) h2
    · exact Nat.or_lt_two_pow (by omega) (Nat.two_pow_pos _)
theorem px_sm_1024 {R : Nat → Nat → Nat} (hR : rOK R) : px_sm R (R 0 0) < 1024 := by
  have h1 := px_sm_lt R (R 0 0)
  have h2 : 2 ^ R 0 0 ≤ 2 ^ 10 := Nat.pow_le_pow_right (by omega) hR.1
  omega
theorem sp2_smoothOnes {R : Nat → Nat → Nat} {σ : gq_M} {Q : Int32 → gq_M → Prop} (hR : rOK R) (hc : cRd σ R) (h : Q (nI (px_sm R (R 0 0))) σ) : wq_X2_smoothOnes 9 σ Q := by
  have hP := hR.1
  have key : ∀ m k, k + m = R 0 0 → wq_X2_smoothOnes_l4 9 Q (fun e5 σ6 => Q e5 σ6) (m + 1) (nI (px_sm R k)) (nI k) σ := by
    intro m
    induction m with
    | zero =>
      intro k hk
      obtain rfl : k = R 0 0 := by omega
      unfold wq_X2_smoothOnes_l4
      rw [hc.1]
      exact ⟨fun _ => h, fun q => absurd (Int32.le_refl _) q⟩
    | succ m ih =>
      intro k hk
      have h3 := (hR.2.2.1 k (by omega)).2.2
      unfold wq_X2_smoothOnes_l4 wq_X2_smoothOnes_b30
      rw [hc.1, nI_leI (by omega) (by omega), nI_clamp (by omega), show (9 : Nat) + 2 = 11 from rfl, (hc.2.2.1 k (by omega)).2, mx_2, nI_eq (by omega) (by omega), mx_shl (by omega), mx_or]
      have hn := ih (k + 1) (by omega)
      unfold px_sm at hn
      refine ⟨fun q => by omega, fun _ => ⟨vp_in_nI (by omega) (by omega), fun q v3 e3 v4 e4 => ?_, fun q v3 e3 v4 e4 => ?_⟩⟩
      · rw [if_neg q] at hn
        rw [e3, e4, nI_1, mx_0, mx_or]; exact hn
      · rw [if_pos q] at hn
        rw [e3, e4, nI_1]; exact hn
  exact ⟨R 0 0 + 1, key (R 0 0) 0 (by omega)⟩
theorem sp7_smooth {R : Nat → Nat → Nat} {σ : gq_M} {Q : Int32 → gq_M → Prop} (hR : rOK R) (hc : mRd σ R) (h : Q (nI (px_sm R (R 0 0))) σ) : wq_X7_smooth σ Q := by
  have hP := hR.1
  have key : ∀ m k, k + m = R 0 0 → wq_X7_smooth_l4 Q (fun e5 σ6 => Q e5 σ6) (m + 1) (nI (px_sm R k)) (nI k) σ := by
    intro m
    induction m with
    | zero =>
      intro k hk
      obtain rfl : k = R 0 0 := by omega
      unfold wq_X7_smooth_l4
      rw [hc.1]
      exact ⟨fun _ => h, fun q => absurd (Int32.le_refl _) q⟩
    | succ m ih =>
      intro k hk
      have h3 := (hR.2.2.1 k (by omega)).2.2
      unfold wq_X7_smooth_l4 wq_X7_smooth_b30
      rw [hc.1, nI_leI (by omega) (by omega), nI_clamp (by omega), (hc.2.2.1 k (by omega)).2, mx_2, nI_eq (by omega) (by omega), mx_shl (by omega), mx_or]
      have hn := ih (k + 1) (by omega)
      unfold px_sm at hn
      refine ⟨fun q => by omega, fun _ => ⟨vp_in_nI (by omega) (by omega), fun q v3 e3 v4 e4 => ?_, fun q v3 e3 v4 e4 => ?_⟩⟩
      · rw [if_neg q] at hn
        rw [e3, e4, nI_1, mx_0, mx_or]; exact hn
      · rw [if_pos q] at hn
        rw [e3, e4, nI_1]; exact hn
  exact ⟨R 0 0 + 1, key (R 0 0) 0 (by omega)⟩
def px_S0 (F : Nat → Nat → Nat) : Nat → Nat → Nat := fun c k => if c = 0 then F 6 k else if c = 1 then F 4 k else if k = 0 then px_sm F (F 0 0) else 0
theorem sOK_S0 {F : Nat → Nat → Nat} (h : fOK F) : sOK F (px_S0 F) := by
  have := px_sm_1024 h.1
  refine ⟨fun t ht => ⟨?_, ?_⟩, ?_, ?_, ?_⟩
  · unfold px_S0; simpa using h.2 t ht
  · unfold px_S0; simp
  · unfold px_S0; simpa using this
  · unfold px_S0; simp
  · unfold px_S0; simp
theorem hC_cRd {σ : gq_M} {F : Nat → Nat → Nat} (h : hC σ 9 F) : cRd σ F := ⟨h.1, h.2.1, h.2.2.1, fun t ht => ⟨(h.2.2.2 t ht).2.1, (h.2.2.2 t ht).2.2⟩⟩
theorem sp4_begin {F : Nat → Nat → Nat} {σ : gq_M} {Q : gq_M → Prop} (hF : fOK F) (hc : hC σ 9 F) (h : ∀ τ, fS σ τ 30 → cSt τ 30 F (px_S0 F) 0 → Q τ) : wq_X4_begin 30 σ Q := by
  have hT := hF.1.2.1
  have key : ∀ m k τ, k + m = F 1 0 → fS σ τ 30 → (∀ t, t < k → τ.1 31 t = nI (F 6 t) ∧ τ.1 32 t = nI (F 4 t)) → wq_X4_begin_l2 30 Q (fun σ3 => wq_X2_smoothOnes 9 σ3 (fun r4 σ5 => Q (gq_put (gq_put (gq_put (gq_put σ5 30 3 r4) 30 4 0) 30 5 0) 30 6 0))) (m + 1) (nI k) τ := by
    intro m
    induction m with
    | zero =>
      intro k τ hk hf hl
      obtain rfl : k = F 1 0 := by omega
      unfold wq_X4_begin_l2
      have hc2 : cRd τ F := hf.rd (by omega) (hC_cRd hc)
      rw [hc2.2.1]
      refine ⟨fun _ => sp2_smoothOnes hF.1 hc2 ?_, fun q => absurd (Int32.le_refl _) q⟩
      refine h _ ((((hf.put (by omega)).put (by omega)).put (by omega)).put (by omega)) ⟨fun t ht => ⟨?_, ?_⟩, ?_, ?_, ?_, ?_⟩
      · rw [mx_ro (by omega), mx_ro (by omega), mx_ro (by omega), mx_ro (by omega)]
        unfold px_S0; simpa using (hl t ht).1
      · rw [mx_ro (by omega), mx_ro (by omega), mx_ro (by omega), mx_ro (by omega)]
        unfold px_S0; simpa using (hl t ht).2
      · rw [mx_rs, if_neg (by omega), mx_rs, if_neg (by omega), mx_rs, if_neg (by omega), mx_rs, if_pos rfl]
        unfold px_S0; simp
      · rw [mx_rs, if_neg (by omega), mx_rs, if_neg (by omega), mx_rs, if_pos rfl]
        unfold px_S0 px_ob; simp; rfl
      · rw [mx_rs, if_neg (by omega), mx_rs, if_pos rfl]
        unfold px_S0; simp; rfl
      · rw [mx_rs, if_pos rfl]
    | succ m ih =>
      intro k τ hk hf hl
      have hin : vp_in (nI k) 5 := vp_in_nI (by omega) (by omega)
      unfold wq_X4_begin_l2
      have e96 : τ.1 9 6 = nI (F 1 0) := by rw [hf.1 9 (by omega) (by omega) (by omega)]; exact hc.2.1
      have e12 : τ.1 12 k = nI (F 6 k) := by rw [hf.1 12 (by omega) (by omega) (by omega)]; exact (hc.2.2.2 k (by omega)).1
      have e13 : τ.1 13 k = nI (F 4 k) := by rw [hf.1 13 (by omega) (by omega) (by omega)]; exact (hc.2.2.2 k (by omega)).2.1
      rw [e96, nI_leI (by omega) (by omega), nI_clamp (by omega), mx_ro (by omega), e12, e13]
      refine ⟨fun q => by omega, fun _ => ⟨hin, hin, hin, hin, fun v2 e2 => ?_⟩⟩
      rw [e2, nI_1]
      refine ih (k + 1) _ (by omega) ((hf.put (by omega)).put (by omega)) (fun t ht => ⟨?_, ?_⟩)
      · rw [mx_ro (by omega), mx_rs]
        by_cases e : t = k
        · rw [if_pos e, e]
        · rw [if_neg e]; exact (hl t (by omega)).1
      · rw [mx_rs]
        by_cases e : t = k
        · rw [if_pos e, e]
        · rw [if_neg e, mx_ro (by omega)]; exact (hl t (by omega)).2
  exact ⟨F 1 0 + 1, key (F 1 0) 0 σ (by omega) fS.rf (fun t ht => absurd ht (by omega))⟩
theorem sp6_road_l48 {σ : gq_M} {Q : Int32 → gq_M → Prop} {K : gq_M → Prop} (h : ∀ τ, fP (fun c => c = 27) σ τ → τ.1 27 0 = 0 → τ.1 27 1 = 0 → K τ) : ∃ n, wq_X6_road_l48 Q K n 0 σ := by
  refine ⟨3, ?_⟩
  unfold wq_X6_road_l48
  refine ⟨fun q => absurd q (by decide), fun _ => ⟨vp_in_iff.mpr ⟨by decide, by decide⟩, fun v9 e9 => ?_⟩⟩
  subst e9
  unfold wq_X6_road_l48
  refine ⟨fun q => absurd q (by decide), fun _ => ⟨vp_in_iff.mpr ⟨by decide, by decide⟩, fun v9 e9 => ?_⟩⟩
  subst e9
  unfold wq_X6_road_l48
  refine ⟨fun _ => h _ ((fP.put (P := fun c => c = 27) fP.rf rfl).put rfl) ?_ ?_, fun q => absurd (by decide) q⟩
  · rw [mx_rs, show (0 + 1 : Int32).toNatClampNeg = 1 from by decide, if_neg (by omega), mx_rs, show (0 : Int32).toNatClampNeg = 0 from by decide, if_pos rfl, mx_nar0]
  · rw [mx_rs, show (0 + 1 : Int32).toNatClampNeg = 1 from by decide, if_pos rfl, mx_nar0]
theorem sp7_road_l30 {μ : gq_M} {Q : Int32 → gq_M → Prop} {K : gq_M → Prop} (h : ∀ ν, fP (fun c => c = 5) μ ν → (∀ j, j < 14 → ν.1 5 j = 0) → K ν) : ∃ n, wq_X7_road_l30 Q K n 0 μ := by
  have key : ∀ m k ν, k + m = 14 → fP (fun c => c = 5) μ ν → (∀ j, j < k → ν.1 5 j = 0) → wq_X7_road_l30 Q K (m + 1) (nI k) ν := by
    intro m
    induction m with
    | zero =>
      intro k ν hk hf hl
      obtain rfl : k = 14 := by omega
      unfold wq_X7_road_l30
      exact ⟨fun _ => h ν hf hl, fun q => absurd (by decide) q⟩
    | succ m ih =>
      intro k ν hk hf hl
      unfold wq_X7_road_l30
      rw [mx_14, nI_leI (by omega) (by omega), nI_clamp (by omega)]
      refine ⟨fun q => by omega, fun _ => ⟨vp_in_nI (by omega) (by omega), fun v5 e5 => ?_⟩⟩
      rw [e5, nI_1]
      refine ih (k + 1) _ (by omega) (hf.put rfl) (fun j hj => ?_)
      rw [mx_rs]
      by_cases e : j = k
      · rw [if_pos e]
      · rw [if_neg e]; exact hl j (by omega)
  exact ⟨15, key 14 0 μ (by omega) fP.rf (fun j hj => absurd hj (by omega))⟩
theorem sp7_road_l51 {μ : gq_M} {p : Nat} {Q : Int32 → gq_M → Prop} {K : gq_M → Prop} (hp : p ≤ 10) (h0 : μ.1 0 0 = nI p) (h : ∀ ν, fP (fun c => c = 1 ∨ c = 2) μ ν → (∀ i, i < p → ν.1 1 i = μ.1 6 (2 * i) ∧ ν.1 2 i = μ.1 6 (2 * i + 1)) → K ν) : ∃ n, wq_X7_road_l51 Q K n 0 μ := by
  have key : ∀ m k ν, k + m = p → fP (fun c => c = 1 ∨ c = 2) μ ν → (∀ i, i < k → ν.1 1 i = μ.1 6 (2 * i) ∧ ν.1 2 i = μ.1 6 (2 * i + 1)) → wq_X7_road_l51 Q K (m + 1) (nI k) ν := by
    intro m
    induction m with
    | zero =>
      intro k ν hk hf hl
      obtain rfl : k = p := by omega
      unfold wq_X7_road_l51
      rw [hf.1 0 (by omega), h0]
      exact ⟨fun _ => h ν hf hl, fun q => absurd (Int32.le_refl _) q⟩
    | succ m ih =>
      intro k ν hk hf hl
      unfold wq_X7_road_l51
      rw [hf.1 0 (by omega), h0, nI_leI (by omega) (by omega), mx_2, pk_mul, nI_1, nI_clamp (by omega), nI_clamp (by omega), nI_clamp (by omega), mx_ro (by omega), hf.1 6 (by omega)]
      refine ⟨fun q => by omega, fun _ => ⟨vp_in_nI (by omega) (by omega), vp_in_nI (by omega) (by omega), vp_in_nI (by omega) (by omega), vp_in_nI (by omega) (by omega), fun v5 e5 => ?_⟩⟩
      rw [e5, nI_1]
      refine ih (k + 1) _ (by omega) ((hf.put (Or.inl rfl)).put (Or.inr rfl)) (fun j hj => ⟨?_, ?_⟩)
      · rw [mx_ro (by omega), mx_rs]
        by_cases e : j = k
        · rw [if_pos e, e]
        · rw [if_neg e]; exact (hl j (by omega)).1
      · rw [mx_rs]
        by_cases e : j = k
        · rw [if_pos e, e]
        · rw [if_neg e, mx_ro (by omega)]; exact (hl j (by omega)).2
  exact ⟨p + 1, key p 0 μ (by omega) fP.rf (fun j hj => absurd hj (by omega))⟩
theorem sp7_road_l97 {μ : gq_M} {q : Nat} {Q : Int32 → gq_M → Prop} {K : gq_M → Prop} (hp : q ≤ 5) (h0 : μ.1 0 1 = nI q) (h : ∀ ν, fP (fun c => c = 3 ∨ c = 4 ∨ c = 5) μ ν → (∀ t, t < q → ν.1 5 t = μ.1 7 (3 * t) ∧ ν.1 5 (5 + t) = μ.1 7 (3 * t + 1) ∧ ν.1 3 t = μ.1 7 (3 * t + 1) ∧ ν.1 4 t = μ.1 7 (3 * t + 2)) → (∀ j, 10 ≤ j → ν.1 5 j = μ.1 5 j) → K ν) : ∃ n, wq_X7_road_l97 Q K n 0 μ := by
  have key : ∀ m k ν, k + m = q → fP (fun c => c = 3 ∨ c = 4 ∨ c = 5) μ ν → (∀ t, t < k → ν.1 5 t = μ.1 7 (3 * t) ∧ ν.1 5 (5 + t) = μ.1 7 (3 * t + 1) ∧ ν.1 3 t = μ.1 7 (3 * t + 1) ∧ ν.1 4 t = μ.1 7 (3 * t + 2)) → (∀ j, 10 ≤ j → ν.1 5 j = μ.1 5 j) → wq_X7_road_l97 Q K (m + 1) (nI k) ν := by
    intro m
    induction m with
    | zero =>
      intro k ν hk hf hl hg
      obtain rfl : k = q := by omega
      unfold wq_X7_road_l97
      rw [hf.1 0 (by omega), h0]
      exact ⟨fun _ => h ν hf hl hg, fun q => absurd (Int32.le_refl _) q⟩
    | succ m ih =>
      intro k ν hk hf hl hg
      unfold wq_X7_road_l97
      rw [hf.1 0 (by omega), h0, nI_leI (by omega) (by omega), mx_3, mx_2, mx_5, pk_mul, nI_1, nI_add, nI_add, nI_clamp (by omega), nI_clamp (by omega), nI_clamp (by omega), nI_clamp (by omega), nI_clamp (by omega)]
      have a7 : ∀ j, ν.1 7 j = μ.1 7 j := fun j => by rw [hf.1 7 (by omega)]
      have b1 : ∀ x j, (gq_put ν 5 k x).1 7 j = μ.1 7 j := fun x j => by rw [mx_ro (by omega), a7]
      have b2 : ∀ x y j, (gq_put (gq_put ν 5 k x) 3 k y).1 7 j = μ.1 7 j := fun x y j => by rw [mx_ro (by omega), b1]
      have b3 : ∀ x y z, (gq_put (gq_put (gq_put ν 5 k x) 3 k y) 4 k z).1 3 k = y := fun x y z => by rw [mx_ro (by omega), mx_rs, if_pos rfl]
      rw [b3]
      simp only [a7, b1, b2]
      refine ⟨fun q => by omega, fun _ => ⟨vp_in_nI (by omega) (by omega), vp_in_nI (by omega) (by omega), vp_in_nI (by omega) (by omega), vp_in_nI (by omega) (by omega), vp_in_nI (by omega) (by omega), vp_in_nI (by omega) (by omega), vp_in_nI (by omega) (by omega), vp_in_nI (by omega) (by omega), fun v5 e5 => ?_⟩⟩
      rw [e5, nI_1]
      refine ih (k + 1) _ (by omega) ((((hf.put (Or.inr (Or.inr rfl))).put (Or.inl rfl)).put (Or.inr (Or.inl rfl))).put (Or.inr (Or.inr rfl))) (fun t ht => ⟨?_, ?_, ?_, ?_⟩) (fun j hj => ?_)
      · rw [mx_rs, if_neg (by omega), mx_ro (by omega), mx_ro (by omega), mx_rs]
        by_cases e : t = k
        · rw [if_pos e, e]
        · rw [if_neg e]; exact (hl t (by omega)).1
      · rw [mx_rs]
        by_cases e : t = k
        · rw [if_pos (by omega), e]
        · rw [if_neg (by omega), mx_ro (by omega), mx_ro (by omega), mx_rs, if_neg (by omega)]; exact (hl t (by omega)).2.1
      · rw [mx_ro (by omega), mx_ro (by omega), mx_rs]
        by_cases e : t = k
        · rw [if_pos e, e]
        · rw [if_neg e, mx_ro (by omega)]; exact (hl t (by omega)).2.2.1
      · rw [mx_ro (by omega), mx_rs]
        by_cases e : t = k
        · rw [if_pos e, e]
        · rw [if_neg e, mx_ro (by omega), mx_ro (by omega)]; exact (hl t (by omega)).2.2.2
      · rw [mx_rs, if_neg (by omega), mx_ro (by omega), mx_ro (by omega), mx_rs, if_neg (by omega)]; exact hg j hj
  exact ⟨q + 1, key q 0 μ (by omega) fP.rf (fun j hj => absurd hj (by omega)) (fun _ _ => rfl)⟩
theorem sim_road {σ μ : gq_M} (h : Rel σ μ) : gl_S_road Rel σ μ := by
  obtain ⟨⟨R, hR, hc, hm, hn0, ⟨e, na, he, _, ra1, ra2, _, _, _⟩, hk⟩, ⟨n, hn, t1, t2, t3⟩, hh, h2s, hi⟩ := id h
  obtain ⟨res, F, hF, o2, o3⟩ := both_text (n := n) (σ.1 2) hn
  have hP := hF.1.1
  have hT := hF.1.2.1
  unfold gl_S_road wq_X6_road
  have ht : tC σ n (σ.1 2) := ⟨hn, t1, fun _ _ => rfl⟩
  have hu : tM μ n (σ.1 2) := ⟨hn, t2, fun i hi => (t3 i hi).symm⟩
  refine o2 3 σ _ (by omega) ht (fun τ1 a1 _ => ?_)
  by_cases hr : res = -9
  · refine ⟨fun _ => o2 9 τ1 _ (by omega) (a1.t (by omega) ht) (fun τ2 a2 b2 => ?_), fun q => absurd hr q⟩
    have hc2 := b2 hr
    refine sp4_begin hF hc2 (fun τ3 a3 b3 => ?_)
    refine sp6_road_l48 (fun τ4 a4 k0 k1 => ?_)
    have c9 : τ4.1 9 = τ2.1 9 := by rw [a4.1 9 (by omega), gq_put_other _ _ _ _ (by omega), a3.1 9 (by omega) (by omega) (by omega)]
    rw [c9, hc2.1, hc2.2.1, mx_10, pk_mul, nI_add]
    -- the model
    unfold wq_X7_road
    refine o3 μ _ hu (fun μ1 b1 c1 => ⟨fun _ => ?_, fun q => absurd hr q⟩)
    have hm1 := c1 hr
    have e10 : (gq_put μ1 0 0 (μ1.1 0 9)).1 0 10 = nI (F 1 0) := by rw [mx_0j (by omega)]; exact hm1.2.1
    rw [e10, hm1.1]
    refine sp7_road_l30 (fun μ2 b2 z2 => ?_)
    have m00 : μ2.1 0 0 = nI (F 0 0) := by rw [b2.1 0 (by omega), mx_0j (by omega), mx_0s]
    have m01 : μ2.1 0 1 = nI (F 1 0) := by rw [b2.1 0 (by omega), mx_0s]
    have m6 : μ2.1 6 = μ1.1 6 := by rw [b2.1 6 (by omega), gq_put_other _ _ _ _ (by omega), gq_put_other _ _ _ _ (by omega)]
    have m7 : μ2.1 7 = μ1.1 7 := by rw [b2.1 7 (by omega), gq_put_other _ _ _ _ (by omega), gq_put_other _ _ _ _ (by omega)]
    refine sp7_road_l51 hP m00 (fun μ3 b3' z3 => ?_)
    refine sp7_road_l97 hT (by rw [b3'.1 0 (by omega)]; exact m01) (fun μ4 b4 z4 y4 => ?_)
    have hR4 : mRd μ4 F := by
      refine ⟨?_, ?_, fun i hi => ?_, fun t ht => ?_⟩
      · rw [b4.1 0 (by omega), b3'.1 0 (by omega)]; exact m00
      · rw [b4.1 0 (by omega), b3'.1 0 (by omega)]; exact m01
      · rw [b4.1 1 (by omega), b4.1 2 (by omega), (z3 i hi).1, (z3 i hi).2, m6]; exact hm1.2.2.1 i hi
      · rw [(z4 t ht).2.2.1, (z4 t ht).2.2.2, b3'.1 7 (by omega), m7]; exact (hm1.2.2.2 t ht).2
    refine sp7_smooth hF.1 hR4 ?_
    have k7 : ∀ j, μ3.1 7 j = μ1.1 7 j := fun j => by rw [b3'.1 7 (by omega), m7]
    generalize eν : (gq_put (gq_put (gq_put (gq_put μ4 5 10 (nI (px_sm F (F 0 0)))) 0 16 0) 15 0 (vp_nar .boolean 0)) 15 1 (vp_nar .boolean 0)) = ν
    have v5 : ∀ j, ν.1 5 j = if j = 10 then nI (px_sm F (F 0 0)) else μ4.1 5 j := fun j => by rw [← eν, mx_ro (by omega), mx_ro (by omega), mx_ro (by omega), mx_rs]
    have v0 : ∀ j, j ≠ 16 → ν.1 0 j = μ4.1 0 j := fun j hj => by rw [← eν, mx_ro (by omega), mx_ro (by omega), mx_0j hj, mx_ro (by omega)]
    have v16 : ν.1 0 16 = 0 := by rw [← eν, mx_ro (by omega), mx_ro (by omega), mx_0s]
    have vo : ∀ c, c ≠ 0 → c ≠ 5 → c ≠ 15 → ν.1 c = μ4.1 c := fun c a b d => by rw [← eν, gq_put_other _ _ _ _ d, gq_put_other _ _ _ _ d, gq_put_other _ _ _ _ a, gq_put_other _ _ _ _ b]
    have v150 : ν.1 15 0 = 0 := by rw [← eν, mx_rs, if_neg (by omega), mx_rs, if_pos rfl, mx_nar0]
    have v151 : ν.1 15 1 = 0 := by rw [← eν, mx_rs, if_pos rfl, mx_nar0]
    have v2 : ν.2 = μ.2 := by rw [← eν]; exact b4.2.trans (b3'.2.trans (b2.2.trans b1.2.2.2))
    -- what of the model is as it was
    have w0 : ∀ j, j = 12 ∨ j = 15 ∨ j = 17 ∨ j = 23 → ν.1 0 j = μ.1 0 j := fun j hj => by
      rw [v0 j (by omega), b4.1 0 (by omega), b3'.1 0 (by omega), b2.1 0 (by omega), mx_0j (by omega), mx_0j (by omega)]
      exact b1.2.2.1 j (by omega) (by omega) (by omega) (by omega) (by omega) (by omega)
    have wr : ∀ c, c = 8 ∨ c = 12 ∨ c = 13 → ν.1 c = μ.1 c := fun c hc => by
      rw [vo c (by omega) (by omega) (by omega), b4.1 c (by omega), b3'.1 c (by omega), b2.1 c (by omega), gq_put_other _ _ _ _ (by omega), gq_put_other _ _ _ _ (by omega)]
      exact b1.1 c (by omega) (by omega) (by omega) (by omega) (by omega) (by omega) (by omega)
    have u0 : ∀ c, c = 1 ∨ c = 2 ∨ c = 15 ∨ c = 16 ∨ c = 17 → τ4.1 c = σ.1 c := fun c hc => by
      rw [a4.1 c (by omega), gq_put_other _ _ _ _ (by omega), a3.1 c (by omega) (by omega) (by omega), a2.1 c (by omega), a1.1 c (by omega)]
    refine ⟨?_, ⟨F, hF.1, cRd_of (σ := τ2) (fun c h1 h2 => ?_) (hC_cRd hc2), ?_, ⟨px_S0 F, 0, sOK_S0 hF, cSt_of ?_ ?_ ?_ b3, ?_⟩, ⟨e, 0, he, by omega, ?_, ?_, ?_, ?_, fun j hj => absurd hj (by omega)⟩, ?_⟩, ?_, ?_, ?_, ?_⟩
    · rw [v0 0 (by omega), v0 1 (by omega), hR4.1, hR4.2.1, mx_10, pk_mul, nI_add]
    · rw [a4.1 c (by omega), gq_put_other _ _ _ _ (by omega), a3.1 c (by omega) (by omega) (by omega)]
    · refine ⟨?_, ?_, fun i hi => ?_, fun t ht => ?_⟩
      · rw [v0 0 (by omega)]; exact hR4.1
      · rw [v0 1 (by omega)]; exact hR4.2.1
      · rw [vo 1 (by omega) (by omega) (by omega), vo 2 (by omega) (by omega) (by omega)]; exact hR4.2.2.1 i hi
      · rw [vo 3 (by omega) (by omega) (by omega), vo 4 (by omega) (by omega) (by omega)]; exact hR4.2.2.2 t ht
    · rw [a4.1 30 (by omega), gq_put_other _ _ _ _ (by omega)]
    · rw [a4.1 31 (by omega), gq_put_other _ _ _ _ (by omega)]
    · rw [a4.1 32 (by omega), gq_put_other _ _ _ _ (by omega)]
    · refine ⟨fun t ht => ⟨?_, ?_⟩, ?_, ?_, ?_, ?_⟩
      · rw [v5, if_neg (by omega), Nat.zero_add, (z4 t ht).1, k7, (hm1.2.2.2 t ht).1]; rfl
      · rw [v5, if_neg (by omega), Nat.zero_add, (z4 t ht).2.1, k7, (hm1.2.2.2 t ht).2.1]; rfl
      · rw [v5, if_pos rfl]; rfl
      · rw [v5, if_neg (by omega), y4 _ (by omega), b3'.1 5 (by omega), z2 _ (by omega)]; rfl
      · rw [v5, if_neg (by omega), y4 _ (by omega), b3'.1 5 (by omega), z2 _ (by omega)]; rfl
      · rw [v5, if_neg (by omega), y4 _ (by omega), b3'.1 5 (by omega), z2 _ (by omega)]
    · rw [a4.1 24 (by omega), mx_rs, if_neg (by omega), a3.1 24 (by omega) (by omega) (by omega), a2.1 24 (by omega), a1.1 24 (by omega)]; exact ra1
    · rw [w0 17 (by omega)]; exact ra2
    · rw [a4.1 24 (by omega), mx_rs, if_pos rfl]; rfl
    · rw [v16]; rfl
    · intro q hq
      have e27 : τ4.1 27 q = 0 := by
        rcases (show q = 0 ∨ q = 1 by omega) with g | g
        · rw [g]; exact k0
        · rw [g]; exact k1
      have e15 : ν.1 15 q = 0 := by
        rcases (show q = 0 ∨ q = 1 by omega) with g | g
        · rw [g]; exact v150
        · rw [g]; exact v151
      exact ⟨by rw [e27, e15], Or.inl e27, fun z => absurd e27 z⟩
    · exact RelT_of ⟨n, hn, t1, t2, t3⟩ (u0 1 (by omega)) (u0 2 (by omega)) (w0 12 (by omega)) (wr 8 (by omega))
    · exact RelH_of hh (u0 15 (by omega)) (u0 16 (by omega)) (u0 17 (by omega)) (w0 23 (by omega)) (wr 12 (by omega)) (wr 13 (by omega))
    · rw [v2, ← h2s]
      exact a4.2.trans (a3.2.trans (a2.2.trans a1.2))
    · rw [w0 15 (by omega)]; exact hi
  · refine ⟨fun q => absurd q hr, fun _ => ?_⟩
    unfold wq_X7_road
    refine o3 μ _ hu (fun ν b _ => ⟨fun q => absurd q hr, fun _ => ⟨rfl, h.fx ⟨fun c hc => a1.1 c ?_, a1.2⟩ b⟩⟩)
    unfold kC at hc
    omega
