/-! ===== maths 10: traveller, keep, again, count ===== -/
theorem sp7_paysFor {R S : Nat → Nat → Nat} {t : Nat} {d c : Int32} {μ : gq_M} {Q : Int32 → gq_M → Prop} (hR : rOK R) (hm : mRd μ R) (hS : sOK R S) (hmS : mSt μ 5 0 R S c) (hi : μ.1 0 15 = nI 0) (ht : t < R 1 0) (h1 : ∀ k, px_pl (R 0 0) (S 0 t) (px_on d) = some k → Q (nI (px_pay (R 5 t) (px_cost R k (S 2 1) (S 2 0) (S 2 2) 0))) μ) (h2 : px_pl (R 0 0) (S 0 t) (px_on d) = none → Q (-9) μ) : wq_X7_paysFor (nI t) d μ Q := by
  have hT := hR.2.1
  have hP := hR.1
  unfold wq_X7_paysFor
  have e1 := (hmS.1 t ht).1
  rw [Nat.zero_add] at e1
  rw [nI_clamp (by omega), e1]
  refine ⟨vp_in_nI (by omega) (by omega), ?_⟩
  refine sp7_pleatOf hm.1 hP (hS.1 t ht).1 (fun k hk => ?_) (fun hk => ?_)
  · have hk2 := px_pl_lt (hS.1 t ht).1 hk
    refine ⟨fun _ => ?_, fun q => absurd q (mx_m9 (by omega))⟩
    exact sp7_paysOn (lv := 0) hR hm (by omega) hS hmS ht hk2 (by omega) hi (h1 k hk)
  · exact ⟨fun q => absurd rfl q, fun _ => h2 hk⟩
theorem sim_traveller {σ μ : gq_M} (h : Rel σ μ) : gl_S_traveller Rel σ μ := by
  obtain ⟨⟨R, hR, hc, hm, ⟨S, c, hS, hcS, hmS⟩, ha, hk⟩, ht, hh, h2s, hi⟩ := id h
  have hT := hR.2.1
  intro a1 a2
  unfold wq_X6_traveller
  refine sp2_hasTraveller hc.2.1 (by omega) (fun v => ⟨fun _ => ?_, fun q => absurd q (by decide)⟩) (fun v => ⟨fun q => absurd rfl q, fun _ => ?_⟩)
  · obtain ⟨t, ht', e1⟩ := (mx_in (by omega)).mp v
    subst e1
    have hin : vp_in (nI t) 5 := vp_in_nI (by omega) (by omega)
    have hinM : vp_in (nI t) 28 := vp_in_nI (by omega) (by omega)
    have m0 := (hmS.1 t ht').1
    have m1 := (hmS.1 t ht').2
    rw [Nat.zero_add] at m0 m1
    have pv : ∀ d : Int32, ∃ r : Int32, (∀ {Q : Int32 → gq_M → Prop}, Q r σ → wq_X4_tollBeside 30 (nI t) d σ Q) ∧ (∀ {Q : Int32 → gq_M → Prop}, Q r μ → wq_X7_paysFor (nI t) d μ Q) := by
      intro d
      cases hk1 : px_pl (R 0 0) (S 0 t) (px_on d) with
      | none => exact ⟨-9, fun q => sp4_tollBeside hR hc hS hcS ht' (fun k hk2 => by rw [hk1] at hk2; cases hk2) (fun _ => q), fun q => sp7_paysFor hR hm hS hmS hi ht' (fun k hk2 => by rw [hk1] at hk2; cases hk2) (fun _ => q)⟩
      | some k => exact ⟨nI (px_pay (R 5 t) (px_cost R k (S 2 1) (S 2 0) (S 2 2) 0)), fun q => sp4_tollBeside hR hc hS hcS ht' (fun k' hk2 => by rw [hk1] at hk2; cases hk2; exact q) (fun hk2 => by rw [hk1] at hk2; cases hk2), fun q => sp7_paysFor hR hm hS hmS hi ht' (fun k' hk2 => by rw [hk1] at hk2; cases hk2; exact q) (fun hk2 => by rw [hk1] at hk2; cases hk2)⟩
    obtain ⟨p0, c0, d0⟩ := pv 0
    obtain ⟨p1, c1, d1⟩ := pv 1
    have key : ∀ (r : Int32), (a2 = 0 → r = nI (S 0 t)) → (a2 = 1 → r = nI (R 4 t)) → (a2 = 2 → r = nI (R 5 t)) → (a2 = 3 → r = nI (S 1 t)) → (a2 = 4 → r = p0) → (a2 = 5 → r = p1) → (¬ a2 = 0 → ¬ a2 = 1 → ¬ a2 = 2 → ¬ a2 = 3 → ¬ a2 = 4 → ¬ a2 = 5 → r = -2) → wq_X7_traveller (nI t) a2 μ (fun r2 ν => r = r2 ∧ Rel σ ν) := by
      intro r k0 k1 k2 k3 k4 k5 k6
      unfold wq_X7_traveller
      refine sp7_isTraveller hm.2.1 (by omega) (fun _ => ⟨fun _ => ?_, fun q => absurd q (by decide)⟩) (fun v2 => absurd v v2)
      have m5 : (5 + nI t : Int32) = nI (5 + t) := by rw [mx_5, nI_add]
      rw [m5, nI_clamp (by omega), nI_clamp (by omega), m0, m1, (hm.2.2.2 t ht').1, (hm.2.2.2 t ht').2]
      exact ⟨fun q => ⟨hinM, k0 q, h⟩, fun q0 => ⟨fun q => ⟨hin, k1 q, h⟩, fun q1 => ⟨fun q => ⟨hin, k2 q, h⟩, fun q2 => ⟨fun q => ⟨vp_in_nI (by omega) (by omega), k3 q, h⟩, fun q3 => ⟨fun q => d0 ⟨k4 q, h⟩, fun q4 => ⟨fun q => d1 ⟨k5 q, h⟩, fun q5 => ⟨k6 q0 q1 q2 q3 q4 q5, h⟩⟩⟩⟩⟩⟩⟩
    rw [nI_clamp (by omega), (hcS.1 t ht').1, (hcS.1 t ht').2, (hc.2.2.2 t ht').1, (hc.2.2.2 t ht').2]
    refine ⟨fun q => ⟨hin, ?_⟩, fun q0 => ⟨fun q => ⟨hin, ?_⟩, fun q1 => ⟨fun q => ⟨hin, ?_⟩, fun q2 => ⟨fun q => ⟨hin, ?_⟩, fun q3 => ⟨fun q => c0 ?_, fun q4 => ⟨fun q => c1 ?_, fun q5 => ?_⟩⟩⟩⟩⟩⟩
    · subst q; exact key _ (fun _ => rfl) (fun z => absurd z (by decide)) (fun z => absurd z (by decide)) (fun z => absurd z (by decide)) (fun z => absurd z (by decide)) (fun z => absurd z (by decide)) (fun z => absurd rfl z)
    · subst q; exact key _ (fun z => absurd z q0) (fun _ => rfl) (fun z => absurd z (by decide)) (fun z => absurd z (by decide)) (fun z => absurd z (by decide)) (fun z => absurd z (by decide)) (fun _ z => absurd rfl z)
    · subst q; exact key _ (fun z => absurd z q0) (fun z => absurd z q1) (fun _ => rfl) (fun z => absurd z (by decide)) (fun z => absurd z (by decide)) (fun z => absurd z (by decide)) (fun _ _ z => absurd rfl z)
    · subst q; exact key _ (fun z => absurd z q0) (fun z => absurd z q1) (fun z => absurd z q2) (fun _ => rfl) (fun z => absurd z (by decide)) (fun z => absurd z (by decide)) (fun _ _ _ z => absurd rfl z)
    · subst q; exact key _ (fun z => absurd z q0) (fun z => absurd z q1) (fun z => absurd z q2) (fun z => absurd z q3) (fun _ => rfl) (fun z => absurd z (by decide)) (fun _ _ _ _ z => absurd rfl z)
    · subst q; exact key _ (fun z => absurd z q0) (fun z => absurd z q1) (fun z => absurd z q2) (fun z => absurd z q3) (fun z => absurd z q4) (fun _ => rfl) (fun _ _ _ _ _ z => absurd rfl z)
    · exact key _ (fun z => absurd z q0) (fun z => absurd z q1) (fun z => absurd z q2) (fun z => absurd z q3) (fun z => absurd z q4) (fun z => absurd z q5) (fun _ _ _ _ _ _ => rfl)
  · unfold wq_X7_traveller
    exact sp7_isTraveller hm.2.1 (by omega) (fun v2 => absurd v2 v) (fun _ => ⟨fun q => absurd rfl q, fun _ => ⟨rfl, h⟩⟩)
theorem mx_in2 {a : Int32} {A B : Prop} (h1 : ∀ q, q < 2 → a = nI q → B) (h2 : ¬ vp_in a 2 → A) : ((a < 0 → A) ∧ (¬ a < 0 → ((a < 2 → B) ∧ (¬ a < 2 → A)))) := by
  have e : vp_in a 2 ↔ ¬ a < 0 ∧ a < 2 := by
    rw [vp_in_iff, Int32.lt_iff_toInt_lt, Int32.lt_iff_toInt_lt]
    have z0 : (0 : Int32).toInt = 0 := by decide
    have z2 : (2 : Int32).toInt = 2 := by decide
    omega
  refine ⟨fun q => h2 (fun r => (e.mp r).1 q), fun q => ⟨fun r => ?_, fun r => h2 (fun s => r (e.mp s).2)⟩⟩
  obtain ⟨j, hj, ej⟩ := (mx_in (by omega)).mp (e.mpr ⟨q, r⟩)
  exact h1 j hj ej
theorem sp7_keep_l {σ : gq_M} {s : Nat} {Q : Int32 → gq_M → Prop} {K : gq_M → Prop} (hs : s < 2) (hK : ∀ τ, fR σ τ 16 (14 * s) → (∀ k, k < 14 → τ.1 16 (14 * s + k) = σ.1 5 k) → K τ) : ∀ m i τ, i + m = 14 → fR σ τ 16 (14 * s) → (∀ k, k < i → τ.1 16 (14 * s + k) = σ.1 5 k) → wq_X7_keep_l21 Q K (m + 1) (nI s) (nI i) τ := by
  intro m
  induction m with
  | zero =>
    intro i τ hi hf hc
    obtain rfl : i = 14 := by omega
    unfold wq_X7_keep_l21
    exact ⟨fun _ => hK τ hf hc, fun q => absurd (by decide) q⟩
  | succ m ih =>
    intro i τ hi hf hc
    unfold wq_X7_keep_l21
    rw [mx_14, pk_mul, nI_add, nI_clamp (by omega), nI_clamp (by omega), nI_leI (by omega) (by omega)]
    refine ⟨fun q => by omega, fun _ => ⟨vp_in_nI (by omega) (by omega), vp_in_nI (by omega) (by omega), fun v ev => ?_⟩⟩
    rw [ev, nI_1]
    refine ih (i + 1) _ (by omega) (hf.put (by omega) (by omega)) (fun k hk => ?_)
    rw [mx_rs]
    by_cases ek : k = i
    · subst ek; rw [if_pos rfl, hf.1 5 (by omega)]
    · rw [if_neg (by omega)]; exact hc k (by omega)
theorem sp7_again_l {σ : gq_M} {s : Nat} {Q : Int32 → gq_M → Prop} {K : gq_M → Prop} (hs : s < 2) (hK : ∀ τ, fR σ τ 5 0 → (∀ k, k < 14 → τ.1 5 k = σ.1 16 (14 * s + k)) → K τ) : ∀ m i τ, i + m = 14 → fR σ τ 5 0 → (∀ k, k < i → τ.1 5 k = σ.1 16 (14 * s + k)) → wq_X7_again_l26 Q K (m + 1) (nI s) (nI i) τ := by
  intro m
  induction m with
  | zero =>
    intro i τ hi hf hc
    obtain rfl : i = 14 := by omega
    unfold wq_X7_again_l26
    exact ⟨fun _ => hK τ hf hc, fun q => absurd (by decide) q⟩
  | succ m ih =>
    intro i τ hi hf hc
    unfold wq_X7_again_l26
    rw [mx_14, pk_mul, nI_add, nI_clamp (by omega), nI_clamp (by omega), nI_leI (by omega) (by omega)]
    refine ⟨fun q => by omega, fun _ => ⟨vp_in_nI (by omega) (by omega), vp_in_nI (by omega) (by omega), fun v ev => ?_⟩⟩
    rw [ev, nI_1]
    refine ih (i + 1) _ (by omega) (hf.put (by omega) (by omega)) (fun k hk => ?_)
    rw [mx_rs]
    by_cases ek : k = i
    · subst ek; rw [if_pos rfl, hf.1 16 (by omega)]
    · rw [if_neg ek]; exact hc k (by omega)
theorem sim_keep {σ μ : gq_M} (h : Rel σ μ) : gl_S_keep Rel σ μ := by
  obtain ⟨⟨R, hR, hc, hm, hn0, ha, hk⟩, ht, hh, h2s, hi⟩ := id h
  obtain ⟨S, c, hS, hcS, hmS⟩ := id hn0
  intro a
  unfold wq_X6_keep
  refine mx_in2 (fun s hs e => ?_) (fun v => ?_)
  · subst e
    rw [nI_clamp (by omega), mx_nar1]
    have hin : vp_in (nI s) 2 := vp_in_nI hs (by omega)
    refine ⟨hin, sp4_takeFrom (by omega) (fun τ hf hcp => ⟨hin, ?_⟩)⟩
    have e1 : (gq_put τ 27 s 1).1 30 6 = c := by rw [mx_ro (by decide), hf.1 30 (by omega) (by omega) (by omega)]; exact hcS.2.2.2.2
    rw [e1]
    unfold wq_X7_keep
    refine sp7_inI (lo := 0) (hi := 1) (by decide) (by decide) (fun _ _ => ⟨fun _ => ⟨hin, 15, ?_⟩, fun q => absurd q (by decide)⟩) (fun q => absurd (by rw [nI_toInt (by omega)]; omega) q)
    rw [nI_clamp (by omega), mx_nar1, mx_0]
    refine sp7_keep_l hs (fun ν hfm hcm => ?_) 14 0 _ (by omega) fR.rf (fun k hk => absurd hk (by omega))
    have n5 : ν.1 5 = μ.1 5 := by rw [hfm.1 5 (by omega), gq_put_other _ _ _ _ (by decide)]
    have nr : ∀ c, c ≠ 15 → c ≠ 16 → ν.1 c = μ.1 c := fun c h1 h2 => by rw [hfm.1 c h2, gq_put_other _ _ _ _ h1]
    have tr : ∀ c, c ≠ 27 → c ≠ 36 + 3 * s → c ≠ 36 + 3 * s + 1 → c ≠ 36 + 3 * s + 2 → (gq_put τ 27 s 1).1 c = σ.1 c := fun c h1 h2 h3 h4 => by rw [gq_put_other _ _ _ _ h1, hf.1 c h2 h3 h4]
    refine ⟨by rw [n5]; exact hmS.2.2.2.2.symm, ⟨R, hR, cRd_of (fun c _ _ => tr c (by omega) (by omega) (by omega) (by omega)) hc, mRd_of (fun c _ => nr c (by omega) (by omega)) hm, rSt_of hR hn0 (tr _ (by omega) (by omega) (by omega) (by omega)) (tr _ (by omega) (by omega) (by omega) (by omega)) (tr _ (by omega) (by omega) (by omega) (by omega)) (fun k _ => by rw [n5]), RelA_of hR ha (tr _ (by omega) (by omega) (by omega) (by omega)) (fun c _ _ => tr c (by omega) (by omega) (by omega) (by omega)) (by rw [nr 0 (by omega) (by omega)]) (by rw [nr 0 (by omega) (by omega)]) (nr 9 (by omega) (by omega)), fun q hq => ?_⟩, RelT_of ht (tr _ (by omega) (by omega) (by omega) (by omega)) (tr _ (by omega) (by omega) (by omega) (by omega)) (by rw [nr 0 (by omega) (by omega)]) (nr 8 (by omega) (by omega)), RelH_of hh (tr _ (by omega) (by omega) (by omega) (by omega)) (tr _ (by omega) (by omega) (by omega) (by omega)) (tr _ (by omega) (by omega) (by omega) (by omega)) (by rw [nr 0 (by omega) (by omega)]) (nr 12 (by omega) (by omega)) (nr 13 (by omega) (by omega)), ?_, by rw [nr 0 (by omega) (by omega)]; exact hi⟩
    · have x1 : (gq_put τ 27 s 1).1 27 q = if q = s then 1 else σ.1 27 q := by rw [mx_rs, hf.1 27 (by omega) (by omega) (by omega)]
      have x2 : ν.1 15 q = if q = s then 1 else μ.1 15 q := by rw [hfm.1 15 (by omega), mx_rs]
      rw [x1, x2]
      obtain ⟨k1, k2, k3⟩ := hk q hq
      by_cases e : q = s
      · subst e
        simp only [if_pos]
        refine ⟨trivial, Or.inr rfl, fun _ => ⟨S, c, hS, ?_, mSt_cpy (σ := μ) hR (fun k hk => ?_) hmS⟩⟩
        · refine cSt_of (σ := τ) (gq_put_other _ _ _ _ (by omega)) (gq_put_other _ _ _ _ (by omega)) (gq_put_other _ _ _ _ (by omega)) (cSt_cpy hR hcp hcS)
        · rw [hcm k hk, Nat.zero_add, mx_ro (by decide)]
      · simp only [if_neg e]
        refine ⟨k1, k2, fun z => ?_⟩
        refine rSt_of hR (k3 z) (tr _ (by omega) (by omega) (by omega) (by omega)) (tr _ (by omega) (by omega) (by omega) (by omega)) (tr _ (by omega) (by omega) (by omega) (by omega)) (fun k hk => ?_)
        rw [hfm.2.1 _ (by omega), mx_ro (by decide)]
    · rw [hfm.2.2]; show τ.2 = μ.2; rw [hf.2]; exact h2s
  · unfold wq_X7_keep
    exact sp7_inN (n := 2) (by decide) (fun v2 => absurd v2 v) (fun _ => ⟨fun q => absurd rfl q, fun _ => ⟨rfl, h⟩⟩)
theorem sim_again {σ μ : gq_M} (h : Rel σ μ) : gl_S_again Rel σ μ := by
  obtain ⟨⟨R, hR, hc, hm, hn0, ⟨e, n, he, hn, r1, r2, r3, r4, ha⟩, hk⟩, ht, hh, h2s, hi⟩ := id h
  intro a
  unfold wq_X6_again
  refine mx_in2 (fun s hs e1 => ?_) (fun v => ?_)
  · subst e1
    obtain ⟨k1, k2, k3⟩ := hk s hs
    have hin : vp_in (nI s) 2 := vp_in_nI hs (by omega)
    rw [nI_clamp (by omega)]
    refine ⟨hin, fun q => ⟨hin, sp4_takeFrom (by omega) (fun τ hf hcp => ?_)⟩, fun q => ?_⟩
    · obtain ⟨S, c, hS, hcS, hmS⟩ := k3 q
      have hcT := cSt_cpy hR hcp hcS
      have e1 : (gq_put τ 24 2 0).1 30 6 = c := by rw [mx_ro (by decide)]; exact hcT.2.2.2.2
      rw [e1]
      unfold wq_X7_again
      refine sp7_inI (lo := 0) (hi := 1) (by decide) (by decide) (fun _ _ => ⟨fun _ => ⟨hin, ?_⟩, fun q => absurd q (by decide)⟩) (fun q => absurd (by rw [nI_toInt (by omega)]; omega) q)
      rw [nI_clamp (by omega), ← k1]
      refine ⟨fun _ => ⟨15, ?_⟩, fun z => absurd z q⟩
      rw [mx_0]
      refine sp7_again_l hs (fun ν hfm hcm => ?_) 14 0 μ (by omega) fR.rf (fun k hk => absurd hk (by omega))
      have hmT : mSt ν 5 0 R S c := mSt_cpy hR (fun k hk => by rw [Nat.zero_add]; exact hcm k hk) hmS
      have n5 : (gq_put ν 0 16 (nI 0)).1 5 = ν.1 5 := gq_put_other _ _ _ _ (by decide)
      have nr : ∀ c, c ≠ 0 → c ≠ 5 → (gq_put ν 0 16 (nI 0)).1 c = μ.1 c := fun c h1 h2 => by rw [gq_put_other _ _ _ _ h1, hfm.1 c h2]
      have nz : ∀ j, j ≠ 16 → (gq_put ν 0 16 (nI 0)).1 0 j = μ.1 0 j := fun j hj => by rw [mx_rs, if_neg hj, hfm.1 0 (by omega)]
      have tr : ∀ c, c ≠ 24 → c ≠ 30 → c ≠ 31 → c ≠ 32 → (gq_put τ 24 2 (nI 0)).1 c = σ.1 c := fun c h1 h2 h3 h4 => by rw [gq_put_other _ _ _ _ h1, hf.1 c h2 h3 h4]
      have e2 : (gq_put ν 0 16 (nI 0)).1 5 13 = c := by rw [n5]; exact hmT.2.2.2.2
      refine ⟨e2.symm, ⟨R, hR, cRd_of (fun c _ _ => tr c (by omega) (by omega) (by omega) (by omega)) hc, ?_, ⟨S, c, hS, cSt_of (σ := τ) (gq_put_other _ _ _ _ (by omega)) (gq_put_other _ _ _ _ (by omega)) (gq_put_other _ _ _ _ (by omega)) hcT, mSt_cpy hR (fun k _ => by rw [n5]) hmT⟩, ⟨e, 0, he, by omega, ?_, ?_, ?_, ?_, fun j hj => absurd hj (by omega)⟩, RelK_of hR hk (tr _ (by omega) (by omega) (by omega) (by omega)) (fun c _ _ => tr c (by omega) (by omega) (by omega) (by omega)) (nr 15 (by omega) (by omega)) (nr 16 (by omega) (by omega))⟩, RelT_of ht (tr _ (by omega) (by omega) (by omega) (by omega)) (tr _ (by omega) (by omega) (by omega) (by omega)) (nz 12 (by omega)) (nr 8 (by omega) (by omega)), RelH_of hh (tr _ (by omega) (by omega) (by omega) (by omega)) (tr _ (by omega) (by omega) (by omega) (by omega)) (tr _ (by omega) (by omega) (by omega) (by omega)) (nz 23 (by omega)) (nr 12 (by omega) (by omega)) (nr 13 (by omega) (by omega)), ?_, by rw [nz 15 (by omega)]; exact hi⟩
      · unfold mRd at *
        rw [nz 0 (by omega), nz 1 (by omega), nr 1 (by omega) (by omega), nr 2 (by omega) (by omega), nr 3 (by omega) (by omega), nr 4 (by omega) (by omega)]
        exact hm
      · rw [mx_rs, if_neg (by omega), hf.1 24 (by omega) (by omega) (by omega)]; exact r1
      · rw [nz 17 (by omega)]; exact r2
      · rw [mx_rs, if_pos rfl]
      · rw [mx_rs, if_pos rfl]
      · show τ.2 = ν.2; rw [hf.2, hfm.2.2]; exact h2s
    · unfold wq_X7_again
      refine sp7_inI (lo := 0) (hi := 1) (by decide) (by decide) (fun _ _ => ⟨fun _ => ⟨hin, ?_⟩, fun q => absurd q (by decide)⟩) (fun q => absurd (by rw [nI_toInt (by omega)]; omega) q)
      rw [nI_clamp (by omega), ← k1]
      exact ⟨fun z => absurd q z, fun _ => ⟨rfl, h⟩⟩
  · unfold wq_X7_again
    exact sp7_inN (n := 2) (by decide) (fun v2 => absurd v2 v) (fun _ => ⟨fun q => absurd rfl q, fun _ => ⟨rfl, h⟩⟩)
