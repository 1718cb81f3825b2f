/-! ===== maths 9: write, wipe, hear, unhear, seed, pleat, traveller, keep, again, count ===== -/
theorem mx_255 (a : Int32) : (¬ a < 0 ∧ a ≤ 255) ↔ (0 ≤ a.toInt ∧ a.toInt ≤ 255) := by
  rw [Int32.lt_iff_toInt_lt, Int32.le_iff_toInt_le]
  have h0 : (0 : Int32).toInt = 0 := by decide
  have h1 : (255 : Int32).toInt = 255 := by decide
  omega
/-- rows 1 and 2, the text: a relation that only they changed -/
theorem Rel.text {σ τ μ ν : gq_M} (h : Rel σ μ) (h1 : ∀ c, c ≠ 1 → c ≠ 2 → τ.1 c = σ.1 c) (h2 : τ.2 = σ.2) (h3 : ∀ c, c ≠ 0 → c ≠ 8 → ν.1 c = μ.1 c) (h4 : ∀ j, j ≠ 12 → ν.1 0 j = μ.1 0 j) (h5 : ν.2 = μ.2) (ht : RelT τ ν) : Rel τ ν := by
  obtain ⟨⟨R, hR, hc, hm, hn, ha, hk⟩, _, hh, h2s, hi⟩ := h
  refine ⟨⟨R, hR, cRd_of (fun c a b => h1 c (by omega) (by omega)) hc, ?_, rSt_of hR hn (h1 _ (by omega) (by omega)) (h1 _ (by omega) (by omega)) (h1 _ (by omega) (by omega)) (fun k _ => by rw [h3 5 (by omega) (by omega)]), RelA_of hR ha (h1 _ (by omega) (by omega)) (fun c a b => h1 c (by omega) (by omega)) (h4 17 (by omega)) (h4 16 (by omega)) (h3 9 (by omega) (by omega)), RelK_of hR hk (h1 _ (by omega) (by omega)) (fun c a b => h1 c (by omega) (by omega)) (h3 15 (by omega) (by omega)) (h3 16 (by omega) (by omega))⟩, ht, RelH_of hh (h1 _ (by omega) (by omega)) (h1 _ (by omega) (by omega)) (h1 _ (by omega) (by omega)) (h4 23 (by omega)) (h3 12 (by omega) (by omega)) (h3 13 (by omega) (by omega)), by rw [h2, h5]; exact h2s, by rw [h4 15 (by omega)]; exact hi⟩
  unfold mRd at *
  rw [h4 0 (by omega), h4 1 (by omega), h3 1 (by omega) (by omega), h3 2 (by omega) (by omega), h3 3 (by omega) (by omega), h3 4 (by omega) (by omega)]
  exact hm
theorem sim_write {σ μ : gq_M} (h : Rel σ μ) : gl_S_write Rel σ μ := by
  obtain ⟨n, hn, t1, t2, t3⟩ := h.2.1
  intro a
  have hm : ∀ (r : Int32) (τ : gq_M) (g : a.toInt < 0 ∨ 255 < a.toInt), r = -2 → τ = σ → wq_X7_write a μ (fun r2 ν => r = r2 ∧ Rel τ ν) := by
    intro r τ g e1 e2
    subst e1 e2
    unfold wq_X7_write
    exact sp7_inI (lo := 0) (hi := 255) (by decide) (by decide) (fun q r => by omega) (fun _ => ⟨fun q => absurd rfl q, fun _ => ⟨rfl, h⟩⟩)
  unfold wq_X6_write
  have e := mx_255 a
  refine ⟨fun q => hm _ _ ?_ rfl rfl, fun q => ⟨fun q2 => ?_, fun q2 => hm _ _ ?_ rfl rfl⟩⟩
  · rcases Int.lt_or_le a.toInt 0 with g | g
    · exact Or.inl g
    · right; rcases Int.lt_or_le 255 a.toInt with g2 | g2
      · exact g2
      · exact absurd q (e.mpr ⟨g, g2⟩).1
  · have g := e.mp ⟨q, q2⟩
    unfold wq_X3_append
    rw [t1]
    have m52 : (52 : Int32) = nI 52 := rfl
    rw [m52, nI_ltI (by omega) (by omega)]
    have hmm : ∀ {Q : Int32 → gq_M → Prop}, (n = 52 → Q (-4) μ) → (n < 52 → Q (nI (n + 1)) (gq_put (gq_put μ 8 n a) 0 12 (nI (n + 1)))) → wq_X7_write a μ Q := by
      intro Q g1 g2
      unfold wq_X7_write
      refine sp7_inI (lo := 0) (hi := 255) (by decide) (by decide) (fun q r => ⟨fun _ => ?_, fun q => absurd q (by decide)⟩) (fun q => absurd g q)
      have e2 : (gq_put μ 8 n a).1 0 12 = nI n := by rw [mx_ro (by decide)]; exact t2
      rw [t2, m52, nI_eq (by omega) (by omega), nI_clamp (by omega), e2, nI_1, mx_rs, if_pos rfl]
      exact ⟨fun q => ⟨vp_in_nI (by omega) (by omega), g2 (by omega)⟩, fun q => g1 q⟩
    refine ⟨fun q3 => ⟨vp_in_nI (by omega) (by omega), ?_⟩, fun q3 => ?_⟩
    · have e2 : (gq_put σ 2 n a).1 1 1 = nI n := by rw [mx_ro (by decide)]; exact t1
      rw [nI_clamp (by omega), e2, nI_1, mx_rs, if_pos rfl]
      refine hmm (fun z => by omega) (fun _ => ⟨rfl, ?_⟩)
      refine Rel.text h (fun c a1 a2 => ?_) rfl (fun c a1 a2 => ?_) (fun j hj => ?_) rfl ⟨n + 1, by omega, ?_, ?_, fun i hi => ?_⟩
      · funext j; rw [mx_ro a1, mx_ro a2]
      · funext j; rw [mx_ro a1, mx_ro a2]
      · rw [mx_rs, if_neg hj, mx_ro (by decide)]
      · rw [mx_rs, if_pos rfl]
      · rw [mx_rs, if_pos rfl]
      · rw [mx_ro (show (2 : Nat) ≠ 1 by decide), mx_rs, mx_ro (show (8 : Nat) ≠ 0 by decide), mx_rs]
        by_cases ei : i = n
        · rw [if_pos ei, if_pos ei]
        · rw [if_neg ei, if_neg ei]; exact t3 i (by omega)
    · exact hmm (fun _ => ⟨rfl, h⟩) (fun z => absurd z q3)
  · rcases Int.lt_or_le a.toInt 0 with g | g
    · exact Or.inl g
    · right; rcases Int.lt_or_le 255 a.toInt with g2 | g2
      · exact g2
      · exact absurd (e.mpr ⟨g, g2⟩).2 q2
theorem sim_wipe {σ μ : gq_M} (h : Rel σ μ) : gl_S_wipe Rel σ μ := by
  obtain ⟨n, hn, t1, t2, t3⟩ := h.2.1
  unfold gl_S_wipe wq_X6_wipe wq_X7_wipe
  intro v1 e1 v2 e2
  refine ⟨by rw [e1, e2, t1, t2], Rel.text h (fun c a1 a2 => ?_) rfl (fun c a1 a2 => ?_) (fun j hj => ?_) rfl ⟨0, by omega, ?_, ?_, fun i hi => absurd hi (by omega)⟩⟩
  · funext j; rw [mx_ro a1]
  · funext j; rw [mx_ro a1]
  · rw [mx_rs, if_neg hj]
  · rw [mx_rs, if_pos rfl]; rfl
  · rw [mx_rs, if_pos rfl]; rfl
theorem Rel.heard {σ τ μ ν : gq_M} (h : Rel σ μ) (h1 : ∀ c, c ≠ 15 → c ≠ 16 → c ≠ 17 → τ.1 c = σ.1 c) (h2 : τ.2 = σ.2) (h3 : ∀ c, c ≠ 0 → c ≠ 12 → c ≠ 13 → ν.1 c = μ.1 c) (h4 : ∀ j, j ≠ 23 → ν.1 0 j = μ.1 0 j) (h5 : ν.2 = μ.2) (hh : RelH τ ν) : Rel τ ν := by
  obtain ⟨⟨R, hR, hc, hm, hn, ha, hk⟩, ht, _, h2s, hi⟩ := h
  refine ⟨⟨R, hR, cRd_of (fun c a b => h1 c (by omega) (by omega) (by omega)) hc, ?_, rSt_of hR hn (h1 _ (by omega) (by omega) (by omega)) (h1 _ (by omega) (by omega) (by omega)) (h1 _ (by omega) (by omega) (by omega)) (fun k _ => by rw [h3 5 (by omega) (by omega) (by omega)]), RelA_of hR ha (h1 _ (by omega) (by omega) (by omega)) (fun c a b => h1 c (by omega) (by omega) (by omega)) (h4 17 (by omega)) (h4 16 (by omega)) (h3 9 (by omega) (by omega) (by omega)), RelK_of hR hk (h1 _ (by omega) (by omega) (by omega)) (fun c a b => h1 c (by omega) (by omega) (by omega)) (h3 15 (by omega) (by omega) (by omega)) (h3 16 (by omega) (by omega) (by omega))⟩, RelT_of ht (h1 _ (by omega) (by omega) (by omega)) (h1 _ (by omega) (by omega) (by omega)) (h4 12 (by omega)) (h3 8 (by omega) (by omega) (by omega)), hh, by rw [h2, h5]; exact h2s, by rw [h4 15 (by omega)]; exact hi⟩
  unfold mRd at *
  rw [h4 0 (by omega), h4 1 (by omega), h3 1 (by omega) (by omega) (by omega), h3 2 (by omega) (by omega) (by omega), h3 3 (by omega) (by omega) (by omega), h3 4 (by omega) (by omega) (by omega)]
  exact hm
theorem sim_unhear {σ μ : gq_M} (h : Rel σ μ) : gl_S_unhear Rel σ μ := by
  obtain ⟨n, hn, t1, t2, t3⟩ := h.2.2.1
  unfold gl_S_unhear wq_X6_unhear wq_X7_unhear
  intro v1 e1 v2 e2
  refine ⟨by rw [e1, e2, t1, t2], Rel.heard h (fun c a1 a2 a3 => ?_) rfl (fun c a1 a2 a3 => ?_) (fun j hj => ?_) rfl ⟨0, by omega, ?_, ?_, fun i hi => absurd hi (by omega)⟩⟩
  · funext j; rw [mx_ro a1]
  · funext j; rw [mx_ro a1]
  · rw [mx_rs, if_neg hj]
  · rw [mx_rs, if_pos rfl]; rfl
  · rw [mx_rs, if_pos rfl]; rfl
theorem sim_hear {σ μ : gq_M} (h : Rel σ μ) : gl_S_hear Rel σ μ := by
  obtain ⟨n, hn, t1, t2, t3⟩ := h.2.2.1
  intro a b
  have c0 : (0 : Int32).toInt = 0 := by decide
  have c1 : (1 : Int32).toInt = 1 := by decide
  have c10 : (10 : Int32).toInt = 10 := by decide
  have bad : ¬ (0 ≤ a.toInt ∧ a.toInt ≤ 10 ∧ 0 ≤ b.toInt ∧ b.toInt ≤ 1) → wq_X7_hear a b μ (fun r2 ν => (-2 : Int32) = r2 ∧ Rel σ ν) := by
    intro g
    unfold wq_X7_hear
    refine sp7_inI (lo := 0) (hi := 10) (by decide) (by decide) (fun q r => ⟨fun q => absurd q (by decide), fun _ => ?_⟩) (fun _ => ⟨fun _ => ⟨rfl, h⟩, fun q => absurd rfl q⟩)
    exact sp7_inI (lo := 0) (hi := 1) (by decide) (by decide) (fun q2 r2 => absurd ⟨q, r, q2, r2⟩ g) (fun _ => ⟨fun q => absurd rfl q, fun _ => ⟨rfl, h⟩⟩)
  have good : ∀ d : Int32, gq_b d → b = d → 0 ≤ a.toInt → a.toInt ≤ 10 → wq_X6_hear_b37 (fun r τ => wq_X7_hear a b μ (fun r2 ν => r = r2 ∧ Rel τ ν)) a d σ := by
    intro d hd e g1 g2
    subst e
    obtain ⟨p, hp, ep⟩ : ∃ p : Nat, p ≤ 10 ∧ a = nI p := nI_of2 (M := 10) (n := 10) (by decide) (by rw [Int32.lt_iff_toInt_lt]; omega) (by rw [Int32.le_iff_toInt_le]; omega)
    unfold wq_X6_hear_b37 wq_X1_append
    have e2 : (gq_put σ 16 n a).1 15 3 = nI n := by rw [mx_ro (by decide)]; exact t1
    have e3 : (gq_put (gq_put σ 16 n a) 17 n (vp_nar .boolean b)).1 15 3 = nI n := by rw [mx_ro (by decide)]; exact e2
    have f2 : (gq_put μ 12 n a).1 0 23 = nI n := by rw [mx_ro (by decide)]; exact t2
    have f3 : (gq_put (gq_put μ 12 n a) 13 n b).1 0 23 = nI n := by rw [mx_ro (by decide)]; exact f2
    rw [t1, mx_6, nI_ltI (by omega) (by omega), nI_clamp (by omega), e2, nI_clamp (by omega), e3, nI_1]
    have hmm : ∀ {Q : Int32 → gq_M → Prop}, (n = 6 → Q (-4) μ) → (n < 6 → Q (nI (n + 1)) (gq_put (gq_put (gq_put μ 12 n a) 13 n b) 0 23 (nI (n + 1)))) → wq_X7_hear a b μ Q := by
      intro Q z1 z2
      unfold wq_X7_hear
      refine sp7_inI (lo := 0) (hi := 10) (by decide) (by decide) (fun q r => ⟨fun q => absurd q (by decide), fun _ => ?_⟩) (fun q => absurd ⟨g1, g2⟩ q)
      refine sp7_inI (lo := 0) (hi := 1) (by decide) (by decide) (fun q r => ⟨fun _ => ?_, fun q => absurd q (by decide)⟩) (fun q => absurd (by rcases hd with hd | hd <;> (rw [hd]; decide)) q)
      rw [t2, mx_6, nI_eq (by omega) (by omega), nI_clamp (by omega), f2, nI_clamp (by omega), f3, nI_1, mx_rs, if_pos rfl]
      exact ⟨fun q => ⟨vp_in_nI (by omega) (by omega), vp_in_nI (by omega) (by omega), z2 (by omega)⟩, fun q => z1 q⟩
    refine ⟨fun q => ⟨vp_in_nI (by omega) (by omega), vp_in_nI (by omega) (by omega), ?_⟩, fun q => ?_⟩
    · rw [mx_rs, if_pos rfl]
      refine hmm (fun z => by omega) (fun _ => ⟨rfl, ?_⟩)
      refine Rel.heard h (fun c a1 a2 a3 => ?_) rfl (fun c a1 a2 a3 => ?_) (fun j hj => ?_) rfl ⟨n + 1, by omega, ?_, ?_, fun i hi => ?_⟩
      · funext j; rw [mx_ro a1, mx_ro a3, mx_ro a2]
      · funext j; rw [mx_ro a1, mx_ro a3, mx_ro a2]
      · rw [mx_rs, if_neg hj, mx_ro (by decide), mx_ro (by decide)]
      · rw [mx_rs, if_pos rfl]
      · rw [mx_rs, if_pos rfl]
      · have x1 : (gq_put (gq_put (gq_put σ 16 n a) 17 n (vp_nar .boolean b)) 15 3 (nI (n + 1))).1 16 i = if i = n then a else σ.1 16 i := by rw [mx_ro (by decide), mx_ro (by decide), mx_rs]
        have x2 : (gq_put (gq_put (gq_put σ 16 n a) 17 n (vp_nar .boolean b)) 15 3 (nI (n + 1))).1 17 i = if i = n then b else σ.1 17 i := by rw [mx_ro (by decide), mx_rs, mx_ro (by decide), mx_nar hd]
        have x3 : (gq_put (gq_put (gq_put μ 12 n a) 13 n b) 0 23 (nI (n + 1))).1 12 i = if i = n then a else μ.1 12 i := by rw [mx_ro (by decide), mx_ro (by decide), mx_rs]
        have x4 : (gq_put (gq_put (gq_put μ 12 n a) 13 n b) 0 23 (nI (n + 1))).1 13 i = if i = n then b else μ.1 13 i := by rw [mx_ro (by decide), mx_rs, mx_ro (by decide)]
        rw [x1, x2, x3, x4]
        by_cases ei : i = n
        · simp only [if_pos ei]; exact ⟨⟨p, hp, ep, ep⟩, hd, trivial⟩
        · simp only [if_neg ei]; exact t3 i (by omega)
    · exact hmm (fun _ => ⟨rfl, h⟩) (fun z => absurd z q)
  unfold wq_X6_hear
  simp only [Int32.lt_iff_toInt_lt, Int32.le_iff_toInt_le, c0, c1, c10]
  refine ⟨fun q => bad (by omega), fun q => ⟨fun q2 => bad (by omega), fun q2 => ⟨fun q3 => bad (by omega), fun q3 => ⟨fun q4 => ⟨fun q5 => good 0 (Or.inl rfl) ?_ (by omega) (by omega), fun q5 => good 1 (Or.inr rfl) q5 (by omega) (by omega)⟩, fun q4 => bad (by omega)⟩⟩⟩⟩
  have : b.toInt ≠ 1 := fun z => q5 (Int32.toInt_inj.mp (by rw [z, c1]))
  exact Int32.toInt_inj.mp (by rw [c0]; omega)
theorem sim_seed {σ μ : gq_M} (h : Rel σ μ) : gl_S_seed Rel σ μ := by
  obtain ⟨⟨R, hR, hc, hm, hn, ha, hk⟩, ht, hh, h2s, hi⟩ := id h
  intro a
  unfold wq_X6_seed wq_X7_seed
  exact ⟨h2s, ⟨R, hR, hc, hm, hn, ha, hk⟩, ht, hh, rfl, hi⟩
theorem sim_pleat {σ μ : gq_M} (h : Rel σ μ) : gl_S_pleat Rel σ μ := by
  obtain ⟨⟨R, hR, hc, hm, ⟨S, c, hS, hcS, hmS⟩, ha, hk⟩, ht, hh, h2s, hi⟩ := id h
  have hP := hR.1
  have hg := hS.2.1
  have ho := hS.2.2.1
  intro a1 a2
  unfold wq_X6_pleat
  refine sp2_hasPleat hc.1 (by omega) (fun v => ⟨fun _ => ?_, fun q => absurd q (by decide)⟩) (fun v => ⟨fun q => absurd rfl q, fun _ => ?_⟩)
  · obtain ⟨i, hi', e1⟩ := (mx_in (by omega)).mp v
    subst e1
    have hin : vp_in (nI i) 10 := vp_in_nI (by omega) (by omega)
    have m10 : μ.1 5 10 = nI (S 2 0) := hmS.2.1
    have m11 : μ.1 5 11 = nI (S 2 1) := hmS.2.2.1
    have m12 : μ.1 5 12 = nI (S 2 2) := hmS.2.2.2.1
    have key : ∀ (r : Int32), (a2 = 0 → r = nI (R 2 i)) → (a2 = 1 → r = nI (R 3 i)) → (a2 = 2 → r = nI (px_cost R i (S 2 1) (S 2 0) (S 2 2) 0)) → (a2 = 3 → r = if (S 2 0).testBit i then 1 else 0) → (a2 = 4 → r = if S 2 1 = i + 1 then 1 else 0) → (¬ a2 = 0 → ¬ a2 = 1 → ¬ a2 = 2 → ¬ a2 = 3 → ¬ a2 = 4 → r = -2) → wq_X7_pleat (nI i) a2 μ (fun r2 ν => r = r2 ∧ Rel σ ν) := by
      intro r k0 k1 k2 k3 k4 k5
      unfold wq_X7_pleat
      refine sp7_isPleat hm.1 (by omega) (fun _ => ⟨fun _ => ?_, fun q => absurd q (by decide)⟩) (fun v2 => absurd v v2)
      rw [nI_clamp (by omega), (hm.2.2.1 i hi').1, (hm.2.2.1 i hi').2, m10, m11, m12, mx_bit (by omega) (by omega), nI_1, nI_eq (by omega) (by omega)]
      refine ⟨fun q => ⟨hin, k0 q, h⟩, fun q0 => ⟨fun q => ⟨hin, k1 q, h⟩, fun q1 => ⟨fun q => ?_, fun q2 => ⟨fun q => ⟨k3 q, h⟩, fun q3 => ⟨fun q => ⟨fun z => ⟨?_, h⟩, fun z => ⟨?_, h⟩⟩, fun q4 => ⟨k5 q0 q1 q2 q3 q4, h⟩⟩⟩⟩⟩⟩
      · exact sp7_costs hR hm hi' (by omega) hg hS.2.2.2 (by omega) hi ⟨k2 q, h⟩
      · rw [k4 q, if_neg z]
      · rw [k4 q, if_pos z]
    rw [nI_clamp (by omega), (hc.2.2.1 i hi').1, (hc.2.2.1 i hi').2, hcS.2.1, hcS.2.2.1, mx_bit (by omega) (by omega), mx_bit (by have := px_ob_lt (o := S 2 1) (by omega); omega) (by omega), px_ob_bit]
    have n01 : ¬ (0 : Int32) = 1 := by decide
    have n02 : ¬ (0 : Int32) = 2 := by decide
    have n03 : ¬ (0 : Int32) = 3 := by decide
    have n04 : ¬ (0 : Int32) = 4 := by decide
    have n12 : ¬ (1 : Int32) = 2 := by decide
    have n13 : ¬ (1 : Int32) = 3 := by decide
    have n14 : ¬ (1 : Int32) = 4 := by decide
    have n23 : ¬ (2 : Int32) = 3 := by decide
    have n24 : ¬ (2 : Int32) = 4 := by decide
    have n34 : ¬ (3 : Int32) = 4 := by decide
    refine ⟨fun q => ⟨hin, ?_⟩, fun q0 => ⟨fun q => ⟨hin, ?_⟩, fun q1 => ⟨fun q => ?_, fun q2 => ⟨fun q => ?_, fun q3 => ⟨fun q => ?_, fun q4 => ?_⟩⟩⟩⟩⟩
    · subst q; exact key _ (fun _ => rfl) (fun z => absurd z n01) (fun z => absurd z n02) (fun z => absurd z n03) (fun z => absurd z n04) (fun z => absurd rfl z)
    · subst q; exact key _ (fun z => absurd z q0) (fun _ => rfl) (fun z => absurd z n12) (fun z => absurd z n13) (fun z => absurd z n14) (fun _ z => absurd rfl z)
    · subst q; exact sp4_costOf hR hc hS hcS hi' (key _ (fun z => absurd z q0) (fun z => absurd z q1) (fun _ => rfl) (fun z => absurd z n23) (fun z => absurd z n24) (fun _ _ z => absurd rfl z))
    · subst q; exact key _ (fun z => absurd z q0) (fun z => absurd z q1) (fun z => absurd z q2) (fun _ => rfl) (fun z => absurd z n34) (fun _ _ _ z => absurd rfl z)
    · subst q; exact key _ (fun z => absurd z q0) (fun z => absurd z q1) (fun z => absurd z q2) (fun z => absurd z q3) (fun _ => by simp only [decide_eq_true_eq]) (fun _ _ _ _ z => absurd rfl z)
    · exact key _ (fun z => absurd z q0) (fun z => absurd z q1) (fun z => absurd z q2) (fun z => absurd z q3) (fun z => absurd z q4) (fun _ _ _ _ _ => rfl)
  · unfold wq_X7_pleat
    exact sp7_isPleat hm.1 (by omega) (fun v2 => absurd v2 v) (fun _ => ⟨fun q => absurd rfl q, fun _ => ⟨rfl, h⟩⟩)
