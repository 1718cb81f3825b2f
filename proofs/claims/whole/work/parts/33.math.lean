/-! ===== maths 14: summers ===== -/
def px_draw (s : Int64) : Int32 := ((s.toUInt64 >>> (((33 : Int32)).toInt64.toUInt64 &&& Int64.toUInt64 63)).toInt64 - (s.toUInt64 >>> (((33 : Int32)).toInt64.toUInt64 &&& Int64.toUInt64 63)).toInt64 / 26 * 26).toInt32
theorem mx_ush (s : Int64) : ∃ n, n < 2 ^ 31 ∧ (s.toUInt64 >>> (((33 : Int32)).toInt64.toUInt64 &&& Int64.toUInt64 63)).toInt64 = lN n := by
  refine ⟨s.toUInt64.toNat / 2 ^ 33, ?_, ?_⟩
  · have := s.toUInt64.toNat_lt
    omega
  · have e : (((33 : Int32)).toInt64.toUInt64 &&& Int64.toUInt64 63) = 33 := by decide +kernel
    rw [e]
    apply Int64.toBitVec_inj.1
    show (s.toUInt64 >>> 33).toBitVec = BitVec.ofNat 64 _
    apply BitVec.eq_of_toNat_eq
    have h := s.toUInt64.toNat_lt
    rw [BitVec.toNat_ofNat, Nat.mod_eq_of_lt (by omega)]
    show (s.toUInt64 >>> 33).toNat = _
    rw [UInt64.toNat_shiftRight, Nat.shiftRight_eq_div_pow]
    rfl
theorem mx_draw (s : Int64) : ∃ v, v < 26 ∧ px_draw s = nI v := by
  obtain ⟨n, hn, e⟩ := mx_ush s
  refine ⟨n % 26, Nat.mod_lt _ (by omega), ?_⟩
  unfold px_draw
  rw [e, show (26 : Int64) = lN 26 from rfl, pk_lRem (by omega) (by omega) (by omega), lN_i]
/-- what is drawn, as a thing tried -/
def px_dh (v : Nat) : Nat × Nat × Nat := if v < 10 then (1, v / 2, v % 2) else if v < 15 then (2, 0, v - 10) else if v < 25 then (3, 0, v - 15) else (4, 0, 0)
def px_d7 (Q : Int32 → gq_M → Prop) (K : Int32 → Int32 → Int32 → gq_M → Prop) (x1 x2 x3 v7 : Int32) (μ : gq_M) : Prop := ((10 ≤ v7 → ((15 ≤ v7 → ((25 ≤ v7 → wq_X7_summers_b92 Q K x1 x2 x3 v7 4 μ) ∧ (¬ 25 ≤ v7 → wq_X7_summers_b92 Q K x1 x2 x3 v7 3 μ))) ∧ (¬ 15 ≤ v7 → wq_X7_summers_b92 Q K x1 x2 x3 v7 2 μ))) ∧ (¬ 10 ≤ v7 → wq_X7_summers_b92 Q K x1 x2 x3 v7 1 μ))
theorem mx_d7 {v : Nat} {Q : Int32 → gq_M → Prop} {K : Int32 → Int32 → Int32 → gq_M → Prop} {x1 x2 x3 : Int32} {μ : gq_M} (hv : v < 26) (h : wq_X7_summers_b153 Q K x1 x2 x3 (nI (px_dh v).1) (nI (px_dh v).2.1) (nI (px_dh v).2.2) μ) : px_d7 Q K x1 x2 x3 (nI v) μ := by
  unfold px_d7
  have e10 : (10 : Int32) ≤ nI v ↔ 10 ≤ v := by rw [mx_10, nI_leI (by omega) (by omega)]
  have e15 : (15 : Int32) ≤ nI v ↔ 15 ≤ v := by rw [show (15 : Int32) = nI 15 from rfl, nI_leI (by omega) (by omega)]
  have e25 : (25 : Int32) ≤ nI v ↔ 25 ≤ v := by rw [show (25 : Int32) = nI 25 from rfl, nI_leI (by omega) (by omega)]
  rw [e10, e15, e25]
  unfold px_dh at h
  refine ⟨fun h10 => ⟨fun h15 => ⟨fun h25 => ?_, fun h25 => ?_⟩, fun h15 => ?_⟩, fun h10 => ?_⟩
  · rw [if_neg (by omega), if_neg (by omega), if_neg (by omega)] at h
    exact ⟨fun _ => ⟨fun _ => ⟨fun _ => ⟨fun _ => h, fun q => absurd q (by decide)⟩, fun q => absurd q (by decide)⟩, fun q => absurd q (by decide)⟩, fun q => absurd q (by decide)⟩
  · rw [if_neg (by omega), if_neg (by omega), if_pos (by omega)] at h
    unfold wq_X7_summers_b92 wq_X7_summers_b111
    rw [show (15 : Int32) = nI 15 from rfl, pk_sub (by omega)]
    exact ⟨fun _ => ⟨fun _ => ⟨fun _ => ⟨fun q => absurd rfl q, fun _ => h⟩, fun q => absurd q (by decide)⟩, fun q => absurd q (by decide)⟩, fun q => absurd q (by decide)⟩
  · rw [if_neg (by omega), if_pos (by omega)] at h
    unfold wq_X7_summers_b92 wq_X7_summers_b111
    rw [mx_10, pk_sub (by omega)]
    exact ⟨fun _ => ⟨fun _ => ⟨fun q => absurd rfl q, fun _ => h⟩, fun q => absurd q (by decide)⟩, fun q => absurd q (by decide)⟩
  · rw [if_pos (by omega)] at h
    unfold wq_X7_summers_b92 wq_X7_summers_b111
    rw [mx_2, pk_div (by omega) (by omega) (by omega), show nI v - nI (v / 2) * nI 2 = nI (v % 2) from by rw [← pk_div (by omega) (by omega) (by omega)]; exact pk_rem (by omega) (by omega) (by omega)]
    exact ⟨fun q => absurd rfl q, fun _ => ⟨fun q => absurd rfl q, fun _ => h⟩⟩
theorem both_drawn {R S : Nat → Nat → Nat} {c : Int32} {v : Nat} (hR : rOK R) (hS : sOK R S) (hv : v < 26) : bothDo R S c (fun σ Q => wq_X4_doDrawn 33 (nI v) σ (fun τ => Q 1 τ)) (fun μ Q => wq_X7_tryThing (nI (px_dh v).1) (nI (px_dh v).2.1) (nI (px_dh v).2.2) μ (fun _ τ => Q 1 τ)) := by
  have e10 : (10 : Int32) ≤ nI v ↔ 10 ≤ v := by rw [mx_10, nI_leI (by omega) (by omega)]
  have e15 : (15 : Int32) ≤ nI v ↔ 15 ≤ v := by rw [show (15 : Int32) = nI 15 from rfl, nI_leI (by omega) (by omega)]
  have e25 : (25 : Int32) ≤ nI v ↔ 25 ≤ v := by rw [show (25 : Int32) = nI 25 from rfl, nI_leI (by omega) (by omega)]
  have key : ∀ (w4 w7 : gq_M → (Int32 → gq_M → Prop) → Prop), bothDo R S c w4 w7 → (∀ σ Q, w4 σ (fun _ τ => Q τ) → wq_X4_doDrawn 33 (nI v) σ Q) → bothDo R S c (fun σ Q => wq_X4_doDrawn 33 (nI v) σ (fun τ => Q 1 τ)) (fun μ Q => w7 μ (fun _ τ => Q 1 τ)) := by
    intro w4 w7 hb hw
    obtain ⟨r, S2, c2, b1, b2, b3, b4⟩ := hb
    exact ⟨1, S2, c2, Or.inr rfl, b2, fun σ Q h1 h2 h3 => hw σ _ (b3 σ _ h1 h2 h3), fun μ Q h1 h2 h3 h4 => b4 μ _ h1 h2 h3 h4⟩
  unfold px_dh
  by_cases h10 : v < 10
  · rw [if_pos h10]
    refine key _ _ (both_step hR hS (show v / 2 < 100 by omega) (Nat.mod_lt v (by omega))) (fun σ Q h => ?_)
    unfold wq_X4_doDrawn wq_X4_doDrawn_b22
    rw [e10, mx_2, pk_div (by omega) (by omega) (by omega), show nI v - nI (v / 2) * nI 2 = nI (v % 2) from by rw [← pk_div (by omega) (by omega) (by omega)]; exact pk_rem (by omega) (by omega) (by omega), mx_1, nI_eq (by omega) (by omega), ← mx_1]
    refine ⟨fun q => by omega, fun _ => ⟨fun q => ?_, fun q => ?_⟩⟩
    · have e : v % 2 = 0 := by omega
      rw [e] at h; exact h
    · rw [q] at h; exact h
  · rw [if_neg h10]
    by_cases h15 : v < 15
    · rw [if_pos h15]
      refine key _ _ (both_rest hR hS (show v - 10 < 100 by omega)) (fun σ Q h => ?_)
      unfold wq_X4_doDrawn
      rw [e10, e15, mx_10, pk_sub (by omega)]
      exact ⟨fun _ => ⟨fun q => by omega, fun _ => h⟩, fun q => by omega⟩
    · rw [if_neg h15]
      by_cases h25 : v < 25
      · rw [if_pos h25]
        refine key _ _ (both_grease hR hS (show v - 15 < 100 by omega)) (fun σ Q h => ?_)
        unfold wq_X4_doDrawn
        rw [e10, e15, e25, show (15 : Int32) = nI 15 from rfl, pk_sub (by omega)]
        exact ⟨fun _ => ⟨fun _ => ⟨fun q => by omega, fun _ => h⟩, fun q => by omega⟩, fun q => by omega⟩
      · rw [if_neg h25]
        refine key _ _ (both_freeze hR hS) (fun σ Q h => ?_)
        unfold wq_X4_doDrawn
        rw [e10, e15, e25]
        exact ⟨fun _ => ⟨fun _ => ⟨fun _ => h, fun q => by omega⟩, fun q => by omega⟩, fun q => by omega⟩
theorem sp7_sumTrial {R S : Nat → Nat → Nat} {c : Int32} {μ : gq_M} {Q : Int32 → gq_M → Prop} {K : Int32 → Int32 → Int32 → gq_M → Prop} {x1 x3 : Int32} {w : Nat} (hR : rOK R) (hm : mRd μ R) (hS : mSt μ 5 14 R S c) (h : K x1 (nI (w + px_sum (S 0) (R 1 0))) x3 μ) : ∃ n, wq_X7_summers_l160 Q K n x1 (nI w) x3 0 μ := by
  have hT := hR.2.1
  have key : ∀ m k, k + m = R 1 0 → wq_X7_summers_l160 Q K (m + 1) x1 (nI (w + px_sum (S 0) k)) x3 (nI k) μ := by
    intro m
    induction m with
    | zero =>
      intro k hk
      obtain rfl : k = R 1 0 := by omega
      unfold wq_X7_summers_l160
      rw [hm.2.1]
      exact ⟨fun _ => h, fun q => absurd (Int32.le_refl _) q⟩
    | succ m ih =>
      intro k hk
      have e1 := (hS.1 k (by omega)).1
      unfold wq_X7_summers_l160
      rw [hm.2.1, nI_leI (by omega) (by omega), mx_14, nI_add, nI_clamp (by omega), e1]
      refine ⟨fun q => by omega, fun _ => ⟨vp_in_nI (by omega) (by omega), fun v2 e2 v3 e3 => ?_⟩⟩
      rw [e2, e3, nI_add, nI_1, Nat.add_assoc, ← px_sum_s]
      exact ih (k + 1) (by omega)
  exact ⟨R 1 0 + 1, key (R 1 0) 0 (by omega)⟩
def fS2 (σ τ : gq_M) : Prop := ∀ c, c ≠ 33 → c ≠ 34 → c ≠ 35 → τ.1 c = σ.1 c
def fM2 (σ τ : gq_M) : Prop := (∀ c, c ≠ 5 → τ.1 c = σ.1 c) ∧ (∀ j, j < 14 → τ.1 5 j = σ.1 5 j)
def px_next (s : Int64) : Int64 := s * 6364136223846793005 + 1442695040888963407
theorem both_summers {R : Nat → Nat → Nat} {n : Nat} (hR : rOK R) (hn : n ≤ 30) : ∀ m k (S : Nat → Nat → Nat) (c : Int32) (s : Int64) (w : Nat), k + m = n → sOK R S → ∃ (res : Nat) (s2 : Int64), (∀ (σ : gq_M) (Q : Int32 → gq_M → Prop), cRd σ R → cSt σ 33 R S c → σ.2 = s → (∀ τ, fS2 σ τ → τ.2 = s2 → Q (nI res) τ) → wq_X6_summers_l29 Q (fun e τ => Q e τ) (m + 1) (nI n) (nI w) (nI k) σ) ∧ (∀ (μ : gq_M) (Q : Int32 → gq_M → Prop), mRd μ R → mSt μ 5 14 R S c → μ.1 0 15 = nI 0 → μ.2 = s → (∀ ν, fM2 μ ν → ν.2 = s2 → Q (nI res) ν) → wq_X7_summers_l23 Q (fun e ν => Q e ν) (m + 1) (nI n) (nI w) (nI k) μ) := by
  intro m
  induction m with
  | zero =>
    intro k S c s w hk hS
    obtain rfl : k = n := by omega
    refine ⟨w, s, fun σ Q h1 h2 h3 h => ?_, fun μ Q h1 h2 h3 h4 h => ?_⟩
    · unfold wq_X6_summers_l29
      exact ⟨fun _ => h σ (fun _ _ _ _ => rfl) h3, fun q => absurd (Int32.le_refl _) q⟩
    · unfold wq_X7_summers_l23
      exact ⟨fun _ => h μ ⟨fun _ _ => rfl, fun _ _ => rfl⟩ h4, fun q => absurd (Int32.le_refl _) q⟩
  | succ m ih =>
    intro k S c s w hk hS
    obtain ⟨v, hv, ev⟩ := mx_draw (px_next s)
    obtain ⟨r, S2, c2, hb, hS2, b4, b7⟩ := both_drawn (c := c) hR hS hv
    obtain ⟨res, s2, i4, i7⟩ := ih (k + 1) S2 c2 (px_next s) (w + px_sum (S2 0) (R 1 0)) (by omega) hS2
    refine ⟨res, s2, fun σ Q h1 h2 h3 h => ?_, fun μ Q h1 h2 h3 h4 h => ?_⟩
    · unfold wq_X6_summers_l29
      rw [nI_leI (by omega) (by omega)]
      refine ⟨fun q => by omega, fun _ => ?_⟩
      have e : ((((((σ.1, ((σ.2 * 6364136223846793005) + 1442695040888963407)) : gq_M)).2).toUInt64 >>> (((33 : Int32)).toInt64.toUInt64 &&& Int64.toUInt64 63)).toInt64 - ((((σ.1, ((σ.2 * 6364136223846793005) + 1442695040888963407)) : gq_M).2).toUInt64 >>> (((33 : Int32)).toInt64.toUInt64 &&& Int64.toUInt64 63)).toInt64 / 26 * 26).toInt32 = nI v := by
        rw [← ev, h3]; rfl
      rw [e, show (σ.2 * 6364136223846793005) + 1442695040888963407 = px_next s from by unfold px_next; rw [h3]]
      have h1' : cRd (σ.1, px_next s) R := cRd_of (σ := σ) (fun _ _ _ => rfl) h1
      have h2' : cSt (σ.1, px_next s) 33 R S c := cSt_of (σ := σ) rfl rfl rfl h2
      refine b4 (σ.1, px_next s) (fun _ σ7 => wq_X4_placesTogether 33 σ7 _) h1' h2' (fun τ a b => ?_)
      refine sp4_placesTogether hR (b.rd (by omega) h1') a (fun v10 e10 v11 e11 => ?_)
      rw [e10, e11, nI_add, nI_1]
      refine i4 τ Q (b.rd (by omega) h1') a b.2 (fun υ g1 g2 => h υ (fun q a1 a2 a3 => (g1 q a1 a2 a3).trans (b.1 q a1 a2 a3)) g2)
    · unfold wq_X7_summers_l23
      rw [nI_leI (by omega) (by omega)]
      refine ⟨fun q => by omega, fun _ v7 e7 => ?_⟩
      have e : v7 = nI v := by rw [e7, ← ev, h4]; rfl
      rw [e, show (μ.2 * 6364136223846793005) + 1442695040888963407 = px_next s from by unfold px_next; rw [h4]]
      refine mx_d7 (Q := Q) hv ?_
      unfold wq_X7_summers_b153
      have h1' : mRd (μ.1, px_next s) R := mRd_of (σ := μ) (fun _ _ => rfl) h1
      have h2' : mSt (μ.1, px_next s) 5 14 R S c := mSt_cpy (σ := μ) (a2 := 5) (b2 := 14) hR (fun _ _ => rfl) h2
      refine b7 (μ.1, px_next s) (fun _ ν => ∃ n25, wq_X7_summers_l160 Q (fun e20 e21 e22 σ23 => ∀ v24, v24 = (e22 + 1) → wq_X7_summers_l23 Q (fun e ν => Q e ν) (m + 1) e20 e21 v24 σ23) n25 (nI n) (nI w) (nI k) 0 ν) h1' h2' h3 (fun ν a b => ?_)
      refine sp7_sumTrial hR (b.rd h1') a (fun v24 e24 => ?_)
      rw [e24, nI_1]
      refine i7 ν Q (b.rd h1') a (by rw [b.1 0 (by omega)]; exact h3) b.2.2 (fun υ g1 g2 => h υ ⟨fun q a1 => (g1.1 q a1).trans (b.1 q a1), fun j hj => (g1.2 j hj).trans (b.2.1 j (Or.inl hj))⟩ g2)
theorem sim_summers {σ μ : gq_M} (h : Rel σ μ) : gl_S_summers Rel σ μ := by
  obtain ⟨⟨R, hR, hc, hm, ⟨S0, c0, hS0, hcS0, hmS0⟩, ha, hk⟩, ht, hh, h2s, hi⟩ := id h
  intro a
  have z1 : (1 : Int32).toInt = 1 := by decide
  have z0 : (0 : Int32).toInt = 0 := by decide
  have z30 : (30 : Int32).toInt = 30 := by decide
  have bad1 : ¬ (1 ≤ a.toInt ∧ a.toInt ≤ 30) → wq_X7_summers a μ (fun r2 ν => (-2 : Int32) = r2 ∧ Rel σ ν) := by
    intro g
    unfold wq_X7_summers
    exact sp7_inI (lo := 1) (hi := 30) (by decide) (by decide) (fun q r => absurd ⟨q, r⟩ g) (fun _ => ⟨fun q => absurd rfl q, fun _ => ⟨rfl, h⟩⟩)
  unfold wq_X6_summers
  rw [Int32.lt_iff_toInt_lt, Int32.le_iff_toInt_le, z1, z30]
  refine ⟨fun q => bad1 (by omega), fun q1 => ⟨fun q4 => ?_, fun q => bad1 (by omega)⟩⟩
  obtain ⟨n, hn4, en⟩ : ∃ n : Nat, n ≤ 30 ∧ a = nI n := nI_of2 (M := 30) (n := 30) (by decide) (by rw [Int32.lt_iff_toInt_lt]; omega) (by rw [Int32.le_iff_toInt_le]; omega)
  subst en
  rw [nI_toInt (by omega)] at q1 q4
  obtain ⟨res, s2, i4, i7⟩ := both_summers (n := n) hR hn4 n 0 S0 c0 σ.2 0 (by omega) hS0
  refine sp4_takeFrom (by omega) (fun σ1 hf hcp => ⟨n + 1, ?_⟩)
  refine i4 σ1 _ (hf.rd (by omega) hc) (cSt_cpy hR hcp hcS0) hf.2 (fun τ hf2 e2 => ?_)
  unfold wq_X7_summers
  refine sp7_inI (lo := 1) (hi := 30) (by decide) (by decide) (fun _ _ => ⟨fun _ => ?_, fun q => absurd q (by decide)⟩) (fun q => absurd (by rw [nI_toInt (by omega)]; omega) q)
  refine sp7_layTrial (fun μ1 hfm hcm => ⟨n + 1, ?_⟩)
  refine i7 μ1 _ (hfm.rd hm) (mSt_cpy hR hcm hmS0) (by rw [hfm.1 0 (by omega)]; exact hi) (hfm.2.2.trans h2s.symm) (fun ν hf3 e3 => ⟨rfl, ?_⟩)
  have h' : Rel (σ.1, s2) (μ.1, s2) := by
    clear e2 e3 i4 i7
    exact ⟨⟨R, hR, cRd_of (σ := σ) (fun _ _ _ => rfl) hc, mRd_of (σ := μ) (fun _ _ => rfl) hm, ⟨S0, c0, hS0, cSt_of (σ := σ) rfl rfl rfl hcS0, mSt_cpy (σ := μ) (a2 := 5) (b2 := 0) hR (fun _ _ => rfl) hmS0⟩, RelA_of (σ := σ) (μ := μ) hR ha rfl (fun _ _ _ => rfl) rfl rfl rfl, RelK_of (σ := σ) (μ := μ) hR hk rfl (fun _ _ _ => rfl) rfl rfl⟩, RelT_of (σ := σ) (μ := μ) ht rfl rfl rfl rfl, RelH_of (σ := σ) (μ := μ) hh rfl rfl rfl rfl rfl rfl, rfl, hi⟩
  refine h'.fx ⟨fun c hc' => ?_, e2⟩ ⟨fun c a1 a2 a3 a4 a5 a6 a7 => ?_, fun j hj => ?_, fun j _ _ _ _ _ _ => ?_, e3⟩
  · rw [hf2 c (fun e => hc' (by unfold kC; omega)) (fun e => hc' (by unfold kC; omega)) (fun e => hc' (by unfold kC; omega))]
    exact hf.1 c (fun e => hc' (by unfold kC; omega)) (fun e => hc' (by unfold kC; omega)) (fun e => hc' (by unfold kC; omega))
  · rw [hf3.1 c a2]; exact hfm.1 c a2
  · rw [hf3.2 j hj]; exact hfm.2.1 j (Or.inl hj)
  · rw [hf3.1 0 (by omega), hfm.1 0 (by omega)]
