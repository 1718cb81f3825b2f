/-! ===== maths 26: where one breath leads to: reach, meet, shutIn ===== -/
noncomputable def px_bm (P : Nat → Prop) : Nat → Nat
  | 0 => 0
  | n + 1 => px_bm P n ||| (@ite _ (P n) (Classical.propDecidable _) (2 ^ n) 0)
theorem px_bm_bit (P : Nat → Prop) (i : Nat) : ∀ n, (px_bm P n).testBit i = true ↔ i < n ∧ P i
  | 0 => by unfold px_bm; simp
  | n + 1 => by
    unfold px_bm
    rw [Nat.testBit_or, Bool.or_eq_true, px_bm_bit P i n]
    by_cases h : P n
    · rw [if_pos h, Nat.testBit_two_pow]
      simp only [decide_eq_true_eq]
      constructor
      · rintro (⟨a, b⟩ | a)
        · exact ⟨by omega, b⟩
        · exact ⟨by omega, by rw [← a]; exact h⟩
      · rintro ⟨a, b⟩
        rcases Nat.lt_or_ge i n with g | g
        · exact Or.inl ⟨g, b⟩
        · exact Or.inr (by omega)
    · rw [if_neg h, Nat.zero_testBit]
      constructor
      · rintro (⟨a, b⟩ | a)
        · exact ⟨by omega, b⟩
        · cases a
      · rintro ⟨a, b⟩
        rcases Nat.lt_or_ge i n with g | g
        · exact Or.inl ⟨g, b⟩
        · exact absurd (by rw [show n = i by omega]; exact b) h
theorem px_bm_lt (P : Nat → Prop) : ∀ n, px_bm P n < 2 ^ n
  | 0 => by unfold px_bm; decide
  | n + 1 => by
    have h1 := px_bm_lt P n
    have h2 : 2 ^ n < 2 ^ (n + 1) := Nat.pow_lt_pow_right (by omega) (by omega)
    unfold px_bm
    by_cases h : P n
    · rw [if_pos h]; exact Nat.or_lt_two_pow (by omega) h2
    · rw [if_neg h]; exact Nat.or_lt_two_pow (by omega) (Nat.two_pow_pos _)
noncomputable def px_mask (R S : Nat → Nat → Nat) (t g ice : Nat) : Nat := px_bm (fun p => ∃ n e, px_at (px_N R t g (S 2 2) ice false) (px_s0 S t) n e ∧ e / 110 = p) 11
theorem px_mask_is {R S : Nat → Nat → Nat} {t g ice : Nat} (hR : rOK R) (hS : sOK R S) (ht : t < R 1 0) : isMask R S t g ice (px_mask R S t g ice) := by
  refine ⟨px_bm_lt _ 11, fun p => ?_⟩
  unfold px_mask
  rw [px_bm_bit]
  constructor
  · exact fun h => h.2
  · rintro ⟨n, e, h1, h2⟩
    have := (px_at_v hR ht (px_s0_v hR hS ht).1 n e h1).1
    have := hR.1
    exact ⟨by omega, n, e, h1, h2⟩
theorem px_mask_lt {R S : Nat → Nat → Nat} {t g ice : Nat} : px_mask R S t g ice < 2048 := px_bm_lt _ 11
theorem sp7_reach {R S : Nat → Nat → Nat} {t lv g ice : Nat} {c : Int32} {μ : gq_M} {Q : Int32 → gq_M → Prop} (hR : rOK R) (hS : sOK R S) (ht : t < R 1 0) (hl : lv ≤ 1) (hm : mRd μ R) (hmS : mSt μ 5 (14 * lv) R S c) (hg : g < 1024) (hice : ice < 1024) (hi : μ.1 0 15 = nI ice) (hQ : ∀ ν, fxM μ ν → (∀ c, c ≠ 0 → c ≠ 10 → c ≠ 11 → ν.1 c = μ.1 c) → Q (nI (px_mask R S t g ice)) ν) : wq_X7_reachOn (nI lv) (nI t) (nI g) μ Q :=
  sp7_reachOn hR hS ht hl hm hmS hg hice hi (fun ν M a b c => by rw [isMask_u c (px_mask_is hR hS ht)]; exact hQ ν a b)
-- the component
theorem spJ_fill {i : Nat} {x : Int32} {σ : gq_M} {Q : gq_M → Prop} (h : ∀ τ, fP (fun c => c = i) σ τ → (∀ j, j < 33 → τ.1 i j = x) → Q τ) : wq_J7_fill_53178 i x σ Q := by
  have key : ∀ m k τ, k + m = 33 → fP (fun c => c = i) σ τ → (∀ j, j < k → τ.1 i j = x) → wq_J7_fill_53178_l5 i Q (fun σ3 => Q σ3) (m + 1) x (nI k) 33 τ := by
    intro m
    induction m with
    | zero =>
      intro k τ hk hf hl
      obtain rfl : k = 33 := by omega
      unfold wq_J7_fill_53178_l5
      exact ⟨fun _ => h τ hf hl, fun q => absurd (by decide) q⟩
    | succ m ih =>
      intro k τ hk hf hl
      unfold wq_J7_fill_53178_l5
      rw [show (33 : Int32) = nI 33 from rfl, nI_leI (by omega) (by omega), nI_clamp (by omega)]
      refine ⟨fun q => by omega, fun _ => ⟨vp_in_nI (by omega) (by omega), fun v2 e2 => ?_⟩⟩
      rw [e2, nI_1]
      refine ih (k + 1) _ (by omega) (hf.put rfl) (fun j hj => ?_)
      rw [mx_rs]
      by_cases e : j = k
      · rw [if_pos e]
      · rw [if_neg e]; exact hl j (by omega)
  exact ⟨34, key 33 0 σ (by omega) fP.rf (fun j hj => absurd hj (by omega))⟩
theorem sp5_beginAt {v w : Nat} {σ : gq_M} {Q : gq_M → Prop} (hv : v < 33) (h8 : σ.1 18 8 = nI v) (h9 : σ.1 18 9 = nI w) (h : ∀ τ, fP kV σ τ → τ.1 20 = σ.1 20 → τ.1 21 = σ.1 21 → (∀ j, j < 33 → τ.1 19 j = nI (px_up (fun _ => 0) v (w + 1) j) - 1) → Q τ) : wq_X5_beginAt σ Q := by
  unfold wq_X5_beginAt
  refine spJ_fill (fun τ a b => ?_)
  have e8 : τ.1 18 8 = nI v := by rw [a.1 18 (by omega)]; exact h8
  have e9 : τ.1 18 9 = nI w := by rw [a.1 18 (by omega)]; exact h9
  show vp_in (τ.1 18 8) 33 ∧ Q (gq_put τ 19 ((τ.1 18 8)).toNatClampNeg (τ.1 18 9))
  rw [e8, e9, nI_clamp (by omega)]
  have fr : fP kV σ τ := ⟨fun c hc => a.1 c (fun e => hc (Or.inl e)), a.2⟩
  refine ⟨vp_in_nI hv (by omega), h _ (fr.put (Or.inl rfl)) ?_ ?_ (fun j hj => ?_)⟩
  · rw [gq_put_other _ _ _ _ (by omega), a.1 20 (by omega)]
  · rw [gq_put_other _ _ _ _ (by omega), a.1 21 (by omega)]
  · rw [mx_rs]
    by_cases e : j = v
    · rw [if_pos e, e, px_up_s, mx_mw (by omega)]; rfl
    · rw [if_neg e, px_up_n e, b j hj]; decide
theorem sp5_places {R S : Nat → Nat → Nat} {t g ice : Nat} {σ : gq_M} {Q : Int32 → gq_M → Prop} (hR : rOK R) (hS : sOK R S) (ht : t < R 1 0) (hK : wK σ R t g (S 2 2) ice) (h8 : σ.1 18 8 = nI (px_nd (px_s0 S t))) (h9 : σ.1 18 9 = nI (S 1 t)) (hQ : ∀ τ, fP kV σ τ → Q (nI (px_mask R S t g ice)) τ) : wq_X5_places σ Q := by
  have hb := (hR.2.2.2 t ht).2.1
  have hv := px_s0_v hR hS ht
  have hnd := px_nd_lt hR hv.1
  have hw := (hS.1 t ht).2
  have hf := hS.2.2.2
  have key : ∀ n h a c T τ, n + h = 330 → h ≤ T → fP kV σ τ → pJ R t g (S 2 2) ice (px_s0 S t) a c T h → PM τ a c T → wq_X5_places_l20 Q (fun e11 σ12 => Q e11 σ12) (n + 1) (nI (px_orr (fun i => c i / 3) h)) (nI T) (nI h) τ := by
    intro n
    induction n with
    | zero =>
      intro h a c T τ hn hhT hfr hJ hM
      have hT := pJ_T hb hJ
      obtain rfl : h = T := by omega
      unfold wq_X5_places_l20
      refine ⟨fun _ => ?_, fun q => absurd (Int32.le_refl _) q⟩
      have := hQ τ hfr
      rw [isMask_u (px_mask_is hR hS ht) (pJ_mask hR hS ht hJ)] at this
      exact this
    | succ n ih =>
      intro h a c T τ hn hhT hfr hJ hM
      have hT := pJ_T hb hJ
      unfold wq_X5_places_l20
      rw [nI_leI (by omega) (by omega), mx_330, nI_leI (by omega) (by omega), nI_clamp (by omega)]
      refine ⟨fun q => ?_, fun q => ⟨fun q2 => by omega, fun _ => ?_⟩⟩
      · obtain rfl : h = T := by omega
        have := hQ τ hfr
        rw [isMask_u (px_mask_is hR hS ht) (pJ_mask hR hS ht hJ)] at this
        exact this
      · have hh : h < T := by omega
        have hin : vp_in (nI h) 330 := vp_in_nI (by omega) (by omega)
        obtain ⟨hc, ha⟩ := hJ.2.2.2.1 h hh
        refine ⟨hin, fun v5 e5 => ⟨hin, ?_⟩⟩
        rw [hM.2 h hh, mx_3, pk_div (by omega) (by omega) (by omega), mx_shl (by omega), mx_or] at e5
        subst e5
        rw [hM.2 h hh]
        refine sp5_enqueue hR ht hf hv.1 (hfr.wK hK) hJ hM hh (fun τ1 a1 c1 T1 x1 x2 x3 x4 x5 x6 x7 x8 => ⟨hin, ?_⟩)
        have hh1 : h < T1 := by omega
        have ec : c1 h = c h := x5 h hh
        rw [x3.2 h hh1]
        refine sp5_enqueue hR ht hf hv.1 ((hfr.tr x1).wK hK) x2 x3 hh1 (fun τ2 a2 c2 T2 y1 y2 y3 y4 y5 y6 y7 y8 v10 e10 => ?_)
        have hh2 : h < T2 := by omega
        have ec2 : c2 h = c h := by rw [y5 h hh1, ec]
        have ea2 : a2 (c h) = a (c h) := by rw [← x7, ← ec]; exact y7
        rw [e10, nI_1]
        have hor : px_orr (fun i => c i / 3) h ||| 2 ^ (c h / 3) = px_orr (fun i => c2 i / 3) (h + 1) := by
          have hpre : ∀ k, k ≤ h + 1 → px_orr (fun i => c i / 3) k = px_orr (fun i => c2 i / 3) k := by
            intro k
            induction k with
            | zero => intro _; rfl
            | succ k ihk =>
              intro hk
              rw [px_orr_s, px_orr_s, ihk (by omega), show c2 k = c k by rw [y5 k (by omega), x5 k (by omega)]]
          rw [← hpre (h + 1) (Nat.le_refl _), px_orr_s]
        rw [hor]
        refine ih (h + 1) a2 c2 T2 τ2 (by omega) (by omega) ((hfr.tr x1).tr y1) (pJ_next y2 hh2 (fun on w hw2 => ?_)) y3
        rw [ec2, ea2] at hw2
        rw [ec2]
        cases on with
        | true => exact Nat.lt_of_lt_of_le (x8 w hw2) (y6 _)
        | false =>
          rw [← ec]
          refine y8 w ?_
          rw [ec, x7]
          exact hw2
  unfold wq_X5_places
  refine sp5_beginAt hnd h8 h9 (fun τ x1 x2 x3 x4 => ?_)
  have e8 : τ.1 18 8 = nI (px_nd (px_s0 S t)) := by rw [x1.1 18 (by unfold kV; omega)]; exact h8
  show ∃ n13, wq_X5_places_l20 Q (fun e11 σ12 => Q e11 σ12) n13 0 1 0 (gq_put τ 21 0 (τ.1 18 8))
  rw [e8]
  refine ⟨331, key 330 0 (px_up (fun _ => 0) (px_nd (px_s0 S t)) (S 1 t + 1)) (fun _ => px_nd (px_s0 S t)) 1 _ (by omega) (by omega) (x1.put (Or.inr (Or.inr rfl))) ?_ ⟨fun v hv => by rw [mx_ro (by omega)]; exact x4 v hv, fun i hi => by rw [mx_rs, if_pos (by omega)]⟩⟩
  have one : ∀ v, 0 < px_up (fun _ => 0) (px_nd (px_s0 S t)) (S 1 t + 1) v → v = px_nd (px_s0 S t) := fun v h => by
    by_cases e : v = px_nd (px_s0 S t)
    · exact e
    · rw [px_up_n e] at h; exact absurd h (by omega)
  refine ⟨⟨by omega, ?_⟩, fun v _ => ?_, fun v _ h => ?_, fun i hi => ⟨hnd, by rw [px_up_s]; omega⟩, fun v hv h => Or.inl ⟨0, by omega, by omega, (one v h).symm⟩, ?_⟩
  · have := (px_sum_up (a := fun _ => 0) (v := px_nd (px_s0 S t)) (x := S 1 t + 1) 33).1 hnd
    omega
  · by_cases e : v = px_nd (px_s0 S t)
    · rw [e, px_up_s]; omega
    · rw [px_up_n e]; omega
  · have e := one v h
    exact ⟨0, px_s0 S t, rfl, e.symm, by rw [e, px_up_s, hv.2.2.1]⟩
  · rw [px_up_s, hv.2.2.1]; exact Nat.le_refl _
theorem sp6_reachIn {R S : Nat → Nat → Nat} {z t : Nat} {c : Int32} {σ : gq_M} {Q : Int32 → gq_M → Prop} (hz : 30 ≤ z) (hR : rOK R) (hS : sOK R S) (ht : t < R 1 0) (hc : cRd σ R) (hcS : cSt σ z R S c) (hQ : ∀ τ, fP kW σ τ → Q (nI (px_mask R S t (S 2 0) 0)) τ) : wq_X6_reachIn z (nI t) σ Q := by
  unfold wq_X6_reachIn
  rw [hcS.2.1]
  refine sp5_prepare (ice := 0) hz hR hS ht hc hcS hS.2.1 (by omega) (fun τ a b d e => ?_)
  exact sp5_places hR hS ht b d e (fun υ g => hQ υ (a.tr ⟨fun c hc => g.1 c (fun q => hc (by unfold kV at q; unfold kW; omega)), g.2⟩))
theorem sp6_comesWith {R S : Nat → Nat → Nat} {t p g ice : Nat} {c : Int32} {σ : gq_M} {Q : Int32 → gq_M → Prop} (hR : rOK R) (hS : sOK R S) (ht : t < R 1 0) (hp : p ≤ 10) (hc : cRd σ R) (hcS : cSt σ 30 R S c) (hg : g < 1024) (hice : ice < 1024) (hQ : ∀ τ, fP kW σ τ → Q (if (px_mask R S t g ice).testBit p then 1 else 0) τ) : wq_X6_comesWith (nI t) (nI p) (nI g) (nI ice) σ Q := by
  unfold wq_X6_comesWith
  refine sp5_prepare (by omega) hR hS ht hc hcS hg hice (fun τ a b d e => ?_)
  refine sp5_places hR hS ht b d e (fun υ k => ?_)
  have h := hQ υ (a.tr ⟨fun c hc => k.1 c (fun q => hc (by unfold kV at q; unfold kW; omega)), k.2⟩)
  have hlt := px_mask_lt (R := R) (S := S) (t := t) (g := g) (ice := ice)
  rw [mx_bit1 (by omega) (by omega)]
  refine ⟨fun q => ?_, fun q => ?_⟩
  · rw [if_neg q] at h; exact h
  · rw [if_pos q] at h; exact h
theorem fP.fxC {σ τ : gq_M} (h : fP kW σ τ) : fxC σ τ := ⟨fun c hc => h.1 c (fun q => hc (by unfold kW at q; unfold kC; omega)), h.2⟩
theorem fP.cRd {σ τ : gq_M} {R : Nat → Nat → Nat} (h : fP kW σ τ) (k : cRd σ R) : cRd τ R := cRd_of (fun c a b => h.1 c (by unfold kW; omega)) k
theorem fP.cSt {σ τ : gq_M} {R S : Nat → Nat → Nat} {z : Nat} {c : Int32} (hz : 30 ≤ z) (h : fP kW σ τ) (k : cSt σ z R S c) : cSt τ z R S c := cSt_of (h.1 _ (by unfold kW; omega)) (h.1 _ (by unfold kW; omega)) (h.1 _ (by unfold kW; omega)) k
theorem fxM.rd {μ ν : gq_M} {R : Nat → Nat → Nat} (h : fxM μ ν) (k : mRd μ R) : mRd ν R := by
  unfold mRd at *
  rw [h.2.2.1 0 (by omega) (by omega) (by omega) (by omega) (by omega) (by omega), h.2.2.1 1 (by omega) (by omega) (by omega) (by omega) (by omega) (by omega), h.1 1 (by omega) (by omega) (by omega) (by omega) (by omega) (by omega) (by omega), h.1 2 (by omega) (by omega) (by omega) (by omega) (by omega) (by omega) (by omega), h.1 3 (by omega) (by omega) (by omega) (by omega) (by omega) (by omega) (by omega), h.1 4 (by omega) (by omega) (by omega) (by omega) (by omega) (by omega) (by omega)]
  exact k
theorem fxM.st {μ ν : gq_M} {R S : Nat → Nat → Nat} {c : Int32} (hR : rOK R) (h : fxM μ ν) (k : mSt μ 5 0 R S c) : mSt ν 5 0 R S c := mSt_cpy (a2 := 5) (b2 := 0) hR (fun j hj => by rw [Nat.zero_add]; exact h.2.1 j hj) k
theorem fxM.ic {μ ν : gq_M} {x : Int32} (h : fxM μ ν) (k : μ.1 0 15 = x) : ν.1 0 15 = x := by rw [h.2.2.1 15 (by omega) (by omega) (by omega) (by omega) (by omega) (by omega)]; exact k
theorem sp7_reachNow {R S : Nat → Nat → Nat} {t ice : Nat} {c : Int32} {μ : gq_M} {Q : Int32 → gq_M → Prop} (hR : rOK R) (hS : sOK R S) (ht : t < R 1 0) (hm : mRd μ R) (hmS : mSt μ 5 0 R S c) (hice : ice < 1024) (hi : μ.1 0 15 = nI ice) (hQ : ∀ ν, fxM μ ν → Q (nI (px_mask R S t (S 2 0) ice)) ν) : wq_X7_reachNow (nI t) μ Q := by
  unfold wq_X7_reachNow
  have e : μ.1 5 10 = nI (S 2 0) := hmS.2.1
  rw [e]
  exact sp7_reach (lv := 0) hR hS ht (by omega) hm hmS hS.2.1 hice hi (fun ν a _ => hQ ν a)
theorem sp7_reachNow2 {R S : Nat → Nat → Nat} {t ice : Nat} {c : Int32} {μ : gq_M} {Q : Int32 → gq_M → Prop} (hR : rOK R) (hS : sOK R S) (ht : t < R 1 0) (hm : mRd μ R) (hmS : mSt μ 5 0 R S c) (hice : ice < 1024) (hi : μ.1 0 15 = nI ice) (hQ : ∀ ν, fxM μ ν → ν.1 14 = μ.1 14 → Q (nI (px_mask R S t (S 2 0) ice)) ν) : wq_X7_reachNow (nI t) μ Q := by
  unfold wq_X7_reachNow
  have e : μ.1 5 10 = nI (S 2 0) := hmS.2.1
  rw [e]
  exact sp7_reach (lv := 0) hR hS ht (by omega) hm hmS hS.2.1 hice hi (fun ν a b => hQ ν a (b 14 (by omega) (by omega) (by omega)))
theorem sim_reach {σ μ : gq_M} (h : Rel σ μ) : gl_S_reach Rel σ μ := by
  obtain ⟨⟨R, hR, hc, hm, ⟨S, c, hS, hcS, hmS⟩, ha, hk⟩, ht, hh, h2s, hi⟩ := id h
  have hT := hR.2.1
  intro a1
  unfold wq_X6_reach
  refine sp2_hasTraveller hc.2.1 (by omega) (fun v => ⟨fun _ => ?_, fun q => absurd q (by decide)⟩) (fun v => ⟨fun q => absurd rfl q, fun _ => ?_⟩)
  · obtain ⟨t, ht1, e⟩ := (mx_in (by omega)).mp v
    subst e
    refine sp6_reachIn (by omega) hR hS ht1 hc hcS (fun τ a => ?_)
    unfold wq_X7_reach
    refine sp7_isTraveller hm.2.1 (by omega) (fun _ => ⟨fun q => absurd q (by decide), fun _ => ?_⟩) (fun w => absurd v w)
    exact sp7_reachNow hR hS ht1 hm hmS (by omega) hi (fun ν b => ⟨rfl, h.fx a.fxC b⟩)
  · unfold wq_X7_reach
    exact sp7_isTraveller hm.2.1 (by omega) (fun w => absurd w v) (fun _ => ⟨fun _ => ⟨rfl, h⟩, fun q => absurd rfl q⟩)
theorem sim_meet {σ μ : gq_M} (h : Rel σ μ) : gl_S_meet Rel σ μ := by
  obtain ⟨⟨R, hR, hc, hm, ⟨S, c, hS, hcS, hmS⟩, ha, hk⟩, ht, hh, h2s, hi⟩ := id h
  have hT := hR.2.1
  intro a1 a2
  unfold wq_X6_meet
  refine sp2_hasTraveller hc.2.1 (by omega) (fun v => ⟨fun q => absurd q (by decide), fun _ => ?_⟩) (fun v => ⟨fun _ => ?_, fun q => absurd rfl q⟩)
  · refine sp2_hasTraveller hc.2.1 (by omega) (fun v2 => ⟨fun _ => ?_, fun q => absurd q (by decide)⟩) (fun v2 => ⟨fun q => absurd rfl q, fun _ => ?_⟩)
    · obtain ⟨t, ht1, e⟩ := (mx_in (by omega)).mp v
      subst e
      obtain ⟨u, hu1, e⟩ := (mx_in (by omega)).mp v2
      subst e
      refine sp6_reachIn (by omega) hR hS ht1 hc hcS (fun τ a => ?_)
      refine sp6_reachIn (by omega) hR hS hu1 (a.cRd hc) (a.cSt (by omega) hcS) (fun τ2 a2 => ?_)
      unfold wq_X7_meet
      refine sp7_isTraveller hm.2.1 (by omega) (fun _ => ⟨fun q => absurd q (by decide), fun _ => ?_⟩) (fun w => absurd v w)
      refine sp7_isTraveller hm.2.1 (by omega) (fun _ => ⟨fun q => absurd q (by decide), fun _ => ?_⟩) (fun w => absurd v2 w)
      refine sp7_reachNow hR hS ht1 hm hmS (by omega) hi (fun ν b => ?_)
      exact sp7_reachNow hR hS hu1 (b.rd hm) (b.st hR hmS) (by omega) (b.ic hi) (fun ν2 b2 => ⟨rfl, h.fx (a.tr a2).fxC (b.tr b2)⟩)
    · unfold wq_X7_meet
      refine sp7_isTraveller hm.2.1 (by omega) (fun _ => ⟨fun q => absurd q (by decide), fun _ => ?_⟩) (fun w => absurd v w)
      exact sp7_isTraveller hm.2.1 (by omega) (fun w => absurd w v2) (fun _ => ⟨fun _ => ⟨rfl, h⟩, fun q => absurd rfl q⟩)
  · unfold wq_X7_meet
    exact sp7_isTraveller hm.2.1 (by omega) (fun w => absurd w v) (fun _ => ⟨fun _ => ⟨rfl, h⟩, fun q => absurd rfl q⟩)
