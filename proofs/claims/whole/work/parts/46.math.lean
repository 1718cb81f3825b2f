/-! ===== maths 27: shutIn; fewest ===== -/
noncomputable def px_shut (R S : Nat → Nat → Nat) : Nat → Nat
  | 0 => 0
  | n + 1 => px_shut R S n ||| (if px_mask R S n (S 2 0) 0 = 2 ^ S 0 n then 2 ^ n else 0)
theorem sim_shutIn {σ μ : gq_M} (h : Rel σ μ) : gl_S_shutIn Rel σ μ := by
  obtain ⟨⟨R, hR, hc, hm, ⟨S, c, hS, hcS, hmS⟩, ha, hk⟩, ht, hh, h2s, hi⟩ := id h
  have hT := hR.2.1
  have hP := hR.1
  have m6 : ∀ (Q : Int32 → gq_M → Prop), (∀ τ, fP kW σ τ → Q (nI (px_shut R S (R 1 0))) τ) → wq_X6_shutIn σ Q := by
    intro Q hQ
    have key : ∀ n k τ, k + n = R 1 0 → fP kW σ τ → wq_X6_shutIn_l4 Q (fun e7 σ8 => Q e7 σ8) (n + 1) (nI (px_shut R S k)) (nI k) τ := by
      intro n
      induction n with
      | zero =>
        intro k τ hk2 hf
        obtain rfl : k = R 1 0 := by omega
        unfold wq_X6_shutIn_l4
        rw [(hf.cRd hc).2.1]
        exact ⟨fun _ => hQ τ hf, fun q => absurd (Int32.le_refl _) q⟩
      | succ n ih =>
        intro k τ hk2 hf
        have hk1 : k < R 1 0 := by omega
        have hp := (hS.1 k hk1).1
        unfold wq_X6_shutIn_l4
        rw [(hf.cRd hc).2.1, nI_leI (by omega) (by omega)]
        refine ⟨fun q => by omega, fun _ => ?_⟩
        refine sp6_reachIn (by omega) hR hS hk1 (hf.cRd hc) (hf.cSt (by omega) hcS) (fun τ2 a2 => ⟨vp_in_nI (by omega) (by omega), ?_⟩)
        have hc2 := a2.cSt (by omega) (hf.cSt (by omega) hcS)
        have e31 : τ2.1 31 k = nI (S 0 k) := (hc2.1 k hk1).1
        have hlt := px_mask_lt (R := R) (S := S) (t := k) (g := S 2 0) (ice := 0)
        have h2p : 2 ^ S 0 k ≤ 2 ^ 10 := Nat.pow_le_pow_right (by omega) (by omega)
        rw [nI_clamp (by omega), e31, mx_shl (by omega), nI_eq (by omega) (by omega), mx_shl (by omega), mx_or]
        have nxt := ih (k + 1) τ2 (by omega) (hf.tr a2)
        unfold px_shut at nxt
        unfold wq_X6_shutIn_b44
        refine ⟨fun q v5 e5 => ?_, fun q v6 e6 v5 e5 => ?_⟩
        · rw [if_neg q, Nat.or_zero] at nxt
          rw [e5, nI_1]; exact nxt
        · rw [if_pos q] at nxt
          rw [e5, e6, nI_1]; exact nxt
    exact ⟨R 1 0 + 1, key (R 1 0) 0 σ (by omega) fP.rf⟩
  have m7 : ∀ (Q : Int32 → gq_M → Prop), (∀ ν, fxM μ ν → Q (nI (px_shut R S (R 1 0))) ν) → wq_X7_shutIn μ Q := by
    intro Q hQ
    have key : ∀ n k τ, k + n = R 1 0 → fxM μ τ → wq_X7_shutIn_l4 Q (fun e7 σ8 => Q e7 σ8) (n + 1) (nI (px_shut R S k)) (nI k) τ := by
      intro n
      induction n with
      | zero =>
        intro k τ hk2 hf
        obtain rfl : k = R 1 0 := by omega
        unfold wq_X7_shutIn_l4
        rw [(hf.rd hm).2.1]
        exact ⟨fun _ => hQ τ hf, fun q => absurd (Int32.le_refl _) q⟩
      | succ n ih =>
        intro k τ hk2 hf
        have hk1 : k < R 1 0 := by omega
        have hp := (hS.1 k hk1).1
        unfold wq_X7_shutIn_l4
        rw [(hf.rd hm).2.1, nI_leI (by omega) (by omega)]
        refine ⟨fun q => by omega, fun _ => ?_⟩
        refine sp7_reachNow hR hS hk1 (hf.rd hm) (hf.st hR hmS) (by omega) (hf.ic hi) (fun τ2 a2 => ⟨vp_in_nI (by omega) (by omega), ?_⟩)
        have hc2 := a2.st hR (hf.st hR hmS)
        have e31 := (hc2.1 k hk1).1
        rw [Nat.zero_add] at e31
        have hlt := px_mask_lt (R := R) (S := S) (t := k) (g := S 2 0) (ice := 0)
        have h2p : 2 ^ S 0 k ≤ 2 ^ 10 := Nat.pow_le_pow_right (by omega) (by omega)
        rw [nI_clamp (by omega), e31, mx_shl (by omega), nI_eq (by omega) (by omega), mx_shl (by omega)]
        have nxt := ih (k + 1) τ2 (by omega) (hf.tr a2)
        unfold px_shut at nxt
        unfold wq_X7_shutIn_b36
        refine ⟨fun q v5 e5 v6 e6 => ?_, fun q v5 e5 v6 e6 => ?_⟩
        · rw [if_neg q] at nxt
          rw [e5, e6, nI_1, mx_0, mx_or]; exact nxt
        · rw [if_pos q] at nxt
          rw [e5, e6, nI_1, mx_or]; exact nxt
    exact ⟨R 1 0 + 1, key (R 1 0) 0 μ (by omega) fxM.rf⟩
  exact m6 _ (fun τ a => m7 _ (fun ν b => ⟨rfl, h.fx a.fxC b⟩))
/-- n moves lead to place p -/
def px_P (R S : Nat → Nat → Nat) (t p n : Nat) : Prop := ∃ e, px_at (px_N R t (S 2 0) (S 2 2) 0 true) (px_s0 S t) n e ∧ e / 110 = p
theorem sp7_few {R S : Nat → Nat → Nat} {t p : Nat} {c : Int32} {μ : gq_M} {Q : Int32 → gq_M → Prop} (hR : rOK R) (hS : sOK R S) (ht : t < R 1 0) (hp : p ≤ 10) (hm : mRd μ R) (hmS : mSt μ 5 0 R S c) (hi : μ.1 0 15 = nI 0) (h1 : ∀ n, px_P R S t p n → (∀ j, j < n → ¬ px_P R S t p j) → n ≤ 30 → ∀ ν, fxM μ ν → Q (nI n) ν) (h2 : (∀ n, n ≤ 30 → ¬ px_P R S t p n) → ∀ ν, fxM μ ν → Q (-9) ν) : wq_X7_spread 0 (nI t) 1 (nI (S 2 0)) μ (fun σ8 => (∃ n14, wq_X7_fewest_l34 Q (fun σ13 => Q (-9) σ13) n14 (nI p) 0 σ8)) := by
  have hP := hR.1
  refine sp7_spread (lv := 0) (rs := true) (ice := 0) hR hS ht (by omega) hm hmS hS.2.1 (by omega) hi (Or.inr ⟨by decide, rfl⟩) (fun ν q m D a1 a1' a2 a3 => ?_)
  have hlt := qJ_lt hR a2
  have key : ∀ n k, k + n = m → (∀ i, i < k → q i / 110 ≠ p) → wq_X7_fewest_l34 Q (fun σ13 => Q (-9) σ13) (n + 1) (nI p) (nI k) ν := by
    intro n
    induction n with
    | zero =>
      intro k hk hl
      obtain rfl : k = m := by omega
      unfold wq_X7_fewest_l34
      rw [a3.1]
      refine ⟨fun _ => h2 (fun n _ => ?_) ν a1, fun z => absurd (Int32.le_refl _) z⟩
      rintro ⟨e, g1, g2⟩
      obtain ⟨j, hj, g3, _⟩ := qJ_all a2 n e g1
      exact hl j hj (by rw [g3]; exact g2)
    | succ n ih =>
      intro k hk hl
      have hk1 : k < m := by omega
      have hv := a2.2.1 k hk1
      have he := vOK_lt hR hv
      have hDk := a2.2.2.2.2.2.2.2 k hk1
      unfold wq_X7_fewest_l34
      rw [a3.1, nI_leI (by omega) (by omega), nI_clamp (by omega), a3.2.1 k hk1, show (110 : Int32) = nI 110 from rfl, pk_div (by omega) (by omega) (by omega), nI_eq (by omega) (by omega), nI_clamp (by omega), a3.2.2.2 k hk1, mx_30, nI_leI (by omega) (by omega)]
      refine ⟨fun z => by omega, fun _ => ⟨vp_in_nI (by omega) (by omega), fun z v11 e11 => ?_, fun z => ?_⟩⟩
      · rw [e11, nI_1]
        refine ih (k + 1) (by omega) (fun i hi2 => ?_)
        rcases Nat.lt_or_ge i k with y | y
        · exact hl i y
        · rw [show i = k by omega]; exact z
      · have hin1 : vp_in (nI k) 1210 := vp_in_nI (by omega) (by omega)
        have hin2 : vp_in (nI (q k)) 1210 := vp_in_nI (by omega) (by omega)
        have hmin : ∀ j, j < D (q k) → ¬ px_P R S t p j := by
          rintro j hj ⟨e, g1, g2⟩
          obtain ⟨i, hi2, g3, g4⟩ := qJ_all a2 j e g1
          rcases Nat.lt_or_ge i k with y | y
          · exact hl i y (by rw [g3]; exact g2)
          · have := a2.2.2.2.2.1 k i y hi2
            rw [g3] at this
            omega
        refine ⟨hin1, hin2, fun y => ⟨hin1, hin2, h1 _ ⟨q k, a2.2.2.2.1 k hk1, z⟩ hmin y ν a1⟩, fun y => h2 (fun n hn => hmin n (by omega)) ν a1⟩
  exact ⟨m + 1, key m 0 (by omega) (fun i hi2 => absurd hi2 (by omega))⟩
-- the component's moves
def mI (R : Nat → Nat → Nat) (t g f s0 : Nat) (a : Nat → Nat) (n : Nat) : Prop := (∀ v, v < 33 → a v ≤ R 4 t + 1) ∧ (∀ v, v < 33 → 0 < a v → ∃ e, px_at (px_N R t g f 0 true) s0 n e ∧ px_nd e = v ∧ e / 11 % 10 + 1 = a v) ∧ (∀ e, px_at (px_N R t g f 0 true) s0 n e → e / 11 % 10 + 1 ≤ a (px_nd e))
/-- what has been raised for the nodes below k -/
def mB (R : Nat → Nat → Nat) (t g f s0 : Nat) (a b : Nat → Nat) (n : Nat) : Prop := (∀ v, v < 33 → b v ≤ R 4 t + 1) ∧ (∀ v, v < 33 → 0 < b v → ∃ e, px_at (px_N R t g f 0 true) s0 (n + 1) e ∧ px_nd e = v ∧ e / 11 % 10 + 1 = b v)
def mD (R : Nat → Nat → Nat) (t g f : Nat) (a b : Nat → Nat) (v : Nat) : Prop := 0 < a v → (∀ on w, px_wb R t g f 0 on v (a v - 1) = some w → w + 1 ≤ b (px_nb R t on v)) ∧ px_restW (R 4 t) (a v - 1) + 1 ≤ b (v - v % 3)
theorem mI_next {R : Nat → Nat → Nat} {t g f s0 n : Nat} {a b : Nat → Nat} (hR : rOK R) (ht : t < R 1 0) (hs : vOK R t s0) (hI : mI R t g f s0 a n) (hB : mB R t g f s0 a b n) (hD : ∀ v, v < 33 → mD R t g f a b v) : mI R t g f s0 b (n + 1) := by
  refine ⟨hB.1, hB.2, fun e => ?_⟩
  rintro ⟨e0, d, hd, h1, h2⟩
  have v0 := px_at_v hR ht hs n e0 h1
  have hlt := px_nd_lt hR v0
  have ha := hI.2.2 e0 h1
  have hav := hI.1 _ hlt
  obtain ⟨d1, d2⟩ := hD _ hlt (by omega)
  unfold px_N at h2
  split at h2
  · simp at h2
    have r := px_rs_p hR ht v0
    have p := px_nd_p e0
    have hm := px_md_le (e0 / 110) (e0 % 11)
    rw [← h2, r.2.1]
    have e3 : px_nd (px_rs R t e0) = px_nd e0 - px_nd e0 % 3 := by
      rw [p.2]
      unfold px_nd
      rw [r.1, r.2.2.1]
      have : px_md (e0 / 110) 0 = 0 := by
        unfold px_md
        rw [if_neg (by omega), if_neg (by omega)]
      omega
    rw [e3]
    have := px_restW_mono (b := R 4 t) (show e0 / 11 % 10 ≤ a (px_nd e0) - 1 by omega)
    omega
  · have c := (px_nx_wb hR ht v0).1 e h2
    have hvp : px_nd e0 / 3 ≤ R 0 0 := by rw [(px_nd_p e0).1]; exact v0.1
    obtain ⟨w1, c1, c2, c3⟩ := px_wb_mono (w' := a (px_nd e0) - 1) hR hvp (fun _ _ x => x) (by omega) (by omega) c.1
    have := d1 _ _ c1
    rw [c.2]
    omega
def px_rz (b : Nat → Nat) (u x : Nat) : Nat → Nat := px_up b u (max (b u) (x + 1))
theorem px_rz_le {b : Nat → Nat} {u x : Nat} (v : Nat) : b v ≤ px_rz b u x v := by
  unfold px_rz
  by_cases q : v = u
  · rw [q, px_up_s]; omega
  · rw [px_up_n q]; omega
theorem mD_up {R : Nat → Nat → Nat} {t g f v : Nat} {a b b' : Nat → Nat} (hb : ∀ v, b v ≤ b' v) (h : mD R t g f a b v) : mD R t g f a b' v := fun p => ⟨fun on w hw => Nat.le_trans ((h p).1 on w hw) (hb _), Nat.le_trans (h p).2 (hb _)⟩
theorem mB_rz {R : Nat → Nat → Nat} {t g f s0 n u x : Nat} {a b : Nat → Nat} (hB : mB R t g f s0 a b n) (hx : x ≤ R 4 t) (he : ∃ e, px_at (px_N R t g f 0 true) s0 (n + 1) e ∧ px_nd e = u ∧ e / 11 % 10 = x) : mB R t g f s0 a (px_rz b u x) n := by
  refine ⟨fun v hv => ?_, fun v hv hp => ?_⟩
  · unfold px_rz
    have := hB.1 v hv
    by_cases q : v = u
    · rw [q, px_up_s]; rw [q] at this; omega
    · rw [px_up_n q]; exact this
  · unfold px_rz at hp ⊢
    by_cases q : v = u
    · rw [q, px_up_s] at hp ⊢
      rcases Nat.lt_or_ge x (b u) with z | z
      · rw [Nat.max_eq_left (by omega)]
        exact hB.2 u (by omega) (by omega)
      · rw [Nat.max_eq_right (by omega)]
        obtain ⟨e, e1, e2, e3⟩ := he
        exact ⟨e, e1, e2, by omega⟩
    · rw [px_up_n q] at hp ⊢
      exact hB.2 v hv hp
def MM (σ : gq_M) (r : Nat) (a : Nat → Nat) : Prop := ∀ v, v < 33 → σ.1 r v = nI (a v) - 1
theorem sp5_raise {u x : Nat} {b : Nat → Nat} {σ : gq_M} {Q : gq_M → Prop} (hu : u < 33) (hx : x < 50) (hbu : b u < 50) (hM : MM σ 20 b) (hQ : ∀ τ, fP (fun c => c = 20) σ τ → MM τ 20 (px_rz b u x) → Q τ) : wq_X5_raise (nI u) (nI x) σ Q := by
  unfold wq_X5_raise
  rw [nI_clamp (by omega), hM u hu]
  refine ⟨vp_in_nI hu (by omega), vp_in_nI hu (by omega), hQ _ (fP.rf.put rfl) (fun v hv => ?_)⟩
  unfold px_rz
  rw [mx_rs]
  by_cases q : v = u
  · rw [if_pos q, q, px_up_s]
    by_cases z : b u ≤ x
    · rw [if_pos ((mx_mwlt (by omega) (by omega)).mpr z), Nat.max_eq_right (by omega), mx_mw (by omega)]; rfl
    · rw [if_neg (fun y => z ((mx_mwlt (by omega) (by omega)).mp y)), Nat.max_eq_left (by omega)]
  · rw [if_neg q, px_up_n q]; exact hM v hv
