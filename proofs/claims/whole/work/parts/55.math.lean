/-! ===== maths 36: share ===== -/
noncomputable def px_M (R S : Nat → Nat → Nat) (u : Nat) : Nat := px_mask R S u (S 2 0) 0
theorem px_M_lt {R S : Nat → Nat → Nat} {u : Nat} : px_M R S u < 2 ^ 11 := px_mask_lt
theorem px_M_p {R S : Nat → Nat → Nat} {u p : Nat} (hR : rOK R) (hS : sOK R S) (hu : u < R 1 0) (h : (px_M R S u).testBit p = true) : p ≤ R 0 0 := by
  obtain ⟨n, e, h1, h2⟩ := ((px_mask_is hR hS hu).2 p).mp h
  rw [← h2]
  exact (px_at_v hR hu (px_s0_v hR hS hu).1 n e h1).1
theorem px_sum_ext {f : Nat → Nat} {k : Nat} : ∀ n, (∀ i, k ≤ i → f i = 0) → px_sum f (k + n) = px_sum f k
  | 0, _ => rfl
  | n + 1, h => by
    show px_sum f (k + n) + f (k + n) = _
    rw [px_sum_ext n h, h (k + n) (by omega)]
    rfl
theorem px_sum_b1 {F : Nat → Bool} : ∀ n, px_sum (fun u => if F u then 1 else 0) n ≤ n
  | 0 => Nat.le_refl _
  | n + 1 => by
    have := px_sum_b1 (F := F) n
    rw [px_sum_s]
    split <;> omega
theorem sp6_howMany {R S : Nat → Nat → Nat} {p : Nat} {c : Int32} {σ : gq_M} {Q : Int32 → gq_M → Prop} (hR : rOK R) (hS : sOK R S) (hp : p ≤ 10) (hc : cRd σ R) (hcS : cSt σ 30 R S c) (hQ : ∀ τ, fP kW σ τ → Q (nI (px_sum (fun u => if (px_M R S u).testBit p then 1 else 0) (R 1 0))) τ) : wq_X6_howManyReach (nI p) σ Q := by
  have hT := hR.2.1
  have key : ∀ m k τ, k + m = R 1 0 → fP kW σ τ → wq_X6_howManyReach_l4 Q (fun e6 σ7 => Q e6 σ7) (m + 1) (nI p) (nI (px_sum (fun u => if (px_M R S u).testBit p then 1 else 0) k)) (nI k) τ := by
    intro m
    induction m with
    | zero =>
      intro k τ hk hf
      obtain rfl : k = R 1 0 := by omega
      unfold wq_X6_howManyReach_l4
      rw [(hf.cRd hc).2.1]
      exact ⟨fun _ => hQ τ hf, fun q => absurd (Int32.le_refl _) q⟩
    | succ m ih =>
      intro k τ hk hf
      unfold wq_X6_howManyReach_l4
      rw [(hf.cRd hc).2.1, nI_leI (by omega) (by omega)]
      refine ⟨fun q => by omega, fun _ => ?_⟩
      refine sp6_reachIn (by omega) hR hS (by omega) (hf.cRd hc) (hf.cSt (by omega) hcS) (fun τ2 a v4 e4 v5 e5 => ?_)
      have hlt := px_mask_lt (R := R) (S := S) (t := k) (g := S 2 0) (ice := 0)
      rw [mx_bitN (by omega) (by omega), nI_add] at e4
      rw [e4, e5, nI_1]
      exact ih (k + 1) τ2 (by omega) (hf.tr a)
  exact ⟨R 1 0 + 1, key (R 1 0) 0 σ (by omega) fP.rf⟩
theorem sp6_share_l29 {R S : Nat → Nat → Nat} {t : Nat} {up c : Int32} {σ : gq_M} {Q : Int32 → gq_M → Prop} {K : Int32 → Int32 → gq_M → Prop} (hR : rOK R) (hS : sOK R S) (ht : t < R 1 0) (hc : cRd σ R) (hcS : cSt σ 30 R S c) (hK : ∀ τ, fP kW σ τ → K up (nI (px_sum (px_sB (px_M R S) (R 1 0) t) 11)) τ) : ∃ n, wq_X6_share_l29 Q K n up (nI (px_M R S t)) 0 0 σ := by
  have hT := hR.2.1
  have hP := hR.1
  have hlt := px_M_lt (R := R) (S := S) (u := t)
  have key : ∀ m k τ, k + m = R 0 0 + 1 → fP kW σ τ → wq_X6_share_l29 Q K (m + 1) up (nI (px_M R S t)) (nI (px_sum (px_sB (px_M R S) (R 1 0) t) k)) (nI k) τ := by
    intro m
    induction m with
    | zero =>
      intro k τ hk hf
      have hk' : k = R 0 0 + 1 := by omega
      unfold wq_X6_share_l29
      rw [(hf.cRd hc).1, nI_ltI (by omega) (by omega)]
      refine ⟨fun _ => ?_, fun q => by omega⟩
      have h := hK τ hf
      rw [show 11 = k + (11 - k) by omega, px_sum_ext (11 - k) (fun i hi => ?_)] at h
      · exact h
      · unfold px_sB
        rw [if_neg]
        intro q
        have := px_M_p hR hS ht q
        omega
    | succ m ih =>
      intro k τ hk hf
      unfold wq_X6_share_l29
      rw [(hf.cRd hc).1, nI_ltI (by omega) (by omega), mx_bit1 (by omega) (by omega)]
      have nxt := fun τ2 h => ih (k + 1) τ2 (by omega) h
      refine ⟨fun q => by omega, fun _ => ⟨fun q => ?_, fun q => ?_⟩⟩
      · unfold wq_X6_share_b65
        intro v8 e8
        have := nxt τ hf
        have e0 : px_sB (px_M R S) (R 1 0) t k = 0 := by unfold px_sB; rw [if_neg q]
        rw [px_sum_s, e0, Nat.add_zero] at this
        rw [e8, nI_1]
        exact this
      · refine sp6_howMany hR hS (by omega) (hf.cRd hc) (hf.cSt (by omega) hcS) (fun τ2 a => ?_)
        have hb1 := px_sum_b1 (F := fun u => (px_M R S u).testBit k) (R 1 0)
        have hpos : 0 < px_sum (fun u => if (px_M R S u).testBit k then 1 else 0) (R 1 0) := by
          have := px_sum_term (f := fun u => if (px_M R S u).testBit k then 1 else 0) (R 1 0) ht
          simp only [q, if_true] at this
          omega
        have e0 : px_sB (px_M R S) (R 1 0) t k = 60 / px_sum (fun u => if (px_M R S u).testBit k then 1 else 0) (R 1 0) := by unfold px_sB; rw [if_pos q]
        generalize px_sum (fun u => if (px_M R S u).testBit k then 1 else 0) (R 1 0) = n at *
        unfold wq_X6_sharedPart
        have nn : ¬ nI n = 0 := nI_ne0 hpos (by omega)
        refine ⟨fun _ => ⟨nn, fun v13 e13 => ?_⟩, fun z => absurd z nn⟩
        unfold wq_X6_share_b65
        intro v8 e8
        have := nxt τ2 (hf.tr a)
        rw [px_sum_s, e0] at this
        rw [mx_60, pk_div (by omega) hpos (by omega), nI_add] at e13
        rw [e8, nI_1, e13]
        exact this
  exact ⟨R 0 0 + 2, key (R 0 0 + 1) 0 σ (by omega) fP.rf⟩
-- the model
theorem sp7_factorial {n : Nat} {σ : gq_M} {Q : Int32 → gq_M → Prop} (hn : n ≤ 5) (h : Q (nI (px_f n)) σ) : wq_X7_factorial (nI n) σ Q := by
  rcases Nat.eq_zero_or_pos n with z | z
  · subst z
    refine ⟨1, ?_⟩
    unfold wq_X7_factorial_l4
    exact ⟨fun _ => h, fun q => absurd (by decide) q⟩
  · have key : ∀ m k, k + m = n + 1 → 2 ≤ k → wq_X7_factorial_l4 Q (fun e4 σ5 => Q e4 σ5) (m + 1) (nI n) (nI (px_f (k - 1))) (nI k) σ := by
      intro m
      induction m with
      | zero =>
        intro k hk h2
        obtain rfl : k = n + 1 := by omega
        unfold wq_X7_factorial_l4
        rw [nI_ltI (by omega) (by omega)]
        exact ⟨fun _ => h, fun q => by omega⟩
      | succ m ih =>
        intro k hk h2
        unfold wq_X7_factorial_l4
        rw [nI_ltI (by omega) (by omega)]
        refine ⟨fun q => by omega, fun _ v2 e2 v3 e3 => ?_⟩
        rw [e2, e3, nI_1, pk_mul]
        have := ih (k + 1) (by omega) (by omega)
        rw [show k + 1 - 1 = (k - 1) + 1 by omega] at this
        unfold px_f at this
        rw [show k - 1 + 1 = k by omega, Nat.mul_comm] at this
        exact this
    have k2 := key (n - 1) 2 (by omega) (by omega)
    exact ⟨n - 1 + 1, k2⟩
def hM14 (ν : gq_M) (M : Nat → Nat) (T : Nat) : Prop := ν.1 0 1 = nI T ∧ ∀ u, u < T → ν.1 14 u = nI (M u)
theorem sp7_comeTo {M : Nat → Nat} {T s : Nat} {ν : gq_M} {Q : Int32 → gq_M → Prop} (hT : T ≤ 5) (hM : ∀ u, u < T → M u < 2 ^ 11) (hs : s < 2 ^ 31) (h14 : hM14 ν M T) (h : Q (nI (px_pc (px_U M s T) 11)) ν) : wq_X7_comeTo (nI s) ν Q := by
  have key : ∀ m k, k + m = T → wq_X7_comeTo_l4 Q (fun e7 σ8 => wq_X7_ones e7 σ8 (fun r9 σ10 => Q r9 σ10)) (m + 1) (nI s) (nI (px_U M s k)) (nI k) ν := by
    intro m
    induction m with
    | zero =>
      intro k hk
      obtain rfl : k = T := by omega
      have hU := px_U_lt (s := s) k hM
      unfold wq_X7_comeTo_l4
      rw [h14.1]
      exact ⟨fun _ => sp7_ones (by omega) h, fun q => absurd (Int32.le_refl _) q⟩
    | succ m ih =>
      intro k hk
      unfold wq_X7_comeTo_l4 wq_X7_comeTo_b31
      rw [h14.1, nI_leI (by omega) (by omega)]
      refine ⟨fun q => by omega, fun _ => ?_⟩
      have nxt := ih (k + 1) (by omega)
      unfold px_U at nxt
      refine sp7_has hs (by omega) (fun hb => ⟨fun q => absurd q (by decide), fun _ => ⟨vp_in_nI (by omega) (by omega), fun v5 e5 v6 e6 => ?_⟩⟩) (fun hb => ⟨fun _ v5 e5 v6 e6 => ?_, fun q => absurd rfl q⟩)
      · rw [hb] at nxt
        simp only [if_true] at nxt
        rw [nI_clamp (by omega), h14.2 k (by omega), mx_or] at e5
        rw [e5, e6, nI_1]
        exact nxt
      · rw [hb] at nxt
        simp only [Bool.false_eq_true, if_false] at nxt
        rw [mx_0, mx_or] at e5
        rw [e5, e6, nI_1]
        exact nxt
  exact ⟨T + 1, key T 0 (by omega)⟩
theorem sp7_share_l42 {M : Nat → Nat} {T t : Nat} {up : Int32} {ν : gq_M} {Q : Int32 → gq_M → Prop} {K : Int32 → Int32 → gq_M → Prop} (hT : T ≤ 5) (ht : t < T) (hM : ∀ u, u < T → M u < 2 ^ 11) (h14 : hM14 ν M T) (hK : K up (nI (px_sum (px_sA M T t) (2 ^ T))) ν) : ∃ n, wq_X7_share_l42 Q K n (nI t) up 0 0 ν := by
  have h32 : 2 ^ T ≤ 2 ^ 5 := Nat.pow_le_pow_right (by omega) hT
  have h2t : 2 ^ t ≤ 2 ^ 5 := Nat.pow_le_pow_right (by omega) (by omega)
  have key : ∀ m k, k + m = 2 ^ T → wq_X7_share_l42 Q K (m + 1) (nI t) up (nI (px_sum (px_sA M T t) k)) (nI k) ν := by
    intro m
    induction m with
    | zero =>
      intro k hk
      have hk' : k = 2 ^ T := by omega
      unfold wq_X7_share_l42
      rw [h14.1, mx_shl (by omega), nI_leI (by omega) (by omega)]
      rw [← hk'] at hK
      exact ⟨fun _ => hK, fun q => by omega⟩
    | succ m ih =>
      intro k hk
      have hk2 : k < 2 ^ T := by omega
      unfold wq_X7_share_l42
      rw [h14.1, mx_shl (by omega), nI_leI (by omega) (by omega)]
      have nxt := ih (k + 1) (by omega)
      rw [px_sum_s] at nxt
      refine ⟨fun q => by omega, fun _ => ?_⟩
      refine sp7_has (by omega) (by omega) (fun hb => ⟨fun _ => ?_, fun q => absurd q (by decide)⟩) (fun hb => ⟨fun q => absurd rfl q, fun _ => ?_⟩)
      · unfold wq_X7_share_b111
        intro v15 e15
        have e0 : px_sA M T t k = 0 := by unfold px_sA; rw [if_pos hb]
        rw [e0, Nat.add_zero] at nxt
        rw [e15, nI_1]
        exact nxt
      · have hod := px_od_ok T (by omega) k (by omega) hk2 t ht hb
        refine sp7_ones (by omega) ?_
        refine sp7_factorial (by omega) (sp7_ones (by omega) ?_)
        rw [h14.1, mx_nsub (by omega) (by omega)]
        refine sp7_factorial (by omega) (fun v24 e24 => ?_)
        rw [pk_mul] at e24
        rw [mx_shl (by omega), mx_or]
        have hor : k ||| 2 ^ t < 2 ^ 6 := Nat.or_lt_two_pow (by omega) (by omega)
        refine sp7_comeTo hT hM (by omega) h14 (sp7_comeTo hT hM (by omega) h14 (fun v29 e29 => ?_))
        rw [px_D_ok ht, pk_sub (by omega), Nat.add_sub_cancel_left, e24, pk_mul, nI_add] at e29
        have e0 : px_sA M T t k = px_od T k * px_D M T t k := by unfold px_sA; rw [hb]; rfl
        rw [e0] at nxt
        unfold px_od at nxt
        unfold wq_X7_share_b111
        intro v15 e15
        rw [e15, nI_1, e29]
        exact nxt
  exact ⟨2 ^ T + 1, key (2 ^ T) 0 (by omega)⟩
theorem sp7_share_l12 {R S : Nat → Nat → Nat} {c x1 x2 : Int32} {μ : gq_M} {Q : Int32 → gq_M → Prop} {K : Int32 → Int32 → gq_M → Prop} (hR : rOK R) (hS : sOK R S) (hm : mRd μ R) (hmS : mSt μ 5 0 R S c) (hi : μ.1 0 15 = nI 0) (hK : ∀ ν, fxM μ ν → hM14 ν (px_M R S) (R 1 0) → K x1 x2 ν) : ∃ n, wq_X7_share_l12 Q K n x1 x2 0 μ := by
  have hT := hR.2.1
  have key : ∀ m k ν, k + m = R 1 0 → fxM μ ν → (∀ u, u < k → ν.1 14 u = nI (px_M R S u)) → wq_X7_share_l12 Q K (m + 1) x1 x2 (nI k) ν := by
    intro m
    induction m with
    | zero =>
      intro k ν hk hf hl
      obtain rfl : k = R 1 0 := by omega
      unfold wq_X7_share_l12
      rw [(hf.rd hm).2.1]
      exact ⟨fun _ => hK ν hf ⟨(hf.rd hm).2.1, hl⟩, fun q => absurd (Int32.le_refl _) q⟩
    | succ m ih =>
      intro k ν hk hf hl
      unfold wq_X7_share_l12
      rw [(hf.rd hm).2.1, nI_leI (by omega) (by omega)]
      refine ⟨fun q => by omega, fun _ => ?_⟩
      refine sp7_reachNow2 hR hS (by omega) (hf.rd hm) (hf.st hR hmS) (by omega) (hf.ic hi) (fun ν2 a b => ⟨vp_in_nI (by omega) (by omega), fun v7 e7 => ?_⟩)
      rw [e7, nI_1, nI_clamp (by omega)]
      refine ih (k + 1) _ (by omega) ((hf.tr a).put (by omega)) (fun u hu => ?_)
      rw [mx_rs]
      by_cases q : u = k
      · rw [if_pos q, q]; rfl
      · rw [if_neg q, b]; exact hl u (by omega)
  exact ⟨R 1 0 + 1, key (R 1 0) 0 μ (by omega) fxM.rf (fun u hu => absurd hu (by omega))⟩
theorem sim_share {σ μ : gq_M} (h : Rel σ μ) : gl_S_share Rel σ μ := by
  obtain ⟨⟨R, hR, hc, hm, ⟨S, c, hS, hcS, hmS⟩, ha, hk⟩, ht, hh, h2s, hi⟩ := id h
  have hT := hR.2.1
  have hP := hR.1
  intro a1 a2 _
  unfold wq_X6_share
  refine sp2_hasTraveller hc.2.1 (by omega) (fun v => ⟨fun _ => ?_, fun q => absurd q (by decide)⟩) (fun v => ⟨fun q => absurd rfl q, fun _ => ?_⟩)
  · obtain ⟨t, ht1, e⟩ := (mx_in (by omega)).mp v
    subst e
    have eq := px_share (M := px_M R S) hT ht1
    have hf := px_f_ok (R 1 0) (by omega)
    have hsB : px_sum (px_sB (px_M R S) (R 1 0) t) 11 ≤ 60 * 11 := px_sum_le 11 (fun i _ => by
      unfold px_sB
      split
      · exact Nat.div_le_self _ _
      · omega)
    have hsA : px_sum (px_sA (px_M R S) (R 1 0) t) (2 ^ R 1 0) < 100000 := by
      have h1 : px_sum (px_sB (px_M R S) (R 1 0) t) 11 * px_f (R 1 0) ≤ 660 * 120 := Nat.mul_le_mul hsB hf.2
      omega
    refine sp6_reachIn (by omega) hR hS ht1 hc hcS (fun τ a => ?_)
    refine sp6_share_l29 hR hS ht1 (a.cRd hc) (a.cSt (by omega) hcS) (fun τ2 a' => ?_)
    rw [mx_60]
    refine sp6_fraction (by omega) (by omega) (by omega) ?_
    unfold wq_X7_share
    refine sp7_isTraveller hm.2.1 (by omega) (fun _ => ⟨fun _ => ?_, fun q => absurd q (by decide)⟩) (fun w => absurd v w)
    refine sp7_share_l12 hR hS hm hmS hi (fun ν b h14 => ?_)
    refine sp7_share_l42 hT ht1 (fun u _ => px_M_lt) h14 ?_
    rw [h14.1]
    have fr : px_fq (px_sum (px_sB (px_M R S) (R 1 0) t) 11) 60 a2 = px_fq (px_sum (px_sA (px_M R S) (R 1 0) t) (2 ^ R 1 0)) (px_f (R 1 0)) a2 := px_fq_eq (by omega) hf.1 eq
    rw [fr]
    have rel : Rel τ2 ν := h.fx (a.tr a').fxC b
    generalize px_sum (px_sA (px_M R S) (R 1 0) t) (2 ^ R 1 0) = A at *
    have g0 : 0 < Nat.gcd A (px_f (R 1 0)) := Nat.gcd_pos_of_pos_right A hf.1
    have gb : Nat.gcd A (px_f (R 1 0)) ≤ px_f (R 1 0) := Nat.le_of_dvd hf.1 (Nat.gcd_dvd_right A _)
    refine sp7_factorial hT (sp7_common (by omega) (by omega) ?_)
    have ng : ¬ nI (Nat.gcd A (px_f (R 1 0))) = 0 := nI_ne0 g0 (by omega)
    refine ⟨fun q => ?_, fun q => ⟨ng, ?_, rel⟩⟩
    · rw [h14.1]
      refine sp7_factorial hT ⟨ng, ?_, rel⟩
      unfold px_fq
      rw [if_pos q, pk_div (by omega) g0 (by omega)]
    · unfold px_fq
      rw [if_neg q, pk_div (by omega) g0 (by omega)]
  · unfold wq_X7_share
    exact sp7_isTraveller hm.2.1 (by omega) (fun w => absurd w v) (fun _ => ⟨fun q => absurd rfl q, fun _ => ⟨rfl, h⟩⟩)
