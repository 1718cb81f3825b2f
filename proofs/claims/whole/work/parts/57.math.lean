/-! ===== maths 38: two who step: the component's tables; rests ===== -/
theorem sp4_ch {R S : Nat → Nat → Nat} {t a : Nat} {d c : Int32} {σ : gq_M} {Q : Int32 → gq_M → Prop} (hR : rOK R) (hS : sOK R S) (ht : t < R 1 0) (ha : a < 2) (hd : px_on d = decide (a = 1)) (hc : cRd σ R) (hcS : cSt σ 33 R S c) (hQ : ∀ τ c', cSt τ 33 R (px_chS R S t a) c' → fS σ τ 33 → Q (if px_chB R S t a then 1 else 0) τ) : wq_X4_stepIfItCan 33 (nI t) d σ Q := by
  have hT := hR.2.1
  cases hB : px_chB R S t a with
  | false =>
    have q := hQ σ c (by rw [px_ch_no hB]; exact hcS) fS.rf
    rw [hB] at q
    refine sp4_stepIf_no hR hc hS hcS (by omega) (fun _ => ?_) q
    rw [hd]
    unfold px_chB at hB
    rw [decide_eq_true ha, Bool.true_and] at hB
    exact hB
  | true =>
    obtain ⟨_, hcan, k, h1, h2, h3⟩ := px_ch_yes hB
    refine sp4_stepIf_yes (by omega) hR hc hS hcS ht (by rw [hd]; exact hcan) (by rw [hd]; exact h1) h2 (fun τ x y => ?_)
    have q := hQ τ _ (by rw [h3, ← hd]; exact x) y
    rw [hB] at q
    exact q
theorem sp6_gainOfPlaces {R S2 : Nat → Nat → Nat} {m t : Nat} {c : Int32} {σ : gq_M} {Q : Int32 → gq_M → Prop} (hR : rOK R) (hS : sOK R S2) (hm : m < R 1 0) (ht : t < R 1 0) (hc : cRd σ R) (hcS : cSt σ 33 R S2 c) (hQ : ∀ τ, fP kW σ τ → Q (nI (px_gp R S2 m t)) τ) : wq_X6_gainOfPlaces (nI m) (nI t) σ Q := by
  have hT := hR.2.1
  have hP := hR.1
  have p1 := (hS.1 m hm).1
  have p2 := (hS.1 t ht).1
  have e1 : σ.1 34 m = nI (S2 0 m) := (hcS.1 m hm).1
  have e2 : σ.1 34 t = nI (S2 0 t) := (hcS.1 t ht).1
  unfold wq_X6_gainOfPlaces
  rw [nI_clamp (by omega), nI_clamp (by omega), e1, e2]
  refine ⟨vp_in_nI (by omega) (by omega), fun v1 ev => ⟨vp_in_nI (by omega) (by omega), ?_⟩⟩
  subst ev
  rw [nI_eq (by omega) (by omega)]
  refine ⟨fun q => ?_, fun q => ?_⟩
  · refine sp6_reachIn (by omega) hR hS hm hc hcS (fun τ a => ?_)
    have h := hQ τ a
    unfold px_gp at h
    rw [if_neg q] at h
    have hml := px_mask_lt (R := R) (S := S2) (t := m) (g := S2 2 0) (ice := 0)
    rw [mx_bitN (by omega) (by omega), mx_2, mx_4, pk_mul, nI_add]
    exact h
  · have h := hQ σ fP.rf
    unfold px_gp at h
    rw [if_pos q] at h
    exact h
/-- the rows that a try changes -/
def kT (c : Nat) : Prop := (18 ≤ c ∧ c ≤ 23) ∨ (33 ≤ c ∧ c ≤ 35)
theorem sp6_tryPair {R S : Nat → Nat → Nat} {one other i : Nat} {c : Int32} {σ : gq_M} {Q : gq_M → Prop} (hR : rOK R) (hS : sOK R S) (h1 : one < R 1 0) (h2 : other < R 1 0) (hi : i < 9) (hc : cRd σ R) (hcS : cSt σ 30 R S c) (hQ : ∀ τ, fP (fun c => kT c ∨ c = 28 ∨ c = 29) σ τ → (∀ j, τ.1 28 j = if j = i then nI (px_g R S one other (i / 3) (i % 3) true) else σ.1 28 j) → (∀ j, τ.1 29 j = if j = i then nI (px_g R S one other (i / 3) (i % 3) false) else σ.1 29 j) → Q τ) : wq_X6_tryPair (nI one) (nI other) (nI i) σ Q := by
  have hT := hR.2.1
  have hini : vp_in (nI i) 9 := vp_in_nI hi (by omega)
  unfold wq_X6_tryPair
  refine sp4_takeFrom (by omega) (fun σ1 f1 g1 v3 e3 v4 e4 => ?_)
  rw [mx_3, pk_rem (by omega) (by omega) (by omega)] at e4
  rw [mx_3, pk_div (by omega) (by omega) (by omega)] at e3
  subst e3 e4
  have hc1 := f1.rd (by omega) hc
  have s1 : cSt σ1 33 R S c := cSt_cpy hR g1 hcS
  have kf : ∀ {τ υ : gq_M}, fS τ υ 33 → fP kT τ υ := fun h => ⟨fun c hc => h.1 c (fun e => hc (by unfold kT; omega)) (fun e => hc (by unfold kT; omega)) (fun e => hc (by unfold kT; omega)), h.2⟩
  have kw : ∀ {τ υ : gq_M}, fP kW τ υ → fP kT τ υ := fun h => ⟨fun c hc => h.1 c (fun e => hc (Or.inl e)), h.2⟩
  -- what follows both choices
  have fin : ∀ (σ3 : gq_M) (c3 : Int32), fP kT σ σ3 → cRd σ3 R → cSt σ3 33 R (px_S2 R S one other (i / 3) (i % 3)) c3 → wq_X6_tryPair_b89 Q (nI one) (nI other) (nI i) (if px_chB R S one (i / 3) then 1 else 0) (if px_chB R (px_chS R S one (i / 3)) other (i % 3) then 1 else 0) σ3 := by
    intro σ3 c3 fr hc3 s3
    have hS2 : sOK R (px_S2 R S one other (i / 3) (i % 3)) := sOK_ch (sOK_ch hS h1) h2
    have b106 : ∀ x : Nat, (if px_chB R S one (i / 3) then 1 else 0) = x → wq_X6_tryPair_b106 Q (nI one) (nI other) (nI i) (if px_chB R (px_chS R S one (i / 3)) other (i % 3) then 1 else 0) (nI i) (nI x) σ3 := by
      intro x hx
      unfold wq_X6_tryPair_b106
      refine sp6_gainOfPlaces hR hS2 h1 h2 hc3 s3 (fun σ4 f4 => ⟨hini, ?_⟩)
      rw [nI_clamp (by omega), nI_add]
      have eg1 : x + px_gp R (px_S2 R S one other (i / 3) (i % 3)) one other = px_g R S one other (i / 3) (i % 3) true := by
        unfold px_g
        rw [← hx]
        rfl
      rw [eg1]
      have hc4 : cRd (gq_put σ4 28 i (nI (px_g R S one other (i / 3) (i % 3) true))) R := cRd_of (σ := σ4) (fun c a b => gq_put_other _ _ _ _ (by omega)) (f4.cRd hc3)
      have s4 : cSt (gq_put σ4 28 i (nI (px_g R S one other (i / 3) (i % 3) true))) 33 R (px_S2 R S one other (i / 3) (i % 3)) c3 := cSt_of (σ := σ4) (gq_put_other _ _ _ _ (by omega)) (gq_put_other _ _ _ _ (by omega)) (gq_put_other _ _ _ _ (by omega)) (f4.cSt (by omega) s3)
      have b129 : ∀ y : Nat, (if px_chB R (px_chS R S one (i / 3)) other (i % 3) then 1 else 0) = y → wq_X6_tryPair_b129 Q (nI one) (nI other) (nI i) (nI y) (gq_put σ4 28 i (nI (px_g R S one other (i / 3) (i % 3) true))) := by
        intro y hy
        unfold wq_X6_tryPair_b129
        refine sp6_gainOfPlaces hR hS2 h2 h1 hc4 s4 (fun σ5 f5 => ⟨hini, ?_⟩)
        rw [nI_clamp (by omega), nI_add]
        have eg2 : y + px_gp R (px_S2 R S one other (i / 3) (i % 3)) other one = px_g R S one other (i / 3) (i % 3) false := by
          unfold px_g
          rw [← hy]
          rfl
        rw [eg2]
        have w34 : fP kT σ σ4 := fr.tr (kw f4)
        refine hQ _ ⟨fun c hc => ?_, ?_⟩ (fun j => ?_) (fun j => ?_)
        · rw [gq_put_other _ _ _ _ (fun e => hc (Or.inr (Or.inr e))), f5.1 c (fun e => hc (Or.inl (Or.inl e))), gq_put_other _ _ _ _ (fun e => hc (Or.inr (Or.inl e)))]
          exact w34.1 c (fun e => hc (Or.inl e))
        · exact f5.2.trans w34.2
        · rw [mx_ro (by omega), f5.1 28 (by unfold kW; omega), mx_rs, w34.1 28 (by unfold kT; omega)]
        · rw [mx_rs, f5.1 29 (by unfold kW; omega), gq_put_other _ _ _ _ (by omega), w34.1 29 (by unfold kT; omega)]
      cases hy : px_chB R (px_chS R S one (i / 3)) other (i % 3) with
      | true => exact ⟨fun q => absurd q (by decide), fun _ => b129 1 (by rw [hy]; rfl)⟩
      | false => exact ⟨fun _ => b129 0 (by rw [hy]; rfl), fun q => absurd rfl q⟩
    unfold wq_X6_tryPair_b89
    cases hx : px_chB R S one (i / 3) with
    | true => exact ⟨fun q => absurd q (by decide), fun _ => b106 1 (by rw [hx]; rfl)⟩
    | false => exact ⟨fun _ => b106 0 (by rw [hx]; rfl), fun q => absurd rfl q⟩
  -- the other's choice
  have snd : ∀ (σ2 : gq_M) (c2 : Int32), fP kT σ σ2 → cRd σ2 R → cSt σ2 33 R (px_chS R S one (i / 3)) c2 → wq_X6_tryPair_b54 Q (nI one) (nI other) (nI i) (nI (i % 3)) (if px_chB R S one (i / 3) then 1 else 0) σ2 := by
    intro σ2 c2 fr hc2 s2
    have hS1 := sOK_ch (a := i / 3) hS h1
    unfold wq_X6_tryPair_b54 wq_X6_tryPair_b78
    rw [mx_2, nI_eq (by omega) (by omega), mx_1, nI_eq (by omega) (by omega), ← mx_1]
    have go : ∀ d : Int32, i % 3 < 2 → px_on d = decide (i % 3 = 1) → wq_X4_stepIfItCan 33 (nI other) d σ2 (fun r14 σ15 => ((r14 = 0 → wq_X6_tryPair_b89 Q (nI one) (nI other) (nI i) (if px_chB R S one (i / 3) then 1 else 0) 0 σ15) ∧ (¬ r14 = 0 → wq_X6_tryPair_b89 Q (nI one) (nI other) (nI i) (if px_chB R S one (i / 3) then 1 else 0) 1 σ15))) := by
      intro d hlt hd
      refine sp4_ch hR hS1 h2 hlt hd hc2 s2 (fun τ c3 x y => ?_)
      have := fin τ c3 (fr.tr (kf y)) (y.rd (by omega) hc2) x
      cases hB : px_chB R (px_chS R S one (i / 3)) other (i % 3) with
      | true => rw [hB] at this; exact ⟨fun q => absurd q (by decide), fun _ => this⟩
      | false => rw [hB] at this; exact ⟨fun _ => this, fun q => absurd rfl q⟩
    refine ⟨fun q => ?_, fun q => ⟨fun z => go 0 (by omega) (by rw [px_on0, decide_eq_false z]), fun z => go 1 (by omega) (by rw [px_on1, decide_eq_true z])⟩⟩
    have hB : px_chB R (px_chS R S one (i / 3)) other (i % 3) = false := by unfold px_chB; rw [decide_eq_false (by omega : ¬ i % 3 < 2)]; rfl
    have := fin σ2 c2 fr hc2 (by unfold px_S2; rw [px_ch_no hB]; exact s2)
    rw [hB] at this
    exact this
  unfold wq_X6_tryPair_b43
  rw [mx_2, nI_eq (by omega) (by omega), mx_1, nI_eq (by omega) (by omega), ← mx_1]
  have go : ∀ d : Int32, i / 3 < 2 → px_on d = decide (i / 3 = 1) → wq_X4_stepIfItCan 33 (nI one) d σ1 (fun r18 σ19 => ((r18 = 0 → wq_X6_tryPair_b54 Q (nI one) (nI other) (nI i) (nI (i % 3)) 0 σ19) ∧ (¬ r18 = 0 → wq_X6_tryPair_b54 Q (nI one) (nI other) (nI i) (nI (i % 3)) 1 σ19))) := by
    intro d hlt hd
    refine sp4_ch hR hS h1 hlt hd hc1 s1 (fun τ c3 x y => ?_)
    have := snd τ c3 ((kf f1).tr (kf y)) (y.rd (by omega) hc1) x
    cases hB : px_chB R S one (i / 3) with
    | true => rw [hB] at this; exact ⟨fun q => absurd q (by decide), fun _ => this⟩
    | false => rw [hB] at this; exact ⟨fun _ => this, fun q => absurd rfl q⟩
  refine ⟨fun q => ?_, fun q => ⟨fun z => go 0 (by omega) (by rw [px_on0, decide_eq_false z]), fun z => go 1 (by omega) (by rw [px_on1, decide_eq_true z])⟩⟩
  have hB : px_chB R S one (i / 3) = false := by unfold px_chB; rw [decide_eq_false (by omega : ¬ i / 3 < 2)]; rfl
  have := snd σ1 c (kf f1) hc1 (by rw [px_ch_no hB]; exact s1)
  rw [hB] at this
  exact this
def hG (σ : gq_M) (G1 G2 : Nat → Nat → Nat) : Prop := (∀ x y, G1 x y ≤ 7 ∧ G2 x y ≤ 7) ∧ ∀ j, j < 9 → σ.1 28 j = nI (G1 (j / 3) (j % 3)) ∧ σ.1 29 j = nI (G2 (j / 3) (j % 3))
theorem sp6_isAtRest {G1 G2 : Nat → Nat → Nat} {i : Nat} {σ : gq_M} {Q : Int32 → gq_M → Prop} (hi : i < 9) (hg : hG σ G1 G2) (hQ : Q (if px_ar G1 G2 (i / 3) (i % 3) 3 then 1 else 0) σ) : wq_X6_isAtRest (nI i) σ Q := by
  unfold wq_X6_isAtRest
  intro v1 e1 v2 e2
  rw [mx_3, pk_rem (by omega) (by omega) (by omega)] at e2
  rw [mx_3, pk_div (by omega) (by omega) (by omega)] at e1
  subst e1 e2
  have hini : vp_in (nI i) 9 := vp_in_nI hi (by omega)
  have key : ∀ m k, k + m = 3 → px_ar G1 G2 (i / 3) (i % 3) k = true → wq_X6_isAtRest_l11 Q (fun σ7 => Q 1 σ7) (m + 1) (nI i) (nI (i / 3)) (nI (i % 3)) (nI k) σ := by
    intro m
    induction m with
    | zero =>
      intro k hk hx
      obtain rfl : k = 3 := by omega
      unfold wq_X6_isAtRest_l11
      rw [hx] at hQ
      exact ⟨fun _ => hQ, fun q => absurd (by decide) q⟩
    | succ m ih =>
      intro k hk hx
      have a1 := (hg.1 k (i % 3)).1
      have a2 := (hg.1 (i / 3) (i % 3)).1
      have a3 := (hg.1 (i / 3) k).2
      have a4 := (hg.1 (i / 3) (i % 3)).2
      have t1 := (hg.2 (k * 3 + i % 3) (by omega)).1
      have t2 := (hg.2 (i / 3 * 3 + k) (by omega)).2
      rw [show (k * 3 + i % 3) / 3 = k by omega, show (k * 3 + i % 3) % 3 = i % 3 by omega] at t1
      rw [show (i / 3 * 3 + k) / 3 = i / 3 by omega, show (i / 3 * 3 + k) % 3 = k by omega] at t2
      have no : (decide (G1 k (i % 3) ≤ G1 (i / 3) (i % 3)) && decide (G2 (i / 3) k ≤ G2 (i / 3) (i % 3))) = false → Q 0 σ := by
        intro h
        have h0 : px_ar G1 G2 (i / 3) (i % 3) (k + 1) = false := by
          show (px_ar G1 G2 (i / 3) (i % 3) k && _) = false
          rw [h, Bool.and_false]
        have h5 := px_ar_no h0 m
        rw [show k + 1 + m = 3 by omega] at h5
        rw [h5] at hQ
        exact hQ
      unfold wq_X6_isAtRest_l11
      rw [mx_3, nI_leI (by omega) (by omega), pk_mul, nI_add, pk_mul, nI_add, nI_clamp (by omega), nI_clamp (by omega), nI_clamp (by omega), t1, t2, (hg.2 i hi).1, (hg.2 i hi).2, nI_ltI (by omega) (by omega), nI_leI (by omega) (by omega)]
      refine ⟨fun q => by omega, fun _ => ⟨vp_in_nI (by omega) (by omega), hini, fun q => no ?_, fun q => ⟨vp_in_nI (by omega) (by omega), hini, fun z v6 e6 => ?_, fun z => no ?_⟩⟩⟩
      · rw [decide_eq_false (by omega : ¬ G1 k (i % 3) ≤ G1 (i / 3) (i % 3))]; rfl
      · rw [e6, nI_1]
        refine ih (k + 1) (by omega) ?_
        show (px_ar G1 G2 (i / 3) (i % 3) k && _) = true
        rw [hx, decide_eq_true (by omega : G1 k (i % 3) ≤ G1 (i / 3) (i % 3)), decide_eq_true z]
        rfl
      · rw [decide_eq_false z, Bool.and_false]
  exact ⟨4, key 3 0 (by omega) rfl⟩
def px_fs2 (F : Nat → Bool) : Nat → Int32
  | 0 => -9
  | k + 1 => if px_cn F k = 0 ∧ F k = true then nI (10 * (k / 3) + k % 3) else px_fs2 F k
theorem px_fs2_0 {F : Nat → Bool} : ∀ k, (∀ j, j < k → F j = false) → px_fs2 F k = -9
  | 0, _ => rfl
  | k + 1, h => by
    have ih := px_fs2_0 k (fun j hj => h j (by omega))
    have hk := h k (by omega)
    unfold px_fs2
    rw [ih, hk]
    simp
theorem px_fs2_1 {F : Nat → Bool} {i : Nat} (h : ∀ j, j < i → F j = false) (hi : F i = true) : ∀ n, px_fs2 F (i + 1 + n) = nI (10 * (i / 3) + i % 3)
  | 0 => by
    have z := px_cn_0 i h
    show px_fs2 F (i + 1) = _
    unfold px_fs2
    rw [z.1, hi]
    simp
  | n + 1 => by
    have ih := px_fs2_1 h hi n
    have c := (px_cn_1 h hi n).1
    show px_fs2 F (i + 1 + n + 1) = _
    unfold px_fs2
    rw [if_neg (fun q => by have := q.1; omega)]
    exact ih
theorem sp6_pairsAtRest {G1 G2 : Nat → Nat → Nat} {σ : gq_M} {Q : Int32 → gq_M → Prop} (hg : hG σ G1 G2) (hQ : Q (nI (px_cn (fun i => px_ar G1 G2 (i / 3) (i % 3) 3) 9)) σ) : wq_X6_pairsAtRest σ Q := by
  have key : ∀ m k, k + m = 9 → wq_X6_pairsAtRest_l4 Q (fun e7 σ8 => Q e7 σ8) (m + 1) (nI (px_cn (fun i => px_ar G1 G2 (i / 3) (i % 3) 3) k)) (nI k) σ := by
    intro m
    induction m with
    | zero =>
      intro k hk
      obtain rfl : k = 9 := by omega
      unfold wq_X6_pairsAtRest_l4
      exact ⟨fun _ => hQ, fun q => absurd (by decide) q⟩
    | succ m ih =>
      intro k hk
      have nxt := ih (k + 1) (by omega)
      have unf : px_cn (fun i => px_ar G1 G2 (i / 3) (i % 3) 3) (k + 1) = px_cn (fun i => px_ar G1 G2 (i / 3) (i % 3) 3) k + (if px_ar G1 G2 (k / 3) (k % 3) 3 then 1 else 0) := rfl
      rw [unf] at nxt
      unfold wq_X6_pairsAtRest_l4 wq_X6_pairsAtRest_b24
      rw [show ((9 : Int32) ≤ nI k) ↔ 9 ≤ k from nI_leI (a := 9) (by omega) (by omega)]
      refine ⟨fun q => by omega, fun _ => sp6_isAtRest (by omega) hg ?_⟩
      cases hx : px_ar G1 G2 (k / 3) (k % 3) 3 with
      | false =>
        rw [hx] at nxt
        refine ⟨fun _ v5 e5 v6 e6 => ?_, fun q => absurd rfl q⟩
        rw [e5, e6, nI_1, mx_0, nI_add]; exact nxt
      | true =>
        rw [hx] at nxt
        refine ⟨fun q => absurd q (by decide), fun _ v5 e5 v6 e6 => ?_⟩
        rw [e5, e6, nI_1, nI_1]; exact nxt
  exact ⟨10, key 9 0 (by omega)⟩
theorem sp6_firstPair {G1 G2 : Nat → Nat → Nat} {σ : gq_M} {Q : Int32 → gq_M → Prop} (hg : hG σ G1 G2) (hQ : Q (px_fs2 (fun i => px_ar G1 G2 (i / 3) (i % 3) 3) 9) σ) : wq_X6_firstPairAtRest σ Q := by
  have key : ∀ m k, k + m = 9 → (∀ j, j < k → px_ar G1 G2 (j / 3) (j % 3) 3 = false) → wq_X6_firstPairAtRest_l2 Q (fun σ6 => Q (-9) σ6) (m + 1) (nI k) σ := by
    intro m
    induction m with
    | zero =>
      intro k hk hz
      obtain rfl : k = 9 := by omega
      unfold wq_X6_firstPairAtRest_l2
      rw [px_fs2_0 9 hz] at hQ
      exact ⟨fun _ => hQ, fun q => absurd (by decide) q⟩
    | succ m ih =>
      intro k hk hz
      unfold wq_X6_firstPairAtRest_l2
      rw [show ((9 : Int32) ≤ nI k) ↔ 9 ≤ k from nI_leI (a := 9) (by omega) (by omega)]
      refine ⟨fun q => by omega, fun _ => sp6_isAtRest (by omega) hg ?_⟩
      cases hx : px_ar G1 G2 (k / 3) (k % 3) 3 with
      | false =>
        refine ⟨fun _ v5 e5 => ?_, fun q => absurd rfl q⟩
        rw [e5, nI_1]
        refine ih (k + 1) (by omega) (fun j hj => ?_)
        rcases Nat.lt_or_ge j k with z | z
        · exact hz j z
        · rw [show j = k by omega]; exact hx
      | true =>
        refine ⟨fun q => absurd q (by decide), fun _ => ?_⟩
        have k1 := px_fs2_1 (F := fun i => px_ar G1 G2 (i / 3) (i % 3) 3) hz hx (9 - k - 1)
        rw [show k + 1 + (9 - k - 1) = 9 by omega] at k1
        rw [k1] at hQ
        have e2 : (nI k - nI k / 3 * 3 : Int32) = nI (k % 3) := pk_rem (d := 3) (by omega) (by omega) (by omega)
        have e1 : (nI k / 3 : Int32) = nI (k / 3) := pk_div (d := 3) (by omega) (by omega) (by omega)
        rw [e2, e1, mx_10, pk_mul, nI_add]
        exact hQ
  exact ⟨10, key 9 0 (by omega) (fun j hj => absurd hj (by omega))⟩
theorem sp7_rests_l46 {R S : Nat → Nat → Nat} {one other : Nat} {c x3 : Int32} {μ : gq_M} {Q : Int32 → gq_M → Prop} {K : Int32 → Int32 → Int32 → gq_M → Prop} (hR : rOK R) (hS : sOK R S) (h1 : one < R 1 0) (h2 : other < R 1 0) (hm : mRd μ R) (hmS : mSt μ 5 0 R S c) (hi : μ.1 0 15 = nI 0) (hK : ∀ ν, fxM μ ν → K x3 (nI (px_cn (fun i => px_ar (fun x y => px_g R S one other x y true) (fun x y => px_g R S one other x y false) (i / 3) (i % 3) 3) 9)) (px_fs2 (fun i => px_ar (fun x y => px_g R S one other x y true) (fun x y => px_g R S one other x y false) (i / 3) (i % 3) 3) 9) ν) : ∃ n, wq_X7_rests_l46 Q K n (nI one) (nI other) x3 0 (-9) 0 μ := by
  generalize eF : (fun i => px_ar (fun x y => px_g R S one other x y true) (fun x y => px_g R S one other x y false) (i / 3) (i % 3) 3) = F at hK
  have hF : ∀ i, px_ar (fun x y => px_g R S one other x y true) (fun x y => px_g R S one other x y false) (i / 3) (i % 3) 3 = F i := fun i => by rw [← eF]
  have key : ∀ m k ν, k + m = 9 → fxM μ ν → wq_X7_rests_l46 Q K (m + 1) (nI one) (nI other) x3 (nI (px_cn F k)) (px_fs2 F k) (nI k) ν := by
    intro m
    induction m with
    | zero =>
      intro k ν hk hf
      obtain rfl : k = 9 := by omega
      unfold wq_X7_rests_l46
      exact ⟨fun _ => hK ν hf, fun q => absurd (by decide) q⟩
    | succ m ih =>
      intro k ν hk hf
      have hcl := px_cn_le (F := F) k
      have e2 : (nI k - nI k / 3 * 3 : Int32) = nI (k % 3) := pk_rem (d := 3) (by omega) (by omega) (by omega)
      have e1 : (nI k / 3 : Int32) = nI (k / 3) := pk_div (d := 3) (by omega) (by omega) (by omega)
      unfold wq_X7_rests_l46
      rw [show ((9 : Int32) ≤ nI k) ↔ 9 ≤ k from nI_leI (a := 9) (by omega) (by omega), e2, e1]
      refine ⟨fun q => by omega, fun _ => ?_⟩
      refine sp7_isRest hR hS h1 h2 (by omega) (by omega) (hf.rd hm) (hf.st hR hmS) (hf.ic hi) (fun ν2 f2 => ?_)
      have nxt := ih (k + 1) ν2 (by omega) (hf.tr f2)
      unfold px_cn px_fs2 at nxt
      rw [hF]
      unfold wq_X7_rests_b97 wq_X7_rests_b92
      cases hx : F k with
      | false =>
        rw [hx] at nxt
        rw [if_neg (show ¬ (px_cn F k = 0 ∧ false = true) from fun q => by cases q.2)] at nxt
        refine ⟨fun _ v15 e15 => ?_, fun z => absurd rfl z⟩
        rw [e15, nI_1]
        exact nxt
      | true =>
        rw [hx] at nxt
        refine ⟨fun z => absurd z (by decide), fun _ => ⟨fun z v17 e17 v15 e15 => ?_, fun z v17 e17 v15 e15 => ?_⟩⟩
        · rw [mx_0, nI_eq (by omega) (by omega)] at z
          rw [if_neg (show ¬ (px_cn F k = 0 ∧ true = true) from fun q => z q.1)] at nxt
          rw [e17, e15, nI_1, nI_1]
          exact nxt
        · rw [mx_0, nI_eq (by omega) (by omega)] at z
          rw [if_pos (show px_cn F k = 0 ∧ true = true from ⟨z, rfl⟩)] at nxt
          rw [e17, e15, nI_1, nI_1, mx_10, pk_mul, nI_add]
          exact nxt
  exact ⟨10, key 9 0 μ (by omega) fxM.rf⟩
theorem sp6_rests_l44 {R S : Nat → Nat → Nat} {one other : Nat} {c x3 : Int32} {σ : gq_M} {Q : Int32 → gq_M → Prop} {K : Int32 → gq_M → Prop} (hR : rOK R) (hS : sOK R S) (h1 : one < R 1 0) (h2 : other < R 1 0) (hc : cRd σ R) (hcS : cSt σ 30 R S c) (hK : ∀ τ, fxC σ τ → hG τ (fun x y => px_g R S one other x y true) (fun x y => px_g R S one other x y false) → K x3 τ) : ∃ n, wq_X6_rests_l44 Q K n (nI one) (nI other) x3 0 σ := by
  have key : ∀ m k τ, k + m = 9 → fxC σ τ → (∀ j, j < k → τ.1 28 j = nI (px_g R S one other (j / 3) (j % 3) true) ∧ τ.1 29 j = nI (px_g R S one other (j / 3) (j % 3) false)) → wq_X6_rests_l44 Q K (m + 1) (nI one) (nI other) x3 (nI k) τ := by
    intro m
    induction m with
    | zero =>
      intro k τ hk hf hl
      obtain rfl : k = 9 := by omega
      unfold wq_X6_rests_l44
      exact ⟨fun _ => hK τ hf ⟨fun x y => ⟨px_g_le, px_g_le⟩, hl⟩, fun q => absurd (by decide) q⟩
    | succ m ih =>
      intro k τ hk hf hl
      unfold wq_X6_rests_l44
      rw [show ((9 : Int32) ≤ nI k) ↔ 9 ≤ k from nI_leI (a := 9) (by omega) (by omega)]
      refine ⟨fun q => by omega, fun _ => ?_⟩
      have hc1 : cRd τ R := cRd_of (fun c a b => hf.1 c (by unfold kC; omega)) hc
      have hs1 : cSt τ 30 R S c := cSt_of (hf.1 _ (by unfold kC; omega)) (hf.1 _ (by unfold kC; omega)) (hf.1 _ (by unfold kC; omega)) hcS
      refine sp6_tryPair hR hS h1 h2 (by omega) hc1 hs1 (fun τ2 f2 t1 t2 v13 e13 => ?_)
      rw [e13, nI_1]
      refine ih (k + 1) τ2 (by omega) (hf.tr ⟨fun c hc => f2.1 c (fun e => hc (by unfold kT at e; unfold kC; omega)), f2.2⟩) (fun j hj => ?_)
      rw [t1 j, t2 j]
      by_cases e : j = k
      · rw [if_pos e, if_pos e, e]; exact ⟨rfl, rfl⟩
      · rw [if_neg e, if_neg e]; exact hl j (by omega)
  exact ⟨10, key 9 0 σ (by omega) fxC.rf (fun j hj => absurd hj (by omega))⟩
theorem sim_rests {σ μ : gq_M} (h : Rel σ μ) : gl_S_rests Rel σ μ := by
  obtain ⟨⟨R, hR, hc, hm, ⟨S, c, hS, hcS, hmS⟩, ha, hk⟩, ht, hh, h2s, hi⟩ := id h
  have hT := hR.2.1
  intro a1 a2 a3
  have z0 : (0 : Int32).toInt = 0 := by decide
  have z1 : (1 : Int32).toInt = 1 := by decide
  unfold wq_X6_rests
  refine sp2_hasTraveller hc.2.1 (by omega) (fun v => ⟨fun q => absurd q (by decide), fun _ => ?_⟩) (fun v => ⟨fun _ => ?_, fun q => absurd rfl q⟩)
  · refine sp2_hasTraveller hc.2.1 (by omega) (fun v2 => ⟨fun _ => ?_, fun q => absurd q (by decide)⟩) (fun v2 => ⟨fun q => absurd rfl q, fun _ => ?_⟩)
    · have m7 : ∀ Q : Int32 → gq_M → Prop, ((a1 = a2 → Q (-2) μ) ∧ (¬ a1 = a2 → wq_X7_in a3.toInt64 0 1 μ (fun r8 σ9 => ((¬ r8 = 0 → (∃ n23, wq_X7_rests_l46 Q (fun e18 e19 e20 σ21 => ((¬ e18 = 0 → Q e20 σ21) ∧ (e18 = 0 → Q e19 σ21))) n23 a1 a2 a3 0 (-9) 0 σ9)) ∧ (r8 = 0 → Q (-2) σ9))))) → wq_X7_rests a1 a2 a3 μ Q := by
        intro Q hQ
        unfold wq_X7_rests
        refine sp7_isTraveller hm.2.1 (by omega) (fun _ => ⟨fun q => absurd q (by decide), fun _ => ?_⟩) (fun w => absurd v w)
        exact sp7_isTraveller hm.2.1 (by omega) (fun _ => ⟨fun _ => hQ, fun q => absurd q (by decide)⟩) (fun w => absurd v2 w)
      refine ⟨fun q => m7 _ ⟨fun _ => ⟨rfl, h⟩, fun z => absurd q z⟩, fun q => ?_⟩
      have bad : ¬ (0 ≤ a3.toInt ∧ a3.toInt ≤ 1) → wq_X7_rests a1 a2 a3 μ (fun r2 ν => (-2 : Int32) = r2 ∧ Rel σ ν) := fun g => m7 _ ⟨fun z => absurd z q, fun _ => sp7_inI (lo := 0) (hi := 1) (by decide) (by decide) (fun u w => absurd ⟨u, w⟩ g) (fun _ => ⟨fun y => absurd rfl y, fun _ => ⟨rfl, h⟩⟩)⟩
      rw [Int32.lt_iff_toInt_lt, Int32.le_iff_toInt_le, z0, z1]
      refine ⟨fun y => bad (by omega), fun y0 => ⟨fun y1 => ?_, fun y => bad (by omega)⟩⟩
      obtain ⟨one, h1, e⟩ := (mx_in (by omega)).mp v
      subst e
      obtain ⟨other, h2, e⟩ := (mx_in (by omega)).mp v2
      subst e
      refine sp6_rests_l44 hR hS h1 h2 hc hcS (fun τ a hg => ?_)
      have mm : ∀ Q : Int32 → gq_M → Prop, (∀ ν, fxM μ ν → (a3 = 0 → Q (nI (px_cn (fun i => px_ar (fun x y => px_g R S one other x y true) (fun x y => px_g R S one other x y false) (i / 3) (i % 3) 3) 9)) ν) ∧ (¬ a3 = 0 → Q (px_fs2 (fun i => px_ar (fun x y => px_g R S one other x y true) (fun x y => px_g R S one other x y false) (i / 3) (i % 3) 3) 9) ν)) → wq_X7_rests (nI one) (nI other) a3 μ Q := by
        intro Q hQ
        refine m7 Q ⟨fun z => absurd z q, fun _ => sp7_inI (lo := 0) (hi := 1) (by decide) (by decide) (fun _ _ => ⟨fun _ => ?_, fun y => absurd y (by decide)⟩) (fun w => absurd ⟨by omega, by omega⟩ w)⟩
        exact sp7_rests_l46 hR hS h1 h2 hm hmS hi (fun ν b => ⟨(hQ ν b).2, (hQ ν b).1⟩)
      refine ⟨fun y => ?_, fun y => ?_⟩
      · exact sp6_firstPair hg (mm _ (fun ν b => ⟨fun z => absurd z y, fun _ => ⟨rfl, h.fx a b⟩⟩))
      · exact sp6_pairsAtRest hg (mm _ (fun ν b => ⟨fun _ => ⟨rfl, h.fx a b⟩, fun z => absurd y z⟩))
    · unfold wq_X7_rests
      refine sp7_isTraveller hm.2.1 (by omega) (fun _ => ⟨fun q => absurd q (by decide), fun _ => ?_⟩) (fun w => absurd v w)
      exact sp7_isTraveller hm.2.1 (by omega) (fun w => absurd w v2) (fun _ => ⟨fun q => absurd rfl q, fun _ => ⟨rfl, h⟩⟩)
  · unfold wq_X7_rests
    exact sp7_isTraveller hm.2.1 (by omega) (fun w => absurd w v) (fun _ => ⟨fun _ => ⟨rfl, h⟩, fun q => absurd rfl q⟩)
