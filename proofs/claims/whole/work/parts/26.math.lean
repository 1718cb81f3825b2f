/-! ===== maths 7: the relation of the two memories; what an act keeps ===== -/
def rSt (σ μ : gq_M) (z a b : Nat) (R : Nat → Nat → Nat) : Prop := ∃ (S : Nat → Nat → Nat) (c : Int32), sOK R S ∧ cSt σ z R S c ∧ mSt μ a b R S c
def RelT (σ μ : gq_M) : Prop := ∃ n, n ≤ 52 ∧ σ.1 1 1 = nI n ∧ μ.1 0 12 = nI n ∧ ∀ i, i < n → σ.1 2 i = μ.1 8 i
def RelH (σ μ : gq_M) : Prop := ∃ n, n ≤ 6 ∧ σ.1 15 3 = nI n ∧ μ.1 0 23 = nI n ∧ ∀ i, i < n → (∃ p, p ≤ 10 ∧ σ.1 16 i = nI p ∧ μ.1 12 i = nI p) ∧ gq_b (μ.1 13 i) ∧ σ.1 17 i = μ.1 13 i
def RelA (σ μ : gq_M) (R : Nat → Nat → Nat) : Prop := ∃ e n, e < 14 ∧ n ≤ 14 ∧ σ.1 24 1 = nI e ∧ μ.1 0 17 = nI e ∧ σ.1 24 2 = nI n ∧ μ.1 0 16 = nI n ∧ ∀ j, j < n → rSt σ μ (42 + 3 * ((e + 13 - j) % 14)) 9 (14 * ((e + 13 - j) % 14)) R
def RelK (σ μ : gq_M) (R : Nat → Nat → Nat) : Prop := ∀ q, q < 2 → σ.1 27 q = μ.1 15 q ∧ gq_b (σ.1 27 q) ∧ (¬ σ.1 27 q = 0 → rSt σ μ (36 + 3 * q) 16 (14 * q) R)
def Rel (σ μ : gq_M) : Prop := (∃ R, rOK R ∧ cRd σ R ∧ mRd μ R ∧ rSt σ μ 30 5 0 R ∧ RelA σ μ R ∧ RelK σ μ R) ∧ RelT σ μ ∧ RelH σ μ ∧ σ.2 = μ.2 ∧ μ.1 0 15 = nI 0
theorem cSt_of {R S : Nat → Nat → Nat} {σ τ : gq_M} {z : Nat} {c : Int32} (h0 : τ.1 z = σ.1 z) (h1 : τ.1 (z + 1) = σ.1 (z + 1)) (h2 : τ.1 (z + 2) = σ.1 (z + 2)) (h : cSt σ z R S c) : cSt τ z R S c := by
  unfold cSt at *
  rw [h0, h1, h2]; exact h
theorem rSt_of {R : Nat → Nat → Nat} {σ τ μ ν : gq_M} {z a b : Nat} (hR : rOK R) (h : rSt σ μ z a b R) (h0 : τ.1 z = σ.1 z) (h1 : τ.1 (z + 1) = σ.1 (z + 1)) (h2 : τ.1 (z + 2) = σ.1 (z + 2)) (hm : ∀ k, k < 14 → ν.1 a (b + k) = μ.1 a (b + k)) : rSt τ ν z a b R := by
  obtain ⟨S, c, g1, g2, g3⟩ := h
  exact ⟨S, c, g1, cSt_of h0 h1 h2 g2, mSt_cpy hR hm g3⟩
theorem RelT_of {σ τ μ ν : gq_M} (h : RelT σ μ) (h1 : τ.1 1 = σ.1 1) (h2 : τ.1 2 = σ.1 2) (h3 : ν.1 0 12 = μ.1 0 12) (h4 : ν.1 8 = μ.1 8) : RelT τ ν := by
  unfold RelT at *
  rw [h1, h2, h3, h4]; exact h
theorem RelH_of {σ τ μ ν : gq_M} (h : RelH σ μ) (h1 : τ.1 15 = σ.1 15) (h2 : τ.1 16 = σ.1 16) (h3 : τ.1 17 = σ.1 17) (h4 : ν.1 0 23 = μ.1 0 23) (h5 : ν.1 12 = μ.1 12) (h6 : ν.1 13 = μ.1 13) : RelH τ ν := by
  unfold RelH at *
  rw [h1, h2, h3, h4, h5, h6]; exact h
theorem RelA_of {R : Nat → Nat → Nat} {σ τ μ ν : gq_M} (hR : rOK R) (h : RelA σ μ R) (h1 : τ.1 24 = σ.1 24) (h2 : ∀ c, 42 ≤ c → c ≤ 83 → τ.1 c = σ.1 c) (h3 : ν.1 0 17 = μ.1 0 17) (h4 : ν.1 0 16 = μ.1 0 16) (h5 : ν.1 9 = μ.1 9) : RelA τ ν R := by
  obtain ⟨e, n, g1, g2, g3, g4, g5, g6, g7⟩ := h
  refine ⟨e, n, g1, g2, by rw [h1]; exact g3, by rw [h3]; exact g4, by rw [h1]; exact g5, by rw [h4]; exact g6, fun j hj => ?_⟩
  have hm : (e + 13 - j) % 14 < 14 := Nat.mod_lt _ (by omega)
  exact rSt_of hR (g7 j hj) (h2 _ (by omega) (by omega)) (h2 _ (by omega) (by omega)) (h2 _ (by omega) (by omega)) (fun k _ => by rw [h5])
theorem RelK_of {R : Nat → Nat → Nat} {σ τ μ ν : gq_M} (hR : rOK R) (h : RelK σ μ R) (h1 : τ.1 27 = σ.1 27) (h2 : ∀ c, 36 ≤ c → c ≤ 41 → τ.1 c = σ.1 c) (h3 : ν.1 15 = μ.1 15) (h4 : ν.1 16 = μ.1 16) : RelK τ ν R := by
  intro q hq
  obtain ⟨g1, g2, g3⟩ := h q hq
  refine ⟨by rw [h1, h3]; exact g1, by rw [h1]; exact g2, fun g => ?_⟩
  rw [h1] at g
  exact rSt_of hR (g3 g) (h2 _ (by omega) (by omega)) (h2 _ (by omega) (by omega)) (h2 _ (by omega) (by omega)) (fun k _ => by rw [h4])
/-- rows that only hold what a call works with: of the component -/
def kC (c : Nat) : Prop := (3 ≤ c ∧ c ≤ 8) ∨ (18 ≤ c ∧ c ≤ 23) ∨ c = 28 ∨ c = 29 ∨ (33 ≤ c ∧ c ≤ 35)
def fxC (σ τ : gq_M) : Prop := (∀ c, ¬ kC c → τ.1 c = σ.1 c) ∧ τ.2 = σ.2
/-- of the model -/
def fxM (μ ν : gq_M) : Prop := (∀ c, c ≠ 0 → c ≠ 5 → c ≠ 6 → c ≠ 7 → c ≠ 10 → c ≠ 11 → c ≠ 14 → ν.1 c = μ.1 c) ∧ (∀ j, j < 14 → ν.1 5 j = μ.1 5 j) ∧ (∀ j, j ≠ 9 → j ≠ 10 → j ≠ 13 → j ≠ 14 → j ≠ 21 → j ≠ 22 → ν.1 0 j = μ.1 0 j) ∧ ν.2 = μ.2
theorem fxC.rf {σ : gq_M} : fxC σ σ := ⟨fun _ _ => rfl, rfl⟩
theorem fxM.rf {σ : gq_M} : fxM σ σ := ⟨fun _ _ _ _ _ _ _ _ => rfl, fun _ _ => rfl, fun _ _ _ _ _ _ _ => rfl, rfl⟩
theorem fxC.tr {σ τ υ : gq_M} (h1 : fxC σ τ) (h2 : fxC τ υ) : fxC σ υ := ⟨fun c h => (h2.1 c h).trans (h1.1 c h), h2.2.trans h1.2⟩
theorem fxM.tr {σ τ υ : gq_M} (h1 : fxM σ τ) (h2 : fxM τ υ) : fxM σ υ := ⟨fun c a1 a2 a3 a4 a5 a6 a7 => (h2.1 c a1 a2 a3 a4 a5 a6 a7).trans (h1.1 c a1 a2 a3 a4 a5 a6 a7), fun j h => (h2.2.1 j h).trans (h1.2.1 j h), fun j a1 a2 a3 a4 a5 a6 => (h2.2.2.1 j a1 a2 a3 a4 a5 a6).trans (h1.2.2.1 j a1 a2 a3 a4 a5 a6), h2.2.2.2.trans h1.2.2.2⟩
theorem fxC.put {σ τ : gq_M} {i j : Nat} {x : Int32} (h : fxC σ τ) (hi : kC i) : fxC σ (gq_put τ i j x) := ⟨fun c hc => by rw [gq_put_other _ _ _ _ (fun (e : c = i) => hc (by rw [e]; exact hi))]; exact h.1 c hc, h.2⟩
theorem fxM.put0 {σ τ : gq_M} {j : Nat} {x : Int32} (h : fxM σ τ) (hj : j = 9 ∨ j = 10 ∨ j = 13 ∨ j = 14 ∨ j = 21 ∨ j = 22) : fxM σ (gq_put τ 0 j x) := ⟨fun c a1 a2 a3 a4 a5 a6 a7 => by rw [gq_put_other _ _ _ _ a1]; exact h.1 c a1 a2 a3 a4 a5 a6 a7, fun i hi => by rw [mx_ro (by decide)]; exact h.2.1 i hi, fun i a1 a2 a3 a4 a5 a6 => by rw [mx_rs, if_neg (by omega)]; exact h.2.2.1 i a1 a2 a3 a4 a5 a6, h.2.2.2⟩
theorem fxM.put {σ τ : gq_M} {i j : Nat} {x : Int32} (h : fxM σ τ) (hi : i = 6 ∨ i = 7 ∨ i = 10 ∨ i = 11 ∨ i = 14) : fxM σ (gq_put τ i j x) := ⟨fun c a1 a2 a3 a4 a5 a6 a7 => by rw [gq_put_other _ _ _ _ (by omega)]; exact h.1 c a1 a2 a3 a4 a5 a6 a7, fun k hk => by rw [mx_ro (by omega)]; exact h.2.1 k hk, fun k a1 a2 a3 a4 a5 a6 => by rw [mx_ro (by omega)]; exact h.2.2.1 k a1 a2 a3 a4 a5 a6, h.2.2.2⟩
theorem fxM.of {σ τ : gq_M} (h : fM σ τ 14) : fxM σ τ := ⟨fun c _ a2 _ _ _ _ _ => h.1 c a2, fun j hj => h.2.1 j (Or.inl hj), fun j _ _ _ _ _ _ => by rw [h.1 0 (by omega)], h.2.2⟩
theorem fxC.of {σ τ : gq_M} (h : fS σ τ 33) : fxC σ τ := ⟨fun c hc => h.1 c (fun e => hc (by unfold kC; omega)) (fun e => hc (by unfold kC; omega)) (fun e => hc (by unfold kC; omega)), h.2⟩
theorem Rel.fx {σ τ μ ν : gq_M} (h : Rel σ μ) (h1 : fxC σ τ) (h2 : fxM μ ν) : Rel τ ν := by
  obtain ⟨⟨R, hR, hc, hm, hn, ha, hk⟩, ht, hh, h2s, hi⟩ := h
  have e : ∀ c, ¬ kC c → τ.1 c = σ.1 c := h1.1
  have f : ∀ c, c ≠ 0 → c ≠ 5 → c ≠ 6 → c ≠ 7 → c ≠ 10 → c ≠ 11 → c ≠ 14 → ν.1 c = μ.1 c := h2.1
  have g : ∀ j, j ≠ 9 → j ≠ 10 → j ≠ 13 → j ≠ 14 → j ≠ 21 → j ≠ 22 → ν.1 0 j = μ.1 0 j := h2.2.2.1
  refine ⟨⟨R, hR, cRd_of (fun c a b => e c (by unfold kC; omega)) hc, ?_, rSt_of hR hn (e _ (by unfold kC; omega)) (e _ (by unfold kC; omega)) (e _ (by unfold kC; omega)) (fun k hk => h2.2.1 _ (by omega)), RelA_of hR ha (e _ (by unfold kC; omega)) (fun c a b => e c (by unfold kC; omega)) (g 17 (by omega) (by omega) (by omega) (by omega) (by omega) (by omega)) (g 16 (by omega) (by omega) (by omega) (by omega) (by omega) (by omega)) (f 9 (by omega) (by omega) (by omega) (by omega) (by omega) (by omega) (by omega)), RelK_of hR hk (e _ (by unfold kC; omega)) (fun c a b => e c (by unfold kC; omega)) (f 15 (by omega) (by omega) (by omega) (by omega) (by omega) (by omega) (by omega)) (f 16 (by omega) (by omega) (by omega) (by omega) (by omega) (by omega) (by omega))⟩, RelT_of ht (e _ (by unfold kC; omega)) (e _ (by unfold kC; omega)) (g 12 (by omega) (by omega) (by omega) (by omega) (by omega) (by omega)) (f 8 (by omega) (by omega) (by omega) (by omega) (by omega) (by omega) (by omega)), RelH_of hh (e _ (by unfold kC; omega)) (e _ (by unfold kC; omega)) (e _ (by unfold kC; omega)) (g 23 (by omega) (by omega) (by omega) (by omega) (by omega) (by omega)) (f 12 (by omega) (by omega) (by omega) (by omega) (by omega) (by omega) (by omega)) (f 13 (by omega) (by omega) (by omega) (by omega) (by omega) (by omega) (by omega)), by rw [h1.2, h2.2.2.2]; exact h2s, by rw [g 15 (by omega) (by omega) (by omega) (by omega) (by omega) (by omega)]; exact hi⟩
  unfold mRd at *
  rw [g 0 (by omega) (by omega) (by omega) (by omega) (by omega) (by omega), g 1 (by omega) (by omega) (by omega) (by omega) (by omega) (by omega), f 1 (by omega) (by omega) (by omega) (by omega) (by omega) (by omega) (by omega), f 2 (by omega) (by omega) (by omega) (by omega) (by omega) (by omega) (by omega), f 3 (by omega) (by omega) (by omega) (by omega) (by omega) (by omega) (by omega), f 4 (by omega) (by omega) (by omega) (by omega) (by omega) (by omega) (by omega)]
  exact hm
/-- an act behind it: the component -/
def actC (σ τ : gq_M) (e n : Nat) : Prop := cpy σ τ (42 + 3 * e) 30 ∧ (∀ c, c ≠ 24 → c ≠ 42 + 3 * e → c ≠ 42 + 3 * e + 1 → c ≠ 42 + 3 * e + 2 → c ≠ 30 → c ≠ 31 → c ≠ 32 → τ.1 c = σ.1 c) ∧ τ.2 = σ.2 ∧ τ.1 24 1 = nI ((e + 1) % 14) ∧ τ.1 24 2 = nI (min 14 (n + 1))
def actM (μ ν : gq_M) (e n : Nat) : Prop := (∀ k, k < 14 → ν.1 9 (14 * e + k) = μ.1 5 (0 + k)) ∧ (∀ c, c ≠ 0 → c ≠ 9 → c ≠ 5 → ν.1 c = μ.1 c) ∧ (∀ j, j ≠ 16 → j ≠ 17 → ν.1 0 j = μ.1 0 j) ∧ (∀ j, (j < 14 * e ∨ 14 * e + 14 ≤ j) → ν.1 9 j = μ.1 9 j) ∧ ν.2 = μ.2 ∧ ν.1 0 17 = nI ((e + 1) % 14) ∧ ν.1 0 16 = nI (min 14 (n + 1))
theorem sp_remember {σ : gq_M} {e n : Nat} {Q : gq_M → Prop} (he : e < 14) (hn : n ≤ 14) (h1 : σ.1 24 1 = nI e) (h2 : σ.1 24 2 = nI n) (h : ∀ τ, actC σ τ e n → τ.1 30 = σ.1 30 → τ.1 31 = σ.1 31 → τ.1 32 = σ.1 32 → Q τ) : wq_X0_remember 30 σ Q :=
  sp0_remember (by omega) (by omega) he hn h1 h2 (fun τ a b c d f => h τ ⟨a, fun q a1 a2 a3 a4 _ _ _ => b q a1 a2 a3 a4, c, d, f⟩ (b 30 (by omega) (by omega) (by omega) (by omega)) (b 31 (by omega) (by omega) (by omega) (by omega)) (b 32 (by omega) (by omega) (by omega) (by omega)))
theorem actC.fS {σ τ υ : gq_M} {e n : Nat} (he : e < 14) (h : actC σ τ e n) (hf : fS τ υ 30) : actC σ υ e n := by
  obtain ⟨a, b, c, d, f⟩ := h
  refine ⟨⟨fun t ht => ?_, fun j h1 h2 => ?_⟩, fun q a1 a2 a3 a4 a5 a6 a7 => ?_, hf.2.trans c, ?_, ?_⟩
  · rw [hf.1 _ (by omega) (by omega) (by omega), hf.1 _ (by omega) (by omega) (by omega)]; exact a.1 t ht
  · rw [hf.1 _ (by omega) (by omega) (by omega)]; exact a.2 j h1 h2
  · rw [hf.1 q a5 a6 a7]; exact b q a1 a2 a3 a4 a5 a6 a7
  · rw [hf.1 24 (by omega) (by omega) (by omega)]; exact d
  · rw [hf.1 24 (by omega) (by omega) (by omega)]; exact f
theorem sp_keepAct {σ : gq_M} {e n : Nat} {Q : gq_M → Prop} (he : e < 14) (hn : n ≤ 14) (h1 : σ.1 0 17 = nI e) (h2 : σ.1 0 16 = nI n) (h : ∀ τ, actM σ τ e n → τ.1 5 = σ.1 5 → Q τ) : wq_X7_keepAct σ Q :=
  sp7_keepAct he hn h1 h2 (fun τ a b c d f g i => h τ ⟨fun k hk => by rw [Nat.zero_add]; exact a k hk, fun q a1 a2 _ => b q a1 a2, c, d, f, g, i⟩ (b 5 (by omega) (by omega)))
theorem actM.fM {σ τ υ : gq_M} {e n : Nat} (h : actM σ τ e n) (hf : fM τ υ 0) : actM σ υ e n := by
  obtain ⟨a, b, c, d, f, g, i⟩ := h
  refine ⟨fun k hk => ?_, fun q a1 a2 a3 => ?_, fun j a1 a2 => ?_, fun j hj => ?_, hf.2.2.trans f, ?_, ?_⟩
  · rw [hf.1 9 (by omega)]; exact a k hk
  · rw [hf.1 q a3]; exact b q a1 a2 a3
  · rw [hf.1 0 (by omega)]; exact c j a1 a2
  · rw [hf.1 9 (by omega)]; exact d j hj
  · rw [hf.1 0 (by omega)]; exact g
  · rw [hf.1 0 (by omega)]; exact i
theorem actC.rd {σ τ : gq_M} {e n : Nat} {R : Nat → Nat → Nat} (h : actC σ τ e n) (hR : cRd σ R) : cRd τ R := cRd_of (fun c _ _ => h.2.1 c (by omega) (by omega) (by omega) (by omega) (by omega) (by omega) (by omega)) hR
theorem actM.rd {σ τ : gq_M} {e n : Nat} {R : Nat → Nat → Nat} (h : actM σ τ e n) (hR : mRd σ R) : mRd τ R := by
  unfold mRd at *
  rw [h.2.2.1 0 (by omega) (by omega), h.2.2.1 1 (by omega) (by omega), h.2.1 1 (by omega) (by omega) (by omega), h.2.1 2 (by omega) (by omega) (by omega), h.2.1 3 (by omega) (by omega) (by omega), h.2.1 4 (by omega) (by omega) (by omega)]
  exact hR
theorem Rel.act {σ τ μ ν : gq_M} {R : Nat → Nat → Nat} {e n : Nat} (hR : rOK R) (hc : cRd σ R) (hm : mRd μ R) (hn0 : rSt σ μ 30 5 0 R) (he : e < 14) (hn : n ≤ 14) (ha : ∀ j, j < n → rSt σ μ (42 + 3 * ((e + 13 - j) % 14)) 9 (14 * ((e + 13 - j) % 14)) R) (hk : RelK σ μ R) (ht : RelT σ μ) (hh : RelH σ μ) (h2s : σ.2 = μ.2) (hi : μ.1 0 15 = nI 0) (hC : actC σ τ e n) (hM : actM μ ν e n) (hnew : rSt τ ν 30 5 0 R) : Rel τ ν := by
  obtain ⟨a1, a2, a3, a4, a5⟩ := id hC
  obtain ⟨b1, b2, b3, b4, b5, b6, b7⟩ := id hM
  refine ⟨⟨R, hR, hC.rd hc, hM.rd hm, hnew, ⟨(e + 1) % 14, min 14 (n + 1), Nat.mod_lt _ (by omega), by omega, a4, b6, a5, b7, fun j hj => ?_⟩, ?_⟩, ?_, ?_, by rw [a3, b5]; exact h2s, by rw [b3 15 (by omega) (by omega)]; exact hi⟩
  · by_cases hj0 : j = 0
    · subst hj0
      have ei : ((e + 1) % 14 + 13 - 0) % 14 = e := by omega
      rw [ei]
      obtain ⟨S, c, g1, g2, g3⟩ := hn0
      exact ⟨S, c, g1, cSt_cpy hR a1 g2, mSt_cpy hR b1 g3⟩
    · have ei : ((e + 1) % 14 + 13 - j) % 14 = (e + 13 - (j - 1)) % 14 := by omega
      have en : (e + 13 - (j - 1)) % 14 ≠ e := by omega
      have el : (e + 13 - (j - 1)) % 14 < 14 := Nat.mod_lt _ (by omega)
      rw [ei]
      have hold := ha (j - 1) (by omega)
      generalize (e + 13 - (j - 1)) % 14 = i at en el hold ⊢
      exact rSt_of hR hold (a2 _ (by omega) (by omega) (by omega) (by omega) (by omega) (by omega) (by omega)) (a2 _ (by omega) (by omega) (by omega) (by omega) (by omega) (by omega) (by omega)) (a2 _ (by omega) (by omega) (by omega) (by omega) (by omega) (by omega) (by omega)) (fun k hk => b4 _ (by omega))
  · exact RelK_of hR hk (a2 27 (by omega) (by omega) (by omega) (by omega) (by omega) (by omega) (by omega)) (fun c _ _ => a2 c (by omega) (by omega) (by omega) (by omega) (by omega) (by omega) (by omega)) (b2 15 (by omega) (by omega) (by omega)) (b2 16 (by omega) (by omega) (by omega))
  · exact RelT_of ht (a2 1 (by omega) (by omega) (by omega) (by omega) (by omega) (by omega) (by omega)) (a2 2 (by omega) (by omega) (by omega) (by omega) (by omega) (by omega) (by omega)) (b3 12 (by omega) (by omega)) (b2 8 (by omega) (by omega) (by omega))
  · exact RelH_of hh (a2 15 (by omega) (by omega) (by omega) (by omega) (by omega) (by omega) (by omega)) (a2 16 (by omega) (by omega) (by omega) (by omega) (by omega) (by omega) (by omega)) (a2 17 (by omega) (by omega) (by omega) (by omega) (by omega) (by omega) (by omega)) (b3 23 (by omega) (by omega)) (b2 12 (by omega) (by omega) (by omega)) (b2 13 (by omega) (by omega) (by omega))
