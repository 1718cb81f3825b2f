/-! ===== maths 6: copies of standings: takeFrom, remember, takeBack; the model's keepAct, undo, layTrial, keep, again ===== -/
def cpy (σ τ : gq_M) (z y : Nat) : Prop := (∀ t, t < 5 → τ.1 (z + 1) t = σ.1 (y + 1) t ∧ τ.1 (z + 2) t = σ.1 (y + 2) t) ∧ ∀ j, 3 ≤ j → j ≤ 6 → τ.1 z j = σ.1 y j
theorem cSt_cpy {R S : Nat → Nat → Nat} {σ τ : gq_M} {z y : Nat} {c : Int32} (hR : rOK R) (h : cpy σ τ z y) (hm : cSt σ y R S c) : cSt τ z R S c := by
  have hT := hR.2.1
  refine ⟨fun t ht => ?_, ?_, ?_, ?_, ?_⟩
  · obtain ⟨a, b⟩ := h.1 t (by omega)
    rw [a, b]; exact hm.1 t ht
  · rw [h.2 3 (by omega) (by omega)]; exact hm.2.1
  · rw [h.2 4 (by omega) (by omega)]; exact hm.2.2.1
  · rw [h.2 5 (by omega) (by omega)]; exact hm.2.2.2.1
  · rw [h.2 6 (by omega) (by omega)]; exact hm.2.2.2.2
theorem sp4_takeFrom_l {σ : gq_M} {z y : Nat} {Q : gq_M → Prop} {K : gq_M → Prop} (hne : z + 2 < y ∨ y + 2 < z) (hK : ∀ τ, fS σ τ z → (∀ t, t < 5 → τ.1 (z + 1) t = σ.1 (y + 1) t ∧ τ.1 (z + 2) t = σ.1 (y + 2) t) → (∀ j, τ.1 z j = σ.1 z j) → K τ) : ∀ m i τ, i + m = 5 → fS σ τ z → (∀ t, t < i → τ.1 (z + 1) t = σ.1 (y + 1) t ∧ τ.1 (z + 2) t = σ.1 (y + 2) t) → (∀ j, τ.1 z j = σ.1 z j) → wq_X4_takeFrom_l2 z y Q K (m + 1) (nI i) τ := by
  intro m
  induction m with
  | zero =>
    intro i τ hi hf hc hz
    obtain rfl : i = 5 := by omega
    unfold wq_X4_takeFrom_l2
    exact ⟨fun _ => hK τ hf hc hz, fun q => absurd (by decide) q⟩
  | succ m ih =>
    intro i τ hi hf hc hz
    unfold wq_X4_takeFrom_l2
    have hin : vp_in (nI i) 5 := vp_in_nI (by omega) (by omega)
    refine ⟨fun q => ?_, fun _ => ⟨hin, hin, hin, hin, fun v e => ?_⟩⟩
    · rw [mx_5, nI_leI (by omega) (by omega)] at q; omega
    · rw [e, nI_1, nI_clamp (by omega)]
      refine ih (i + 1) _ (by omega) ((hf.put (by omega)).put (by omega)) (fun t ht => ⟨?_, ?_⟩) (fun j => ?_)
      · rw [mx_ro (by omega), mx_rs]
        by_cases et : t = i
        · subst et; rw [if_pos rfl, hf.1 _ (by omega) (by omega) (by omega)]
        · rw [if_neg et]; exact (hc t (by omega)).1
      · rw [mx_rs, mx_ro (by omega), mx_ro (by omega)]
        by_cases et : t = i
        · subst et; rw [if_pos rfl, hf.1 _ (by omega) (by omega) (by omega)]
        · rw [if_neg et]; exact (hc t (by omega)).2
      · rw [mx_ro (by omega), mx_ro (by omega)]; exact hz j
theorem sp4_takeFrom {σ : gq_M} {z y : Nat} {Q : gq_M → Prop} (hne : z + 2 < y ∨ y + 2 < z) (h : ∀ τ, fS σ τ z → cpy σ τ z y → Q τ) : wq_X4_takeFrom z y σ Q := by
  unfold wq_X4_takeFrom
  refine ⟨6, ?_⟩
  rw [mx_0]
  refine sp4_takeFrom_l (σ := σ) hne (fun τ hf hc hz => ?_) 5 0 σ (by omega) fS.rf (fun t ht => absurd ht (by omega)) (fun _ => rfl)
  have e : ∀ j, τ.1 y j = σ.1 y j := fun j => by rw [hf.1 _ (by omega) (by omega) (by omega)]
  refine h _ ((((hf.put (by omega)).put (by omega)).put (by omega)).put (by omega)) ⟨fun t ht => ?_, fun j h1 h2 => ?_⟩
  · rw [mx_ro (by omega), mx_ro (by omega), mx_ro (by omega), mx_ro (by omega), mx_ro (by omega), mx_ro (by omega), mx_ro (by omega), mx_ro (by omega)]
    exact hc t ht
  · simp only [mx_rs, mx_ro (show y ≠ z by omega), e]
    rcases (show j = 3 ∨ j = 4 ∨ j = 5 ∨ j = 6 by omega) with rfl | rfl | rfl | rfl <;> simp
/-- the row of acts has kept how all stand at y -/
theorem mx_mod14 {e : Nat} (h : e < 14) : ((nI e + 1 : Int32) - (nI e + 1) / 14 * 14) = nI ((e + 1) % 14) := (by decide +kernel : ∀ e, e < 14 → ((nI e + 1 : Int32) - (nI e + 1) / 14 * 14) = nI ((e + 1) % 14)) e h
theorem mx_mod13 {e : Nat} (h : e < 14) : (((nI e + 14 : Int32) - 1) - ((nI e + 14) - 1) / 14 * 14) = nI ((e + 13) % 14) := (by decide +kernel : ∀ e, e < 14 → (((nI e + 14 : Int32) - 1) - ((nI e + 14) - 1) / 14 * 14) = nI ((e + 13) % 14)) e h
theorem mx_mod13b {e : Nat} (h : e < 14) : ((nI e + 13 : Int32) - (nI e + 13) / 14 * 14) = nI ((e + 13) % 14) := (by decide +kernel : ∀ e, e < 14 → ((nI e + 13 : Int32) - (nI e + 13) / 14 * 14) = nI ((e + 13) % 14)) e h
theorem sp0_remember {σ : gq_M} {y e n : Nat} {Q : gq_M → Prop} (hy : y + 2 < 42) (hy0 : 24 < y) (he : e < 14) (hn : n ≤ 14) (h1 : σ.1 24 1 = nI e) (h2 : σ.1 24 2 = nI n) (h : ∀ τ, cpy σ τ (42 + 3 * e) y → (∀ c, c ≠ 24 → c ≠ 42 + 3 * e → c ≠ 42 + 3 * e + 1 → c ≠ 42 + 3 * e + 2 → τ.1 c = σ.1 c) → τ.2 = σ.2 → τ.1 24 1 = nI ((e + 1) % 14) → τ.1 24 2 = nI (min 14 (n + 1)) → Q τ) : wq_X0_remember y σ Q := by
  unfold wq_X0_remember
  rw [h1, nI_clamp (by omega)]
  refine ⟨vp_in_nI he (by omega), sp4_takeFrom (by omega) (fun τ hf hc => ?_)⟩
  have e1 : τ.1 24 1 = nI e := by rw [hf.1 24 (by omega) (by omega) (by omega)]; exact h1
  have e2 : τ.1 24 2 = nI n := by rw [hf.1 24 (by omega) (by omega) (by omega)]; exact h2
  rw [e1, mx_mod14 he]
  have e3 : (gq_put τ 24 1 (nI ((e + 1) % 14))).1 24 2 = nI n := by rw [mx_rs, if_neg (by omega)]; exact e2
  rw [e3, nI_1, mx_14, mx_min (by omega) (by omega)]
  refine h _ ⟨fun t ht => ?_, fun j a b => ?_⟩ (fun c a b d f => ?_) hf.2 ?_ ?_
  · rw [mx_ro (by omega), mx_ro (by omega), mx_ro (by omega), mx_ro (by omega)]; exact hc.1 t ht
  · rw [mx_ro (by omega), mx_ro (by omega)]; exact hc.2 j a b
  · funext j
    rw [mx_ro a, mx_ro a, hf.1 c b d f]
  · rw [mx_rs, if_neg (by omega), mx_rs, if_pos rfl]
  · rw [mx_rs, if_pos rfl]
theorem sp0_takeBack {σ : gq_M} {y e n : Nat} {Q : gq_M → Prop} (hy : y + 2 < 42) (hy0 : 24 < y) (he : e < 14) (hn : n ≤ 14) (hn0 : 0 < n) (h1 : σ.1 24 1 = nI e) (h2 : σ.1 24 2 = nI n) (h : ∀ τ, cpy σ τ y (42 + 3 * ((e + 13) % 14)) → (∀ c, c ≠ 24 → c ≠ y → c ≠ y + 1 → c ≠ y + 2 → τ.1 c = σ.1 c) → τ.2 = σ.2 → τ.1 24 1 = nI ((e + 13) % 14) → τ.1 24 2 = nI (n - 1) → Q τ) : wq_X0_takeBack y σ Q := by
  unfold wq_X0_takeBack
  have hm : (e + 13) % 14 < 14 := Nat.mod_lt _ (by omega)
  rw [h1, mx_mod13 he]
  have e3 : (gq_put σ 24 1 (nI ((e + 13) % 14))).1 24 2 = nI n := by rw [mx_rs, if_neg (by omega)]; exact h2
  rw [e3, mx_1, pk_sub hn0]
  have e4 : (gq_put (gq_put σ 24 1 (nI ((e + 13) % 14))) 24 2 (nI (n - 1))).1 24 1 = nI ((e + 13) % 14) := by rw [mx_rs, if_neg (by omega), mx_rs, if_pos rfl]
  rw [e4, nI_clamp (by omega)]
  refine ⟨vp_in_nI hm (by omega), sp4_takeFrom (by omega) (fun τ hf hc => ?_)⟩
  refine h _ ⟨fun t ht => ?_, fun j a b => ?_⟩ (fun c a b d f => ?_) hf.2 ?_ ?_
  · have := hc.1 t ht
    rw [mx_ro (by omega), mx_ro (by omega), mx_ro (by omega), mx_ro (by omega)] at this; exact this
  · have := hc.2 j a b
    rw [mx_ro (by omega), mx_ro (by omega)] at this; exact this
  · rw [hf.1 c b d f]
    funext j
    rw [mx_ro a, mx_ro a]
  · rw [hf.1 24 (by omega) (by omega) (by omega)]; exact e4
  · rw [hf.1 24 (by omega) (by omega) (by omega), mx_rs, if_pos rfl]
/-! the model: fourteen numbers of one row into another -/
def fR (σ τ : gq_M) (a b : Nat) : Prop := (∀ c, c ≠ a → τ.1 c = σ.1 c) ∧ (∀ j, (j < b ∨ b + 14 ≤ j) → τ.1 a j = σ.1 a j) ∧ τ.2 = σ.2
theorem fR.rf {σ : gq_M} {a b : Nat} : fR σ σ a b := ⟨fun _ _ => rfl, fun _ _ => rfl, rfl⟩
theorem fR.put {σ τ : gq_M} {a b j : Nat} {x : Int32} (h : fR σ τ a b) (h1 : b ≤ j) (h2 : j < b + 14) : fR σ (gq_put τ a j x) a b := by
  refine ⟨fun c hc => ?_, fun i hi => ?_, h.2.2⟩
  · rw [gq_put_other _ _ _ _ hc]; exact h.1 c hc
  · rw [mx_rs, if_neg (by omega)]; exact h.2.1 i hi
theorem mSt_cpy {R S : Nat → Nat → Nat} {σ τ : gq_M} {a b a2 b2 : Nat} {c : Int32} (hR : rOK R) (h : ∀ k, k < 14 → τ.1 a (b + k) = σ.1 a2 (b2 + k)) (hm : mSt σ a2 b2 R S c) : mSt τ a b R S c := by
  have hT := hR.2.1
  refine ⟨fun t ht => ⟨?_, ?_⟩, ?_, ?_, ?_, ?_⟩
  · rw [h t (by omega)]; exact (hm.1 t ht).1
  · rw [Nat.add_assoc, h (5 + t) (by omega), ← Nat.add_assoc]; exact (hm.1 t ht).2
  · rw [h 10 (by omega)]; exact hm.2.1
  · rw [h 11 (by omega)]; exact hm.2.2.1
  · rw [h 12 (by omega)]; exact hm.2.2.2.1
  · rw [h 13 (by omega)]; exact hm.2.2.2.2
theorem sp7_keepAct_l {σ : gq_M} {e : Nat} {Q : gq_M → Prop} {K : gq_M → Prop} (he : e < 14) (hx : σ.1 0 17 = nI e) (hK : ∀ τ, fR σ τ 9 (14 * e) → (∀ k, k < 14 → τ.1 9 (14 * e + k) = σ.1 5 k) → K τ) : ∀ m i τ, i + m = 14 → fR σ τ 9 (14 * e) → (∀ k, k < i → τ.1 9 (14 * e + k) = σ.1 5 k) → wq_X7_keepAct_l2 Q K (m + 1) (nI i) τ := by
  intro m
  induction m with
  | zero =>
    intro i τ hi hf hc
    obtain rfl : i = 14 := by omega
    unfold wq_X7_keepAct_l2
    exact ⟨fun _ => hK τ hf hc, fun q => absurd (by decide) q⟩
  | succ m ih =>
    intro i τ hi hf hc
    have e1 : τ.1 0 17 = nI e := by rw [hf.1 0 (by omega)]; exact hx
    unfold wq_X7_keepAct_l2
    rw [e1, mx_14, pk_mul, nI_add, nI_clamp (by omega), nI_clamp (by omega), nI_leI (by omega) (by omega)]
    refine ⟨fun q => by omega, fun _ => ⟨vp_in_nI (by omega) (by omega), vp_in_nI (by omega) (by omega), fun v ev => ?_⟩⟩
    rw [ev, nI_1]
    refine ih (i + 1) _ (by omega) (hf.put (by omega) (by omega)) (fun k hk => ?_)
    rw [mx_rs]
    by_cases ek : k = i
    · subst ek; rw [if_pos rfl, hf.1 5 (by omega)]
    · rw [if_neg (by omega)]; exact hc k (by omega)
theorem sp7_keepAct {σ : gq_M} {e n : Nat} {Q : gq_M → Prop} (he : e < 14) (hn : n ≤ 14) (h1 : σ.1 0 17 = nI e) (h2 : σ.1 0 16 = nI n) (h : ∀ τ, (∀ k, k < 14 → τ.1 9 (14 * e + k) = σ.1 5 k) → (∀ c, c ≠ 0 → c ≠ 9 → τ.1 c = σ.1 c) → (∀ j, j ≠ 16 → j ≠ 17 → τ.1 0 j = σ.1 0 j) → (∀ j, (j < 14 * e ∨ 14 * e + 14 ≤ j) → τ.1 9 j = σ.1 9 j) → τ.2 = σ.2 → τ.1 0 17 = nI ((e + 1) % 14) → τ.1 0 16 = nI (min 14 (n + 1)) → Q τ) : wq_X7_keepAct σ Q := by
  unfold wq_X7_keepAct
  refine ⟨15, ?_⟩
  rw [mx_0]
  refine sp7_keepAct_l (σ := σ) he h1 (fun τ hf hc => ?_) 14 0 σ (by omega) fR.rf (fun k hk => absurd hk (by omega))
  have e1 : τ.1 0 17 = nI e := by rw [hf.1 0 (by omega)]; exact h1
  have e2 : τ.1 0 16 = nI n := by rw [hf.1 0 (by omega)]; exact h2
  have e3 : ∀ x, (gq_put τ 0 17 x).1 0 16 = nI n := fun x => by rw [mx_rs, if_neg (by omega)]; exact e2
  rw [e1, mx_mod14 he, e3, mx_14, nI_leI (by omega) (by omega), nI_1]
  unfold wq_X7_keepAct_b68
  have fin : ∀ x : Nat, x = min 14 (n + 1) → Q (gq_put (gq_put τ 0 17 (nI ((e + 1) % 14))) 0 16 (nI x)) := by
    intro x ex
    refine h _ (fun k hk => ?_) (fun c a b => ?_) (fun j a b => ?_) (fun j hj => ?_) hf.2.2 ?_ ?_
    · rw [mx_ro (by omega), mx_ro (by omega)]; exact hc k hk
    · funext j; rw [mx_ro a, mx_ro a, hf.1 c b]
    · rw [mx_rs, if_neg a, mx_rs, if_neg b, hf.1 0 (by omega)]
    · rw [mx_ro (by omega), mx_ro (by omega)]; exact hf.2.1 j hj
    · rw [mx_rs, if_neg (by omega), mx_rs, if_pos rfl]
    · rw [mx_rs, if_pos rfl, ex]
  exact ⟨fun q => fin 14 (by omega), fun q => fin (n + 1) (by omega)⟩
theorem sp7_undo_l {σ : gq_M} {e : Nat} {Q : Int32 → gq_M → Prop} {K : gq_M → Prop} (he : e < 14) (hx : σ.1 0 17 = nI e) (hK : ∀ τ, fR σ τ 5 0 → (∀ k, k < 14 → τ.1 5 k = σ.1 9 (14 * e + k)) → K τ) : ∀ m i τ, i + m = 14 → fR σ τ 5 0 → (∀ k, k < i → τ.1 5 k = σ.1 9 (14 * e + k)) → wq_X7_undo_l36 Q K (m + 1) (nI i) τ := by
  intro m
  induction m with
  | zero =>
    intro i τ hi hf hc
    obtain rfl : i = 14 := by omega
    unfold wq_X7_undo_l36
    exact ⟨fun _ => hK τ hf hc, fun q => absurd (by decide) q⟩
  | succ m ih =>
    intro i τ hi hf hc
    have e1 : τ.1 0 17 = nI e := by rw [hf.1 0 (by omega)]; exact hx
    unfold wq_X7_undo_l36
    rw [e1, mx_14, pk_mul, nI_add, nI_clamp (by omega), nI_clamp (by omega), nI_leI (by omega) (by omega)]
    refine ⟨fun q => by omega, fun _ => ⟨vp_in_nI (by omega) (by omega), vp_in_nI (by omega) (by omega), fun v ev => ?_⟩⟩
    rw [ev, nI_1]
    refine ih (i + 1) _ (by omega) (hf.put (by omega) (by omega)) (fun k hk => ?_)
    rw [mx_rs]
    by_cases ek : k = i
    · subst ek; rw [if_pos rfl, hf.1 9 (by omega)]
    · rw [if_neg ek]; exact hc k (by omega)
theorem sp7_layTrial_l {σ : gq_M} {Q : gq_M → Prop} {K : gq_M → Prop} (hK : ∀ τ, fM σ τ 14 → (∀ k, k < 14 → τ.1 5 (14 + k) = σ.1 5 k) → K τ) : ∀ m i τ, i + m = 14 → fM σ τ 14 → (∀ k, k < i → τ.1 5 (14 + k) = σ.1 5 k) → wq_X7_layTrial_l2 Q K (m + 1) (nI i) τ := by
  intro m
  induction m with
  | zero =>
    intro i τ hi hf hc
    obtain rfl : i = 14 := by omega
    unfold wq_X7_layTrial_l2
    exact ⟨fun _ => hK τ hf hc, fun q => absurd (by decide) q⟩
  | succ m ih =>
    intro i τ hi hf hc
    unfold wq_X7_layTrial_l2
    rw [mx_14, nI_add, nI_clamp (by omega), nI_clamp (by omega), nI_leI (by omega) (by omega)]
    refine ⟨fun q => by omega, fun _ => ⟨vp_in_nI (by omega) (by omega), vp_in_nI (by omega) (by omega), fun v ev => ?_⟩⟩
    rw [ev, nI_1]
    refine ih (i + 1) _ (by omega) (hf.put (by omega) (by omega)) (fun k hk => ?_)
    rw [mx_r5]
    by_cases ek : k = i
    · subst ek; rw [if_pos rfl, hf.2.1 k (by omega)]
    · rw [if_neg (by omega)]; exact hc k (by omega)
theorem sp7_layTrial {σ : gq_M} {Q : gq_M → Prop} (h : ∀ τ, fM σ τ 14 → (∀ k, k < 14 → τ.1 5 (14 + k) = σ.1 5 (0 + k)) → Q τ) : wq_X7_layTrial σ Q := by
  unfold wq_X7_layTrial
  refine ⟨15, ?_⟩
  rw [mx_0]
  exact sp7_layTrial_l (σ := σ) (fun τ hf hc => h τ hf (fun k hk => by rw [Nat.zero_add]; exact hc k hk)) 14 0 σ (by omega) fM.rf (fun k hk => absurd hk (by omega))
