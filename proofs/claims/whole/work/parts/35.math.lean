/-! ===== maths 16: a part of a text, on the model's side ===== -/
theorem mx_0j {μ : gq_M} {j k : Nat} {x : Int32} (h : j ≠ k) : (gq_put μ 0 k x).1 0 j = μ.1 0 j := by rw [mx_rs, if_neg h]
theorem mx_0s {μ : gq_M} {k : Nat} {x : Int32} : (gq_put μ 0 k x).1 0 k = x := by rw [mx_rs, if_pos rfl]
theorem hM_addP {μ : gq_M} {s k : Nat} {F : Nat → Nat → Nat} (h : hM μ F) (hp : F 0 0 < 10) {ν : gq_M} (e9 : ν.1 0 9 = nI (F 0 0 + 1)) (e10 : ν.1 0 10 = μ.1 0 10) (e7 : ν.1 7 = μ.1 7) (e6 : ∀ j, j ≠ 2 * F 0 0 → j ≠ 2 * F 0 0 + 1 → ν.1 6 j = μ.1 6 j) (ea : ν.1 6 (2 * F 0 0) = nI s) (eb : ν.1 6 (2 * F 0 0 + 1) = nI k) : hM ν (px_addP F s k) := by
  obtain ⟨g1, g2, g3, g4⟩ := h
  refine ⟨?_, ?_, fun i hi => ?_, fun t ht => ?_⟩
  · rw [e9]; unfold px_addP px_set; simp
  · rw [e10, g2]; unfold px_addP px_set; simp
  · unfold px_addP px_set at *
    simp at hi ⊢
    by_cases e : i = F 0 0
    · subst e; simp [ea, eb]
    · rw [e6 _ (by omega) (by omega), e6 _ (by omega) (by omega)]
      simp [e]; exact g3 i (by omega)
  · unfold px_addP px_set at *
    simp at ht ⊢
    rw [e7]
    exact g4 t ht
theorem hM_addT {μ : gq_M} {a b d : Nat} {F : Nat → Nat → Nat} (h : hM μ F) {ν : gq_M} (e10 : ν.1 0 10 = nI (F 1 0 + 1)) (e9 : ν.1 0 9 = μ.1 0 9) (e6 : ν.1 6 = μ.1 6) (e7 : ∀ j, j ≠ 3 * F 1 0 → j ≠ 3 * F 1 0 + 1 → j ≠ 3 * F 1 0 + 2 → ν.1 7 j = μ.1 7 j) (ea : ν.1 7 (3 * F 1 0) = nI a) (eb : ν.1 7 (3 * F 1 0 + 1) = nI b) (ec : ν.1 7 (3 * F 1 0 + 2) = nI d) : hM ν (px_addT F a b d) := by
  obtain ⟨g1, g2, g3, g4⟩ := h
  refine ⟨?_, ?_, fun i hi => ?_, fun t ht => ?_⟩
  · rw [e9, g1]; unfold px_addT px_set; simp
  · rw [e10]; unfold px_addT px_set; simp
  · unfold px_addT px_set at *
    simp at hi ⊢
    rw [e6]
    exact g3 i hi
  · unfold px_addT px_set at *
    simp at ht ⊢
    by_cases e : t = F 1 0
    · subst e; simp [ea, eb, ec]
    · rw [e7 _ (by omega) (by omega) (by omega), e7 _ (by omega) (by omega) (by omega), e7 _ (by omega) (by omega) (by omega)]
      simp [e]; exact g4 t (by omega)
def fxZ (μ ν : gq_M) : Prop := (∀ c, c ≠ 0 → ν.1 c = μ.1 c) ∧ (∀ j, j ≠ 13 → j ≠ 14 → ν.1 0 j = μ.1 0 j) ∧ ν.2 = μ.2
theorem fxZ.put {μ : gq_M} {j : Nat} {x : Int32} (hj : j = 13 ∨ j = 14) : fxZ μ (gq_put μ 0 j x) := ⟨fun c hc => gq_put_other _ _ _ _ hc, fun k a b => by rw [mx_rs, if_neg (by omega)], rfl⟩
theorem fxZ.fx {σ μ ν : gq_M} (h0 : fxM σ μ) (h : fxZ μ ν) : fxM σ ν := h0.tr ⟨fun c a _ _ _ _ _ _ => h.1 c a, fun j _ => by rw [h.1 5 (by omega)], fun j _ _ a b _ _ => h.2.1 j a b, h.2.2⟩
theorem fxZ.t {μ ν : gq_M} {n : Nat} {T : Nat → Int32} (h : fxZ μ ν) (ht : tM μ n T) : tM ν n T := ⟨ht.1, by rw [h.2.1 12 (by omega) (by omega)]; exact ht.2.1, fun i hi => by rw [h.1 8 (by omega)]; exact ht.2.2 i hi⟩
theorem tM.put {μ : gq_M} {n i j : Nat} {x : Int32} {T : Nat → Int32} (h : tM μ n T) (hi : i = 6 ∨ i = 7) : tM (gq_put μ i j x) n T := ⟨h.1, by rw [mx_ro (by omega)]; exact h.2.1, fun k hk => by rw [mx_ro (by omega)]; exact h.2.2 k hk⟩
theorem sp7_figureOf {μ : gq_M} {n i lo hi : Nat} {x1 x2 : Int32} {T : Nat → Int32} {Q : Int32 → gq_M → Prop} (e1 : x1 = nI lo) (e2 : x2 = nI hi) (hl : lo < 100) (hh : hi < 100) (ht : tM μ n T) (hn9 : μ.1 0 14 = -9) (ha : μ.1 0 13 = nI i) (hin : i ≤ n) (h1 : px_gd T n i lo hi → ∀ ν, fxZ μ ν → ν.1 0 14 = -9 → ν.1 0 13 = nI (i + 1) → Q (nI (px_d T i)) ν) (h2 : ¬ px_gd T n i lo hi → ∀ ν, fxZ μ ν → ν.1 0 14 = nI i → Q 0 ν) : wq_X7_figureOf x1 x2 μ Q := by
  by_cases g : px_gd T n i lo hi
  · exact sp7_figureOf_ok e1 e2 hl hh ht hn9 ha g (h1 g _ (fxZ.put (by omega)) (by rw [mx_0j (by omega)]; exact hn9) mx_0s)
  · exact sp7_figureOf_bad e1 e2 hl hh ht hn9 ha hin g (h2 g _ (fxZ.put (by omega)) mx_0s)
theorem sp7_figureOf_n {μ : gq_M} {e : Nat} {x1 x2 : Int32} {Q : Int32 → gq_M → Prop} (he : e < 100) (hn9 : μ.1 0 14 = nI e) (h : ∀ ν, fxZ μ ν → ν.1 0 14 = nI e → Q 0 ν) : wq_X7_figureOf x1 x2 μ Q := sp7_figureOf_no he hn9 (h _ (fxZ.put (by omega)) mx_0s)
theorem sp7_readPart_F {μ : gq_M} {n i : Nat} {T : Nat → Int32} {F : Nat → Nat → Nat} {Q : gq_M → Prop} (ht : tM μ n T) (hn9 : μ.1 0 14 = -9) (ha : μ.1 0 13 = nI i) (hi : i < n) (hp : F 0 0 < 10) (h : hM μ F) (hok : px_gd T n (i + 1) 1 9 → px_gd T n (i + 2) 0 3 → ∀ ν, fxM μ ν → ν.1 0 13 = nI (i + 3) → ν.1 0 14 = -9 → hM ν (px_addP F (px_d T (i + 1)) (px_d T (i + 2))) → Q ν) (h1 : ¬ px_gd T n (i + 1) 1 9 → ∀ ν, fxM μ ν → ν.1 0 14 = nI (i + 1) → Q ν) (h2 : px_gd T n (i + 1) 1 9 → ¬ px_gd T n (i + 2) 0 3 → ∀ ν, fxM μ ν → ν.1 0 14 = nI (i + 2) → Q ν) : wq_X7_readPart 70 μ Q := by
  have hn := ht.1
  have f0 : fxZ μ (gq_put μ 0 13 (nI (i + 1))) := fxZ.put (by omega)
  have e9 : (gq_put μ 0 13 (nI (i + 1))).1 0 9 = nI (F 0 0) := by rw [mx_0j (by omega)]; exact h.1
  have e13 : (gq_put μ 0 13 (nI (i + 1))).1 0 13 = nI (i + 1) := mx_0s
  have e14 : (gq_put μ 0 13 (nI (i + 1))).1 0 14 = -9 := by rw [mx_0j (by omega)]; exact hn9
  unfold wq_X7_readPart
  rw [h.1, ha, nI_1, e9, mx_10, nI_leI (by omega) (by omega), mx_2, pk_mul, nI_clamp (by omega)]
  refine ⟨fun q => absurd rfl q, fun _ => ⟨fun q => by omega, fun _ => ?_⟩⟩
  generalize gq_put μ 0 13 (nI (i + 1)) = μ0 at f0 e9 e13 e14
  have hin20 : vp_in (nI (2 * F 0 0)) 20 := vp_in_nI (by omega) (by omega)
  have hin21 : vp_in (nI (2 * F 0 0 + 1)) 20 := vp_in_nI (by omega) (by omega)
  -- the end of it, from a memory in which the first figure stands
  have fin : ∀ (μ1 : gq_M) (x : Int32), fxZ μ μ1 → μ1.1 0 9 = nI (F 0 0) → (∀ (μ2 : gq_M) (y : Int32), fxZ (gq_put μ1 6 (2 * F 0 0) x) μ2 → fxM μ (gq_put (gq_put μ2 6 (2 * F 0 0 + 1) y) 0 9 (nI (F 0 0 + 1))) ∧ (gq_put μ2 6 (2 * F 0 0 + 1) y).1 0 9 = nI (F 0 0) ∧ (gq_put (gq_put μ2 6 (2 * F 0 0 + 1) y) 0 9 (nI (F 0 0 + 1))).1 0 13 = μ2.1 0 13 ∧ (gq_put (gq_put μ2 6 (2 * F 0 0 + 1) y) 0 9 (nI (F 0 0 + 1))).1 0 14 = μ2.1 0 14 ∧ (∀ s k, x = nI s → y = nI k → hM (gq_put (gq_put μ2 6 (2 * F 0 0 + 1) y) 0 9 (nI (F 0 0 + 1))) (px_addP F s k))) := by
    intro μ1 x g1 g2 μ2 y g3
    have k6 : ∀ j, μ2.1 6 j = if j = 2 * F 0 0 then x else μ.1 6 j := fun j => by rw [g3.1 6 (by omega), mx_rs, g1.1 6 (by omega)]
    refine ⟨((fxZ.fx ((fxZ.fx fxM.rf g1).put (by omega)) g3).put (by omega)).put0 (by omega), ?_, ?_, ?_, fun s k es ek => hM_addP h hp mx_0s ?_ ?_ (fun j a b => ?_) ?_ ?_⟩
    · rw [mx_ro (by omega), g3.2.1 9 (by omega) (by omega), mx_ro (by omega)]; exact g2
    · rw [mx_0j (by omega), mx_ro (by omega)]
    · rw [mx_0j (by omega), mx_ro (by omega)]
    · rw [mx_0j (by omega), mx_ro (by omega), g3.2.1 10 (by omega) (by omega), mx_ro (by omega), g1.2.1 10 (by omega) (by omega)]
    · rw [gq_put_other _ _ _ _ (by omega), gq_put_other _ _ _ _ (by omega), g3.1 7 (by omega), gq_put_other _ _ _ _ (by omega), g1.1 7 (by omega)]
    · rw [mx_ro (by omega), mx_rs, if_neg b, k6, if_neg a]
    · rw [mx_ro (by omega), mx_rs, if_neg (by omega), k6, if_pos rfl, es]
    · rw [mx_ro (by omega), mx_rs, if_pos rfl, ek]
  have t0 := f0.t ht
  refine sp7_figureOf (lo := 1) (hi := 9) rfl rfl (by omega) (by omega) t0 e14 e13 (by omega) (fun g1 μ1 k1 k2 k3 => ⟨hin20, ?_⟩) (fun g1 μ1 k1 k2 => ⟨hin20, ?_⟩)
  · have f1 : fxZ μ μ1 := ⟨fun c hc => (k1.1 c hc).trans (f0.1 c hc), fun j a b => (k1.2.1 j a b).trans (f0.2.1 j a b), k1.2.2.trans f0.2.2⟩
    have e91 : μ1.1 0 9 = nI (F 0 0) := by rw [k1.2.1 9 (by omega) (by omega)]; exact e9
    have fi := g1.1
    rw [mx_ro (by omega), e91, pk_mul, nI_1, nI_clamp (by omega)]
    refine sp7_figureOf (i := i + 2) (lo := 0) (hi := 3) rfl rfl (by omega) (by omega) ((f1.t ht).put (by omega)) (by rw [mx_ro (by omega)]; exact k2) (by rw [mx_ro (by omega)]; exact k3) (by omega) (fun g2 μ2 l1 l2 l3 => ⟨hin21, ?_⟩) (fun g2 μ2 l1 l2 => ⟨hin21, ?_⟩)
    · obtain ⟨p1, p2, p3, p4, p5⟩ := fin μ1 _ f1 e91 μ2 (nI (px_d T (i + 2))) l1
      rw [p2, nI_1]
      exact hok g1 g2 _ p1 (by rw [p3]; exact l3) (by rw [p4]; exact l2) (p5 _ _ rfl rfl)
    · obtain ⟨p1, p2, p3, p4, p5⟩ := fin μ1 _ f1 e91 μ2 0 l1
      rw [p2, nI_1]
      exact h2 g1 g2 _ p1 (by rw [p4]; exact l2)
  · have f1 : fxZ μ μ1 := ⟨fun c hc => (k1.1 c hc).trans (f0.1 c hc), fun j a b => (k1.2.1 j a b).trans (f0.2.1 j a b), k1.2.2.trans f0.2.2⟩
    have e91 : μ1.1 0 9 = nI (F 0 0) := by rw [k1.2.1 9 (by omega) (by omega)]; exact e9
    rw [mx_ro (by omega), e91, pk_mul, nI_1, nI_clamp (by omega)]
    refine sp7_figureOf_n (e := i + 1) (by omega) (by rw [mx_ro (by omega)]; exact k2) (fun μ2 l1 l2 => ⟨hin21, ?_⟩)
    obtain ⟨p1, p2, p3, p4, p5⟩ := fin μ1 _ f1 e91 μ2 0 l1
    rw [p2, nI_1]
    exact h1 g1 _ p1 (by rw [p4]; exact l2)
