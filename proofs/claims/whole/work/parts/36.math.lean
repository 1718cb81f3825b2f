/-! ===== maths 17: a traveller of a text, on the model's side; the whole reading ===== -/
theorem fxZ.tr {μ ν ξ : gq_M} (h1 : fxZ μ ν) (h2 : fxZ ν ξ) : fxZ μ ξ := ⟨fun c hc => (h2.1 c hc).trans (h1.1 c hc), fun j a b => (h2.2.1 j a b).trans (h1.2.1 j a b), h2.2.2.trans h1.2.2⟩
theorem sp7_readPart_b129 {μ μ0 : gq_M} {n i : Nat} {T : Nat → Int32} {F : Nat → Nat → Nat} {x4 : Int32} {Q : gq_M → Prop} (ht : tM μ n T) (f0 : fxZ μ μ0) (e14 : μ0.1 0 14 = -9) (e13 : μ0.1 0 13 = nI (i + 1)) (hi : i < n) (hP : F 0 0 ≤ 10) (hq : F 1 0 < 5) (hx : x4 = nI (min 9 (F 0 0))) (h : hM μ F) (hok : px_gd T n (i + 1) 0 (min 9 (F 0 0)) → px_gd T n (i + 2) 1 9 → px_gd T n (i + 3) 0 3 → ∀ ν, fxM μ ν → ν.1 0 13 = nI (i + 4) → ν.1 0 14 = -9 → hM ν (px_addT F (px_d T (i + 1)) (px_d T (i + 2)) (px_d T (i + 3))) → Q ν) (h1 : ¬ px_gd T n (i + 1) 0 (min 9 (F 0 0)) → ∀ ν, fxM μ ν → ν.1 0 14 = nI (i + 1) → Q ν) (h2 : px_gd T n (i + 1) 0 (min 9 (F 0 0)) → ¬ px_gd T n (i + 2) 1 9 → ∀ ν, fxM μ ν → ν.1 0 14 = nI (i + 2) → Q ν) (h3 : px_gd T n (i + 1) 0 (min 9 (F 0 0)) → px_gd T n (i + 2) 1 9 → ¬ px_gd T n (i + 3) 0 3 → ∀ ν, fxM μ ν → ν.1 0 14 = nI (i + 3) → Q ν) : wq_X7_readPart_b129 Q (nI (3 * F 1 0)) 0 x4 μ0 := by
  have hn := ht.1
  have e10 : μ0.1 0 10 = nI (F 1 0) := by rw [f0.2.1 10 (by omega) (by omega)]; exact h.2.1
  have i0 : vp_in (nI (3 * F 1 0)) 15 := vp_in_nI (by omega) (by omega)
  have i1 : vp_in (nI (3 * F 1 0 + 1)) 15 := vp_in_nI (by omega) (by omega)
  have i2 : vp_in (nI (3 * F 1 0 + 2)) 15 := vp_in_nI (by omega) (by omega)
  unfold wq_X7_readPart_b129
  rw [nI_clamp (by omega)]
  -- the end of it
  have fin : ∀ (μ1 μ2 μ3 : gq_M) (x y z : Int32), fxZ μ μ1 → fxZ (gq_put μ1 7 (3 * F 1 0) x) μ2 → fxZ (gq_put μ2 7 (3 * F 1 0 + 1) y) μ3 → fxM μ (gq_put (gq_put μ3 7 (3 * F 1 0 + 2) z) 0 10 (nI (F 1 0 + 1))) ∧ (gq_put μ3 7 (3 * F 1 0 + 2) z).1 0 10 = nI (F 1 0) ∧ (gq_put (gq_put μ3 7 (3 * F 1 0 + 2) z) 0 10 (nI (F 1 0 + 1))).1 0 13 = μ3.1 0 13 ∧ (gq_put (gq_put μ3 7 (3 * F 1 0 + 2) z) 0 10 (nI (F 1 0 + 1))).1 0 14 = μ3.1 0 14 ∧ (∀ a b d, x = nI a → y = nI b → z = nI d → hM (gq_put (gq_put μ3 7 (3 * F 1 0 + 2) z) 0 10 (nI (F 1 0 + 1))) (px_addT F a b d)) := by
    intro μ1 μ2 μ3 x y z g1 g2 g3
    have k7 : ∀ j, μ3.1 7 j = if j = 3 * F 1 0 + 1 then y else if j = 3 * F 1 0 then x else μ.1 7 j := fun j => by rw [g3.1 7 (by omega), mx_rs, g2.1 7 (by omega), mx_rs, g1.1 7 (by omega)]
    refine ⟨((fxZ.fx ((fxZ.fx ((fxZ.fx fxM.rf g1).put (by omega)) g2).put (by omega)) g3).put (by omega)).put0 (by omega), ?_, ?_, ?_, fun a b d ea eb ed => hM_addT h mx_0s ?_ ?_ (fun j a b c => ?_) ?_ ?_ ?_⟩
    · rw [mx_ro (by omega), g3.2.1 10 (by omega) (by omega), mx_ro (by omega), g2.2.1 10 (by omega) (by omega), mx_ro (by omega), g1.2.1 10 (by omega) (by omega)]; exact h.2.1
    · rw [mx_0j (by omega), mx_ro (by omega)]
    · rw [mx_0j (by omega), mx_ro (by omega)]
    · rw [mx_0j (by omega), mx_ro (by omega), g3.2.1 9 (by omega) (by omega), mx_ro (by omega), g2.2.1 9 (by omega) (by omega), mx_ro (by omega), g1.2.1 9 (by omega) (by omega)]
    · rw [gq_put_other _ _ _ _ (by omega), gq_put_other _ _ _ _ (by omega), g3.1 6 (by omega), gq_put_other _ _ _ _ (by omega), g2.1 6 (by omega), gq_put_other _ _ _ _ (by omega), g1.1 6 (by omega)]
    · rw [mx_ro (by omega), mx_rs, if_neg c, k7, if_neg b, if_neg a]
    · rw [mx_ro (by omega), mx_rs, if_neg (by omega), k7, if_neg (by omega), if_pos rfl, ea]
    · rw [mx_ro (by omega), mx_rs, if_neg (by omega), k7, if_pos rfl, eb]
    · rw [mx_ro (by omega), mx_rs, if_pos rfl, ed]
  have r1 : ∀ (μ1 : gq_M) (x : Int32), fxZ μ μ1 → (3 * (gq_put μ1 7 (3 * F 1 0) x).1 0 10 + 1 : Int32) = nI (3 * F 1 0 + 1) := fun μ1 x g => by
    rw [mx_ro (by omega), g.2.1 10 (by omega) (by omega), h.2.1, mx_3, pk_mul, nI_1]
  have r2 : ∀ (μ1 μ2 : gq_M) (x y : Int32), fxZ μ μ1 → fxZ (gq_put μ1 7 (3 * F 1 0) x) μ2 → (3 * (gq_put μ2 7 (3 * F 1 0 + 1) y).1 0 10 + 2 : Int32) = nI (3 * F 1 0 + 2) := fun μ1 μ2 x y g g2 => by
    rw [mx_ro (by omega), g2.2.1 10 (by omega) (by omega), mx_ro (by omega), g.2.1 10 (by omega) (by omega), h.2.1, mx_3, mx_2, pk_mul, nI_add]
  refine sp7_figureOf (i := i + 1) (lo := 0) (hi := min 9 (F 0 0)) rfl hx (by omega) (by omega) (f0.t ht) e14 e13 (by omega) (fun g1 μ1 k1 k2 k3 => ⟨i0, ?_⟩) (fun g1 μ1 k1 k2 => ⟨i0, ?_⟩)
  · have f1 := f0.tr k1
    have fi := g1.1
    rw [r1 μ1 _ f1, nI_clamp (by omega)]
    refine sp7_figureOf (i := i + 2) (lo := 1) (hi := 9) rfl rfl (by omega) (by omega) ((f1.t ht).put (by omega)) (by rw [mx_ro (by omega)]; exact k2) (by rw [mx_ro (by omega)]; exact k3) (by omega) (fun g2 μ2 l1 l2 l3 => ⟨i1, ?_⟩) (fun g2 μ2 l1 l2 => ⟨i1, ?_⟩)
    · rw [r2 μ1 μ2 _ _ f1 l1, nI_clamp (by omega)]
      have fi2 := g2.1
      refine sp7_figureOf (i := i + 3) (lo := 0) (hi := 3) rfl rfl (by omega) (by omega) ((l1.t ((f1.t ht).put (by omega))).put (by omega)) (by rw [mx_ro (by omega)]; exact l2) (by rw [mx_ro (by omega)]; exact l3) (by omega) (fun g3 μ3 m1 m2 m3 => ⟨i2, ?_⟩) (fun g3 μ3 m1 m2 => ⟨i2, ?_⟩)
      · obtain ⟨p1, p2, p3, p4, p5⟩ := fin μ1 μ2 μ3 _ _ (nI (px_d T (i + 3))) f1 l1 m1
        rw [p2, nI_1]
        exact hok g1 g2 g3 _ p1 (by rw [p3]; exact m3) (by rw [p4]; exact m2) (p5 _ _ _ rfl rfl rfl)
      · obtain ⟨p1, p2, p3, p4, p5⟩ := fin μ1 μ2 μ3 _ _ 0 f1 l1 m1
        rw [p2, nI_1]
        exact h3 g1 g2 g3 _ p1 (by rw [p4]; exact m2)
    · rw [r2 μ1 μ2 _ _ f1 l1, nI_clamp (by omega)]
      refine sp7_figureOf_n (e := i + 2) (by omega) (by rw [mx_ro (by omega)]; exact l2) (fun μ3 m1 m2 => ⟨i2, ?_⟩)
      obtain ⟨p1, p2, p3, p4, p5⟩ := fin μ1 μ2 μ3 _ _ 0 f1 l1 m1
      rw [p2, nI_1]
      exact h2 g1 g2 _ p1 (by rw [p4]; exact m2)
  · have f1 := f0.tr k1
    rw [r1 μ1 _ f1, nI_clamp (by omega)]
    refine sp7_figureOf_n (e := i + 1) (by omega) (by rw [mx_ro (by omega)]; exact k2) (fun μ2 l1 l2 => ⟨i1, ?_⟩)
    rw [r2 μ1 μ2 _ _ f1 l1, nI_clamp (by omega)]
    refine sp7_figureOf_n (e := i + 1) (by omega) (by rw [mx_ro (by omega)]; exact l2) (fun μ3 m1 m2 => ⟨i2, ?_⟩)
    obtain ⟨p1, p2, p3, p4, p5⟩ := fin μ1 μ2 μ3 _ _ 0 f1 l1 m1
    rw [p2, nI_1]
    exact h1 g1 _ p1 (by rw [p4]; exact m2)
theorem sp7_readPart_T {μ : gq_M} {n i : Nat} {T : Nat → Int32} {F : Nat → Nat → Nat} {Q : gq_M → Prop} (ht : tM μ n T) (hn9 : μ.1 0 14 = -9) (ha : μ.1 0 13 = nI i) (hi : i < n) (hP : F 0 0 ≤ 10) (hq : F 1 0 < 5) (h : hM μ F) (hok : px_gd T n (i + 1) 0 (min 9 (F 0 0)) → px_gd T n (i + 2) 1 9 → px_gd T n (i + 3) 0 3 → ∀ ν, fxM μ ν → ν.1 0 13 = nI (i + 4) → ν.1 0 14 = -9 → hM ν (px_addT F (px_d T (i + 1)) (px_d T (i + 2)) (px_d T (i + 3))) → Q ν) (h1 : ¬ px_gd T n (i + 1) 0 (min 9 (F 0 0)) → ∀ ν, fxM μ ν → ν.1 0 14 = nI (i + 1) → Q ν) (h2 : px_gd T n (i + 1) 0 (min 9 (F 0 0)) → ¬ px_gd T n (i + 2) 1 9 → ∀ ν, fxM μ ν → ν.1 0 14 = nI (i + 2) → Q ν) (h3 : px_gd T n (i + 1) 0 (min 9 (F 0 0)) → px_gd T n (i + 2) 1 9 → ¬ px_gd T n (i + 3) 0 3 → ∀ ν, fxM μ ν → ν.1 0 14 = nI (i + 3) → Q ν) : wq_X7_readPart 84 μ Q := by
  have hn := ht.1
  have f0 : fxZ μ (gq_put μ 0 13 (nI (i + 1))) := fxZ.put (by omega)
  have e9 : (gq_put μ 0 13 (nI (i + 1))).1 0 9 = nI (F 0 0) := by rw [mx_0j (by omega)]; exact h.1
  have e10 : (gq_put μ 0 13 (nI (i + 1))).1 0 10 = nI (F 1 0) := by rw [mx_0j (by omega)]; exact h.2.1
  have e13 : (gq_put μ 0 13 (nI (i + 1))).1 0 13 = nI (i + 1) := mx_0s
  have e14 : (gq_put μ 0 13 (nI (i + 1))).1 0 14 = -9 := by rw [mx_0j (by omega)]; exact hn9
  unfold wq_X7_readPart wq_X7_readPart_b75
  refine ⟨fun _ => ⟨fun q => absurd rfl q, fun _ => ?_⟩, fun q => absurd q (by decide)⟩
  rw [h.2.1, ha, nI_1, e9, e10, mx_5, nI_leI (by omega) (by omega), mx_3, pk_mul, show ((9 : Int32) ≤ nI (F 0 0)) ↔ 9 ≤ F 0 0 from nI_leI (a := 9) (by omega) (by omega)]
  refine ⟨fun q => by omega, fun _ => ⟨fun q => ?_, fun q => ?_⟩⟩
  · exact sp7_readPart_b129 ht f0 e14 e13 hi hP hq (by rw [Nat.min_eq_left q]; rfl) h hok h1 h2 h3
  · exact sp7_readPart_b129 ht f0 e14 e13 hi hP hq (by rw [Nat.min_eq_right (by omega)]) h hok h1 h2 h3
theorem sp7_readPart_no {μ : gq_M} {i : Nat} {x : Int32} {F : Nat → Nat → Nat} {Q : gq_M → Prop} (ha : μ.1 0 13 = nI i) (hF : fOK F) (h : hM μ F) (h1 : ¬ (x = 70 ∧ F 0 0 < 10)) (h2 : ¬ (x = 84 ∧ F 1 0 < 5)) (hQ : ∀ ν, fxM μ ν → ν.1 0 14 = nI i → Q ν) : wq_X7_readPart x μ Q := by
  have hP := hF.1.1
  have hT := hF.1.2.1
  unfold wq_X7_readPart wq_X7_readPart_b75 wq_X7_readPart_b185
  have fin : Q (gq_put μ 0 14 (μ.1 0 13)) := hQ _ (fxM.rf.put0 (by omega)) (by rw [mx_0s, ha])
  have m75 : ((¬ x = 84 → Q (gq_put μ 0 14 (μ.1 0 13))) ∧ (x = 84 → ((5 ≤ (μ.1 0 10) → Q (gq_put μ 0 14 (μ.1 0 13))) ∧ (¬ 5 ≤ (μ.1 0 10) → ((9 ≤ (((gq_put μ 0 13 ((μ.1 0 13) + 1))).1 0 9) → wq_X7_readPart_b129 Q (3 * (((gq_put μ 0 13 ((μ.1 0 13) + 1))).1 0 10)) 0 9 (gq_put μ 0 13 ((μ.1 0 13) + 1))) ∧ (¬ 9 ≤ (((gq_put μ 0 13 ((μ.1 0 13) + 1))).1 0 9) → wq_X7_readPart_b129 Q (3 * (((gq_put μ 0 13 ((μ.1 0 13) + 1))).1 0 10)) 0 (((gq_put μ 0 13 ((μ.1 0 13) + 1))).1 0 9) (gq_put μ 0 13 ((μ.1 0 13) + 1)))))))) := by
    refine ⟨fun _ => fin, fun q => ⟨fun _ => fin, fun r => absurd ⟨q, ?_⟩ h2⟩⟩
    rw [h.2.1, mx_5, nI_leI (by omega) (by omega)] at r
    omega
  refine ⟨fun _ => m75, fun q => ⟨fun _ => m75, fun r => absurd ⟨q, ?_⟩ h1⟩⟩
  rw [h.1, mx_10, nI_leI (by omega) (by omega)] at r
  omega
