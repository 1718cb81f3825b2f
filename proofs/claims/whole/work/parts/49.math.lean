/-! ===== maths 30: who, the model ===== -/
theorem mx_b01 (b : Bool) : gq_b (if b then 1 else 0) := by cases b; exact Or.inl rfl; exact Or.inr rfl
theorem sp7_who_l52 {n far : Nat} {p : Nat → Nat} {x : Nat → Int32} {σ μ : gq_M} {Q : Int32 → gq_M → Prop} {K : Int32 → Int32 → Int32 → Int32 → Int32 → gq_M → Prop} {x1 x2 x3 x4 : Int32} (hp : hP σ μ n p x) (hfar : far ≤ 10) (hQ : K x1 x2 x3 x4 (if px_fit p x far n then 1 else 0) μ) : ∃ m, wq_X7_who_l52 Q K m x1 x2 x3 x4 (nI far) 1 0 μ := by
  obtain ⟨hn, h1, h2, h3⟩ := hp
  have key : ∀ m k, k + m = n → wq_X7_who_l52 Q K (m + 1) x1 x2 x3 x4 (nI far) (if px_fit p x far k then 1 else 0) (nI k) μ := by
    intro m
    induction m with
    | zero =>
      intro k hk
      obtain rfl : k = n := by omega
      unfold wq_X7_who_l52
      rw [h2]
      exact ⟨fun _ => hQ, fun z => absurd (Int32.le_refl _) z⟩
    | succ m ih =>
      intro k hk
      obtain ⟨a1, a2, a3, a4, a5, a6⟩ := h3 k (by omega)
      have hin : vp_in (nI k) 6 := vp_in_nI (by omega) (by omega)
      have nxt := ih (k + 1) (by omega)
      rw [show px_fit p x far (k + 1) = (px_fit p x far k && (decide (p k ≤ far) == decide (x k = 1))) from rfl] at nxt
      unfold wq_X7_who_l52 wq_X7_who_b83 wq_X7_who_b99 wq_X7_who_b107
      rw [h2, nI_leI (by omega) (by omega), nI_clamp (by omega), a3, a6, nI_ltI (by omega) (by omega)]
      refine ⟨fun z => by omega, fun _ => ?_⟩
      cases hx : px_fit p x far k with
      | false =>
        rw [hx] at nxt
        refine ⟨fun _ v9 e9 => ?_, fun z => absurd rfl z⟩
        rw [e9, nI_1]
        exact nxt
      | true =>
        rw [hx] at nxt
        simp only [Bool.true_and] at nxt
        refine ⟨fun z => absurd z (by decide), fun _ => ⟨hin, fun z => ⟨hin, fun y => ⟨fun w => absurd rfl w, fun _ v9 e9 => ?_⟩, fun y => ⟨fun _ v9 e9 => ?_, fun w => absurd w (by decide)⟩⟩, fun z => ⟨hin, fun y => ⟨fun _ v9 e9 => ?_, fun w => absurd w (by decide)⟩, fun y => ⟨fun w => absurd rfl w, fun _ v9 e9 => ?_⟩⟩⟩⟩
        · rw [decide_eq_false (by omega : ¬ p k ≤ far), decide_eq_false y] at nxt
          rw [e9, nI_1]; exact nxt
        · rw [decide_eq_false (by omega : ¬ p k ≤ far), decide_eq_true y] at nxt
          rw [e9, nI_1]; exact nxt
        · rw [decide_eq_true (by omega : p k ≤ far), decide_eq_false y] at nxt
          rw [e9, nI_1]; exact nxt
        · rw [decide_eq_true (by omega : p k ≤ far), decide_eq_true y] at nxt
          rw [e9, nI_1]; exact nxt
  exact ⟨n + 1, key n 0 (by omega)⟩
theorem sp7_who_l21 {R : Nat → Nat → Nat} {n : Nat} {p : Nat → Nat} {x : Nat → Int32} {σ μ : gq_M} {Q : Int32 → gq_M → Prop} {K : Int32 → Int32 → Int32 → gq_M → Prop} {x1 : Int32} (hR : rOK R) (hm : mRd μ R) (hi : μ.1 0 15 = nI 0) (hp : hP σ μ n p x) (hQ : K x1 (nI (px_cn (px_F R p x n) 36)) (px_fst (px_F R p x n) 36) μ) : ∃ m, wq_X7_who_l21 Q K m x1 0 (-9) 0 μ := by
  have key : ∀ m k, k + m = 36 → wq_X7_who_l21 Q K (m + 1) x1 (nI (px_cn (px_F R p x n) k)) (px_fst (px_F R p x n) k) (nI k) μ := by
    intro m
    induction m with
    | zero =>
      intro k hk
      obtain rfl : k = 36 := by omega
      unfold wq_X7_who_l21
      exact ⟨fun _ => hQ, fun z => absurd (by decide) z⟩
    | succ m ih =>
      intro k hk
      have hcl := px_cn_le (F := px_F R p x n) k
      unfold wq_X7_who_l21
      rw [show (36 : Int32) = nI 36 from rfl, nI_leI (by omega) (by omega)]
      have e1 : (nI k / 9 : Int32) = nI (k / 9) := pk_div (d := 9) (by omega) (by omega) (by omega)
      have e2 : (nI k - nI k / 9 * 9 : Int32) = nI (k % 9) := pk_rem (d := 9) (by omega) (by omega) (by omega)
      refine ⟨fun z => by omega, fun _ => ?_⟩
      rw [e2, e1, mx_1, nI_add]
      refine sp7_farthest hR hm hi (by omega) (by omega) ?_
      have hfr := px_fr_le (R := R) (h := k / 9) (b := 1 + k % 9) (R 0 0) 0 (1 + k % 9) (by omega)
      have hP10 := hR.1
      refine sp7_who_l52 hp (by omega) ?_
      have nxt := ih (k + 1) (by omega)
      unfold px_cn px_fst at nxt
      rw [show px_fit p x (px_fr R (k / 9) (1 + k % 9) (R 0 0) 0 (1 + k % 9)) n = px_F R p x n k from rfl]
      unfold wq_X7_who_b144 wq_X7_who_b156
      cases hx : px_F R p x n k with
      | false =>
        rw [hx] at nxt
        rw [if_neg (show ¬ (px_cn (px_F R p x n) k = 0 ∧ false = true) from fun q => by cases q.2)] at nxt
        refine ⟨fun _ => ⟨fun _ v21 e21 v22 e22 => ?_, fun z => absurd rfl z⟩, fun z => absurd rfl z⟩
        rw [e21, e22, nI_1, mx_0, nI_add]
        exact nxt
      | true =>
        rw [hx] at nxt
        refine ⟨fun z => absurd z (by decide), fun _ => ⟨fun z => ⟨fun w => absurd w (by decide), fun _ v21 e21 v22 e22 => ?_⟩, fun z => ⟨fun w => absurd w (by decide), fun _ v21 e21 v22 e22 => ?_⟩⟩⟩
        · rw [mx_0, nI_eq (by omega) (by omega)] at z
          rw [if_neg (show ¬ (px_cn (px_F R p x n) k = 0 ∧ true = true) from fun q => z q.1)] at nxt
          rw [e21, e22, nI_1, nI_1]
          exact nxt
        · rw [mx_0, nI_eq (by omega) (by omega)] at z
          rw [if_pos (show px_cn (px_F R p x n) k = 0 ∧ true = true from ⟨z, rfl⟩)] at nxt
          rw [e21, e22, nI_1, nI_1, e2, e1, mx_10, pk_mul, nI_add, nI_add]
          exact nxt
  exact ⟨37, key 36 0 (by omega)⟩
theorem sim_who {σ μ : gq_M} (h : Rel σ μ) : gl_S_who Rel σ μ := by
  obtain ⟨⟨R, hR, hc, hm, ⟨S, c, hS, hcS, hmS⟩, ha, hk⟩, ht, hh, h2s, hi⟩ := id h
  obtain ⟨n, p, x, hp⟩ := RelH_hP hh
  intro a1
  unfold wq_X6_who
  have m7 : ∀ (Q : Int32 → gq_M → Prop), (a1 = 0 ∨ a1 = 1) → (a1 = 0 → Q (nI (px_cn (px_F R p x n) 36)) μ) → (a1 = 1 → Q (px_fst (px_F R p x n) 36) μ) → wq_X7_who a1 μ Q := by
    intro Q h01 q0 q1
    unfold wq_X7_who
    refine sp7_inI (lo := 0) (hi := 1) (by decide) (by decide) (fun _ _ => ⟨fun _ => ?_, fun q => absurd q (by decide)⟩) (fun q => ?_)
    · refine sp7_who_l21 hR hm hi hp ⟨fun z => q1 ?_, fun z => q0 z⟩
      rcases h01 with g | g
      · exact absurd g z
      · exact g
    · rcases h01 with g | g
      · subst g; exact absurd (by decide) q
      · subst g; exact absurd (by decide) q
  refine ⟨fun z0 => ⟨fun z1 => ?_, fun z1 => ?_⟩, fun z0 => ?_⟩
  · unfold wq_X7_who
    refine sp7_inI (lo := 0) (hi := 1) (by decide) (by decide) (fun u v => ?_) (fun q => ⟨fun q => absurd rfl q, fun _ => ⟨rfl, h⟩⟩)
    have : a1 = 0 ∨ a1 = 1 := by
      rcases (show a1.toInt = 0 ∨ a1.toInt = 1 by omega) with g | g
      · exact Or.inl (Int32.toInt_inj.mp (by rw [g]; decide))
      · exact Or.inr (Int32.toInt_inj.mp (by rw [g]; decide))
    rcases this with g | g
    · exact absurd g z0
    · exact absurd g z1
  · exact sp1_firstOne hR hc hp (m7 _ (Or.inr z1) (fun q => absurd q z0) (fun _ => ⟨rfl, h⟩))
  · exact sp1_howMany hR hc hp (m7 _ (Or.inl z0) (fun _ => ⟨rfl, h⟩) (fun q => by rw [z0] at q; exact absurd q (by decide)))
