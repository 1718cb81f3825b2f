/-! ===== maths 29: who ===== -/
def px_fr (R : Nat → Nat → Nat) (h b : Nat) : Nat → Nat → Nat → Nat
  | 0, _, _ => R 0 0
  | n + 1, k, w => if px_pay h (px_c0 (R 2 k) (R 3 k) 0 ((px_sm R (R 0 0)).testBit k)) ≤ w then px_fr R h b n (k + 1) (if R 3 k = 3 then b else w - px_pay h (px_c0 (R 2 k) (R 3 k) 0 ((px_sm R (R 0 0)).testBit k))) else k
theorem px_fr_le {R : Nat → Nat → Nat} {h b : Nat} : ∀ n k w, n + k = R 0 0 → px_fr R h b n k w ≤ R 0 0
  | 0, k, w, _ => by unfold px_fr; omega
  | n + 1, k, w, e => by
    unfold px_fr
    split
    · exact px_fr_le n (k + 1) _ (by omega)
    · omega
theorem sp1_farthestOn {R : Nat → Nat → Nat} {h b : Nat} {σ : gq_M} {Q : Int32 → gq_M → Prop} (hR : rOK R) (hc : cRd σ R) (hh : h ≤ 3) (hb : b ≤ 9) (hQ : Q (nI (px_fr R h b (R 0 0) 0 b)) σ) : wq_X1_farthestOn (nI h) (nI b) σ Q := by
  have hP := hR.1
  have hsm := px_sm_1024 hR
  unfold wq_X1_farthestOn
  refine sp2_smoothOnes hR hc ?_
  have key : ∀ n k w, n + k = R 0 0 → w ≤ 9 → Q (nI (px_fr R h b n k w)) σ → wq_X1_farthestOn_l14 Q (fun σ11 => Q (σ11.1 9 5) σ11) (n + 1) (nI h) (nI b) (nI (px_sm R (R 0 0))) (nI w) (nI k) σ := by
    intro n
    induction n with
    | zero =>
      intro k w hk hw hq
      obtain rfl : k = R 0 0 := by omega
      unfold wq_X1_farthestOn_l14
      unfold px_fr at hq
      rw [hc.1]
      exact ⟨fun _ => hq, fun z => absurd (Int32.le_refl _) z⟩
    | succ n ih =>
      intro k w hk hw hq
      have hk1 : k < R 0 0 := by omega
      have hk3 := (hR.2.2.1 k hk1).2.2
      have hle := px_c0_le (k := R 3 k) (f := 0) (g := (px_sm R (R 0 0)).testBit k) (hR.2.2.1 k hk1).2.1 (by omega)
      have hpl := px_pay_le (h := h) (c := px_c0 (R 2 k) (R 3 k) 0 ((px_sm R (R 0 0)).testBit k))
      unfold wq_X1_farthestOn_l14
      unfold px_fr at hq
      rw [hc.1, nI_leI (by omega) (by omega), mx_0]
      refine ⟨fun z => by omega, fun _ => ?_⟩
      refine sp2_costShut hR hc hk1 hsm (by omega) (sp2_tollFor hh (by omega) ?_)
      rw [nI_leI (by omega) (by omega), nI_clamp (by omega), (hc.2.2.1 k hk1).2, mx_3, nI_eq (by omega) (by omega)]
      unfold wq_X1_farthestOn_b76
      refine ⟨fun z => ⟨vp_in_nI (by omega) (by omega), fun y v10 e10 => ?_, fun y v10 e10 => ?_⟩, fun z => ?_⟩
      · rw [if_pos z, if_neg y] at hq
        rw [e10, nI_1, pk_sub z]
        exact ih (k + 1) _ (by omega) (by omega) hq
      · rw [if_pos z, if_pos y] at hq
        rw [e10, nI_1]
        exact ih (k + 1) _ (by omega) (by omega) hq
      · rw [if_neg z] at hq; exact hq
  exact ⟨R 0 0 + 1, key (R 0 0) 0 b (by omega) (by omega) hQ⟩
theorem sp7_farthest {R : Nat → Nat → Nat} {h b : Nat} {σ : gq_M} {Q : Int32 → gq_M → Prop} (hR : rOK R) (hc : mRd σ R) (hi : σ.1 0 15 = nI 0) (hh : h ≤ 3) (hb : b ≤ 9) (hQ : Q (nI (px_fr R h b (R 0 0) 0 b)) σ) : wq_X7_farthest (nI h) (nI b) σ Q := by
  have hP := hR.1
  have hsm := px_sm_1024 hR
  unfold wq_X7_farthest
  have key : ∀ n k w, n + k = R 0 0 → w ≤ 9 → Q (nI (px_fr R h b n k w)) σ → wq_X7_farthest_l5 Q (fun σ11 => Q (σ11.1 0 0) σ11) (n + 1) (nI h) (nI b) (nI w) (nI k) σ := by
    intro n
    induction n with
    | zero =>
      intro k w hk hw hq
      obtain rfl : k = R 0 0 := by omega
      unfold wq_X7_farthest_l5
      unfold px_fr at hq
      rw [hc.1]
      exact ⟨fun _ => hq, fun z => absurd (Int32.le_refl _) z⟩
    | succ n ih =>
      intro k w hk hw hq
      have hk1 : k < R 0 0 := by omega
      have hk3 := (hR.2.2.1 k hk1).2.2
      have hle := px_c0_le (k := R 3 k) (f := 0) (g := (px_sm R (R 0 0)).testBit k) (hR.2.2.1 k hk1).2.1 (by omega)
      have hpl := px_pay_le (h := h) (c := px_c0 (R 2 k) (R 3 k) 0 ((px_sm R (R 0 0)).testBit k))
      unfold wq_X7_farthest_l5
      unfold px_fr at hq
      rw [hc.1, nI_leI (by omega) (by omega), mx_0]
      refine ⟨fun z => by omega, fun _ => sp7_smooth hR hc ?_⟩
      refine sp7_costs hR hc hk1 (by omega) hsm (by omega) (by omega) hi ?_
      rw [px_cost0, if_neg (by omega)]
      refine sp7_pays hh (by omega) ?_
      rw [nI_leI (by omega) (by omega), nI_clamp (by omega), (hc.2.2.1 k hk1).2, mx_3, nI_eq (by omega) (by omega)]
      unfold wq_X7_farthest_b60
      refine ⟨fun z => ⟨vp_in_nI (by omega) (by omega), fun y v10 e10 => ?_, fun y v10 e10 => ?_⟩, fun z => ?_⟩
      · rw [if_pos z, if_neg y] at hq
        rw [e10, nI_1, pk_sub z]
        exact ih (k + 1) _ (by omega) (by omega) hq
      · rw [if_pos z, if_pos y] at hq
        rw [e10, nI_1]
        exact ih (k + 1) _ (by omega) (by omega) hq
      · rw [if_neg z] at hq; exact hq
  exact ⟨R 0 0 + 1, key (R 0 0) 0 b (by omega) (by omega) hQ⟩
def px_fit (p : Nat → Nat) (x : Nat → Int32) (far : Nat) : Nat → Bool
  | 0 => true
  | k + 1 => px_fit p x far k && (decide (p k ≤ far) == decide (x k = 1))
theorem px_fit_no {p : Nat → Nat} {x : Nat → Int32} {far k : Nat} (h : px_fit p x far k = false) : ∀ n, px_fit p x far (k + n) = false
  | 0 => h
  | n + 1 => by
    show (px_fit p x far (k + n) && _) = false
    rw [px_fit_no h n]; rfl
def hP (σ μ : gq_M) (n : Nat) (p : Nat → Nat) (x : Nat → Int32) : Prop := n ≤ 6 ∧ σ.1 15 3 = nI n ∧ μ.1 0 23 = nI n ∧ ∀ i, i < n → p i ≤ 10 ∧ σ.1 16 i = nI (p i) ∧ μ.1 12 i = nI (p i) ∧ gq_b (x i) ∧ σ.1 17 i = x i ∧ μ.1 13 i = x i
theorem RelH_hP {σ μ : gq_M} (h : RelH σ μ) : ∃ n p x, hP σ μ n p x := by
  obtain ⟨n, h1, h2, h3, h4⟩ := h
  refine ⟨n, fun i => (μ.1 12 i).toNatClampNeg, fun i => μ.1 13 i, h1, h2, h3, fun i hi => ?_⟩
  obtain ⟨⟨p, a, b, c⟩, d, e⟩ := h4 i hi
  simp only
  rw [c, nI_clamp (by omega)]
  exact ⟨a, b, rfl, d, e, trivial⟩
theorem sp1_isOne {R : Nat → Nat → Nat} {h b n : Nat} {p : Nat → Nat} {x : Nat → Int32} {σ μ : gq_M} {Q : Int32 → gq_M → Prop} (hR : rOK R) (hc : cRd σ R) (hp : hP σ μ n p x) (hh : h ≤ 3) (hb : b ≤ 9) (hQ : Q (if px_fit p x (px_fr R h b (R 0 0) 0 b) n then 1 else 0) σ) : wq_X1_isOne (nI h) (nI b) σ Q := by
  unfold wq_X1_isOne
  refine sp1_farthestOn hR hc hh hb ?_
  have hfr := px_fr_le (R := R) (h := h) (b := b) (R 0 0) 0 b (by omega)
  have hP10 := hR.1
  generalize px_fr R h b (R 0 0) 0 b = far at *
  obtain ⟨hn, h1, h2, h3⟩ := hp
  have key : ∀ m k, k + m = n → px_fit p x far k = true → wq_X1_isOne_l10 Q (fun σ7 => Q 1 σ7) (m + 1) (nI far) (nI k) σ := by
    intro m
    induction m with
    | zero =>
      intro k hk hf
      obtain rfl : k = n := by omega
      unfold wq_X1_isOne_l10
      rw [h1]
      rw [hf] at hQ
      exact ⟨fun _ => hQ, fun z => absurd (Int32.le_refl _) z⟩
    | succ m ih =>
      intro k hk hf
      obtain ⟨a1, a2, a3, a4, a5, a6⟩ := h3 k (by omega)
      have hin : vp_in (nI k) 6 := vp_in_nI (by omega) (by omega)
      unfold wq_X1_isOne_l10 wq_X1_isOne_b35
      rw [h1, nI_leI (by omega) (by omega), nI_clamp (by omega), a2, a5, nI_ltI (by omega) (by omega)]
      have ok : (decide (p k ≤ far) == decide (x k = 1)) = true → ∀ v6, v6 = nI k + 1 → wq_X1_isOne_l10 Q (fun σ7 => Q 1 σ7) (m + 1) (nI far) v6 σ := by
        intro g v6 e6
        rw [e6, nI_1]
        refine ih (k + 1) (by omega) ?_
        show (px_fit p x far k && _) = true
        rw [hf, g]; rfl
      have no : (decide (p k ≤ far) == decide (x k = 1)) = false → Q 0 σ := by
        intro g
        have h0 : px_fit p x far (k + 1) = false := by
          show (px_fit p x far k && _) = false
          rw [g]; simp
        have h5 := px_fit_no h0 m
        rw [show k + 1 + m = n by omega] at h5
        rw [h5] at hQ
        exact hQ
      refine ⟨fun z => by omega, fun _ => ⟨hin, fun z => ⟨hin, fun y => ok ?_, fun y => no ?_⟩, fun z => ⟨hin, fun y => ok ?_, fun y => no ?_⟩⟩⟩
      · rw [← y]; simp; omega
      · rcases a4 with g | g
        · exact absurd g.symm y
        · rw [g]; simp; omega
      · rw [← y]; simp; omega
      · rcases a4 with g | g
        · rw [g]; simp; omega
        · exact absurd g.symm y
  exact ⟨n + 1, key n 0 (by omega) rfl⟩
def px_cn (F : Nat → Bool) : Nat → Nat
  | 0 => 0
  | k + 1 => px_cn F k + (if F k then 1 else 0)
def px_fst (F : Nat → Bool) : Nat → Int32
  | 0 => -9
  | k + 1 => if px_cn F k = 0 ∧ F k = true then nI (10 * (k / 9) + 1 + k % 9) else px_fst F k
theorem px_cn_0 {F : Nat → Bool} : ∀ k, (∀ j, j < k → F j = false) → px_cn F k = 0 ∧ px_fst F k = -9
  | 0, _ => ⟨rfl, rfl⟩
  | k + 1, h => by
    have ih := px_cn_0 k (fun j hj => h j (by omega))
    have hk := h k (by omega)
    unfold px_cn px_fst
    rw [ih.1, ih.2, hk]
    simp
theorem px_cn_1 {F : Nat → Bool} {i : Nat} (h : ∀ j, j < i → F j = false) (hi : F i = true) : ∀ n, 0 < px_cn F (i + 1 + n) ∧ px_fst F (i + 1 + n) = nI (10 * (i / 9) + 1 + i % 9)
  | 0 => by
    have z := px_cn_0 i h
    show 0 < px_cn F (i + 1) ∧ px_fst F (i + 1) = _
    unfold px_cn px_fst
    rw [z.1, hi]
    simp
  | n + 1 => by
    have ih := px_cn_1 h hi n
    show 0 < px_cn F (i + 1 + n + 1) ∧ px_fst F (i + 1 + n + 1) = _
    unfold px_cn px_fst
    refine ⟨by omega, ?_⟩
    rw [if_neg (fun q => by have := q.1; omega)]
    exact ih.2
theorem px_cn_le {F : Nat → Bool} : ∀ k, px_cn F k ≤ k
  | 0 => Nat.le_refl 0
  | k + 1 => by
    have := px_cn_le (F := F) k
    unfold px_cn
    split <;> omega
def px_F (R : Nat → Nat → Nat) (p : Nat → Nat) (x : Nat → Int32) (n i : Nat) : Bool := px_fit p x (px_fr R (i / 9) (1 + i % 9) (R 0 0) 0 (1 + i % 9)) n
theorem sp1_howMany {R : Nat → Nat → Nat} {n : Nat} {p : Nat → Nat} {x : Nat → Int32} {σ μ : gq_M} {Q : Int32 → gq_M → Prop} (hR : rOK R) (hc : cRd σ R) (hp : hP σ μ n p x) (hQ : Q (nI (px_cn (px_F R p x n) 36)) σ) : wq_X1_howMany σ Q := by
  have key : ∀ m h, h + m = 4 → wq_X1_howMany_l4 Q (fun e13 σ14 => Q e13 σ14) (m + 1) (nI (px_cn (px_F R p x n) (9 * h))) (nI h) σ := by
    intro m
    induction m with
    | zero =>
      intro h hh
      obtain rfl : h = 4 := by omega
      unfold wq_X1_howMany_l4
      exact ⟨fun _ => hQ, fun q => absurd (by decide) q⟩
    | succ m ih =>
      intro h hh
      unfold wq_X1_howMany_l4
      rw [mx_4, nI_leI (by omega) (by omega)]
      refine ⟨fun q => by omega, fun _ => ?_⟩
      have kin : ∀ r b, b + r = 10 → 1 ≤ b → wq_X1_howMany_l11 Q (fun e8 e9 σ10 => ∀ v11, v11 = (e9 + 1) → wq_X1_howMany_l4 Q (fun e13 σ14 => Q e13 σ14) (m + 1) e8 v11 σ10) (r + 1) (nI (px_cn (px_F R p x n) (9 * h + (b - 1)))) (nI h) (nI b) σ := by
        intro r
        induction r with
        | zero =>
          intro b hb h1
          obtain rfl : b = 10 := by omega
          unfold wq_X1_howMany_l11
          refine ⟨fun _ v11 e11 => ?_, fun q => absurd (by decide) q⟩
          rw [e11, nI_1]
          exact ih (h + 1) (by omega)
        | succ r ihr =>
          intro b hb h1
          unfold wq_X1_howMany_l11 wq_X1_howMany_b32
          rw [show ((9 : Int32) < nI b) ↔ 9 < b from nI_ltI (a := 9) (by omega) (by omega)]
          refine ⟨fun q => by omega, fun _ => ?_⟩
          have nxt := ihr (b + 1) (by omega) (by omega)
          rw [show 9 * h + (b + 1 - 1) = 9 * h + (b - 1) + 1 by omega] at nxt
          unfold px_cn at nxt
          have eF : px_F R p x n (9 * h + (b - 1)) = px_fit p x (px_fr R h b (R 0 0) 0 b) n := by
            unfold px_F
            rw [show (9 * h + (b - 1)) / 9 = h by omega, show 1 + (9 * h + (b - 1)) % 9 = b by omega]
          rw [eF] at nxt
          refine sp1_isOne hR hc hp (by omega) (by omega) ?_
          cases hx : px_fit p x (px_fr R h b (R 0 0) 0 b) n with
          | true =>
            rw [hx] at nxt
            refine ⟨fun q => absurd q (by decide), fun _ v6 e6 v7 e7 => ?_⟩
            rw [e6, e7, nI_1, nI_1]
            exact nxt
          | false =>
            rw [hx] at nxt
            refine ⟨fun _ v6 e6 v7 e7 => ?_, fun q => absurd rfl q⟩
            rw [e6, e7, nI_1, mx_0, nI_add]
            exact nxt
      exact ⟨10, kin 9 1 (by omega) (by omega)⟩
  exact ⟨5, key 4 0 (by omega)⟩
theorem sp1_firstOne {R : Nat → Nat → Nat} {n : Nat} {p : Nat → Nat} {x : Nat → Int32} {σ μ : gq_M} {Q : Int32 → gq_M → Prop} (hR : rOK R) (hc : cRd σ R) (hp : hP σ μ n p x) (hQ : Q (px_fst (px_F R p x n) 36) σ) : wq_X1_firstOne σ Q := by
  have key : ∀ m h, h + m = 4 → (∀ j, j < 9 * h → px_F R p x n j = false) → wq_X1_firstOne_l2 Q (fun σ11 => Q (-9) σ11) (m + 1) (nI h) σ := by
    intro m
    induction m with
    | zero =>
      intro h hh hz
      obtain rfl : h = 4 := by omega
      unfold wq_X1_firstOne_l2
      rw [(px_cn_0 36 hz).2] at hQ
      exact ⟨fun _ => hQ, fun q => absurd (by decide) q⟩
    | succ m ih =>
      intro h hh hz
      unfold wq_X1_firstOne_l2
      rw [mx_4, nI_leI (by omega) (by omega)]
      refine ⟨fun q => by omega, fun _ => ?_⟩
      have kin : ∀ r b, b + r = 10 → 1 ≤ b → (∀ j, j < 9 * h + (b - 1) → px_F R p x n j = false) → wq_X1_firstOne_l9 Q (fun e7 σ8 => ∀ v9, v9 = (e7 + 1) → wq_X1_firstOne_l2 Q (fun σ11 => Q (-9) σ11) (m + 1) v9 σ8) (r + 1) (nI h) (nI b) σ := by
        intro r
        induction r with
        | zero =>
          intro b hb h1 hz2
          obtain rfl : b = 10 := by omega
          unfold wq_X1_firstOne_l9
          refine ⟨fun _ v11 e11 => ?_, fun q => absurd (by decide) q⟩
          rw [e11, nI_1]
          exact ih (h + 1) (by omega) (fun j hj => hz2 j (by omega))
        | succ r ihr =>
          intro b hb h1 hz2
          unfold wq_X1_firstOne_l9
          rw [show ((9 : Int32) < nI b) ↔ 9 < b from nI_ltI (a := 9) (by omega) (by omega)]
          refine ⟨fun q => by omega, fun _ => ?_⟩
          have eF : px_F R p x n (9 * h + (b - 1)) = px_fit p x (px_fr R h b (R 0 0) 0 b) n := by
            unfold px_F
            rw [show (9 * h + (b - 1)) / 9 = h by omega, show 1 + (9 * h + (b - 1)) % 9 = b by omega]
          refine sp1_isOne hR hc hp (by omega) (by omega) ?_
          cases hx : px_fit p x (px_fr R h b (R 0 0) 0 b) n with
          | true =>
            refine ⟨fun q => absurd q (by decide), fun _ => ?_⟩
            rw [hx] at eF
            have k := (px_cn_1 hz2 eF (36 - (9 * h + (b - 1)) - 1)).2
            rw [show 9 * h + (b - 1) + 1 + (36 - (9 * h + (b - 1)) - 1) = 36 by omega] at k
            rw [k, show (9 * h + (b - 1)) / 9 = h by omega, show 10 * h + 1 + (9 * h + (b - 1)) % 9 = 10 * h + b by omega] at hQ
            rw [mx_10, pk_mul, nI_add]
            exact hQ
          | false =>
            refine ⟨fun _ v6 e6 => ?_, fun q => absurd rfl q⟩
            rw [e6, nI_1]
            refine ihr (b + 1) (by omega) (by omega) (fun j hj => ?_)
            rcases Nat.lt_or_ge j (9 * h + (b - 1)) with z | z
            · exact hz2 j z
            · rw [show j = 9 * h + (b - 1) by omega, eF]; exact hx
      exact ⟨10, kin 9 1 (by omega) (by omega) (fun j hj => hz j (by omega))⟩
  exact ⟨5, key 4 0 (by omega) (fun j hj => absurd hj (by omega))⟩
