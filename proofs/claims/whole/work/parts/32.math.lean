/-! ===== maths 13: judge, summers ===== -/
def px_th (n : Nat) : Nat := 1000 ^ n
theorem mx_th : ∀ j, j < 5 → gt_th j = lN (1000 ^ j) := by decide +kernel
theorem sp7_thousandTo {n : Nat} {σ : gq_M} {Q : Int64 → gq_M → Prop} (hn : n < 5) (h : Q (lN (1000 ^ n)) σ) : wq_X7_thousandTo (nI n) σ Q := by
  have key : ∀ m k, k + m = n → wq_X7_thousandTo_l4 Q (fun e4 σ5 => Q e4 σ5) (m + 1) (nI n) (lN (1000 ^ k)) (nI k) σ := by
    intro m
    induction m with
    | zero =>
      intro k hk
      obtain rfl : k = n := by omega
      unfold wq_X7_thousandTo_l4
      exact ⟨fun _ => h, fun q => absurd (Int32.le_refl _) q⟩
    | succ m ih =>
      intro k hk
      unfold wq_X7_thousandTo_l4
      rw [nI_leI (by omega) (by omega)]
      refine ⟨fun q => by omega, fun _ v2 e2 v3 e3 => ?_⟩
      rw [e2, e3, nI_1, show (1000 : Int64) = lN 1000 from rfl, lN_mul, ← Nat.pow_succ]
      exact ih (k + 1) (by omega)
  exact ⟨n + 1, key n 0 (by omega)⟩
theorem mx_pow5 : ∀ j, j < 5 → 1000 ^ j ≤ 1000000000000 ∧ 0 < 1000 ^ j := by decide
/-- the figures of one doing -/
theorem mx_fig {N j : Nat} (hN : N < 2 ^ 62) (hj : j < 5) : ((lN N / lN (1000 ^ j)) - (lN N / lN (1000 ^ j)) / 1000 * 1000).toInt32 = nI (N / 1000 ^ j % 1000) := by
  have hp := mx_pow5 j hj
  have hd : N / 1000 ^ j ≤ N := Nat.div_le_self _ _
  rw [pk_lDiv (by omega) hp.2 (by omega), show (1000 : Int64) = lN 1000 from rfl, pk_lRem (by omega) (by omega) (by omega), lN_i]
theorem mx_dig {v : Nat} (hv : v < 1000) : nI v / 100 = nI (v / 100) ∧ (nI v / 10) - (nI v / 10) / 10 * 10 = nI (v / 10 % 10) ∧ nI v - nI v / 10 * 10 = nI (v % 10) := by
  refine ⟨?_, ?_, ?_⟩
  · rw [show (100 : Int32) = nI 100 from rfl, pk_div (by omega) (by omega) (by omega)]
  · rw [mx_10, pk_div (by omega) (by omega) (by omega), pk_rem (by omega) (by omega) (by omega)]
  · rw [mx_10, pk_rem (by omega) (by omega) (by omega)]
theorem mx_nsub {n k : Nat} (h : k < n) (hn : n < 100) : ((nI n - 1) - nI k : Int32) = nI (n - 1 - k) := by rw [mx_1, pk_sub (by omega), pk_sub (by omega)]
theorem both_judge {R : Nat → Nat → Nat} {tt n N : Nat} (hR : rOK R) (hn : n ≤ 4) (hN : N < 2 ^ 62) : ∀ m k (S : Nat → Nat → Nat) (c : Int32), k + m = n → sOK R S → ∃ res : Int32, (∀ (σ : gq_M) (Q : Int32 → gq_M → Prop), cRd σ R → cSt σ 33 R S c → (∀ τ, fS σ τ 33 → Q res τ) → wq_X6_judge_l43 tt Q (fun τ => Q (-9) τ) (m + 1) (nI n) (lN N) (nI k) σ) ∧ (∀ (μ : gq_M) (Q : Int32 → gq_M → Prop), mRd μ R → mSt μ 5 14 R S c → μ.1 0 15 = nI 0 → (∀ ν, fM μ ν 14 → Q res ν) → wq_X7_judge_l36 Q (fun ν => Q (-9) ν) (m + 1) (nI n) (lN N) (nI k) μ) := by
  intro m
  induction m with
  | zero =>
    intro k S c hk hS
    obtain rfl : k = n := by omega
    refine ⟨-9, fun σ Q h1 h2 h => ?_, fun μ Q h1 h2 h3 h => ?_⟩
    · unfold wq_X6_judge_l43
      exact ⟨fun _ => h σ fS.rf, fun q => absurd (Int32.le_refl _) q⟩
    · unfold wq_X7_judge_l36
      exact ⟨fun _ => h μ fM.rf, fun q => absurd (Int32.le_refl _) q⟩
  | succ m ih =>
    intro k S c hk hS
    have hj : n - 1 - k < 5 := by omega
    have hp := mx_pow5 (n - 1 - k) hj
    have hv : N / 1000 ^ (n - 1 - k) % 1000 < 1000 := Nat.mod_lt _ (by omega)
    have fig := mx_fig hN hj
    generalize N / 1000 ^ (n - 1 - k) % 1000 = v at hv fig
    obtain ⟨g1, g2, g3⟩ := mx_dig hv
    obtain ⟨r, S2, c2, hb, hS2, b4, b7⟩ := both_told (c := c) hR hS (show v / 100 < 10 by omega) (show v / 10 % 10 < 10 by omega) (show v % 10 < 10 by omega)
    have nz : ¬ lN (1000 ^ (n - 1 - k)) = 0 := by
      rw [show (0 : Int64) = lN 0 from rfl, pk_lEQ (by omega) (by omega)]
      omega
    obtain ⟨res, i4, i7⟩ := ih (k + 1) S2 c2 (by omega) hS2
    have c6 : ∀ (σ : gq_M) (Q : Int32 → gq_M → Prop), wq_X4_doTold 33 (nI (v / 100)) (nI (v / 10 % 10)) (nI (v % 10)) σ (fun r9 σ10 => ((¬ r9 = 0 → wq_X6_judge_l43 tt Q (fun τ => Q (-9) τ) (m + 1) (nI n) (lN N) (nI (k + 1)) σ10) ∧ (r9 = 0 → Q (nI k) σ10))) → wq_X6_judge_l43 tt Q (fun τ => Q (-9) τ) (m + 1 + 1) (nI n) (lN N) (nI k) σ := by
      intro σ Q h
      unfold wq_X6_judge_l43
      rw [nI_leI (by omega) (by omega), mx_nsub (by omega) (by omega), nI_clamp (by omega), mx_th _ hj]
      refine ⟨fun q => by omega, fun _ => ⟨vp_in_nI hj (by omega), nz, fun v8 e8 => ?_⟩⟩
      rw [fig] at e8
      subst e8
      rw [g1, g2, g3]
      simp only [nI_1, forall_eq]
      exact h
    have c7 : ∀ (μ : gq_M) (Q : Int32 → gq_M → Prop), wq_X7_tryThing (nI (v / 100)) (nI (v / 10 % 10)) (nI (v % 10)) μ (fun r15 σ16 => ((¬ r15 = 0 → wq_X7_judge_l36 Q (fun τ => Q (-9) τ) (m + 1) (nI n) (lN N) (nI (k + 1)) σ16) ∧ (r15 = 0 → Q (nI k) σ16))) → wq_X7_judge_l36 Q (fun τ => Q (-9) τ) (m + 1 + 1) (nI n) (lN N) (nI k) μ := by
      intro μ Q h
      unfold wq_X7_judge_l36
      rw [nI_leI (by omega) (by omega), mx_nsub (by omega) (by omega)]
      refine ⟨fun q => by omega, fun _ => sp7_thousandTo hj ⟨nz, fun v8 e8 => ?_⟩⟩
      rw [fig] at e8
      subst e8
      rw [g1, g2, g3]
      simp only [nI_1, forall_eq]
      exact h
    rcases hb with rfl | rfl
    · refine ⟨nI k, fun σ Q h1 h2 h => c6 σ Q (b4 σ _ h1 h2 (fun τ a b => ⟨fun q => absurd rfl q, fun _ => h τ b⟩)), fun μ Q h1 h2 h3 h => c7 μ Q (b7 μ _ h1 h2 h3 (fun ν a b => ⟨fun q => absurd rfl q, fun _ => h ν b⟩))⟩
    · refine ⟨res, fun σ Q h1 h2 h => c6 σ Q (b4 σ _ h1 h2 (fun τ a b => ⟨fun _ => ?_, fun q => absurd q (by decide)⟩)), fun μ Q h1 h2 h3 h => c7 μ Q (b7 μ _ h1 h2 h3 (fun ν a b => ⟨fun _ => ?_, fun q => absurd q (by decide)⟩))⟩
      · exact i4 τ Q (b.rd (by omega) h1) a (fun υ g => h υ (b.tr g))
      · exact i7 ν Q (b.rd h1) a (by rw [b.1 0 (by omega)]; exact h3) (fun υ g => h υ (b.tr g))
theorem sim_judge {tt : Nat} {σ μ : gq_M} (h : Rel σ μ) : gl_S_judge Rel tt σ μ := by
  obtain ⟨⟨R, hR, hc, hm, ⟨S0, c0, hS0, hcS0, hmS0⟩, ha, hk⟩, ht, hh, h2s, hi⟩ := id h
  intro a d
  have z1 : (1 : Int32).toInt = 1 := by decide
  have z4 : (4 : Int32).toInt = 4 := by decide
  have z0 : (0 : Int32).toInt = 0 := by decide
  -- what both refuse
  have bad1 : ¬ (1 ≤ a.toInt ∧ a.toInt ≤ 4) → wq_X7_judge a d μ (fun r2 ν => (-2 : Int32) = r2 ∧ Rel σ ν) := by
    intro g
    unfold wq_X7_judge
    exact sp7_inI (lo := 1) (hi := 4) (by decide) (by decide) (fun q r => absurd ⟨q, r⟩ g) (fun _ => ⟨fun _ => ⟨rfl, h⟩, fun q => absurd rfl q⟩)
  unfold wq_X6_judge
  rw [Int32.lt_iff_toInt_lt, Int32.lt_iff_toInt_lt, z1, z4]
  refine ⟨fun q => bad1 (by omega), fun q1 => ⟨fun q => bad1 (by omega), fun q4 => ?_⟩⟩
  obtain ⟨n, hn4, en⟩ : ∃ n : Nat, n ≤ 4 ∧ a = nI n := nI_of2 (M := 4) (n := 4) (by decide) (by rw [Int32.lt_iff_toInt_lt]; omega) (by rw [Int32.le_iff_toInt_le]; omega)
  subst en
  rw [nI_toInt (by omega)] at q1 q4
  have hn1 : 1 ≤ n := by omega
  rw [nI_clamp (by omega), mx_th n (by omega), mx_cmp_lt, mx_cmp_lt]
  have hp := mx_pow5 n (by omega)
  have mod7 : ∀ {Q : Int32 → gq_M → Prop}, (¬ (0 ≤ d ∧ d < lN (1000 ^ n)) → Q (-2) μ) → ((0 ≤ d ∧ d < lN (1000 ^ n)) → wq_X7_layTrial μ (fun σ10 => (∃ n20, wq_X7_judge_l36 Q (fun σ19 => Q (-9) σ19) n20 (nI n) d 0 σ10))) → wq_X7_judge (nI n) d μ Q := by
    intro Q g1 g2
    unfold wq_X7_judge
    refine sp7_inI (lo := 1) (hi := 4) (by decide) (by decide) (fun _ _ => ⟨fun q => absurd q (by decide), fun _ => ?_⟩) (fun q => absurd (by rw [nI_toInt (by omega)]; omega) q)
    refine sp7_thousandTo (by omega) ?_
    have el : (lN (1000 ^ n) - 1).toInt = (1000 ^ n : Nat) - 1 := by
      rw [show (1 : Int64) = lN 1 from rfl, lN_sub (by omega), pk_lT (by omega)]
      omega
    refine sp7_in (fun u v => ⟨fun _ => g2 ⟨u, ?_⟩, fun q => absurd q (by decide)⟩) (fun u => ⟨fun q => absurd rfl q, fun _ => g1 (fun w => u ⟨w.1, ?_⟩)⟩)
    · rw [Int64.le_iff_toInt_le, el] at v
      rw [Int64.lt_iff_toInt_lt, pk_lT (by omega)]
      omega
    · have w2 := w.2
      rw [Int64.lt_iff_toInt_lt, pk_lT (by omega)] at w2
      rw [Int64.le_iff_toInt_le, el]
      omega
  have l0 : (0 : Int64).toInt = 0 := by decide
  refine ⟨fun q => mod7 (fun _ => ⟨rfl, h⟩) (fun w => absurd w.1 ?_), fun q0 => ⟨vp_in_nI (by omega) (by omega), fun qd => ?_, fun qd => mod7 (fun _ => ⟨rfl, h⟩) (fun w => absurd w.2 qd)⟩⟩
  · rw [Int64.lt_iff_toInt_lt] at q
    rw [Int64.le_iff_toInt_le]
    omega
  have d0 : 0 ≤ d := by
    rw [Int64.lt_iff_toInt_lt] at q0
    rw [Int64.le_iff_toInt_le]
    omega
  obtain ⟨N, hN, eN⟩ := pk_lOf q0
  subst eN
  have hN2 : N < 1000 ^ n := (pk_lLT hN (by omega)).mp qd
  obtain ⟨res, i4, i7⟩ := both_judge (tt := tt) (n := n) (N := N) hR hn4 (by omega) n 0 S0 c0 (by omega) hS0
  refine sp4_takeFrom (by omega) (fun σ1 hf hcp => ⟨n + 1, ?_⟩)
  refine i4 σ1 _ (hf.rd (by omega) hc) (cSt_cpy hR hcp hcS0) (fun τ hf2 => ?_)
  refine mod7 (fun w => absurd ⟨d0, qd⟩ w) (fun _ => sp7_layTrial (fun μ1 hfm hcm => ⟨n + 1, ?_⟩))
  exact i7 μ1 _ (hfm.rd hm) (mSt_cpy hR hcm hmS0) (by rw [hfm.1 0 (by omega)]; exact hi) (fun ν hfm2 => ⟨rfl, h.fx (fxC.of (hf.tr hf2)) (fxM.of (hfm.tr hfm2))⟩)
