/-! ===== maths 33: powers, common divisors, fractions, sums over sets ===== -/
theorem sp6_power {b e : Nat} {σ : gq_M} {Q : Int32 → gq_M → Prop} (he : e < 100) (h : Q (nI (b ^ e)) σ) : wq_X6_power (nI b) (nI e) σ Q := by
  have key : ∀ m k, k + m = e → wq_X6_power_l4 Q (fun e4 σ5 => Q e4 σ5) (m + 1) (nI b) (nI e) (nI (b ^ k)) (nI k) σ := by
    intro m
    induction m with
    | zero =>
      intro k hk
      obtain rfl : k = e := by omega
      unfold wq_X6_power_l4
      exact ⟨fun _ => h, fun q => absurd (Int32.le_refl _) q⟩
    | succ m ih =>
      intro k hk
      unfold wq_X6_power_l4
      rw [nI_leI (by omega) (by omega)]
      refine ⟨fun q => by omega, fun _ v2 e2 v3 e3 => ?_⟩
      rw [e2, e3, nI_1, pk_mul, ← Nat.pow_succ]
      exact ih (k + 1) (by omega)
  exact ⟨e + 1, key e 0 (by omega)⟩
theorem sp7_power {b e : Nat} {σ : gq_M} {Q : Int32 → gq_M → Prop} (he : e < 100) (h : Q (nI (b ^ e)) σ) : wq_X7_power (nI b) (nI e) σ Q := by
  have key : ∀ m k, k + m = e → wq_X7_power_l4 Q (fun e4 σ5 => Q e4 σ5) (m + 1) (nI b) (nI e) (nI (b ^ k)) (nI k) σ := by
    intro m
    induction m with
    | zero =>
      intro k hk
      obtain rfl : k = e := by omega
      unfold wq_X7_power_l4
      exact ⟨fun _ => h, fun q => absurd (Int32.le_refl _) q⟩
    | succ m ih =>
      intro k hk
      unfold wq_X7_power_l4
      rw [nI_leI (by omega) (by omega)]
      refine ⟨fun q => by omega, fun _ v2 e2 v3 e3 => ?_⟩
      rw [e2, e3, nI_1, pk_mul, ← Nat.pow_succ]
      exact ih (k + 1) (by omega)
  exact ⟨e + 1, key e 0 (by omega)⟩
theorem px_gcd (x y : Nat) : Nat.gcd x y = Nat.gcd y (x % y) := by rw [Nat.gcd_comm x y, Nat.gcd_rec y x, Nat.gcd_comm]
theorem px_half {b c : Nat} (hc : 0 < c) (hb : c < b) : 2 * (b % c) < b := by
  have h1 := Nat.mod_lt b hc
  have h2 := Nat.div_add_mod b c
  have h3 : 1 ≤ b / c := Nat.div_pos (by omega) hc
  have h4 : c * 1 ≤ c * (b / c) := Nat.mul_le_mul_left c h3
  omega
theorem sp6_commonDivisor_l {Q : Int32 → gq_M → Prop} {K : Int32 → gq_M → Prop} {σ : gq_M} : ∀ k a b i, b < 2 ^ k → k ≤ 30 → i + 2 * k ≤ 64 → a < 2 ^ 31 → K (nI (Nat.gcd a b)) σ → wq_X6_commonDivisor_l7 Q K (2 * k + 1) (nI a) (nI b) (nI i) σ := by
  have done : ∀ n a i, i ≤ 64 → K (nI (Nat.gcd a 0)) σ → wq_X6_commonDivisor_l7 Q K (n + 1) (nI a) (nI 0) (nI i) σ := by
    intro n a i hi h
    rw [Nat.gcd_zero_right] at h
    unfold wq_X6_commonDivisor_l7
    exact ⟨fun _ => h, fun _ => ⟨fun _ => h, fun q => absurd rfl q⟩⟩
  intro k
  induction k with
  | zero =>
    intro a b i hb hk hi ha h
    obtain rfl : b = 0 := by omega
    exact done 0 a i (by omega) h
  | succ k ih =>
    intro a b i hb hk hi ha h
    have hp : 2 ^ (k + 1) ≤ 2 ^ 30 := Nat.pow_le_pow_right (by omega) hk
    by_cases b0 : b = 0
    · subst b0
      exact done _ a i (by omega) h
    · have nb : ¬ nI b = 0 := nI_ne0 (by omega) (by omega)
      unfold wq_X6_commonDivisor_l7
      rw [show (64 : Int32) = nI 64 from rfl, nI_leI (by omega) (by omega)]
      refine ⟨fun q => by omega, fun _ => ⟨fun q => absurd q nb, fun _ => ⟨nb, fun v3 e3 v4 e4 => ?_⟩⟩⟩
      rw [pk_rem (by omega) (by omega) (by omega)] at e3
      rw [e3, e4, nI_1]
      rw [px_gcd] at h
      have hlt := Nat.mod_lt a (show 0 < b by omega)
      generalize a % b = c at h hlt
      by_cases c0 : c = 0
      · subst c0
        exact done _ b (i + 1) (by omega) h
      · have nc : ¬ nI c = 0 := nI_ne0 (by omega) (by omega)
        show wq_X6_commonDivisor_l7 Q K (2 * k + 1 + 1) (nI b) (nI c) (nI (i + 1)) σ
        unfold wq_X6_commonDivisor_l7
        rw [show (64 : Int32) = nI 64 from rfl, nI_leI (by omega) (by omega)]
        refine ⟨fun q => by omega, fun _ => ⟨fun q => absurd q nc, fun _ => ⟨nc, fun v3 e3 v4 e4 => ?_⟩⟩⟩
        rw [pk_rem (by omega) (by omega) (by omega)] at e3
        rw [e3, e4, nI_1]
        rw [px_gcd] at h
        have hh := px_half (show 0 < c by omega) hlt
        rw [Nat.pow_succ] at hb
        exact ih c (b % c) (i + 1 + 1) (by omega) (by omega) (by omega) (by omega) h
theorem sp6_commonDivisor {a b : Nat} {σ : gq_M} {Q : Int32 → gq_M → Prop} (ha : a < 2 ^ 31) (hb : b < 2 ^ 30) (h : Q (nI (Nat.gcd a b)) σ) : wq_X6_commonDivisor (nI a) (nI b) σ Q := ⟨61, sp6_commonDivisor_l (K := fun e5 σ6 => Q e5 σ6) 30 a b 0 hb (by omega) (by omega) ha h⟩
theorem sp7_common {a b : Nat} {σ : gq_M} {Q : Int32 → gq_M → Prop} (ha : a < 2 ^ 31) (hb : b < 2 ^ 31) (h : Q (nI (Nat.gcd a b)) σ) : wq_X7_common (nI a) (nI b) σ Q := by
  have key : ∀ m a b, b ≤ m → a < 2 ^ 31 → b < 2 ^ 31 → Q (nI (Nat.gcd a b)) σ → wq_X7_common_l13 Q (fun e4 σ5 => Q e4 σ5) (m + 1) (nI a) (nI b) σ := by
    intro m
    induction m with
    | zero =>
      intro a b hm ha hb h
      have hb0 : b = 0 := Nat.eq_zero_of_le_zero hm
      subst hb0
      rw [Nat.gcd_zero_right] at h
      unfold wq_X7_common_l13
      exact ⟨fun _ => h, fun q => absurd rfl q⟩
    | succ m ih =>
      intro a b hm ha hb h
      unfold wq_X7_common_l13
      by_cases b0 : b = 0
      · subst b0
        rw [Nat.gcd_zero_right] at h
        exact ⟨fun _ => h, fun q => absurd rfl q⟩
      · have nb : ¬ nI b = 0 := nI_ne0 (by omega) (by omega)
        refine ⟨fun q => absurd q nb, fun _ => ⟨nb, fun v3 e3 => ?_⟩⟩
        rw [pk_rem (by omega) (by omega) (by omega)] at e3
        rw [e3]
        rw [px_gcd] at h
        have hlt := Nat.mod_lt a (show 0 < b by omega)
        exact ih b (a % b) (by omega) (by omega) (by omega) h
  unfold wq_X7_common wq_X7_common_b10
  exact ⟨fun _ => ⟨b + 1, key b a b (by omega) ha hb h⟩, fun q => absurd (nI_pos' ha) q⟩
/-- what both answer of a fraction -/
def px_fq (a b : Nat) (up : Int32) : Int32 := if up = 0 then nI (b / Nat.gcd a b) else nI (a / Nat.gcd a b)
theorem sp6_fraction {a b : Nat} {up : Int32} {σ : gq_M} {Q : Int32 → gq_M → Prop} (ha : a < 2 ^ 31) (hb : b < 2 ^ 30) (hb0 : 0 < b) (h : Q (px_fq a b up) σ) : wq_X6_fraction (nI a) (nI b) up σ Q := by
  have g0 : 0 < Nat.gcd a b := Nat.gcd_pos_of_pos_right a hb0
  have gb : Nat.gcd a b ≤ b := Nat.le_of_dvd hb0 (Nat.gcd_dvd_right a b)
  unfold wq_X6_fraction
  refine sp6_commonDivisor ha hb ?_
  have ng : ¬ nI (Nat.gcd a b) = 0 := nI_ne0 g0 (by omega)
  rw [pk_div (by omega) g0 (by omega), pk_div (by omega) g0 (by omega)]
  unfold px_fq at h
  refine ⟨fun _ => ⟨fun q => ⟨ng, ?_⟩, fun q => ⟨ng, ?_⟩⟩, fun q => absurd q ng⟩
  · rw [if_pos q] at h; exact h
  · rw [if_neg q] at h; exact h
theorem sp7_fraction {a b : Nat} {up : Int32} {σ : gq_M} {Q : Int32 → gq_M → Prop} (ha : a < 2 ^ 31) (hb : b < 2 ^ 31) (hb0 : 0 < b) (h : Q (px_fq a b up) σ) : wq_X7_common (nI a) (nI b) σ (fun r38 σ39 => ((up = 0 → ¬ r38 = 0 ∧ Q (nI b / r38) σ39) ∧ (¬ up = 0 → ¬ r38 = 0 ∧ Q (nI a / r38) σ39))) := by
  have g0 : 0 < Nat.gcd a b := Nat.gcd_pos_of_pos_right a hb0
  have gb : Nat.gcd a b ≤ b := Nat.le_of_dvd hb0 (Nat.gcd_dvd_right a b)
  refine sp7_common ha hb ?_
  have ng : ¬ nI (Nat.gcd a b) = 0 := nI_ne0 g0 (by omega)
  rw [pk_div (by omega) g0 (by omega), pk_div (by omega) g0 (by omega)]
  unfold px_fq at h
  refine ⟨fun q => ⟨ng, ?_⟩, fun q => ⟨ng, ?_⟩⟩
  · rw [if_pos q] at h; exact h
  · rw [if_neg q] at h; exact h
/-- a fraction told in two ways has one shortest form -/
theorem px_fq_eq {a b c d : Nat} {up : Int32} (hb : 0 < b) (hd : 0 < d) (h : a * d = c * b) : px_fq a b up = px_fq c d up := by
  unfold px_fq
  have g0 : 0 < Nat.gcd a b := Nat.gcd_pos_of_pos_right a hb
  have h0 : 0 < Nat.gcd c d := Nat.gcd_pos_of_pos_right c hd
  have k1 : Nat.gcd a b * d = Nat.gcd c d * b := by
    rw [← Nat.gcd_mul_right, ← Nat.gcd_mul_right, h, Nat.mul_comm b d]
  obtain ⟨b', eb⟩ := Nat.gcd_dvd_right a b
  obtain ⟨a', ea⟩ := Nat.gcd_dvd_left a b
  obtain ⟨d', ed⟩ := Nat.gcd_dvd_right c d
  obtain ⟨c', ec⟩ := Nat.gcd_dvd_left c d
  generalize Nat.gcd a b = g at *
  generalize Nat.gcd c d = e at *
  have e1 : b / g = b' := by rw [eb, Nat.mul_div_cancel_left _ g0]
  have e2 : a / g = a' := by rw [ea, Nat.mul_div_cancel_left _ g0]
  have e3 : d / e = d' := by rw [ed, Nat.mul_div_cancel_left _ h0]
  have e4 : c / e = c' := by rw [ec, Nat.mul_div_cancel_left _ h0]
  have bd : b' = d' := by
    rw [eb, ed] at k1
    have : g * e * d' = g * e * b' := by
      calc g * e * d' = g * (e * d') := Nat.mul_assoc _ _ _
        _ = e * (g * b') := k1
        _ = g * e * b' := by rw [← Nat.mul_assoc, Nat.mul_comm e g]
    exact (Nat.eq_of_mul_eq_mul_left (Nat.mul_pos g0 h0) this).symm
  have b0 : 0 < b' := Nat.pos_of_ne_zero (fun q => by rw [q, Nat.mul_zero] at eb; omega)
  have ac : a' = c' := by
    rw [ea, eb, ec, ed, bd] at h
    have : (g * e * d') * a' = (g * e * d') * c' := by
      calc (g * e * d') * a' = (g * a') * (e * d') := by simp only [Nat.mul_assoc, Nat.mul_comm, Nat.mul_left_comm]
        _ = (e * c') * (g * d') := h
        _ = (g * e * d') * c' := by simp only [Nat.mul_assoc, Nat.mul_comm, Nat.mul_left_comm]
    exact Nat.eq_of_mul_eq_mul_left (Nat.mul_pos (Nat.mul_pos g0 h0) (by rw [← bd]; exact b0)) this
  rw [e1, e2, e3, e4, bd, ac]
-- sums over sets
theorem px_sum_add (f : Nat → Nat) (a : Nat) : ∀ b, px_sum f (a + b) = px_sum f a + px_sum (fun i => f (a + i)) b
  | 0 => rfl
  | b + 1 => by
    show px_sum f (a + b) + f (a + b) = _
    rw [px_sum_add f a b, px_sum_s]
    omega
theorem px_sum_cg {f g : Nat → Nat} : ∀ n, (∀ i, i < n → f i = g i) → px_sum f n = px_sum g n
  | 0, _ => rfl
  | n + 1, h => by rw [px_sum_s, px_sum_s, px_sum_cg n (fun i hi => h i (by omega)), h n (by omega)]
theorem px_sum_mul (f : Nat → Nat) (c : Nat) : ∀ n, px_sum (fun i => c * f i) n = c * px_sum f n
  | 0 => rfl
  | n + 1 => by rw [px_sum_s, px_sum_s, px_sum_mul f c n, Nat.mul_add]
theorem px_sum_plus (f g : Nat → Nat) : ∀ n, px_sum (fun i => f i + g i) n = px_sum f n + px_sum g n
  | 0 => rfl
  | n + 1 => by rw [px_sum_s, px_sum_s, px_sum_s, px_sum_plus f g n]; omega
theorem px_sum_0 : ∀ n, px_sum (fun _ => 0) n = 0
  | 0 => rfl
  | n + 1 => by rw [px_sum_s, px_sum_0 n]
theorem px_sum_mono {f g : Nat → Nat} : ∀ n, (∀ i, i < n → f i ≤ g i) → px_sum f n ≤ px_sum g n
  | 0, _ => Nat.le_refl _
  | n + 1, h => by
    have := px_sum_mono n (fun i hi => h i (by omega))
    have := h n (by omega)
    rw [px_sum_s, px_sum_s]
    omega
theorem px_sum_pre {f : Nat → Nat} {k : Nat} : ∀ n, px_sum f k ≤ px_sum f (k + n)
  | 0 => Nat.le_refl _
  | n + 1 => by
    have := px_sum_pre (f := f) (k := k) n
    show _ ≤ px_sum f (k + n) + f (k + n)
    omega
/-- s lies in A, below n -/
def px_sb (s A : Nat) : Nat → Bool
  | 0 => true
  | n + 1 => px_sb s A n && (!s.testBit n || A.testBit n)
theorem px_sb_s (s A n : Nat) : px_sb s A (n + 1) = (px_sb s A n && (!s.testBit n || A.testBit n)) := rfl
theorem px_sb_iff (s A : Nat) : ∀ n, px_sb s A n = true ↔ ∀ i, i < n → s.testBit i = true → A.testBit i = true
  | 0 => ⟨fun _ i hi => absurd hi (by omega), fun _ => rfl⟩
  | n + 1 => by
    unfold px_sb
    rw [Bool.and_eq_true, px_sb_iff s A n]
    constructor
    · rintro ⟨h1, h2⟩ i hi hs
      rcases Nat.lt_or_ge i n with z | z
      · exact h1 i z hs
      · have e : i = n := by omega
        rw [e] at hs ⊢
        rw [hs] at h2
        simpa using h2
    · intro h
      refine ⟨fun i hi => h i (by omega), ?_⟩
      cases hs : s.testBit n with
      | false => rfl
      | true => rw [h n (by omega) hs]; rfl
theorem px_pc_cg {s s' : Nat} : ∀ n, (∀ i, i < n → s.testBit i = s'.testBit i) → px_pc s n = px_pc s' n
  | 0, _ => rfl
  | n + 1, h => by rw [px_pc_s, px_pc_s, px_pc_cg n (fun i hi => h i (by omega)), h n (by omega)]
theorem px_sb_cg {s s' A : Nat} : ∀ n, (∀ i, i < n → s.testBit i = s'.testBit i) → px_sb s A n = px_sb s' A n
  | 0, _ => rfl
  | n + 1, h => by
    unfold px_sb
    rw [px_sb_cg n (fun i hi => h i (by omega)), h n (by omega)]
theorem px_pc_sb {s A : Nat} : ∀ n, px_sb s A n = true → px_pc s n ≤ px_pc A n
  | 0, _ => Nat.le_refl _
  | n + 1, h => by
    unfold px_sb at h
    rw [Bool.and_eq_true] at h
    have := px_pc_sb n h.1
    rw [px_pc_s, px_pc_s]
    cases hs : s.testBit n with
    | false => simp; omega
    | true =>
      rw [hs] at h
      have : A.testBit n = true := by simpa using h.2
      rw [this]
      omega
def px_wt (x A n s : Nat) : Nat := if px_sb s A n then x ^ px_pc s n * (10 - x) ^ (px_pc A n - px_pc s n) else 0
theorem px_wt_sum {x A : Nat} (hx : x ≤ 10) : ∀ n, px_sum (px_wt x A n) (2 ^ n) = 10 ^ px_pc A n
  | 0 => by
    show 0 + px_wt x A 0 0 = 10 ^ 0
    unfold px_wt px_sb px_pc
    simp
  | n + 1 => by
    have ih := px_wt_sum (x := x) (A := A) hx n
    rw [show 2 ^ (n + 1) = 2 ^ n + 2 ^ n by rw [Nat.pow_succ]; omega, px_sum_add]
    have lo : ∀ s, s < 2 ^ n → px_wt x A (n + 1) s = (if A.testBit n then (10 - x) * px_wt x A n s else px_wt x A n s) := by
      intro s hs
      have hb : s.testBit n = false := Nat.testBit_lt_two_pow hs
      unfold px_wt
      rw [px_sb_s, hb, px_pc_s, px_pc_s, hb]
      simp only [Bool.not_false, Bool.true_or, Bool.and_true, Bool.false_eq_true, if_false, Nat.add_zero]
      cases hA : A.testBit n with
      | false => simp
      | true =>
        simp only [if_true]
        by_cases hsb : px_sb s A n = true
        · have hle := px_pc_sb n hsb
          rw [if_pos hsb, if_pos hsb, show px_pc A n + 1 - px_pc s n = px_pc A n - px_pc s n + 1 by omega, Nat.pow_succ]
          simp only [Nat.mul_comm, Nat.mul_left_comm]
        · rw [if_neg hsb, if_neg hsb, Nat.mul_zero]
    have hi : ∀ s, s < 2 ^ n → px_wt x A (n + 1) (2 ^ n + s) = (if A.testBit n then x * px_wt x A n s else 0) := by
      intro s hs
      have hb : (2 ^ n + s).testBit n = true := by
        rw [Nat.testBit_two_pow_add_eq, Nat.testBit_lt_two_pow hs]; rfl
      have hl : ∀ i, i < n → (2 ^ n + s).testBit i = s.testBit i := fun i hi => Nat.testBit_two_pow_add_gt hi s
      unfold px_wt
      rw [px_sb_s, hb, px_pc_s, px_pc_s, hb, px_pc_cg n hl, px_sb_cg n hl]
      simp only [Bool.not_true, Bool.false_or, if_true]
      cases hA : A.testBit n with
      | false => simp
      | true =>
        simp only [Bool.and_true, if_true]
        by_cases hsb : px_sb s A n = true
        · rw [if_pos hsb, if_pos hsb, show px_pc A n + 1 - (px_pc s n + 1) = px_pc A n - px_pc s n by omega, Nat.pow_succ]
          rw [Nat.mul_comm (x ^ px_pc s n) x, Nat.mul_assoc]
        · rw [if_neg hsb, if_neg hsb, Nat.mul_zero]
    rw [px_sum_cg _ lo, px_sum_cg (2 ^ n) hi]
    cases hA : A.testBit n with
    | false =>
      simp only [Bool.false_eq_true, if_false]
      rw [px_sum_0, px_pc_s, hA]
      simpa using ih
    | true =>
      simp only [if_true]
      rw [px_sum_mul, px_sum_mul, ih, px_pc_s, hA, ← Nat.add_mul, show 10 - x + x = 10 by omega]
      simp only [if_true]
      rw [Nat.pow_succ, Nat.mul_comm]
