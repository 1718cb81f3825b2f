/-! ===== maths 35: shares: the mean of all orders ===== -/
def px_f : Nat → Nat
  | 0 => 1
  | n + 1 => (n + 1) * px_f n
def px_od (T s : Nat) : Nat := px_f (px_pc s 11) * px_f (T - 1 - px_pc s 11)
def px_h (T C : Nat) : Nat := px_sum (fun s => if s &&& C = 0 then px_od T s else 0) (2 ^ T)
theorem px_h_ok : ∀ T, T < 6 → ∀ C, C < 32 → C < 2 ^ T → 0 < C → px_h T C * px_pc C T = px_f T := by decide +kernel
theorem px_od_ok : ∀ T, T < 6 → ∀ s, s < 32 → s < 2 ^ T → ∀ t, t < T → s.testBit t = false → px_pc s 11 ≤ T - 1 := by decide +kernel
theorem px_f_ok : ∀ T, T < 6 → 0 < px_f T ∧ px_f T ≤ 120 := by decide
theorem px_sum_swap (f : Nat → Nat → Nat) (m : Nat) : ∀ n, px_sum (fun i => px_sum (f i) m) n = px_sum (fun j => px_sum (fun i => f i j) n) m
  | 0 => by
    exact (px_sum_0 m).symm
  | n + 1 => by
    rw [px_sum_s, px_sum_swap f m n, ← px_sum_plus]
    rfl
/-- all places of the travellers of a set -/
def px_U (M : Nat → Nat) (s : Nat) : Nat → Nat
  | 0 => 0
  | u + 1 => px_U M s u ||| (if s.testBit u then M u else 0)
theorem px_U_bit (M : Nat → Nat) (s p : Nat) : ∀ n, (px_U M s n).testBit p = true ↔ ∃ u, u < n ∧ s.testBit u = true ∧ (M u).testBit p = true
  | 0 => by unfold px_U; simp
  | n + 1 => by
    unfold px_U
    rw [Nat.testBit_or, Bool.or_eq_true, px_U_bit M s p n]
    constructor
    · rintro (⟨u, a, b, c⟩ | h)
      · exact ⟨u, by omega, b, c⟩
      · cases hs : s.testBit n with
        | false => rw [hs] at h; simp at h
        | true => rw [hs] at h; exact ⟨n, by omega, hs, by simpa using h⟩
    · rintro ⟨u, a, b, c⟩
      rcases Nat.lt_or_ge u n with z | z
      · exact Or.inl ⟨u, z, b, c⟩
      · have e : u = n := by omega
        rw [e] at b c
        rw [b]
        exact Or.inr (by simpa using c)
theorem px_U_lt {M : Nat → Nat} {s b : Nat} : ∀ n, (∀ u, u < n → M u < 2 ^ b) → px_U M s n < 2 ^ b
  | 0, _ => by unfold px_U; exact Nat.two_pow_pos _
  | n + 1, h => by
    have h1 := px_U_lt (s := s) n (fun u hu => h u (by omega))
    unfold px_U
    refine Nat.or_lt_two_pow h1 ?_
    split
    · exact h n (by omega)
    · exact Nat.two_pow_pos _
theorem px_U_add {M : Nat → Nat} {s t T : Nat} (ht : t < T) : px_U M (s ||| 2 ^ t) T = px_U M s T ||| M t := by
  apply Nat.eq_of_testBit_eq
  intro p
  rw [Bool.eq_iff_iff, Nat.testBit_or, Bool.or_eq_true, px_U_bit, px_U_bit]
  constructor
  · rintro ⟨u, a, b, c⟩
    rw [Nat.testBit_or, Bool.or_eq_true, Nat.testBit_two_pow] at b
    rcases b with b | b
    · exact Or.inl ⟨u, a, b, c⟩
    · have e : t = u := by simpa using b
      rw [e]; exact Or.inr c
  · rintro (⟨u, a, b, c⟩ | h)
    · exact ⟨u, a, by rw [Nat.testBit_or, b]; rfl, c⟩
    · exact ⟨t, ht, by rw [Nat.testBit_or, Nat.testBit_two_pow]; simp, h⟩
/-- what a traveller adds -/
def px_D (M : Nat → Nat) (T t s : Nat) : Nat := px_sum (fun p => if (M t).testBit p = true ∧ (px_U M s T).testBit p = false then 1 else 0) 11
theorem px_pc_or (U V : Nat) : ∀ n, px_pc (U ||| V) n = px_pc U n + px_sum (fun p => if V.testBit p = true ∧ U.testBit p = false then 1 else 0) n
  | 0 => rfl
  | n + 1 => by
    rw [px_pc_s, px_pc_s, px_sum_s, px_pc_or U V n, Nat.testBit_or]
    cases U.testBit n <;> cases V.testBit n <;> simp <;> omega
theorem px_D_ok {M : Nat → Nat} {T t s : Nat} (ht : t < T) : px_pc (px_U M (s ||| 2 ^ t) T) 11 = px_pc (px_U M s T) 11 + px_D M T t s := by
  rw [px_U_add ht, px_pc_or]
  rfl
/-- the travellers who come to p -/
def px_cm (M : Nat → Nat) (p : Nat) : Nat → Nat
  | 0 => 0
  | u + 1 => px_cm M p u ||| (if (M u).testBit p then 2 ^ u else 0)
theorem px_cm_bit (M : Nat → Nat) (p i : Nat) : ∀ n, (px_cm M p n).testBit i = true ↔ i < n ∧ (M i).testBit p = true
  | 0 => by unfold px_cm; simp
  | n + 1 => by
    unfold px_cm
    rw [Nat.testBit_or, Bool.or_eq_true, px_cm_bit M p i n]
    cases hm : (M n).testBit p with
    | false =>
      simp only [Bool.false_eq_true, if_false, Nat.zero_testBit, or_false]
      constructor
      · exact fun h => ⟨by omega, h.2⟩
      · rintro ⟨a, b⟩
        rcases Nat.lt_or_ge i n with z | z
        · exact ⟨z, b⟩
        · rw [show i = n by omega, hm] at b; cases b
    | true =>
      simp only [if_true, Nat.testBit_two_pow, decide_eq_true_eq]
      constructor
      · rintro (h | h)
        · exact ⟨by omega, h.2⟩
        · rw [← h]; exact ⟨by omega, hm⟩
      · rintro ⟨a, b⟩
        rcases Nat.lt_or_ge i n with z | z
        · exact Or.inl ⟨z, b⟩
        · exact Or.inr (by omega)
theorem px_cm_lt (M : Nat → Nat) (p : Nat) : ∀ n, px_cm M p n < 2 ^ n
  | 0 => by unfold px_cm; decide
  | n + 1 => by
    have h1 := px_cm_lt M p n
    have h2 : 2 ^ n < 2 ^ (n + 1) := Nat.pow_lt_pow_right (by omega) (by omega)
    unfold px_cm
    split
    · exact Nat.or_lt_two_pow (by omega) h2
    · exact Nat.or_lt_two_pow (by omega) (Nat.two_pow_pos _)
theorem px_cm_n {M : Nat → Nat} {p T : Nat} : ∀ n, n ≤ T → px_pc (px_cm M p T) n = px_sum (fun u => if (M u).testBit p then 1 else 0) n
  | 0, _ => rfl
  | n + 1, h => by
    rw [px_pc_s, px_sum_s, px_cm_n n (by omega)]
    have e : (px_cm M p T).testBit n = (M n).testBit p := by
      rw [Bool.eq_iff_iff, px_cm_bit]
      exact ⟨fun q => q.2, fun q => ⟨by omega, q⟩⟩
    rw [e]
theorem px_U_cm {M : Nat → Nat} {s p T : Nat} : (px_U M s T).testBit p = false ↔ s &&& px_cm M p T = 0 := by
  constructor
  · intro h
    apply Nat.eq_of_testBit_eq
    intro i
    rw [Nat.testBit_and, Nat.zero_testBit]
    cases h1 : s.testBit i with
    | false => rfl
    | true =>
      cases h2 : (px_cm M p T).testBit i with
      | false => rfl
      | true =>
        obtain ⟨a, b⟩ := (px_cm_bit M p i T).mp h2
        have := (px_U_bit M s p T).mpr ⟨i, a, h1, b⟩
        rw [h] at this
        cases this
  · intro h
    cases hx : (px_U M s T).testBit p with
    | false => rfl
    | true =>
      obtain ⟨u, a, b, c⟩ := (px_U_bit M s p T).mp hx
      have h2 := congrArg (fun v => v.testBit u) h
      simp only [Nat.testBit_and, Nat.zero_testBit] at h2
      rw [b, (px_cm_bit M p u T).mpr ⟨a, c⟩] at h2
      cases h2
/-- the two sums: by sets, and by places -/
def px_sA (M : Nat → Nat) (T t s : Nat) : Nat := if s.testBit t then 0 else px_od T s * px_D M T t s
def px_sB (M : Nat → Nat) (T t p : Nat) : Nat := if (M t).testBit p then 60 / px_sum (fun u => if (M u).testBit p then 1 else 0) T else 0
theorem px_sixty : ∀ n, n < 6 → 0 < n → 60 / n * n = 60 := by decide
theorem px_share {M : Nat → Nat} {T t : Nat} (hT : T ≤ 5) (ht : t < T) : px_sum (px_sB M T t) 11 * px_f T = px_sum (px_sA M T t) (2 ^ T) * 60 := by
  have hA : px_sum (px_sA M T t) (2 ^ T) = px_sum (fun p => if (M t).testBit p then px_h T (px_cm M p T) else 0) 11 := by
    have e1 : ∀ s, s < 2 ^ T → px_sA M T t s = px_sum (fun p => if (M t).testBit p = true ∧ (px_U M s T).testBit p = false then px_od T s else 0) 11 := by
      intro s hs
      have e2 : px_sum (fun p => if (M t).testBit p = true ∧ (px_U M s T).testBit p = false then px_od T s else 0) 11 = px_od T s * px_D M T t s := by
        unfold px_D
        rw [← px_sum_mul]
        refine px_sum_cg 11 (fun p _ => ?_)
        split <;> simp
      unfold px_sA
      cases hb : s.testBit t with
      | false => rw [e2]; rfl
      | true =>
        simp only [if_true]
        rw [px_sum_cg (g := fun _ => 0) 11 (fun p _ => ?_), px_sum_0]
        rw [if_neg]
        rintro ⟨a, b⟩
        have := (px_U_bit M s p T).mpr ⟨t, ht, hb, a⟩
        rw [b] at this
        cases this
    rw [px_sum_cg _ e1, px_sum_swap]
    refine px_sum_cg 11 (fun p _ => ?_)
    cases hm : (M t).testBit p with
    | false =>
      simp only [Bool.false_eq_true, false_and, if_false]
      exact px_sum_0 _
    | true =>
      simp only [true_and, if_true]
      unfold px_h
      refine px_sum_cg _ (fun s _ => ?_)
      by_cases q : s &&& px_cm M p T = 0
      · rw [if_pos q, if_pos (px_U_cm.mpr q)]
      · rw [if_neg q, if_neg (fun z => q (px_U_cm.mp z))]
  rw [hA, Nat.mul_comm, Nat.mul_comm (px_sum _ 11) 60, ← px_sum_mul, ← px_sum_mul]
  refine px_sum_cg 11 (fun p _ => ?_)
  unfold px_sB
  cases hm : (M t).testBit p with
  | false => rfl
  | true =>
    simp only [if_true]
    have hb := (px_cm_bit M p t T).mpr ⟨ht, hm⟩
    have hlt := px_cm_lt M p T
    have h32 : 2 ^ T ≤ 2 ^ 5 := Nat.pow_le_pow_right (by omega) hT
    have hpos : 0 < px_cm M p T := Nat.pos_of_ne_zero (fun q => by rw [q] at hb; simp at hb)
    have ok := px_h_ok T (by omega) _ (by omega) hlt hpos
    have en := px_cm_n (M := M) (p := p) (T := T) T (Nat.le_refl _)
    rw [← en, ← ok]
    have f0 := px_f_ok T (by omega)
    have npos : 0 < px_pc (px_cm M p T) T := Nat.pos_of_ne_zero (fun q => by rw [q] at ok; omega)
    have nle := px_pc_le (px_cm M p T) T
    have s60 := px_sixty (px_pc (px_cm M p T) T) (by omega) npos
    generalize px_pc (px_cm M p T) T = n at *
    calc px_h T (px_cm M p T) * n * (60 / n) = px_h T (px_cm M p T) * (60 / n * n) := by rw [Nat.mul_assoc, Nat.mul_comm n]
      _ = 60 * px_h T (px_cm M p T) := by rw [s60, Nat.mul_comm]
