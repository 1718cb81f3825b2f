/-! ===== maths 21: a row of states met, nearest first ===== -/
theorem px_pigeon : ∀ (N m : Nat) (q : Nat → Nat), (∀ i, i < m → q i < N) → (∀ i j, i < j → j < m → q i ≠ q j) → m ≤ N
  | 0, m, q, h1, _ => by
    rcases Nat.eq_zero_or_pos m with h | h
    · omega
    · exact absurd (h1 0 h) (by omega)
  | N + 1, m, q, h1, h2 => by
    by_cases hx : ∃ i, i < m ∧ q i = N
    · obtain ⟨i0, hi0, e0⟩ := hx
      obtain ⟨k, rfl⟩ : ∃ k, m = k + 1 := ⟨m - 1, by omega⟩
      have hne : ∀ i, i < k + 1 → i ≠ i0 → q i ≠ N := fun i hi hn e => by
        rcases Nat.lt_or_ge i i0 with h | h
        · exact h2 i i0 h hi0 (by rw [e, e0])
        · exact h2 i0 i (by omega) hi (by rw [e, e0])
      have := px_pigeon N k (fun i => if i = i0 then q k else q i) (fun i hi => by
        split
        · rename_i h
          have := hne k (by omega) (by omega)
          have := h1 k (by omega)
          omega
        · rename_i h
          have := hne i (by omega) h
          have := h1 i (by omega)
          omega) (fun i j hij hj => by
        by_cases hi : i = i0
        · rw [if_pos hi, if_neg (by omega)]
          exact fun e => h2 j k (by omega) (by omega) e.symm
        · rw [if_neg hi]
          by_cases hj' : j = i0
          · rw [if_pos hj']
            exact h2 i k (by omega) (by omega)
          · rw [if_neg hj']
            exact h2 i j hij (by omega))
      omega
    · have := px_pigeon N m q (fun i hi => by
        have a := h1 i hi
        have b : q i ≠ N := fun e => hx ⟨i, hi, e⟩
        omega) h2
      omega
def px_up (f : Nat → Nat) (i v : Nat) : Nat → Nat := fun j => if j = i then v else f j
theorem px_up_s {f : Nat → Nat} {i v : Nat} : px_up f i v i = v := if_pos rfl
theorem px_up_n {f : Nat → Nat} {i v j : Nat} (h : j ≠ i) : px_up f i v j = f j := if_neg h
def qJ (V : Nat → Prop) (N : Nat → Nat → Option Nat) (s0 : Nat) (q : Nat → Nat) (m : Nat) (D : Nat → Nat) (h : Nat) : Prop :=
  (0 < m ∧ q 0 = s0) ∧ (∀ i, i < m → V (q i)) ∧ (∀ i j, i < j → j < m → q i ≠ q j) ∧ (∀ i, i < m → px_at N s0 (D (q i)) (q i)) ∧ (∀ i j, i ≤ j → j < m → D (q i) ≤ D (q j)) ∧ (∀ i, i < m → h < m → D (q i) ≤ D (q h) + 1) ∧ (∀ i, i < h → i < m → ∀ d e, d < 3 → N d (q i) = some e → ∃ j, j < m ∧ q j = e ∧ D e ≤ D (q i) + 1) ∧ (∀ i, i < m → D (q i) ≤ i)
def qMet (q : Nat → Nat) (m : Nat) (D : Nat → Nat) (h e : Nat) : Prop := ∃ j, j < m ∧ q j = e ∧ D e ≤ D (q h) + 1
def qE (q : Nat → Nat) (m : Nat) (D : Nat → Nat) (q' : Nat → Nat) (m' : Nat) (D' : Nat → Nat) : Prop := m ≤ m' ∧ ∀ i, i < m → q' i = q i ∧ D' (q i) = D (q i)
theorem qE.rf {q D : Nat → Nat} {m : Nat} : qE q m D q m D := ⟨Nat.le_refl m, fun _ _ => ⟨rfl, rfl⟩⟩
theorem qE.tr {q D q' D' q2 D2 : Nat → Nat} {m m' m2 : Nat} (h1 : qE q m D q' m' D') (h2 : qE q' m' D' q2 m2 D2) : qE q m D q2 m2 D2 := ⟨Nat.le_trans h1.1 h2.1, fun i hi => by
  have a := h1.2 i hi
  have b := h2.2 i (by have := h1.1; omega)
  rw [a.1] at b
  exact ⟨b.1, by rw [b.2, a.2]⟩⟩
theorem qE.met {q D q' D' : Nat → Nat} {m m' h e : Nat} (h1 : qE q m D q' m' D') (hh : h < m) (h2 : qMet q m D h e) : qMet q' m' D' h e := by
  obtain ⟨j, hj, a, b⟩ := h2
  have c := h1.2 j hj
  have d := h1.2 h hh
  have := h1.1
  refine ⟨j, by omega, by rw [c.1, a], ?_⟩
  rw [d.1, d.2, ← a, c.2, a]
  exact b
theorem qJ_old {V : Nat → Prop} {N : Nat → Nat → Option Nat} {s0 m h j : Nat} {q D : Nat → Nat} (hJ : qJ V N s0 q m D h) (hh : h < m) (hj : j < m) : qMet q m D h (q j) := ⟨j, hj, rfl, hJ.2.2.2.2.2.1 j hj hh⟩
theorem qJ_new {V : Nat → Prop} {N : Nat → Nat → Option Nat} {s0 m h d e : Nat} {q D : Nat → Nat} (hJ : qJ V N s0 q m D h) (hh : h < m) (hd : d < 3) (hN : N d (q h) = some e) (hV : V e) (hn : ∀ i, i < m → q i ≠ e) : qJ V N s0 (px_up q m e) (m + 1) (px_up D e (D (q h) + 1)) h ∧ qE q m D (px_up q m e) (m + 1) (px_up D e (D (q h) + 1)) ∧ qMet (px_up q m e) (m + 1) (px_up D e (D (q h) + 1)) h e := by
  obtain ⟨⟨a0, a1⟩, b, c, a3, a4, a5, a6, a7⟩ := hJ
  have q' : ∀ i, i < m → px_up q m e i = q i := fun i hi => px_up_n (by omega)
  have D' : ∀ i, i < m → px_up D e (D (q h) + 1) (q i) = D (q i) := fun i hi => px_up_n (hn i hi)
  have hE : qE q m D (px_up q m e) (m + 1) (px_up D e (D (q h) + 1)) := ⟨by omega, fun i hi => ⟨q' i hi, D' i hi⟩⟩
  have qm : px_up q m e m = e := px_up_s
  have Dm : px_up D e (D (q h) + 1) e = D (q h) + 1 := px_up_s
  refine ⟨⟨⟨by omega, by rw [q' 0 a0, a1]⟩, fun i hi => ?_, fun i j hij hj => ?_, fun i hi => ?_, fun i j hij hj => ?_, fun i hi _ => ?_, fun i hi hi2 d2 e2 hd2 hN2 => ?_, fun i hi => ?_⟩, hE, ⟨m, by omega, qm, by rw [Dm, q' h hh, D' h hh]; omega⟩⟩
  · rcases Nat.lt_or_ge i m with g | g
    · rw [q' i g]; exact b i g
    · rw [show i = m by omega, qm]; exact hV
  · rcases Nat.lt_or_ge j m with g | g
    · rw [q' i (by omega), q' j g]; exact c i j hij g
    · rw [show j = m by omega, qm, q' i (by omega)]; exact hn i (by omega)
  · rcases Nat.lt_or_ge i m with g | g
    · rw [q' i g, D' i g]; exact a3 i g
    · rw [show i = m by omega, qm, Dm]
      exact ⟨q h, d, hd, a3 h hh, hN⟩
  · rcases Nat.lt_or_ge j m with g | g
    · rw [q' i (by omega), q' j g, D' i (by omega), D' j g]; exact a4 i j hij g
    · rw [show j = m by omega, qm, Dm]
      rcases Nat.lt_or_ge i m with k | k
      · rw [q' i k, D' i k]; exact a5 i k hh
      · rw [show i = m by omega, qm, Dm]; omega
  · rw [q' h hh, D' h hh]
    rcases Nat.lt_or_ge i m with g | g
    · rw [q' i g, D' i g]; exact a5 i g hh
    · rw [show i = m by omega, qm, Dm]; omega
  · rw [q' i (by omega)] at hN2
    obtain ⟨j, hj, e1, e2'⟩ := a6 i hi (by omega) d2 e2 hd2 hN2
    refine ⟨j, by omega, by rw [q' j hj, e1], ?_⟩
    rw [q' i (by omega), D' i (by omega), ← e1, D' j hj, e1]
    exact e2'
  · rcases Nat.lt_or_ge i m with g | g
    · rw [q' i g, D' i g]; exact a7 i g
    · rw [show i = m by omega, qm, Dm]
      have := a7 h hh
      omega
theorem qJ_next {V : Nat → Prop} {N : Nat → Nat → Option Nat} {s0 m h : Nat} {q D : Nat → Nat} (hJ : qJ V N s0 q m D h) (hh : h < m) (hm : ∀ d e, d < 3 → N d (q h) = some e → qMet q m D h e) : qJ V N s0 q m D (h + 1) := by
  obtain ⟨a0, b, c, a3, a4, a5, a6, a7⟩ := hJ
  refine ⟨a0, b, c, a3, a4, fun i hi h2 => ?_, fun i hi hi2 d e hd hN => ?_, a7⟩
  · have x := a5 i hi hh
    have y := a4 h (h + 1) (by omega) h2
    omega
  · rcases Nat.lt_or_ge i h with g | g
    · exact a6 i g hi2 d e hd hN
    · obtain rfl : i = h := by omega
      exact hm d e hd hN
theorem qJ_all {V : Nat → Prop} {N : Nat → Nat → Option Nat} {s0 m : Nat} {q D : Nat → Nat} (hJ : qJ V N s0 q m D m) : ∀ n e, px_at N s0 n e → ∃ j, j < m ∧ q j = e ∧ D e ≤ n
  | 0, e, h => by
    have a := hJ.2.2.2.2.2.2.2 0 hJ.1.1
    refine ⟨0, hJ.1.1, by rw [hJ.1.2]; exact h.symm, ?_⟩
    rw [hJ.1.2, show s0 = e from h.symm] at a
    exact a
  | n + 1, e, ⟨e', d, hd, h1, h2⟩ => by
    obtain ⟨j, hj, a, b⟩ := qJ_all hJ n e' h1
    rw [← a] at h2
    obtain ⟨i, hi, c, f⟩ := hJ.2.2.2.2.2.2.1 j hj hj d e hd h2
    refine ⟨i, hi, c, ?_⟩
    rw [a] at f
    omega
theorem qJ_start {V : Nat → Prop} {N : Nat → Nat → Option Nat} {s0 : Nat} (hV : V s0) : qJ V N s0 (fun _ => s0) 1 (fun _ => 0) 0 :=
  ⟨⟨by omega, rfl⟩, fun _ _ => hV, fun i j h1 h2 => by omega, fun i hi => rfl, fun _ _ _ _ => Nat.le_refl _, fun _ _ _ => Nat.zero_le _, fun i hi => absurd hi (by omega), fun i hi => Nat.zero_le _⟩
theorem px_orr_bit (f : Nat → Nat) (p : Nat) : ∀ n, (px_orr f n).testBit p = true ↔ ∃ i, i < n ∧ f i = p
  | 0 => by unfold px_orr; simp
  | n + 1 => by
    unfold px_orr
    rw [Nat.testBit_or, Bool.or_eq_true, px_orr_bit f p n, Nat.testBit_two_pow]
    simp only [decide_eq_true_eq]
    constructor
    · rintro (⟨i, a, b⟩ | h)
      · exact ⟨i, by omega, b⟩
      · exact ⟨n, by omega, h⟩
    · rintro ⟨i, a, b⟩
      rcases Nat.lt_or_ge i n with g | g
      · exact Or.inl ⟨i, g, b⟩
      · exact Or.inr (by rw [show n = i by omega]; exact b)
theorem px_orr_lt {f : Nat → Nat} {b : Nat} : ∀ n, (∀ i, i < n → f i < b) → px_orr f n < 2 ^ b
  | 0, _ => by unfold px_orr; exact Nat.two_pow_pos _
  | n + 1, h => by
    unfold px_orr
    exact Nat.or_lt_two_pow (px_orr_lt n (fun i hi => h i (by omega))) (Nat.pow_lt_pow_right (by omega) (h n (by omega)))
