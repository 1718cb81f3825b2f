/-! ===== maths 1: numbers, bits, reads of a memory ===== -/
theorem mx_lit (n : Nat) : (OfNat.ofNat n : Int32) = nI (OfNat.ofNat n) := rfl
theorem mx_0 : (0 : Int32) = nI 0 := rfl
theorem mx_1 : (1 : Int32) = nI 1 := rfl
theorem mx_2 : (2 : Int32) = nI 2 := rfl
theorem mx_3 : (3 : Int32) = nI 3 := rfl
theorem mx_4 : (4 : Int32) = nI 4 := rfl
theorem mx_5 : (5 : Int32) = nI 5 := rfl
theorem mx_6 : (6 : Int32) = nI 6 := rfl
theorem mx_7 : (7 : Int32) = nI 7 := rfl
theorem mx_8 : (8 : Int32) = nI 8 := rfl
theorem mx_9 : (9 : Int32) = nI 9 := rfl
theorem mx_10 : (10 : Int32) = nI 10 := rfl
theorem mx_11 : (11 : Int32) = nI 11 := rfl
theorem mx_12 : (12 : Int32) = nI 12 := rfl
theorem mx_13 : (13 : Int32) = nI 13 := rfl
theorem mx_14 : (14 : Int32) = nI 14 := rfl
theorem mx_26 : (26 : Int32) = nI 26 := rfl
theorem mx_30 : (30 : Int32) = nI 30 := rfl
theorem mx_48 : (48 : Int32) = nI 48 := rfl
theorem mx_52 : (52 : Int32) = nI 52 := rfl
theorem mx_60 : (60 : Int32) = nI 60 := rfl
theorem mx_100 : (100 : Int32) = nI 100 := rfl
theorem mx_110 : (110 : Int32) = nI 110 := rfl
theorem mx_330 : (330 : Int32) = nI 330 := rfl
theorem mx_1000 : (1000 : Int32) = nI 1000 := rfl
theorem mx_or (a b : Nat) : nI a ||| nI b = nI (a ||| b) := by
  apply Int32.toBitVec_inj.1
  show BitVec.ofNat 32 a ||| BitVec.ofNat 32 b = BitVec.ofNat 32 (a ||| b)
  apply BitVec.eq_of_getLsbD_eq
  intro i hi
  simp [hi]
theorem mx_and (a b : Nat) : nI a &&& nI b = nI (a &&& b) := by
  apply Int32.toBitVec_inj.1
  show BitVec.ofNat 32 a &&& BitVec.ofNat 32 b = BitVec.ofNat 32 (a &&& b)
  apply BitVec.eq_of_getLsbD_eq
  intro i hi
  simp [hi]
theorem mx_s : ∀ n, n < 32 → ((nI n &&& 31).toBitVec.smod 32).toNat = n := by decide +kernel
theorem mx_shl {i : Nat} (h : i < 31) : (1 : Int32) <<< (nI i &&& 31) = nI (2 ^ i) := (by decide +kernel : ∀ i, i < 31 → (1 : Int32) <<< (nI i &&& 31) = nI (2 ^ i)) i h
theorem mx_shr {g i : Nat} (hg : g < 2 ^ 31) (hi : i < 31) : nI g >>> (nI i &&& 31) = nI (g / 2 ^ i) := pk_shrN hg _ i (mx_s i (by omega))
theorem mx_bit {g i : Nat} (hg : g < 2 ^ 31) (hi : i < 31) : (nI g >>> (nI i &&& 31)) &&& 1 = if g.testBit i then 1 else 0 := by
  rw [mx_shr hg hi, pk_andN (Nat.lt_of_le_of_lt (Nat.div_le_self _ _) (by omega)) 1 (by decide), Nat.testBit_eq_decide_div_mod_eq]
  rcases Nat.mod_two_eq_zero_or_one (g / 2 ^ i) with h | h
  · simp [h]; rfl
  · simp [h]; rfl
theorem mx_bit1 {g i : Nat} (hg : g < 2 ^ 31) (hi : i < 31) : ((nI g >>> (nI i &&& 31)) &&& 1) = 1 ↔ g.testBit i = true := by
  rw [mx_bit hg hi]; split <;> simp_all
theorem mx_bit0 {g i : Nat} (hg : g < 2 ^ 31) (hi : i < 31) : ((nI g >>> (nI i &&& 31)) &&& 1) = 0 ↔ g.testBit i = false := by
  rw [mx_bit hg hi]; split <;> simp_all
theorem mx_rd (σ : gq_M) (i k : Nat) (x : Int32) (c j : Nat) : (gq_put σ i k x).1 c j = if c = i then (if j = k then x else σ.1 i j) else σ.1 c j := by
  unfold gq_put gq_up upd
  by_cases h : c = i <;> simp [h]
theorem mx_rd2 (σ : gq_M) (i k : Nat) (x : Int32) : (gq_put σ i k x).2 = σ.2 := rfl
theorem mx_in {x : Int32} {n : Nat} (hn : n < 2 ^ 31) : vp_in x n ↔ ∃ j, j < n ∧ x = nI j := ⟨fun h => vp_in_of h hn, fun ⟨j, hj, e⟩ => by rw [e]; exact vp_in_nI hj hn⟩
theorem mx_nar0 : vp_nar .boolean 0 = 0 := by decide
theorem mx_nar1 : vp_nar .boolean 1 = 1 := by decide
theorem mx_nar {x : Int32} (h : gq_b x) : vp_nar .boolean x = x := by rcases h with rfl | rfl <;> decide
theorem mx_cmp_lt (x y : Int64) : lg_cmp x y < 0 ↔ x < y := by
  unfold lg_cmp
  by_cases h1 : y < x
  · have h2 : ¬ x < y := by rw [Int64.lt_iff_toInt_lt] at *; omega
    simp [h1, h2]
  · by_cases h3 : x = y
    · subst h3
      simp [h1]
    · have h2 : x < y := by
        rw [Int64.lt_iff_toInt_lt] at *
        have h4 : x.toInt ≠ y.toInt := fun e => h3 (Int64.toInt_inj.mp e)
        omega
      simp [h1, h2, h3]
theorem mx_cmp_gt (x y : Int64) : 0 < lg_cmp x y ↔ y < x := by
  unfold lg_cmp
  by_cases h : y < x
  · simp [h]
  · simp [h]
    split <;> decide
/-- the long of an int -/
theorem mx_l (x : Int32) : x.toInt64.toInt = x.toInt := Int32.toInt_toInt64 x
theorem sp7_in {a b c : Int64} {σ : gq_M} {Q : Int32 → gq_M → Prop} (h1 : b ≤ a → a ≤ c → Q 1 σ) (h2 : ¬ (b ≤ a ∧ a ≤ c) → Q 0 σ) : wq_X7_in a b c σ Q := by
  unfold wq_X7_in
  rw [mx_cmp_lt, mx_cmp_gt]
  refine ⟨fun h => h2 (fun q => ?_), fun h => ⟨fun h3 => h2 (fun q => ?_), fun h3 => h1 ?_ ?_⟩⟩
  · rw [Int64.lt_iff_toInt_lt] at h; have := Int64.le_iff_toInt_le.mp q.1; omega
  · rw [Int64.lt_iff_toInt_lt] at h3; have := Int64.le_iff_toInt_le.mp q.2; omega
  · rw [Int64.lt_iff_toInt_lt] at h; rw [Int64.le_iff_toInt_le]; omega
  · rw [Int64.lt_iff_toInt_lt] at h3; rw [Int64.le_iff_toInt_le]; omega
/-- in, for ints: a number of lo to hi -/
theorem sp7_inI {a : Int32} {b c : Int64} {lo hi : Int} {σ : gq_M} {Q : Int32 → gq_M → Prop} (hb : b.toInt = lo) (hc : c.toInt = hi) (h1 : lo ≤ a.toInt → a.toInt ≤ hi → Q 1 σ) (h2 : ¬ (lo ≤ a.toInt ∧ a.toInt ≤ hi) → Q 0 σ) : wq_X7_in a.toInt64 b c σ Q :=
  sp7_in (fun q r => h1 (by have := Int64.le_iff_toInt_le.mp q; rw [mx_l] at this; omega) (by have := Int64.le_iff_toInt_le.mp r; rw [mx_l] at this; omega)) (fun q => h2 (fun r => q ⟨by rw [Int64.le_iff_toInt_le, mx_l]; omega, by rw [Int64.le_iff_toInt_le, mx_l]; omega⟩))
theorem sp7_inN {a : Int32} {c : Int64} {n : Nat} {σ : gq_M} {Q : Int32 → gq_M → Prop} (hc : c.toInt = (n : Int) - 1) (h1 : vp_in a n → Q 1 σ) (h2 : ¬ vp_in a n → Q 0 σ) : wq_X7_in a.toInt64 0 c σ Q :=
  sp7_inI (lo := 0) (by decide) hc (fun q r => h1 (vp_in_iff.mpr ⟨q, by omega⟩)) (fun q => h2 (fun r => q (by have := vp_in_iff.mp r; omega)))
theorem mx_pred {n : Nat} (h : n < 2 ^ 30) : ((nI n - 1 : Int32).toInt64).toInt = (n : Int) - 1 := by
  rw [mx_l, show (1 : Int32) = nI 1 from rfl, pk_sub_toInt h (by omega)]
  rfl
theorem mx_lnI {n : Nat} (h : n < 2 ^ 31) : ((nI n).toInt64).toInt = (n : Int) := by rw [mx_l, nI_toInt h]
theorem sp7_isPleat {a : Int32} {P : Nat} {σ : gq_M} {Q : Int32 → gq_M → Prop} (hP : σ.1 0 0 = nI P) (hb : P ≤ 10) (h1 : vp_in a P → Q 1 σ) (h2 : ¬ vp_in a P → Q 0 σ) : wq_X7_isPleat a σ Q := by
  unfold wq_X7_isPleat
  rw [hP]
  exact sp7_inN (mx_pred (by omega)) (fun q => ⟨Or.inr rfl, h1 q⟩) (fun q => ⟨Or.inl rfl, h2 q⟩)
theorem sp7_isTraveller {a : Int32} {P : Nat} {σ : gq_M} {Q : Int32 → gq_M → Prop} (hP : σ.1 0 1 = nI P) (hb : P ≤ 10) (h1 : vp_in a P → Q 1 σ) (h2 : ¬ vp_in a P → Q 0 σ) : wq_X7_isTraveller a σ Q := by
  unfold wq_X7_isTraveller
  rw [hP]
  exact sp7_inN (mx_pred (by omega)) (fun q => ⟨Or.inr rfl, h1 q⟩) (fun q => ⟨Or.inl rfl, h2 q⟩)
theorem sp7_isPlace {a : Int32} {P : Nat} {σ : gq_M} {Q : Int32 → gq_M → Prop} (hP : σ.1 0 0 = nI P) (hb : P ≤ 10) (h1 : vp_in a (P + 1) → Q 1 σ) (h2 : ¬ vp_in a (P + 1) → Q 0 σ) : wq_X7_isPlace a σ Q := by
  unfold wq_X7_isPlace
  rw [hP]
  exact sp7_inN (n := P + 1) (by rw [mx_lnI (by omega)]; omega) (fun q => ⟨Or.inr rfl, h1 q⟩) (fun q => ⟨Or.inl rfl, h2 q⟩)
theorem sp2_has {a : Int32} {x : Int32} {P : Nat} {A B : Prop} (hP : x = nI P) (hb : P ≤ 100) (h1 : vp_in a P → B) (h2 : ¬ vp_in a P → A) : ((a < 0 → A) ∧ (¬ a < 0 → ((x ≤ a → A) ∧ (¬ x ≤ a → B)))) := by
  subst hP
  have e : vp_in a P ↔ ¬ a < 0 ∧ ¬ nI P ≤ a := by
    rw [vp_in_iff, Int32.lt_iff_toInt_lt, Int32.le_iff_toInt_le, nI_toInt (by omega)]
    have : (0 : Int32).toInt = 0 := rfl
    omega
  refine ⟨fun q => h2 (fun r => (e.mp r).1 q), fun q => ⟨fun r => h2 (fun s => (e.mp s).2 r), fun r => h1 (e.mpr ⟨q, r⟩)⟩⟩
theorem sp2_hasPleat {r : Nat} {a : Int32} {P : Nat} {σ : gq_M} {Q : Int32 → gq_M → Prop} (hP : σ.1 r 5 = nI P) (hb : P ≤ 10) (h1 : vp_in a P → Q 1 σ) (h2 : ¬ vp_in a P → Q 0 σ) : wq_X2_hasPleat r a σ Q := sp2_has hP (by omega) h1 h2
theorem sp2_hasTraveller {r : Nat} {a : Int32} {P : Nat} {σ : gq_M} {Q : Int32 → gq_M → Prop} (hP : σ.1 r 6 = nI P) (hb : P ≤ 10) (h1 : vp_in a P → Q 1 σ) (h2 : ¬ vp_in a P → Q 0 σ) : wq_X2_hasTraveller r a σ Q := sp2_has hP (by omega) h1 h2
theorem sp2_hasPlace {r : Nat} {a : Int32} {P : Nat} {σ : gq_M} {Q : Int32 → gq_M → Prop} (hP : σ.1 r 5 = nI P) (hb : P ≤ 10) (h1 : vp_in a (P + 1) → Q 1 σ) (h2 : ¬ vp_in a (P + 1) → Q 0 σ) : wq_X2_hasPlace r a σ Q := by
  unfold wq_X2_hasPlace
  rw [hP]
  have e : vp_in a (P + 1) ↔ ¬ a < 0 ∧ ¬ nI P < a := by
    rw [vp_in_iff, Int32.lt_iff_toInt_lt, Int32.lt_iff_toInt_lt, nI_toInt (by omega)]
    have : (0 : Int32).toInt = 0 := rfl
    omega
  refine ⟨fun q => h2 (fun r => (e.mp r).1 q), fun q => ⟨fun r => h2 (fun s => (e.mp s).2 r), fun r => h1 (e.mpr ⟨q, r⟩)⟩⟩
theorem sp7_has {g i : Nat} {σ : gq_M} {Q : Int32 → gq_M → Prop} (hg : g < 2 ^ 31) (hi : i < 31) (h1 : g.testBit i = true → Q 1 σ) (h2 : g.testBit i = false → Q 0 σ) : wq_X7_has (nI g) (nI i) σ Q := by
  unfold wq_X7_has
  rw [mx_bit1 hg hi]
  exact ⟨fun q => h2 (by simpa using q), h1⟩
theorem sp7_atLeast {a b : Nat} {σ : gq_M} {Q : Int32 → gq_M → Prop} (ha : a < 2 ^ 31) (hb : b < 2 ^ 31) (h : Q (nI (max a b)) σ) : wq_X7_atLeast (nI a) (nI b) σ Q := by
  unfold wq_X7_atLeast
  rw [nI_leI hb ha]
  refine ⟨fun q => ?_, fun q => ?_⟩
  · rw [Nat.max_eq_left q] at h; exact h
  · rw [Nat.max_eq_right (by omega)] at h; exact h
/-- how many bits of g lie below n -/
def px_pc (g : Nat) : Nat → Nat
  | 0 => 0
  | n + 1 => px_pc g n + (if g.testBit n then 1 else 0)
theorem px_pc_s (g n : Nat) : px_pc g (n + 1) = px_pc g n + (if g.testBit n then 1 else 0) := rfl
theorem px_pc_le (g : Nat) : ∀ n, px_pc g n ≤ n
  | 0 => Nat.le_refl 0
  | n + 1 => by
    have := px_pc_le g n
    unfold px_pc
    split <;> omega
theorem sp7_ones_l {g : Nat} {σ : gq_M} {Q : Int32 → gq_M → Prop} {K : Int32 → gq_M → Prop} (hg : g < 2 ^ 31) (hK : K (nI (px_pc g 11)) σ) : ∀ m k, k + m = 11 → wq_X7_ones_l4 Q K (m + 1) (nI g) (nI (px_pc g k)) (nI k) σ := by
  intro m
  induction m with
  | zero =>
    intro k h
    obtain rfl : k = 11 := by omega
    unfold wq_X7_ones_l4
    exact ⟨fun _ => hK, fun q => absurd (by decide) q⟩
  | succ m ih =>
    intro k h
    unfold wq_X7_ones_l4
    refine ⟨fun q => ?_, fun _ v2 e2 v3 e3 => ?_⟩
    · rw [mx_11, nI_leI (by omega) (by omega)] at q; omega
    · have e : v2 = nI (px_pc g (k + 1)) := by
        rw [e2, mx_bit hg (by omega), px_pc_s, ← nI_add]
        split <;> rfl
      rw [e, e3, nI_1]
      exact ih (k + 1) (by omega)
theorem sp7_ones {g : Nat} {σ : gq_M} {Q : Int32 → gq_M → Prop} (hg : g < 2 ^ 31) (h : Q (nI (px_pc g 11)) σ) : wq_X7_ones (nI g) σ Q := ⟨12, sp7_ones_l (K := fun e4 σ5 => Q e4 σ5) hg h 11 0 (by omega)⟩
