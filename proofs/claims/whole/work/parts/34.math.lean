/-! ===== maths 15: reading a text ===== -/
def tC (σ : gq_M) (n : Nat) (T : Nat → Int32) : Prop := n ≤ 52 ∧ σ.1 1 1 = nI n ∧ ∀ i, i < n → σ.1 2 i = T i
def tM (μ : gq_M) (n : Nat) (T : Nat → Int32) : Prop := n ≤ 52 ∧ μ.1 0 12 = nI n ∧ ∀ i, i < n → μ.1 8 i = T i
def px_d (T : Nat → Int32) (i : Nat) : Nat := (T i - 48).toInt.toNat
def px_gd (T : Nat → Int32) (n i lo hi : Nat) : Prop := i < n ∧ (lo : Int) ≤ (T i - 48).toInt ∧ (T i - 48).toInt ≤ (hi : Int)
theorem px_gd_d {T : Nat → Int32} {n i lo hi : Nat} (h : px_gd T n i lo hi) : T i - 48 = nI (px_d T i) ∧ lo ≤ px_d T i ∧ px_d T i ≤ hi ∧ i < n := by
  obtain ⟨h1, h2, h3⟩ := h
  have hx : ¬ (T i - 48) < 0 := by
    rw [Int32.lt_iff_toInt_lt]
    have : (0 : Int32).toInt = 0 := rfl
    omega
  obtain ⟨j, hj, e⟩ := nI_of hx
  unfold px_d
  rw [e] at h2 h3 ⊢
  rw [nI_toInt hj] at h2 h3 ⊢
  refine ⟨by simp, by omega, by omega, h1⟩
def hC (σ : gq_M) (r : Nat) (F : Nat → Nat → Nat) : Prop := σ.1 r 5 = nI (F 0 0) ∧ σ.1 r 6 = nI (F 1 0) ∧ (∀ i, i < F 0 0 → σ.1 (r + 1) i = nI (F 2 i) ∧ σ.1 (r + 2) i = nI (F 3 i)) ∧ (∀ t, t < F 1 0 → σ.1 (r + 3) t = nI (F 6 t) ∧ σ.1 (r + 4) t = nI (F 4 t) ∧ σ.1 (r + 5) t = nI (F 5 t))
def hM (μ : gq_M) (F : Nat → Nat → Nat) : Prop := μ.1 0 9 = nI (F 0 0) ∧ μ.1 0 10 = nI (F 1 0) ∧ (∀ i, i < F 0 0 → μ.1 6 (2 * i) = nI (F 2 i) ∧ μ.1 6 (2 * i + 1) = nI (F 3 i)) ∧ (∀ t, t < F 1 0 → μ.1 7 (3 * t) = nI (F 6 t) ∧ μ.1 7 (3 * t + 1) = nI (F 4 t) ∧ μ.1 7 (3 * t + 2) = nI (F 5 t))
def fOK (F : Nat → Nat → Nat) : Prop := rOK F ∧ ∀ t, t < F 1 0 → F 6 t ≤ F 0 0
def px_addP (F : Nat → Nat → Nat) (s k : Nat) : Nat → Nat → Nat := px_set (px_set (px_set F 2 (F 0 0) s) 3 (F 0 0) k) 0 0 (F 0 0 + 1)
def px_addT (F : Nat → Nat → Nat) (a b d : Nat) : Nat → Nat → Nat := px_set (px_set (px_set (px_set F 6 (F 1 0) a) 4 (F 1 0) b) 5 (F 1 0) d) 1 0 (F 1 0 + 1)
theorem fOK_addP {F : Nat → Nat → Nat} {s k : Nat} (h : fOK F) (hp : F 0 0 < 10) (h1 : 1 ≤ s) (h2 : s ≤ 9) (h3 : k ≤ 3) : fOK (px_addP F s k) := by
  obtain ⟨⟨g1, g2, g3, g4⟩, g5⟩ := h
  refine ⟨⟨?_, ?_, fun i hi => ?_, fun t ht => ?_⟩, fun t ht => ?_⟩
  · unfold px_addP px_set; simp; omega
  · unfold px_addP px_set; simpa using g2
  · unfold px_addP px_set at *
    simp at hi ⊢
    by_cases e : i = F 0 0
    · simp [e]; omega
    · simp [e]; exact g3 i (by omega)
  · unfold px_addP px_set at *
    simp at ht ⊢
    exact g4 t ht
  · unfold px_addP px_set at *
    simp at ht ⊢
    have := g5 t ht
    omega
theorem fOK_addT {F : Nat → Nat → Nat} {a b d : Nat} (h : fOK F) (hq : F 1 0 < 5) (h0 : a ≤ F 0 0) (h1 : 1 ≤ b) (h2 : b ≤ 9) (h3 : d ≤ 3) : fOK (px_addT F a b d) := by
  obtain ⟨⟨g1, g2, g3, g4⟩, g5⟩ := h
  refine ⟨⟨?_, ?_, fun i hi => ?_, fun t ht => ?_⟩, fun t ht => ?_⟩
  · unfold px_addT px_set; simpa using g1
  · unfold px_addT px_set; simp; omega
  · unfold px_addT px_set at *
    simp at hi ⊢
    exact g3 i hi
  · unfold px_addT px_set at *
    simp at ht ⊢
    by_cases e : t = F 1 0
    · simp [e]; omega
    · simp [e]; exact g4 t (by omega)
  · unfold px_addT px_set at *
    simp at ht ⊢
    by_cases e : t = F 1 0
    · simp [e]; exact h0
    · simp [e]; exact g5 t (by omega)
def fRd (σ τ : gq_M) (r : Nat) : Prop := (∀ c, c < r ∨ r + 6 ≤ c → τ.1 c = σ.1 c) ∧ τ.2 = σ.2
theorem fRd.rf {σ : gq_M} {r : Nat} : fRd σ σ r := ⟨fun _ _ => rfl, rfl⟩
theorem fRd.tr {σ τ υ : gq_M} {r : Nat} (h1 : fRd σ τ r) (h2 : fRd τ υ r) : fRd σ υ r := ⟨fun c h => (h2.1 c h).trans (h1.1 c h), h2.2.trans h1.2⟩
theorem fRd.put {σ τ : gq_M} {r i j : Nat} {x : Int32} (h : fRd σ τ r) (h1 : r ≤ i) (h2 : i < r + 6) : fRd σ (gq_put τ i j x) r := ⟨fun c hc => by rw [gq_put_other _ _ _ _ (by omega)]; exact h.1 c hc, h.2⟩
theorem fRd.t {σ τ : gq_M} {r n : Nat} {T : Nat → Int32} (hr : 3 ≤ r) (h : fRd σ τ r) (ht : tC σ n T) : tC τ n T := ⟨ht.1, by rw [h.1 1 (by omega)]; exact ht.2.1, fun i hi => by rw [h.1 2 (by omega)]; exact ht.2.2 i hi⟩
theorem fxM.t {μ ν : gq_M} {n : Nat} {T : Nat → Int32} (h : fxM μ ν) (ht : tM μ n T) : tM ν n T := ⟨ht.1, by rw [h.2.2.1 12 (by omega) (by omega) (by omega) (by omega) (by omega) (by omega)]; exact ht.2.1, fun i hi => by rw [h.1 8 (by omega) (by omega) (by omega) (by omega) (by omega) (by omega) (by omega)]; exact ht.2.2 i hi⟩
-- the component
theorem sp3_figure {σ : gq_M} {n i : Nat} {T : Nat → Int32} {Q : Int32 → gq_M → Prop} (ht : tC σ n T) (hi : i < n) (h : Q (T i - 48) σ) : wq_X3_figure (nI i) σ Q := by
  have hn := ht.1
  unfold wq_X3_figure
  rw [mx_52, nI_leI (by omega) (by omega), nI_clamp (by omega), ht.2.2 i hi]
  exact ⟨fun q => absurd q (nI_pos (by omega)), fun _ => ⟨fun q => by omega, fun _ => ⟨vp_in_nI (by omega) (by omega), h⟩⟩⟩
theorem sp3_figureFault {σ : gq_M} {n i lo hi : Nat} {x1 x2 : Int32} {T : Nat → Int32} {Q : Int32 → gq_M → Prop} (e1 : x1 = nI lo) (e2 : x2 = nI hi) (hl : lo < 100) (hh : hi < 100) (ht : tC σ n T) (hin : i ≤ n) (h1 : px_gd T n i lo hi → Q (-9) σ) (h2 : ¬ px_gd T n i lo hi → Q (nI i) σ) : wq_X3_figureFault (nI i) x1 x2 σ Q := by
  have hn := ht.1
  unfold wq_X3_figureFault
  rw [ht.2.1, nI_ltI (by omega) (by omega), e1, e2]
  refine ⟨fun q => ?_, fun q => ?_⟩
  · refine sp3_figure ht q ?_
    rw [Int32.lt_iff_toInt_lt, nI_toInt (by omega)]
    refine ⟨fun g => h2 (fun u => ?_), fun g => sp3_figure ht q ?_⟩
    · have := u.2.1; omega
    · rw [Int32.lt_iff_toInt_lt, nI_toInt (by omega)]
      refine ⟨fun g2 => h2 (fun u => ?_), fun g2 => h1 ⟨q, by omega, by omega⟩⟩
      have := u.2.2; omega
  · have e : i = n := by omega
    rw [← e]
    exact h2 (fun u => by have := u.1; omega)
theorem hC_addP {σ : gq_M} {r s k : Nat} {F : Nat → Nat → Nat} (h : hC σ r F) : hC (gq_put (gq_put (gq_put σ (r + 1) (F 0 0) (nI s)) (r + 2) (F 0 0) (nI k)) r 5 (nI (F 0 0 + 1))) r (px_addP F s k) := by
  obtain ⟨g1, g2, g3, g4⟩ := h
  refine ⟨?_, ?_, fun i hi => ?_, fun t ht => ?_⟩
  · rw [mx_rs, if_pos rfl]; unfold px_addP px_set; simp
  · rw [mx_rs, if_neg (by omega), mx_ro (by omega), mx_ro (by omega), g2]; unfold px_addP px_set; simp
  · unfold px_addP px_set at *
    simp at hi ⊢
    rw [mx_ro (by omega), mx_ro (by omega), mx_rs, mx_ro (by omega), mx_rs, mx_ro (by omega)]
    by_cases e : i = F 0 0
    · simp [e]
    · simp [e]; exact g3 i (by omega)
  · unfold px_addP px_set at *
    simp at ht ⊢
    rw [mx_ro (by omega), mx_ro (by omega), mx_ro (by omega), mx_ro (by omega), mx_ro (by omega), mx_ro (by omega), mx_ro (by omega), mx_ro (by omega), mx_ro (by omega)]
    exact g4 t ht
theorem sp2_addPleat {σ : gq_M} {r s k : Nat} {F : Nat → Nat → Nat} {Q : gq_M → Prop} (hp : F 0 0 < 10) (h : hC σ r F) (hQ : ∀ τ, fRd σ τ r → hC τ r (px_addP F s k) → Q τ) : wq_X2_addPleat r (nI s) (nI k) σ Q := by
  unfold wq_X2_addPleat
  have e1 : ∀ x, (gq_put σ (r + 1) (F 0 0) x).1 r 5 = nI (F 0 0) := fun x => by rw [mx_ro (by omega)]; exact h.1
  have e2 : ∀ x y, (gq_put (gq_put σ (r + 1) (F 0 0) x) (r + 2) (F 0 0) y).1 r 5 = nI (F 0 0) := fun x y => by rw [mx_ro (by omega), mx_ro (by omega)]; exact h.1
  rw [h.1, nI_clamp (by omega), e1, nI_clamp (by omega), e2, mx_10, nI_leI (by omega) (by omega), nI_1]
  exact ⟨fun q => by omega, fun _ => ⟨vp_in_nI (by omega) (by omega), vp_in_nI (by omega) (by omega), hQ _ (((fRd.rf.put (by omega) (by omega)).put (by omega) (by omega)).put (by omega) (by omega)) (hC_addP h)⟩⟩
theorem hC_addT {σ : gq_M} {r a b d : Nat} {F : Nat → Nat → Nat} (h : hC σ r F) : hC (gq_put (gq_put (gq_put (gq_put σ (r + 3) (F 1 0) (nI a)) (r + 4) (F 1 0) (nI b)) (r + 5) (F 1 0) (nI d)) r 6 (nI (F 1 0 + 1))) r (px_addT F a b d) := by
  obtain ⟨g1, g2, g3, g4⟩ := h
  refine ⟨?_, ?_, fun i hi => ?_, fun t ht => ?_⟩
  · rw [mx_rs, if_neg (by omega), mx_ro (by omega), mx_ro (by omega), mx_ro (by omega), g1]; unfold px_addT px_set; simp
  · rw [mx_rs, if_pos rfl]; unfold px_addT px_set; simp
  · unfold px_addT px_set at *
    simp at hi ⊢
    rw [mx_ro (by omega), mx_ro (by omega), mx_ro (by omega), mx_ro (by omega), mx_ro (by omega), mx_ro (by omega), mx_ro (by omega), mx_ro (by omega)]
    exact g3 i hi
  · unfold px_addT px_set at *
    simp at ht ⊢
    rw [mx_ro (by omega), mx_ro (by omega), mx_ro (by omega), mx_rs, mx_ro (by omega), mx_ro (by omega), mx_rs, mx_ro (by omega), mx_ro (by omega), mx_rs, mx_ro (by omega), mx_ro (by omega)]
    by_cases e : t = F 1 0
    · simp [e]
    · simp [e]; exact g4 t (by omega)
theorem sp2_addTraveller {σ : gq_M} {r a b d : Nat} {F : Nat → Nat → Nat} {Q : gq_M → Prop} (hp : F 1 0 < 5) (h : hC σ r F) (hQ : ∀ τ, fRd σ τ r → hC τ r (px_addT F a b d) → Q τ) : wq_X2_addTraveller r (nI a) (nI b) (nI d) σ Q := by
  unfold wq_X2_addTraveller
  have e1 : ∀ x, (gq_put σ (r + 3) (F 1 0) x).1 r 6 = nI (F 1 0) := fun x => by rw [mx_ro (by omega)]; exact h.2.1
  have e2 : ∀ x y, (gq_put (gq_put σ (r + 3) (F 1 0) x) (r + 4) (F 1 0) y).1 r 6 = nI (F 1 0) := fun x y => by rw [mx_ro (by omega), mx_ro (by omega)]; exact h.2.1
  have e3 : ∀ x y z, (gq_put (gq_put (gq_put σ (r + 3) (F 1 0) x) (r + 4) (F 1 0) y) (r + 5) (F 1 0) z).1 r 6 = nI (F 1 0) := fun x y z => by rw [mx_ro (by omega), mx_ro (by omega), mx_ro (by omega)]; exact h.2.1
  rw [h.2.1, nI_clamp (by omega), e1, nI_clamp (by omega), e2, nI_clamp (by omega), e3, mx_5, nI_leI (by omega) (by omega), nI_1]
  exact ⟨fun q => by omega, fun _ => ⟨vp_in_nI (by omega) (by omega), vp_in_nI (by omega) (by omega), vp_in_nI (by omega) (by omega), hQ _ ((((fRd.rf.put (by omega) (by omega)).put (by omega) (by omega)).put (by omega) (by omega)).put (by omega) (by omega)) (hC_addT h)⟩⟩
theorem sp3_readPleat {σ : gq_M} {r n i : Nat} {T : Nat → Int32} {F : Nat → Nat → Nat} {Q : Int32 → gq_M → Prop} (ht : tC σ n T) (hi : i < n) (hp : F 0 0 < 10) (h : hC σ r F) (hok : px_gd T n (i + 1) 1 9 → px_gd T n (i + 2) 0 3 → ∀ τ, fRd σ τ r → hC τ r (px_addP F (px_d T (i + 1)) (px_d T (i + 2))) → Q (-9) τ) (h1 : ¬ px_gd T n (i + 1) 1 9 → Q (nI (i + 1)) σ) (h2 : px_gd T n (i + 1) 1 9 → ¬ px_gd T n (i + 2) 0 3 → Q (nI (i + 2)) σ) : wq_X3_readPleat r (nI i) σ Q := by
  have hn := ht.1
  unfold wq_X3_readPleat wq_X3_readPleat_b27
  rw [nI_1, mx_2, nI_add]
  refine sp3_figureFault (lo := 1) (hi := 9) rfl rfl (by omega) (by omega) ht (by omega) (fun g1 => ⟨fun q => absurd rfl q, fun _ => ?_⟩) (fun g1 => ⟨fun _ => ⟨fun _ => h1 g1, fun q => absurd q (mx_m9 (by omega))⟩, fun q => absurd q (mx_m9 (by omega))⟩)
  have hi1 := g1.1
  refine sp3_figureFault (lo := 0) (hi := 3) rfl rfl (by omega) (by omega) ht (by omega) (fun g2 => ⟨fun q => absurd rfl q, fun _ => ?_⟩) (fun g2 => ⟨fun _ => h2 g1 g2, fun q => absurd q (mx_m9 (by omega))⟩)
  refine sp3_figure ht g1.1 (sp3_figure ht g2.1 ?_)
  rw [(px_gd_d g1).1, (px_gd_d g2).1]
  exact sp2_addPleat hp h (fun τ a b => hok g1 g2 τ a b)
theorem sp3_readTraveller {σ : gq_M} {r n i : Nat} {T : Nat → Int32} {F : Nat → Nat → Nat} {Q : Int32 → gq_M → Prop} (ht : tC σ n T) (hi : i < n) (hP : F 0 0 ≤ 10) (hp : F 1 0 < 5) (h : hC σ r F) (hok : px_gd T n (i + 1) 0 (min 9 (F 0 0)) → px_gd T n (i + 2) 1 9 → px_gd T n (i + 3) 0 3 → ∀ τ, fRd σ τ r → hC τ r (px_addT F (px_d T (i + 1)) (px_d T (i + 2)) (px_d T (i + 3))) → Q (-9) τ) (h1 : ¬ px_gd T n (i + 1) 0 (min 9 (F 0 0)) → Q (nI (i + 1)) σ) (h2 : px_gd T n (i + 1) 0 (min 9 (F 0 0)) → ¬ px_gd T n (i + 2) 1 9 → Q (nI (i + 2)) σ) (h3 : px_gd T n (i + 1) 0 (min 9 (F 0 0)) → px_gd T n (i + 2) 1 9 → ¬ px_gd T n (i + 3) 0 3 → Q (nI (i + 3)) σ) : wq_X3_readTraveller r (nI i) σ Q := by
  have hn := ht.1
  unfold wq_X3_readTraveller wq_X3_readTraveller_b35 wq_X3_readTraveller_b51
  have em : (if nI (F 0 0) < 9 then nI (F 0 0) else 9 : Int32) = nI (min 9 (F 0 0)) := mx_min (a := 9) (by omega) (by omega)
  rw [h.1, em, nI_1, mx_2, nI_add, mx_3, nI_add]
  refine sp3_figureFault (lo := 0) (hi := min 9 (F 0 0)) rfl rfl (by omega) (by omega) ht (by omega) (fun g1 => ⟨fun q => absurd rfl q, fun _ => ?_⟩) (fun g1 => ⟨fun _ => ⟨fun _ => ⟨fun _ => h1 g1, fun q => absurd q (mx_m9 (by omega))⟩, fun q => absurd q (mx_m9 (by omega))⟩, fun q => absurd q (mx_m9 (by omega))⟩)
  have hi1 := g1.1
  refine sp3_figureFault (lo := 1) (hi := 9) rfl rfl (by omega) (by omega) ht (by omega) (fun g2 => ⟨fun q => absurd rfl q, fun _ => ?_⟩) (fun g2 => ⟨fun _ => ⟨fun _ => h2 g1 g2, fun q => absurd q (mx_m9 (by omega))⟩, fun q => absurd q (mx_m9 (by omega))⟩)
  have hi2 := g2.1
  refine sp3_figureFault (lo := 0) (hi := 3) rfl rfl (by omega) (by omega) ht (by omega) (fun g3 => ⟨fun q => absurd rfl q, fun _ => ?_⟩) (fun g3 => ⟨fun _ => h3 g1 g2 g3, fun q => absurd q (mx_m9 (by omega))⟩)
  refine sp3_figure ht g1.1 (sp3_figure ht g2.1 (sp3_figure ht g3.1 ?_))
  rw [(px_gd_d g1).1, (px_gd_d g2).1, (px_gd_d g3).1]
  exact sp2_addTraveller hp h (fun τ a b => hok g1 g2 g3 τ a b)
-- the model
theorem sp7_figureOf_ok {μ : gq_M} {n i lo hi : Nat} {x1 x2 : Int32} {T : Nat → Int32} {Q : Int32 → gq_M → Prop} (e1 : x1 = nI lo) (e2 : x2 = nI hi) (hl : lo < 100) (hh : hi < 100) (ht : tM μ n T) (hn9 : μ.1 0 14 = -9) (ha : μ.1 0 13 = nI i) (g : px_gd T n i lo hi) (h : Q (nI (px_d T i)) (gq_put μ 0 13 (nI (i + 1)))) : wq_X7_figureOf x1 x2 μ Q := by
  have hn := ht.1
  have hi' := g.1
  unfold wq_X7_figureOf wq_X7_figureOf_b25 wq_X7_figureOf_b46
  rw [hn9, ha, ht.2.1, nI_leI (by omega) (by omega), nI_clamp (by omega), ht.2.2 i hi']
  refine ⟨fun q => absurd rfl q, fun _ => ⟨fun q => by omega, fun _ => ⟨fun q => absurd q (by decide), fun _ => ⟨vp_in_nI (by omega) (by omega), fun q => absurd q (by decide), fun _ => ?_⟩⟩⟩⟩
  refine sp7_inI (lo := lo) (hi := hi) (by rw [e1, mx_l, nI_toInt (by omega)]) (by rw [e2, mx_l, nI_toInt (by omega)]) (fun _ _ => ⟨fun _ => ?_, fun q => absurd q (by decide)⟩) (fun q => absurd g.2 q)
  rw [ha, nI_1, (px_gd_d g).1]
  exact h
theorem sp7_figureOf_bad {μ : gq_M} {n i lo hi : Nat} {x1 x2 : Int32} {T : Nat → Int32} {Q : Int32 → gq_M → Prop} (e1 : x1 = nI lo) (e2 : x2 = nI hi) (hl : lo < 100) (hh : hi < 100) (ht : tM μ n T) (hn9 : μ.1 0 14 = -9) (ha : μ.1 0 13 = nI i) (hin : i ≤ n) (g : ¬ px_gd T n i lo hi) (h : Q 0 (gq_put μ 0 14 (nI i))) : wq_X7_figureOf x1 x2 μ Q := by
  have hn := ht.1
  unfold wq_X7_figureOf wq_X7_figureOf_b25 wq_X7_figureOf_b46 wq_X7_figureOf_b65 wq_X7_figureOf_b86
  rw [hn9, ha, ht.2.1, nI_leI (by omega) (by omega), nI_clamp (by omega)]
  refine ⟨fun q => absurd rfl q, fun _ => ⟨fun q => ⟨fun _ => ⟨fun _ => ⟨fun q => absurd rfl q, fun _ => h⟩, fun q => absurd rfl q⟩, fun q => absurd rfl q⟩, fun q => ⟨fun q => absurd q (by decide), fun _ => ⟨vp_in_nI (by omega) (by omega), fun q => absurd q (by decide), fun _ => ?_⟩⟩⟩⟩
  rw [ht.2.2 i (by omega)]
  refine sp7_inI (lo := lo) (hi := hi) (by rw [e1, mx_l, nI_toInt (by omega)]) (by rw [e2, mx_l, nI_toInt (by omega)]) (fun u v => absurd ⟨by omega, u, v⟩ g) (fun _ => ⟨fun q => absurd rfl q, fun _ => ?_⟩)
  rw [hn9, ha]
  exact ⟨fun q => absurd rfl q, fun _ => h⟩
theorem sp7_figureOf_no {μ : gq_M} {e : Nat} {x1 x2 : Int32} {Q : Int32 → gq_M → Prop} (he : e < 100) (hn9 : μ.1 0 14 = nI e) (h : Q 0 (gq_put μ 0 14 (nI e))) : wq_X7_figureOf x1 x2 μ Q := by
  unfold wq_X7_figureOf wq_X7_figureOf_b25 wq_X7_figureOf_b46 wq_X7_figureOf_b65 wq_X7_figureOf_b86
  rw [hn9]
  exact ⟨fun _ => ⟨fun _ => ⟨fun _ => ⟨fun _ => h, fun q => absurd q (mx_m9 (by omega))⟩, fun q => absurd rfl q⟩, fun q => absurd rfl q⟩, fun q => absurd q (mx_m9 (by omega))⟩
