/-! ===== maths 23: the model's spreading, whole; where it reaches ===== -/
theorem sp7_spread_l9 {μ : gq_M} {Q : gq_M → Prop} {K : Int32 → Int32 → Int32 → Int32 → Int32 → gq_M → Prop} {x1 x2 x3 x4 x5 : Int32} (h : ∀ ν, fP (fun c => c = 10) μ ν → (∀ j, j < 1210 → ν.1 10 j = -9) → K x1 x2 x3 x4 x5 ν) : ∃ n, wq_X7_spread_l9 Q K n x1 x2 x3 x4 x5 0 μ := by
  have key : ∀ m k ν, k + m = 1210 → fP (fun c => c = 10) μ ν → (∀ j, j < k → ν.1 10 j = -9) → wq_X7_spread_l9 Q K (m + 1) x1 x2 x3 x4 x5 (nI k) ν := by
    intro m
    induction m with
    | zero =>
      intro k ν hk hf hl
      obtain rfl : k = 1210 := by omega
      unfold wq_X7_spread_l9
      exact ⟨fun _ => h ν hf hl, fun q => absurd (by decide) q⟩
    | succ m ih =>
      intro k ν hk hf hl
      unfold wq_X7_spread_l9
      rw [show (1210 : Int32) = nI 1210 from rfl, nI_leI (by omega) (by omega), nI_clamp (by omega)]
      refine ⟨fun q => by omega, fun _ => ⟨vp_in_nI (by omega) (by omega), fun v5 e5 => ?_⟩⟩
      rw [e5, nI_1]
      refine ih (k + 1) _ (by omega) (hf.put rfl) (fun j hj => ?_)
      rw [mx_rs]
      by_cases e : j = k
      · rw [if_pos e]
      · rw [if_neg e]; exact hl j (by omega)
  exact ⟨1211, key 1210 0 μ (by omega) fP.rf (fun j hj => absurd hj (by omega))⟩
theorem sp7_spread_l81 {R : Nat → Nat → Nat} {t lv g f ice s0 : Nat} {rs : Bool} {x3 : Int32} {μ0 : gq_M} {Q K : gq_M → Prop} (hR : rOK R) (ht : t < R 1 0) (hl : lv ≤ 1) (hg : g < 1024) (hf : f ≤ 5) (hice : ice < 1024) (hx3 : (x3 = 0 ∧ rs = false) ∨ (¬ x3 = 0 ∧ rs = true)) (hQ : ∀ ν q m D, fQ μ0 ν → qJ (vOK R t) (px_N R t g f ice rs) s0 q m D m → QM ν q m D → K ν) : ∀ n h μ q m D, n + h = 1210 → h ≤ m → fQ μ0 μ → gK μ R lv g f ice → qJ (vOK R t) (px_N R t g f ice rs) s0 q m D h → QM μ q m D → wq_X7_spread_l81 Q K (n + 1) (nI lv) (nI t) x3 (nI h) μ := by
  have hT := hR.2.1
  intro n
  induction n with
  | zero =>
    intro h μ q m D hn hhm hfr hK hJ hM
    have hlt := qJ_lt hR hJ
    obtain rfl : h = m := by omega
    unfold wq_X7_spread_l81
    rw [hM.1]
    exact ⟨fun _ => hQ μ q h D hfr hJ hM, fun z => absurd (Int32.le_refl _) z⟩
  | succ n ih =>
    intro h μ q m D hn hhm hfr hK hJ hM
    have hlt := qJ_lt hR hJ
    unfold wq_X7_spread_l81
    rw [hM.1, nI_leI (by omega) (by omega), nI_clamp (by omega)]
    refine ⟨fun z => ?_, fun z => ⟨vp_in_nI (by omega) (by omega), fun v13 e13 => ?_⟩⟩
    · obtain rfl : h = m := by omega
      exact hQ μ q h D hfr hJ hM
    · have hh : h < m := by omega
      rw [hM.2.1 h hh] at e13
      subst e13
      have hv := hJ.2.1 h hh
      have he := vOK_lt hR hv
      refine sp7_goJ (d := 0) hR ht hl hg hf hice hK hJ hM hh (by omega) rfl (fun μ1 q1 m1 D1 a1 a2 a3 a4 a5 => ?_)
      have h1 : h < m1 := by have := a4.1; omega
      have eq1 : q1 h = q h := (a4.2 h hh).1
      rw [← eq1]
      refine sp7_goJ (d := 1) hR ht hl hg hf hice (a1.k hK) a2 a3 h1 (by omega) rfl (fun μ2 q2 m2 D2 b1 b2 b3 b4 b5 => ?_)
      have h2 : h < m2 := by have := b4.1; omega
      have eq2 : q2 h = q1 h := (b4.2 h h1).1
      have met0 : ∀ e, px_N R t g f ice rs 0 (q h) = some e → qMet q2 m2 D2 h e := fun e z => b4.met h1 (a5 e z)
      have met1 : ∀ e, px_N R t g f ice rs 1 (q h) = some e → qMet q2 m2 D2 h e := fun e z => b5 e (by rw [eq1]; exact z)
      rcases hx3 with ⟨x30, hrs⟩ | ⟨x30, hrs⟩
      · refine ⟨fun _ => ?_, fun z => absurd x30 z⟩
        unfold wq_X7_spread_b153
        intro v19 e19
        rw [e19, nI_1]
        refine ih (h + 1) μ2 q2 m2 D2 (by omega) (by omega) ((hfr.tr a1).tr b1) (b1.k (a1.k hK)) (qJ_next b2 h2 (fun d e hd hN => ?_)) b3
        rw [eq2, eq1] at hN
        rcases (show d = 0 ∨ d = 1 ∨ d = 2 by omega) with z | z | z
        · subst z; exact met0 e hN
        · subst z; exact met1 e hN
        · subst z
          unfold px_N at hN
          rw [if_pos rfl, hrs] at hN
          cases hN
      · refine ⟨fun z => absurd z x30, fun _ => ?_⟩
        rw [eq1, mx_11, mx_10, pk_div (by omega) (by omega) (by omega), pk_rem (by omega) (by omega) (by omega)]
        have hK2 := b1.k (a1.k hK)
        refine sp7_rested hR hK2.1 ht (by omega) ⟨vp_in_nI (by omega) (by omega), ?_⟩
        rw [show (110 : Int32) = nI 110 from rfl, pk_div (by omega) (by omega) (by omega), nI_clamp (by omega)]
        have hN2 : px_N R t g f ice rs 2 (q2 h) = some (110 * (q h / 110) + 11 * px_restW (R 4 t) (q h / 11 % 10) + 0) := by
          unfold px_N
          rw [if_pos rfl, hrs, eq2, eq1]
          rfl
        have hrw := px_restW_b (b := R 4 t) (w := q h / 11 % 10)
        have hbr := (hR.2.2.2 t ht).2.1
        rw [show μ2.1 10 (q h) = μ2.1 10 (q2 h) by rw [eq2, eq1]]
        refine sp7_meetJ (d := 2) (o := 0) hR b2 b3 h2 (by omega) (by omega) (by omega) (by omega) hN2 (px_rs_p hR ht hv).2.2.2 (fun μ3 q3 m3 D3 c1 c2 c3 c4 c5 => ?_)
        have h3 : h < m3 := by have := c4.1; omega
        have eq3 : q3 h = q2 h := (c4.2 h h2).1
        unfold wq_X7_spread_b153
        intro v19 e19
        rw [e19, nI_1]
        refine ih (h + 1) μ3 q3 m3 D3 (by omega) (by omega) (((hfr.tr a1).tr b1).tr c1) (c1.k hK2) (qJ_next c2 h3 (fun d e hd hN => ?_)) c3
        rw [eq3] at hN
        rcases (show d = 0 ∨ d = 1 ∨ d = 2 by omega) with z | z | z
        · subst z
          rw [eq2, eq1] at hN
          exact c4.met h2 (met0 e hN)
        · subst z
          rw [eq2, eq1] at hN
          exact c4.met h2 (met1 e hN)
        · subst z
          rw [hN2] at hN
          rw [← Option.some.inj hN]
          exact c5
/-- the state in which a traveller stands -/
def px_s0 (S : Nat → Nat → Nat) (t : Nat) : Nat := 110 * S 0 t + 11 * S 1 t + S 2 1
theorem px_s0_v {R S : Nat → Nat → Nat} {t : Nat} (hR : rOK R) (hS : sOK R S) (ht : t < R 1 0) : vOK R t (px_s0 S t) ∧ px_s0 S t / 110 = S 0 t ∧ px_s0 S t / 11 % 10 = S 1 t ∧ px_s0 S t % 11 = S 2 1 := vOK_mk hR ht (hS.1 t ht).1 (hS.1 t ht).2 hS.2.2.1
theorem sp7_spread {R S : Nat → Nat → Nat} {t lv g ice : Nat} {rs : Bool} {x3 c : Int32} {μ : gq_M} {Q : gq_M → Prop} (hR : rOK R) (hS : sOK R S) (ht : t < R 1 0) (hl : lv ≤ 1) (hm : mRd μ R) (hmS : mSt μ 5 (14 * lv) R S c) (hg : g < 1024) (hice : ice < 1024) (hi : μ.1 0 15 = nI ice) (hx3 : (x3 = 0 ∧ rs = false) ∨ (¬ x3 = 0 ∧ rs = true)) (hQ : ∀ ν q m D, fxM μ ν → (∀ c, c ≠ 0 → c ≠ 10 → c ≠ 11 → ν.1 c = μ.1 c) → qJ (vOK R t) (px_N R t g (S 2 2) ice rs) (px_s0 S t) q m D m → QM ν q m D → Q ν) : wq_X7_spread (nI lv) (nI t) x3 (nI g) μ Q := by
  have hT := hR.2.1
  have hv := px_s0_v hR hS ht
  have hp := (hS.1 t ht).1
  have hw := (hS.1 t ht).2
  have hbr := (hR.2.2.2 t ht).2.1
  have hP := hR.1
  have ho := hS.2.2.1
  unfold wq_X7_spread
  intro v1 e1
  rw [mx_14, pk_mul] at e1
  subst e1
  refine sp7_spread_l9 (fun μ1 a1 a2 => ?_)
  rw [nI_add, mx_5, nI_add, nI_add, mx_11, nI_add, nI_clamp (by omega), nI_clamp (by omega), nI_clamp (by omega)]
  refine ⟨vp_in_nI (by omega) (by omega), vp_in_nI (by omega) (by omega), vp_in_nI (by omega) (by omega), ?_⟩
  generalize eν : gq_put (gq_put μ1 0 21 0) 0 22 (nI g) = μ2
  have r0 : ∀ j, j ≠ 21 → j ≠ 22 → μ2.1 0 j = μ.1 0 j := fun j x y => by rw [← eν, mx_0j y, mx_0j x, a1.1 0 (by omega)]
  have ro : ∀ c, c ≠ 0 → c ≠ 10 → μ2.1 c = μ.1 c := fun c x y => by rw [← eν, gq_put_other _ _ _ _ x, gq_put_other _ _ _ _ x, a1.1 c y]
  have r10 : ∀ j, j < 1210 → μ2.1 10 j = -9 := fun j hj => by rw [← eν, mx_ro (by omega), mx_ro (by omega)]; exact a2 j hj
  have r21 : μ2.1 0 21 = nI 0 := by rw [← eν, mx_0j (by omega), mx_0s]; rfl
  have r22 : μ2.1 0 22 = nI g := by rw [← eν, mx_0s]
  have f2 : fxM μ μ2 := ⟨fun c x1 _ _ _ x5 _ _ => ro c x1 x5, fun j _ => by rw [ro 5 (by omega) (by omega)], fun j _ _ _ _ x y => r0 j x y, by rw [← eν]; exact a1.2⟩
  rw [ro 5 (by omega) (by omega), (hmS.1 t ht).1, (hmS.1 t ht).2, hmS.2.2.1]
  have hM0 : QM μ2 (fun _ => 0) 0 (fun _ => 0) := ⟨r21, fun i hi => absurd hi (by omega), fun e he _ => r10 e he, fun i hi => absurd hi (by omega)⟩
  have hK2 : gK μ2 R lv g (S 2 2) ice := by
    refine ⟨?_, by rw [ro 5 (by omega) (by omega)]; exact hmS.2.2.2.1, r22, by rw [r0 15 (by omega) (by omega)]; exact hi⟩
    unfold mRd at *
    rw [r0 0 (by omega) (by omega), r0 1 (by omega) (by omega), ro 1 (by omega) (by omega), ro 2 (by omega) (by omega), ro 3 (by omega) (by omega), ro 4 (by omega) (by omega)]
    exact hm
  rw [mx_0]
  refine sp7_meetState (by omega) (by omega) (by omega) (fun i hi => absurd hi (by omega)) (fun i hi => absurd hi (by omega)) hM0 (fun _ => by omega) (fun j hj => absurd hj (by omega)) (fun _ ν b1 b2 => ?_)
  have hst : qJ (vOK R t) (px_N R t g (S 2 2) ice rs) (px_s0 S t) (px_up (fun _ => 0) 0 (px_s0 S t)) (0 + 1) (px_up (fun _ => 0) (px_s0 S t) 0) 0 := by
    have z0 : ∀ i, i < 0 + 1 → px_up (fun _ => 0) 0 (px_s0 S t) i = px_s0 S t := fun i hi => by
      rw [show i = 0 by omega]; exact px_up_s
    have zD : px_up (fun _ => 0) (px_s0 S t) 0 (px_s0 S t) = 0 := px_up_s
    refine ⟨⟨by omega, z0 0 (by omega)⟩, fun i hi => by rw [z0 i hi]; exact hv.1, fun i j h1 h2 => by omega, fun i hi => ?_, fun i j h1 h2 => ?_, fun i hi _ => ?_, fun i hi => absurd hi (by omega), fun i hi => ?_⟩
    · rw [z0 i hi, zD]; rfl
    · rw [z0 i (by omega), z0 j h2]; exact Nat.le_refl _
    · rw [z0 i hi, zD]; omega
    · rw [z0 i hi, zD]; omega
  exact ⟨1211, sp7_spread_l81 (μ0 := μ2) hR ht hl hg hS.2.2.2 hice hx3 (fun ξ q m D c1 c2 c3 => hQ ξ q m D (c1.fx f2) (fun c a b d => (c1.1 c a b d).trans (ro c a b)) c2 c3) 1210 0 ν _ _ _ (by omega) (by omega) b1 (b1.k hK2) hst b2⟩
/-- the places to which steps alone lead, as bits -/
def isMask (R S : Nat → Nat → Nat) (t g ice M : Nat) : Prop := M < 2048 ∧ ∀ p, M.testBit p = true ↔ ∃ n e, px_at (px_N R t g (S 2 2) ice false) (px_s0 S t) n e ∧ e / 110 = p
theorem isMask_u {R S : Nat → Nat → Nat} {t g ice M M' : Nat} (h : isMask R S t g ice M) (h' : isMask R S t g ice M') : M = M' := by
  apply Nat.eq_of_testBit_eq
  intro i
  have a := h.2 i
  have b := h'.2 i
  rw [Bool.eq_iff_iff]
  exact a.trans b.symm
theorem qJ_mask {R S : Nat → Nat → Nat} {t g ice m : Nat} {q D : Nat → Nat} (hR : rOK R) (hJ : qJ (vOK R t) (px_N R t g (S 2 2) ice false) (px_s0 S t) q m D m) : isMask R S t g ice (px_orr (fun i => q i / 110) m) := by
  have hP := hR.1
  refine ⟨px_orr_lt (b := 11) m (fun i hi => by have := (hJ.2.1 i hi).1; omega), fun p => ?_⟩
  rw [px_orr_bit]
  constructor
  · rintro ⟨i, hi, e⟩
    exact ⟨_, _, hJ.2.2.2.1 i hi, e⟩
  · rintro ⟨n, e, h1, h2⟩
    obtain ⟨j, hj, a, _⟩ := qJ_all hJ n e h1
    exact ⟨j, hj, by rw [a]; exact h2⟩
theorem sp7_reachOn {R S : Nat → Nat → Nat} {t lv g ice : Nat} {c : Int32} {μ : gq_M} {Q : Int32 → gq_M → Prop} (hR : rOK R) (hS : sOK R S) (ht : t < R 1 0) (hl : lv ≤ 1) (hm : mRd μ R) (hmS : mSt μ 5 (14 * lv) R S c) (hg : g < 1024) (hice : ice < 1024) (hi : μ.1 0 15 = nI ice) (hQ : ∀ ν M, fxM μ ν → (∀ c, c ≠ 0 → c ≠ 10 → c ≠ 11 → ν.1 c = μ.1 c) → isMask R S t g ice M → Q (nI M) ν) : wq_X7_reachOn (nI lv) (nI t) (nI g) μ Q := by
  have hP := hR.1
  unfold wq_X7_reachOn
  refine sp7_spread (rs := false) hR hS ht hl hm hmS hg hice hi (Or.inl ⟨rfl, rfl⟩) (fun ν q m D a1 a1' a2 a3 => ?_)
  have hlt := qJ_lt hR a2
  have key : ∀ n k, k + n = m → wq_X7_reachOn_l14 Q (fun e6 σ7 => Q e6 σ7) (n + 1) (nI (px_orr (fun i => q i / 110) k)) (nI k) ν := by
    intro n
    induction n with
    | zero =>
      intro k hk
      obtain rfl : k = m := by omega
      unfold wq_X7_reachOn_l14
      rw [a3.1]
      exact ⟨fun _ => hQ ν _ a1 a1' (qJ_mask hR a2), fun z => absurd (Int32.le_refl _) z⟩
    | succ n ih =>
      intro k hk
      have hv := (a2.2.1 k (by omega))
      have he := vOK_lt hR hv
      unfold wq_X7_reachOn_l14
      rw [a3.1, nI_leI (by omega) (by omega), nI_clamp (by omega), a3.2.1 k (by omega), show (110 : Int32) = nI 110 from rfl, pk_div (by omega) (by omega) (by omega), mx_shl (by have := hv.1; omega), mx_or]
      refine ⟨fun z => by omega, fun _ => ⟨vp_in_nI (by omega) (by omega), fun v4 e4 v5 e5 => ?_⟩⟩
      rw [e4, e5, nI_1]
      exact ih (k + 1) (by omega)
  exact ⟨m + 1, key m 0 (by omega)⟩
