/-! ===== maths 37: two who step: the model's gains ===== -/
def px_chB (R S : Nat → Nat → Nat) (t a : Nat) : Bool := decide (a < 2) && px_can R S t (decide (a = 1))
def px_chS (R S : Nat → Nat → Nat) (t a : Nat) : Nat → Nat → Nat := if px_chB R S t a then (match px_pl (R 0 0) (S 0 t) (decide (a = 1)) with
  | some k => px_step R S t (decide (a = 1)) k
  | none => S) else S
theorem px_ch_no {R S : Nat → Nat → Nat} {t a : Nat} (h : px_chB R S t a = false) : px_chS R S t a = S := by
  unfold px_chS
  rw [h]
  rfl
theorem px_ch_yes {R S : Nat → Nat → Nat} {t a : Nat} (h : px_chB R S t a = true) : a < 2 ∧ px_can R S t (decide (a = 1)) = true ∧ ∃ k, px_pl (R 0 0) (S 0 t) (decide (a = 1)) = some k ∧ px_pay (R 5 t) (px_cost R k (S 2 1) (S 2 0) (S 2 2) 0) ≤ S 1 t ∧ px_chS R S t a = px_step R S t (decide (a = 1)) k := by
  have h' := h
  unfold px_chB at h'
  rw [Bool.and_eq_true, decide_eq_true_eq] at h'
  obtain ⟨k, h1, h2⟩ := px_can_t h'.2
  refine ⟨h'.1, h'.2, k, h1, h2, ?_⟩
  unfold px_chS
  rw [h, h1]
  rfl
theorem sOK_ch {R S : Nat → Nat → Nat} {t a : Nat} (hS : sOK R S) (ht : t < R 1 0) : sOK R (px_chS R S t a) := by
  cases h : px_chB R S t a with
  | false => rw [px_ch_no h]; exact hS
  | true =>
    obtain ⟨_, _, k, h1, _, h3⟩ := px_ch_yes h
    rw [h3]
    exact sOK_step hS ht h1
theorem px_on0 : px_on 0 = false := by unfold px_on; simp
theorem px_on1 : px_on 1 = true := by unfold px_on; simp
theorem sp7_choose {R S : Nat → Nat → Nat} {t a : Nat} {c : Int32} {μ : gq_M} {Q : Int32 → gq_M → Prop} (hR : rOK R) (hS : sOK R S) (ht : t < R 1 0) (ha : a < 3) (hm : mRd μ R) (hmS : mSt μ 5 14 R S c) (hi : μ.1 0 15 = nI 0) (hQ : ∀ ν c', mSt ν 5 14 R (px_chS R S t a) c' → fM μ ν 14 → Q (if px_chB R S t a then 1 else 0) ν) : wq_X7_choose (nI t) (nI a) μ Q := by
  have hT := hR.2.1
  unfold wq_X7_choose
  rw [mx_2, nI_leI (by omega) (by omega), mx_1, nI_eq (by omega) (by omega), ← mx_1]
  have no : px_chB R S t a = false → wq_X7_choose_b29 Q (nI t) (nI a) 0 μ := by
    intro h
    have q := hQ μ c (by rw [px_ch_no h]; exact hmS) fM.rf
    rw [h] at q
    exact ⟨fun _ => ⟨Or.inl rfl, q⟩, fun z => absurd rfl z⟩
  have b18 : ∀ d : Int32, a < 2 → px_on d = decide (a = 1) → (d = 0 ∧ ¬ a = 1 ∨ d = 1 ∧ a = 1) → wq_X7_choose_b18 Q (nI t) (nI a) 1 (nI t) d μ := by
    intro d ha2 hd hd2
    unfold wq_X7_choose_b18
    refine sp7_canStep (lv := 1) hR hm (by omega) hS hmS hi (fun u hu e => ?_) (fun v => absurd (vp_in_nI ht (by omega)) v)
    rw [nI_eq (by omega) (by omega)] at e
    subst e
    rw [hd]
    cases hc : px_can R S t (decide (a = 1)) with
    | false => exact ⟨fun _ => no (by unfold px_chB; rw [hc, Bool.and_false]), fun z => absurd rfl z⟩
    | true =>
      refine ⟨fun z => absurd z (by decide), fun _ => ?_⟩
      have hB : px_chB R S t a = true := by unfold px_chB; rw [hc, decide_eq_true ha2]; rfl
      obtain ⟨_, _, k, h1, h2, h3⟩ := px_ch_yes hB
      have st : wq_X7_stepOn 1 (nI t) d μ (fun σ5 => (gq_b 1 ∧ Q 1 σ5)) := by
        refine sp7_stepOn (lv := 1) hR hm (by omega) hS hmS hi ht (by rw [hd]; exact h1) h2 (fun ν x y => ⟨Or.inr rfl, ?_⟩)
        have q := hQ ν _ (by rw [h3, ← hd]; exact x) y
        rw [hB] at q
        exact q
      unfold wq_X7_choose_b29 wq_X7_choose_b47
      rw [mx_1, nI_eq (by omega) (by omega), ← mx_1]
      refine ⟨fun z => absurd z (by decide), fun _ => ⟨fun z => ?_, fun z => ?_⟩⟩
      · rcases hd2 with ⟨g, _⟩ | ⟨_, g⟩
        · rw [g] at st; exact st
        · exact absurd g z
      · rcases hd2 with ⟨_, g⟩ | ⟨g, _⟩
        · exact absurd z g
        · rw [g] at st; exact st
  refine ⟨fun z => no (by unfold px_chB; rw [decide_eq_false (by omega : ¬ a < 2)]; rfl), fun z => ⟨fun y => b18 0 (by omega) (by rw [px_on0, decide_eq_false y]) (Or.inl ⟨rfl, y⟩), fun y => b18 1 (by omega) (by rw [px_on1, decide_eq_true y]) (Or.inr ⟨rfl, y⟩)⟩⟩
/-- how both stand behind their choices -/
def px_S2 (R S : Nat → Nat → Nat) (one other a b : Nat) : Nat → Nat → Nat := px_chS R (px_chS R S one a) other b
noncomputable def px_gp (R S2 : Nat → Nat → Nat) (mine theirs : Nat) : Nat := if S2 0 mine = S2 0 theirs then 0 else 2 + 4 * (if (px_mask R S2 mine (S2 2 0) 0).testBit (S2 0 theirs) then 1 else 0)
noncomputable def px_g (R S : Nat → Nat → Nat) (one other a b : Nat) (first : Bool) : Nat := if first then (if px_chB R S one a then 1 else 0) + px_gp R (px_S2 R S one other a b) one other else (if px_chB R (px_chS R S one a) other b then 1 else 0) + px_gp R (px_S2 R S one other a b) other one
theorem px_gp_le {R S2 : Nat → Nat → Nat} {m t : Nat} : px_gp R S2 m t ≤ 6 := by
  unfold px_gp
  split
  · omega
  · split <;> omega
theorem px_g_le {R S : Nat → Nat → Nat} {one other a b : Nat} {first : Bool} : px_g R S one other a b first ≤ 7 := by
  have h1 := px_gp_le (R := R) (S2 := px_S2 R S one other a b) (m := one) (t := other)
  have h2 := px_gp_le (R := R) (S2 := px_S2 R S one other a b) (m := other) (t := one)
  unfold px_g
  split
  · split <;> omega
  · split <;> omega
theorem sp7_gain_b43 {R S2 : Nat → Nat → Nat} {t its : Nat} {m1 m2 fst : Bool} {c : Int32} {μ : gq_M} {Q : Int32 → gq_M → Prop} (hR : rOK R) (hS : sOK R S2) (ht : t < R 1 0) (hi2 : its < R 1 0) (hm : mRd μ R) (hmS : mSt μ 5 14 R S2 c) (hi : μ.1 0 15 = nI 0) (hQ : ∀ ν, fxM μ ν → Q (nI ((if (if fst then m1 else m2) then 1 else 0) + px_gp R S2 t its)) ν) : wq_X7_gain_b43 Q (if fst then 1 else 0) (if m1 then 1 else 0) (if m2 then 1 else 0) (nI t) (nI its) μ := by
  have hT := hR.2.1
  have hP := hR.1
  have p1 := (hS.1 t ht).1
  have p2 := (hS.1 its hi2).1
  have e1 := (hmS.1 t ht).1
  have e2 := (hmS.1 its hi2).1
  unfold wq_X7_gain_b43
  rw [mx_14, nI_add, nI_add, nI_clamp (by omega), nI_clamp (by omega), e1, e2, nI_eq (by omega) (by omega)]
  have b127 : ∀ (ν : gq_M) (x11 s0 : Int32) (y z : Nat), x11 = nI y → (y = 0 ∨ y = 1) → s0 = nI z → Q (nI ((if (if fst then m1 else m2) then 1 else 0) + (z + 4 * y))) ν → wq_X7_gain_b127 Q (if fst then 1 else 0) (if m1 then 1 else 0) (if m2 then 1 else 0) x11 s0 ν := by
    intro ν x11 s0 y z hx hy hs hq
    have b150 : ∀ (w : Nat), w ≤ 1 → (if (if fst then m1 else m2) then 1 else 0) = w → wq_X7_gain_b150 Q x11 s0 (nI w) ν := by
      intro w hw hw2
      unfold wq_X7_gain_b150
      rw [hw2] at hq
      rw [hx, hs, nI_add]
      rcases hy with g | g
      · subst g
        refine ⟨fun _ => ?_, fun q => absurd rfl q⟩
        rw [mx_0, nI_add, show z + w + 0 = w + (z + 4 * 0) by omega]
        exact hq
      · subst g
        refine ⟨fun q => absurd q (by decide), fun _ => ?_⟩
        rw [mx_4, nI_add, show z + w + 4 = w + (z + 4 * 1) by omega]
        exact hq
    unfold wq_X7_gain_b127
    cases fst with
    | true =>
      refine ⟨fun q => absurd q (by decide), fun _ => ?_⟩
      cases m1 with
      | true => exact ⟨fun q => absurd q (by decide), fun _ => b150 1 (by omega) rfl⟩
      | false => exact ⟨fun _ => b150 0 (by omega) rfl, fun q => absurd rfl q⟩
    | false =>
      refine ⟨fun _ => ?_, fun q => absurd rfl q⟩
      cases m2 with
      | true => exact ⟨fun q => absurd q (by decide), fun _ => b150 1 (by omega) rfl⟩
      | false => exact ⟨fun _ => b150 0 (by omega) rfl, fun q => absurd rfl q⟩
  refine ⟨vp_in_nI (by omega) (by omega), vp_in_nI (by omega) (by omega), fun q => ?_, fun q => ?_⟩
  · have h := hQ μ fxM.rf
    unfold px_gp at h
    rw [if_pos q] at h
    unfold wq_X7_gain_b73 wq_X7_gain_b115
    exact ⟨fun _ => ⟨fun _ => b127 μ 0 0 0 0 rfl (Or.inl rfl) rfl h, fun z => absurd rfl z⟩, fun z => absurd rfl z⟩
  · unfold wq_X7_gain_b73 wq_X7_gain_b115
    refine ⟨fun z => absurd z (by decide), fun _ => ?_⟩
    have e24 : μ.1 5 24 = nI (S2 2 0) := hmS.2.1
    rw [e24]
    refine sp7_reach (lv := 1) (ice := 0) hR hS ht (by omega) hm hmS hS.2.1 (by omega) hi (fun ν a b => ?_)
    have h := hQ ν a
    unfold px_gp at h
    rw [if_neg q] at h
    have hml := px_mask_lt (R := R) (S := S2) (t := t) (g := S2 2 0) (ice := 0)
    rw [mx_14, nI_add, nI_clamp (by omega), b 5 (by omega) (by omega) (by omega), e2]
    refine ⟨vp_in_nI (by omega) (by omega), sp7_has (by omega) (by omega) (fun hb => ⟨fun z => absurd z (by decide), fun _ => ⟨fun z => absurd z (by decide), fun _ => ?_⟩⟩) (fun hb => ⟨fun _ => ⟨fun z => absurd z (by decide), fun _ => ?_⟩, fun z => absurd rfl z⟩)⟩
    · rw [hb] at h
      exact b127 ν 1 2 1 2 rfl (Or.inr rfl) rfl h
    · rw [hb] at h
      exact b127 ν 0 2 0 2 rfl (Or.inl rfl) rfl h
theorem sp7_gain {R S : Nat → Nat → Nat} {one other a b : Nat} {fst : Bool} {c : Int32} {μ : gq_M} {Q : Int32 → gq_M → Prop} (hR : rOK R) (hS : sOK R S) (h1 : one < R 1 0) (h2 : other < R 1 0) (ha : a < 3) (hb : b < 3) (hm : mRd μ R) (hmS : mSt μ 5 0 R S c) (hi : μ.1 0 15 = nI 0) (hQ : ∀ ν, fxM μ ν → Q (nI (px_g R S one other a b fst)) ν) : wq_X7_gain (nI one) (nI other) (nI a) (nI b) (if fst then 1 else 0) μ Q := by
  unfold wq_X7_gain
  refine sp7_layTrial (fun μ1 f1 g1 => ?_)
  have hm1 := f1.rd hm
  have hs1 : mSt μ1 5 14 R S c := mSt_cpy (a2 := 5) (b2 := 0) hR g1 hmS
  have hi1 : μ1.1 0 15 = nI 0 := by rw [f1.1 0 (by omega)]; exact hi
  refine sp7_choose hR hS h1 ha hm1 hs1 hi1 (fun μ2 c2 s2 f2 => ?_)
  have hm2 := f2.rd hm1
  have hi2 : μ2.1 0 15 = nI 0 := by rw [f2.1 0 (by omega)]; exact hi1
  have hS1 := sOK_ch (a := a) hS h1
  refine sp7_choose hR hS1 h2 hb hm2 s2 hi2 (fun μ3 c3 s3 f3 => ?_)
  have hm3 := f3.rd hm2
  have hi3 : μ3.1 0 15 = nI 0 := by rw [f3.1 0 (by omega)]; exact hi2
  have hS2 := sOK_ch (a := b) hS1 h2
  have fr : fxM μ μ3 := fxM.of ((f1.tr f2).tr f3)
  unfold wq_X7_gain_b31
  cases fst with
  | true =>
    refine ⟨fun q => absurd q (by decide), fun _ => ⟨fun q => absurd q (by decide), fun _ => ?_⟩⟩
    refine sp7_gain_b43 (fst := true) hR hS2 h1 h2 hm3 s3 hi3 (fun ν g => ?_)
    exact hQ ν (fr.tr g)
  | false =>
    refine ⟨fun _ => ⟨fun _ => ?_, fun q => absurd rfl q⟩, fun q => absurd rfl q⟩
    refine sp7_gain_b43 (fst := false) hR hS2 h2 h1 hm3 s3 hi3 (fun ν g => ?_)
    exact hQ ν (fr.tr g)
/-- a pair at rest, as far as k -/
def px_ar (G1 G2 : Nat → Nat → Nat) (a b : Nat) : Nat → Bool
  | 0 => true
  | k + 1 => px_ar G1 G2 a b k && (decide (G1 k b ≤ G1 a b) && decide (G2 a k ≤ G2 a b))
theorem px_ar_no {G1 G2 : Nat → Nat → Nat} {a b k : Nat} (h : px_ar G1 G2 a b k = false) : ∀ n, px_ar G1 G2 a b (k + n) = false
  | 0 => h
  | n + 1 => by
    show (px_ar G1 G2 a b (k + n) && _) = false
    rw [px_ar_no h n]; rfl
theorem sp7_isRest {R S : Nat → Nat → Nat} {one other a b : Nat} {c : Int32} {μ : gq_M} {Q : Int32 → gq_M → Prop} (hR : rOK R) (hS : sOK R S) (h1 : one < R 1 0) (h2 : other < R 1 0) (ha : a < 3) (hb : b < 3) (hm : mRd μ R) (hmS : mSt μ 5 0 R S c) (hi : μ.1 0 15 = nI 0) (hQ : ∀ ν, fxM μ ν → Q (if px_ar (fun x y => px_g R S one other x y true) (fun x y => px_g R S one other x y false) a b 3 then 1 else 0) ν) : wq_X7_isRest (nI one) (nI other) (nI a) (nI b) μ Q := by
  unfold wq_X7_isRest
  generalize eG1 : (fun x y => px_g R S one other x y true) = G1 at hQ
  generalize eG2 : (fun x y => px_g R S one other x y false) = G2 at hQ
  have g1 : ∀ x y, px_g R S one other x y true = G1 x y := fun x y => by rw [← eG1]
  have g2 : ∀ x y, px_g R S one other x y false = G2 x y := fun x y => by rw [← eG2]
  have l1 : ∀ x y, G1 x y ≤ 7 := fun x y => by rw [← g1]; exact px_g_le
  have l2 : ∀ x y, G2 x y ≤ 7 := fun x y => by rw [← g2]; exact px_g_le
  have key : ∀ m k ν, k + m = 3 → fxM μ ν → wq_X7_isRest_l6 Q (fun e14 σ15 => (gq_b e14 ∧ Q e14 σ15)) (m + 1) (nI one) (nI other) (nI a) (nI b) (if px_ar G1 G2 a b k then 1 else 0) (nI k) ν := by
    intro m
    induction m with
    | zero =>
      intro k ν hk hf
      obtain rfl : k = 3 := by omega
      unfold wq_X7_isRest_l6
      exact ⟨fun _ => ⟨mx_b01 _, hQ ν hf⟩, fun q => absurd (by decide) q⟩
    | succ m ih =>
      intro k ν hk hf
      have nxt := fun ν2 h => ih (k + 1) ν2 (by omega) h
      have unf : px_ar G1 G2 a b (k + 1) = (px_ar G1 G2 a b k && (decide (G1 k b ≤ G1 a b) && decide (G2 a k ≤ G2 a b))) := rfl
      rw [unf] at nxt
      unfold wq_X7_isRest_l6 wq_X7_isRest_b69
      rw [mx_3, nI_leI (by omega) (by omega)]
      refine ⟨fun q => by omega, fun _ => ?_⟩
      cases hx : px_ar G1 G2 a b k with
      | false =>
        refine ⟨fun _ v3 e3 => ?_, fun z => absurd rfl z⟩
        have := nxt ν hf
        rw [hx] at this
        rw [e3, nI_1]; exact this
      | true =>
        refine ⟨fun z => absurd z (by decide), fun _ => ?_⟩
        refine sp7_gain (fst := true) hR hS h1 h2 (by omega) hb (hf.rd hm) (hf.st hR hmS) (hf.ic hi) (fun ν2 f2 => ?_)
        have f2' := hf.tr f2
        refine sp7_gain (fst := true) hR hS h1 h2 ha hb (f2'.rd hm) (f2'.st hR hmS) (f2'.ic hi) (fun ν3 f3 => ?_)
        have f3' := f2'.tr f3
        have a1 := l1 k b
        have a2 := l1 a b
        have a3 := l2 a k
        have a4 := l2 a b
        rw [g1, g1, nI_ltI (by omega) (by omega)]
        refine ⟨fun z v3 e3 => ?_, fun z => ?_⟩
        · have := nxt ν3 f3'
          rw [hx, decide_eq_false (by omega : ¬ G1 k b ≤ G1 a b)] at this
          rw [e3, nI_1]; exact this
        · refine sp7_gain (fst := false) hR hS h1 h2 ha (by omega) (f3'.rd hm) (f3'.st hR hmS) (f3'.ic hi) (fun ν4 f4 => ?_)
          have f4' := f3'.tr f4
          refine sp7_gain (fst := false) hR hS h1 h2 ha hb (f4'.rd hm) (f4'.st hR hmS) (f4'.ic hi) (fun ν5 f5 => ?_)
          have f5' := f4'.tr f5
          rw [g2, g2, nI_ltI (by omega) (by omega)]
          have := nxt ν5 f5'
          rw [hx, decide_eq_true (by omega : G1 k b ≤ G1 a b)] at this
          refine ⟨fun y v3 e3 => ?_, fun y v3 e3 => ?_⟩
          · rw [decide_eq_false (by omega : ¬ G2 a k ≤ G2 a b)] at this
            rw [e3, nI_1]; exact this
          · rw [decide_eq_true (by omega : G2 a k ≤ G2 a b)] at this
            rw [e3, nI_1]; exact this
  exact ⟨4, key 3 0 μ (by omega) fxM.rf⟩
