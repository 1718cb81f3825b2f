/-! ===== maths 31: counted bits; wants ===== -/
def px_bc (a : Int32) : Int32 :=
  let v1 := (a - (((a).toUInt32 >>> (((1 : Int32)).toUInt32 &&& Int32.toUInt32 31)).toInt32 &&& 1431655765))
  let v2 := ((v1 &&& 858993459) + (((v1).toUInt32 >>> (((2 : Int32)).toUInt32 &&& Int32.toUInt32 31)).toInt32 &&& 858993459))
  let v3 := ((v2 + ((v2).toUInt32 >>> (((4 : Int32)).toUInt32 &&& Int32.toUInt32 31)).toInt32) &&& 252645135)
  let v4 := (v3 + ((v3).toUInt32 >>> (((8 : Int32)).toUInt32 &&& Int32.toUInt32 31)).toInt32)
  let v5 := (v4 + ((v4).toUInt32 >>> (((16 : Int32)).toUInt32 &&& Int32.toUInt32 31)).toInt32)
  v5 &&& 63
theorem mx_bc : ∀ n, n < 1024 → px_bc (nI n) = nI (px_pc n 11) := by decide +kernel
theorem sp6_bitCount {n : Nat} {σ : gq_M} {Q : Int32 → gq_M → Prop} (hn : n < 1024) (h : Q (nI (px_pc n 11)) σ) : wq_J6_bitCount_0f7a4 (nI n) σ Q := by
  rw [← mx_bc n hn] at h
  unfold wq_J6_bitCount_0f7a4
  intro v1 e1 v2 e2 v3 e3 v4 e4 v5 e5
  subst e1 e2 e3 e4 e5
  exact h
theorem px_pc_lt {s P : Nat} (h : s < 2 ^ P) : ∀ n, px_pc s n ≤ P
  | 0 => by unfold px_pc; omega
  | n + 1 => by
    rcases Nat.lt_or_ge n P with z | z
    · have := px_pc_le s (n + 1)
      omega
    · have := px_pc_lt h n
      unfold px_pc
      have hb : s.testBit n = false := Nat.testBit_lt_two_pow (Nat.lt_of_lt_of_le h (Nat.pow_le_pow_right (by omega) z))
      rw [hb]
      simpa using this
/-- sets of pleats that, greased, bring one to place p -/
def px_gs (R S : Nat → Nat → Nat) (t p s : Nat) : Prop := s &&& S 2 0 = 0 ∧ (px_mask R S t (S 2 0 ||| s) 0).testBit p = true
def px_best (R S : Nat → Nat → Nat) (t p k b : Nat) : Prop := b < k ∧ px_gs R S t p b ∧ ∀ s, s < k → px_gs R S t p s → px_pc b 11 < px_pc s 11 ∨ (px_pc b 11 = px_pc s 11 ∧ b ≤ s)
theorem px_best_u {R S : Nat → Nat → Nat} {t p k b b' : Nat} (h : px_best R S t p k b) (h' : px_best R S t p k b') : b = b' := by
  have a := h.2.2 b' h'.1 h'.2.1
  have c := h'.2.2 b h.1 h.2.1
  omega
theorem sp7_wants {R S : Nat → Nat → Nat} {t p : Nat} {c : Int32} {μ : gq_M} {Q : Int32 → gq_M → Prop} (hR : rOK R) (hS : sOK R S) (ht : t < R 1 0) (hp : p ≤ 10) (hm : mRd μ R) (hmS : mSt μ 5 0 R S c) (hi : μ.1 0 15 = nI 0) (h1 : ∀ b, px_best R S t p (2 ^ R 0 0) b → ∀ ν, fxM μ ν → Q (nI b) ν) (h2 : (∀ s, s < 2 ^ R 0 0 → ¬ px_gs R S t p s) → ∀ ν, fxM μ ν → Q (-9) ν) : ∃ n24, wq_X7_wants_l24 Q (fun e22 σ23 => Q e22 σ23) n24 (nI t) (nI p) (-9) 0 μ := by
  have hP := hR.1
  have hg := hS.2.1
  have h2p : 2 ^ R 0 0 ≤ 2 ^ 10 := Nat.pow_le_pow_right (by omega) hP
  have key : ∀ n k ν x3, k + n = 2 ^ R 0 0 → fxM μ ν → ((x3 = -9 ∧ ∀ s, s < k → ¬ px_gs R S t p s) ∨ ∃ b, x3 = nI b ∧ px_best R S t p k b) → wq_X7_wants_l24 Q (fun e22 σ23 => Q e22 σ23) (n + 1) (nI t) (nI p) x3 (nI k) ν := by
    intro n
    induction n with
    | zero =>
      intro k ν x3 hk hf hb
      have hk' : k = 2 ^ R 0 0 := by omega
      unfold wq_X7_wants_l24
      rw [(hf.rd hm).1, mx_shl (by omega), nI_leI (by omega) (by omega)]
      refine ⟨fun _ => ?_, fun q => by omega⟩
      rw [hk'] at hb
      rcases hb with ⟨e, g⟩ | ⟨b, e, g⟩
      · rw [e]; exact h2 g ν hf
      · rw [e]; exact h1 b g ν hf
    | succ n ih =>
      intro k ν x3 hk hf hb
      have hk' : k < 2 ^ R 0 0 := by omega
      have e10 : ν.1 5 10 = nI (S 2 0) := (hf.st hR hmS).2.1
      have hand : k &&& S 2 0 ≤ k := Nat.and_le_left
      have hor : S 2 0 ||| k < 1024 := Nat.or_lt_two_pow (n := 10) hg (by omega)
      unfold wq_X7_wants_l24
      rw [(hf.rd hm).1, mx_shl (by omega), nI_leI (by omega) (by omega), e10, mx_and, mx_0, nI_eq (by omega) (by omega)]
      refine ⟨fun q => by omega, fun _ => ?_⟩
      -- left as it is
      have skip : ∀ ν2, fxM ν ν2 → (px_gs R S t p k → ∃ b, x3 = nI b ∧ px_best R S t p k b ∧ px_pc b 11 ≤ px_pc k 11) → wq_X7_wants_b107 Q (wq_X7_wants_l24 Q (fun e22 σ23 => Q e22 σ23) (n + 1)) (nI t) (nI p) (nI k) x3 ν2 := by
        intro ν2 hf2 hno
        unfold wq_X7_wants_b107
        intro v10 ev
        rw [ev, nI_1]
        refine ih (k + 1) ν2 x3 (by omega) (hf.tr hf2) ?_
        rcases hb with ⟨e, g⟩ | ⟨b, e, g⟩
        · refine Or.inl ⟨e, fun s hs => ?_⟩
          rcases Nat.lt_or_ge s k with z | z
          · exact g s z
          · rw [show s = k by omega]
            intro y
            obtain ⟨b, eb, _⟩ := hno y
            have hbk : b < k := by
              obtain ⟨b', eb', gb', _⟩ := hno y
              have hb' := gb'.1
              rw [e] at eb'
              exact absurd eb'.symm (mx_m9 (by omega))
            rw [e] at eb
            exact absurd eb.symm (mx_m9 (by omega))
        · refine Or.inr ⟨b, e, by have := g.1; omega, g.2.1, fun s hs gs => ?_⟩
          rcases Nat.lt_or_ge s k with z | z
          · exact g.2.2 s z gs
          · have es : s = k := by omega
            rw [es] at gs ⊢
            obtain ⟨b', eb', gb', hle⟩ := hno gs
            have hb1 := g.1
            have hb2 := gb'.1
            rw [e, nI_eq (by omega) (by omega)] at eb'
            rw [← eb'] at hle
            omega
      have b71_0 : ∀ ν2, fxM ν ν2 → (px_gs R S t p k → ∃ b, x3 = nI b ∧ px_best R S t p k b ∧ px_pc b 11 ≤ px_pc k 11) → wq_X7_wants_b71 Q (wq_X7_wants_l24 Q (fun e22 σ23 => Q e22 σ23) (n + 1)) (nI t) (nI p) x3 (nI k) 0 ν2 := fun ν2 hf2 hno => ⟨fun _ => skip ν2 hf2 hno, fun q => absurd rfl q⟩
      have b71_1 : k &&& S 2 0 = 0 → (∀ b, x3 = nI b → px_best R S t p k b → px_pc k 11 < px_pc b 11) → wq_X7_wants_b71 Q (wq_X7_wants_l24 Q (fun e22 σ23 => Q e22 σ23) (n + 1)) (nI t) (nI p) x3 (nI k) 1 ν := by
        intro hd hlt
        unfold wq_X7_wants_b71
        refine ⟨fun q => absurd q (by decide), fun _ => ?_⟩
        rw [e10, mx_or]
        refine sp7_reach (lv := 0) (ice := 0) hR hS ht (by omega) (hf.rd hm) (hf.st hR hmS) hor (by omega) (hf.ic hi) (fun ν2 hf2 _ => ?_)
        have hml := px_mask_lt (R := R) (S := S) (t := t) (g := S 2 0 ||| k) (ice := 0)
        refine sp7_has (by omega) (by omega) (fun hb1 => ⟨fun q => absurd q (by decide), fun _ => ?_⟩) (fun hb0 => ⟨fun _ => skip ν2 hf2 (fun gs => ?_), fun q => absurd rfl q⟩)
        · unfold wq_X7_wants_b107
          intro v10 ev
          rw [ev, nI_1]
          refine ih (k + 1) ν2 (nI k) (by omega) (hf.tr hf2) (Or.inr ⟨k, rfl, by omega, ⟨hd, hb1⟩, fun s hs gs => ?_⟩)
          rcases Nat.lt_or_ge s k with z | z
          · rcases hb with ⟨e, g⟩ | ⟨b, e, g⟩
            · exact absurd gs (g s z)
            · have a1 := hlt b e g
              have a2 := g.2.2 s z gs
              omega
          · exact Or.inr ⟨by rw [show s = k by omega], by omega⟩
        · have := gs.2
          rw [hb0] at this
          cases this
      refine ⟨fun q => b71_0 ν fxM.rf (fun gs => absurd gs.1 q), fun q => ⟨fun z => b71_1 q (fun b e g => ?_), fun z => ?_⟩⟩
      · have hb1 := g.1
        rw [z] at e
        exact absurd e.symm (mx_m9 (by omega))
      · rcases hb with ⟨e, g⟩ | ⟨b, e, g⟩
        · exact absurd e z
        · have hb1 := g.1
          rw [e]
          refine sp7_ones (by omega) (sp7_ones (by omega) ?_)
          have l1 := px_pc_le b 11
          have l2 := px_pc_le k 11
          rw [nI_leI (by omega) (by omega), ← e]
          refine ⟨fun y => b71_0 ν fxM.rf (fun _ => ⟨b, e, g, y⟩), fun y => b71_1 q (fun b' e' g' => ?_)⟩
          have hb2 := g'.1
          rw [e, nI_eq (by omega) (by omega)] at e'
          rw [← e']
          omega
  exact ⟨2 ^ R 0 0 + 1, key (2 ^ R 0 0) 0 μ (-9) (by omega) fxM.rf (Or.inl ⟨rfl, fun s hs => absurd hs (by omega)⟩)⟩
