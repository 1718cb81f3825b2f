/-! ===== maths 34: icy ===== -/
theorem mx_sub {s A : Nat} (hs : s < 256) (hA : A < 256) : (nI s &&& (nI A ^^^ (-1)) : Int32) = 0 ↔ px_sb s A 8 = true := by
  rw [px_sb_iff]
  have e : (nI s &&& (nI A ^^^ (-1)) : Int32) = 0 ↔ BitVec.ofNat 32 s &&& (BitVec.ofNat 32 A ^^^ (-1#32)) = 0#32 := by
    constructor
    · intro h
      exact congrArg Int32.toBitVec h
    · intro h
      exact Int32.toBitVec_inj.1 h
  rw [e]
  have one : ∀ i, i < 32 → (-1#32).getLsbD i = true := by decide
  have get : ∀ i, i < 32 → (BitVec.ofNat 32 s &&& (BitVec.ofNat 32 A ^^^ (-1#32))).getLsbD i = (s.testBit i && !A.testBit i) := fun i hi => by
    rw [BitVec.getLsbD_and, BitVec.getLsbD_xor, BitVec.getLsbD_ofNat, BitVec.getLsbD_ofNat, one i hi, decide_eq_true hi]
    cases s.testBit i <;> cases A.testBit i <;> rfl
  constructor
  · intro h i hi hb
    have h2 := get i (by omega)
    rw [h, hb] at h2
    cases hA2 : A.testBit i with
    | true => rfl
    | false =>
      rw [hA2] at h2
      simp at h2
  · intro h
    apply BitVec.eq_of_getLsbD_eq
    intro i hi
    rw [get i hi]
    cases hb : s.testBit i with
    | false => simp
    | true =>
      rcases Nat.lt_or_ge i 8 with z | z
      · rw [h i z hb]; simp
      · have : s.testBit i = false := Nat.testBit_lt_two_pow (Nat.lt_of_lt_of_le hs (Nat.pow_le_pow_right (n := 2) (by omega) z))
        rw [this] at hb
        cases hb
theorem px_pc_8 : ∀ s, s < 256 → px_pc s 11 = px_pc s 8 := by decide +kernel
def px_ic (R : Nat → Nat → Nat) : Nat → Nat
  | 0 => 0
  | n + 1 => px_ic R n ||| (if R 3 n = 3 then 0 else 2 ^ n)
theorem px_ic_lt (R : Nat → Nat → Nat) : ∀ n, px_ic R n < 2 ^ n
  | 0 => by unfold px_ic; decide
  | n + 1 => by
    have h1 := px_ic_lt R n
    have h2 : 2 ^ n < 2 ^ (n + 1) := Nat.pow_lt_pow_right (by omega) (by omega)
    unfold px_ic
    split
    · exact Nat.or_lt_two_pow (by omega) (Nat.two_pow_pos _)
    · exact Nat.or_lt_two_pow (by omega) h2
theorem sp2_canBeIced {R : Nat → Nat → Nat} {σ : gq_M} {Q : Int32 → gq_M → Prop} (hR : rOK R) (hc : cRd σ R) (h : Q (nI (px_ic R (min (R 0 0) 8))) σ) : wq_X2_canBeIced 9 σ Q := by
  have hP := hR.1
  have key : ∀ m k, k + m = min (R 0 0) 8 → wq_X2_canBeIced_l4 9 Q (fun e6 σ7 => Q e6 σ7) (m + 1) (nI (px_ic R k)) (nI k) σ := by
    intro m
    induction m with
    | zero =>
      intro k hk
      have hk' : k = min (R 0 0) 8 := by omega
      unfold wq_X2_canBeIced_l4
      rw [hc.1, nI_leI (by omega) (by omega), mx_8, nI_leI (by omega) (by omega)]
      rw [← hk'] at h
      exact ⟨fun _ => h, fun q => ⟨fun _ => h, fun q2 => by omega⟩⟩
    | succ m ih =>
      intro k hk
      have h3 := (hR.2.2.1 k (by omega)).2.2
      unfold wq_X2_canBeIced_l4 wq_X2_canBeIced_b36
      rw [hc.1, nI_leI (by omega) (by omega), mx_8, nI_leI (by omega) (by omega), nI_clamp (by omega), show (9 : Nat) + 2 = 11 from rfl, (hc.2.2.1 k (by omega)).2, mx_3, nI_eq (by omega) (by omega), mx_shl (by omega), mx_or]
      have hn := ih (k + 1) (by omega)
      unfold px_ic at hn
      refine ⟨fun q => by omega, fun _ => ⟨fun q => by omega, fun _ => ⟨vp_in_nI (by omega) (by omega), fun q v3 e3 v4 e4 => ?_, fun q v3 e3 v4 e4 => ?_⟩⟩⟩
      · rw [if_pos q] at hn
        rw [e3, e4, nI_1, mx_0, mx_or]; exact hn
      · rw [if_neg q] at hn
        rw [e3, e4, nI_1]; exact hn
  exact ⟨min (R 0 0) 8 + 1, key (min (R 0 0) 8) 0 (by omega)⟩
theorem sp7_iceable {R : Nat → Nat → Nat} {σ : gq_M} {Q : Int32 → gq_M → Prop} (hR : rOK R) (hc : mRd σ R) (h : Q (nI (px_ic R (min (R 0 0) 8))) σ) : wq_X7_iceable σ Q := by
  have hP := hR.1
  have key : ∀ m k, k + m = min (R 0 0) 8 → wq_X7_iceable_l4 Q (fun e6 σ7 => Q e6 σ7) (m + 1) (nI (px_ic R k)) (nI k) σ := by
    intro m
    induction m with
    | zero =>
      intro k hk
      have hk' : k = min (R 0 0) 8 := by omega
      unfold wq_X7_iceable_l4
      rw [hc.1, nI_leI (by omega) (by omega), mx_8, nI_leI (by omega) (by omega)]
      rw [← hk'] at h
      exact ⟨fun _ => h, fun q => ⟨fun _ => h, fun q2 => by omega⟩⟩
    | succ m ih =>
      intro k hk
      have h3 := (hR.2.2.1 k (by omega)).2.2
      unfold wq_X7_iceable_l4 wq_X7_iceable_b36
      rw [hc.1, nI_leI (by omega) (by omega), mx_8, nI_leI (by omega) (by omega), nI_clamp (by omega), (hc.2.2.1 k (by omega)).2, mx_3, nI_eq (by omega) (by omega), mx_shl (by omega), mx_or]
      have hn := ih (k + 1) (by omega)
      unfold px_ic at hn
      refine ⟨fun q => by omega, fun _ => ⟨fun q => by omega, fun _ => ⟨vp_in_nI (by omega) (by omega), fun q v3 e3 v4 e4 => ?_, fun q v3 e3 v4 e4 => ?_⟩⟩⟩
      · rw [if_neg q] at hn
        rw [e3, e4, nI_1]; exact hn
      · rw [if_pos q] at hn
        rw [e3, e4, nI_1, mx_0, mx_or]; exact hn
  exact ⟨min (R 0 0) 8 + 1, key (min (R 0 0) 8) 0 (by omega)⟩
theorem px_sum_term {f : Nat → Nat} {i : Nat} : ∀ n, i < n → f i ≤ px_sum f n
  | 0, h => absurd h (by omega)
  | n + 1, h => by
    rw [px_sum_s]
    rcases Nat.lt_or_ge i n with z | z
    · have := px_sum_term (f := f) n z
      omega
    · rw [show i = n by omega]; omega
/-- the ways in which one comes there -/
noncomputable def px_iw (R S : Nat → Nat → Nat) (t p x A s : Nat) : Nat := if (px_mask R S t (S 2 0) s).testBit p then px_wt x A 8 s else 0
theorem px_iw_le {R S : Nat → Nat → Nat} {t p x A s : Nat} : px_iw R S t p x A s ≤ px_wt x A 8 s := by
  unfold px_iw
  split <;> omega
theorem px_many {A : Nat} : px_pc A 8 ≤ 8 := px_pc_le A 8
theorem px_wt_all {x A : Nat} (hx : x ≤ 10) : px_sum (px_wt x A 8) 256 = 10 ^ px_pc A 8 ∧ 10 ^ px_pc A 8 ≤ 100000000 := ⟨px_wt_sum hx 8, Nat.pow_le_pow_right (n := 10) (by omega) px_many⟩
theorem px_wt_in {x A s : Nat} (h : px_sb s A 8 = true) : px_wt x A 8 s = x ^ px_pc s 8 * (10 - x) ^ (px_pc A 8 - px_pc s 8) := if_pos h
theorem px_wt_out {x A s : Nat} (h : ¬ px_sb s A 8 = true) : px_wt x A 8 s = 0 := if_neg h
theorem sp6_icy_l59 {R S : Nat → Nat → Nat} {t p x A : Nat} {up c : Int32} {σ : gq_M} {Q : Int32 → gq_M → Prop} {K : Int32 → Int32 → Int32 → gq_M → Prop} (hR : rOK R) (hS : sOK R S) (ht : t < R 1 0) (hp : p ≤ 10) (hx : x ≤ 10) (hA : A < 256) (hc : cRd σ R) (hcS : cSt σ 30 R S c) (hK : ∀ τ, fP kW σ τ → K up (nI (px_pc A 8)) (nI (px_sum (px_iw R S t p x A) 256)) τ) : ∃ n, wq_X6_icy_l59 Q K n (nI t) (nI p) (nI x) up (nI A) (nI (px_pc A 8)) 0 0 σ := by
  have hall := px_wt_all (A := A) hx
  have hmany := px_many (A := A)
  have key : ∀ m k τ, k + m = 256 → fP kW σ τ → wq_X6_icy_l59 Q K (m + 1) (nI t) (nI p) (nI x) up (nI A) (nI (px_pc A 8)) (nI (px_sum (px_iw R S t p x A) k)) (nI k) τ := by
    intro m
    induction m with
    | zero =>
      intro k τ hk hf
      obtain rfl : k = 256 := by omega
      unfold wq_X6_icy_l59
      exact ⟨fun _ => hK τ hf, fun q => absurd (by decide) q⟩
    | succ m ih =>
      intro k τ hk hf
      have hk2 : k < 256 := by omega
      have hw : px_wt x A 8 k ≤ 100000000 := by
        have := px_sum_term (f := px_wt x A 8) 256 hk2
        omega
      have nxt := fun τ2 h => ih (k + 1) τ2 (by omega) h
      unfold wq_X6_icy_l59
      rw [show (256 : Int32) = nI 256 from rfl, nI_leI (by omega) (by omega), mx_sub hk2 hA]
      have zero : px_iw R S t p x A k = 0 → ∀ τ2, fP kW σ τ2 → wq_X6_icy_b135 Q (wq_X6_icy_l59 Q K (m + 1)) (nI t) (nI p) (nI x) up (nI A) (nI (px_pc A 8)) (nI (px_sum (px_iw R S t p x A) k)) (nI k) τ2 := by
        intro h0 τ2 hf2
        unfold wq_X6_icy_b135
        intro v15 e15
        have := nxt τ2 hf2
        rw [px_sum_s, h0, Nat.add_zero] at this
        rw [e15, nI_1]
        exact this
      refine ⟨fun q => by omega, fun _ => ⟨fun q => zero ?_ τ hf, fun q => ?_⟩⟩
      · have := px_iw_le (R := R) (S := S) (t := t) (p := p) (x := x) (A := A) (s := k)
        rw [px_wt_out q] at this
        omega
      · have hle := px_pc_sb 8 q
        have ew := px_wt_in (x := x) q
        refine sp6_bitCount (by omega) ?_
        rw [px_pc_8 k hk2]
        refine sp6_power (by omega) ?_
        rw [pk_sub hle, mx_10, pk_sub hx]
        refine sp6_power (by omega) (fun v22 e22 => ?_)
        rw [pk_mul, ← ew] at e22
        subst e22
        rw [mx_0, nI_leI (by omega) (by omega)]
        refine ⟨fun z => zero ?_ τ hf, fun z => ?_⟩
        · have := px_iw_le (R := R) (S := S) (t := t) (p := p) (x := x) (A := A) (s := k)
          omega
        · have e30 : τ.1 30 3 = nI (S 2 0) := (hf.cSt (by omega) hcS).2.1
          rw [e30]
          refine sp6_comesWith hR hS ht hp (hf.cRd hc) (hf.cSt (by omega) hcS) hS.2.1 (by omega) (fun τ2 hf2 => ?_)
          cases hb : (px_mask R S t (S 2 0) k).testBit p with
          | false =>
            refine ⟨fun _ => zero ?_ τ2 (hf.tr hf2), fun y => absurd rfl y⟩
            unfold px_iw
            rw [hb]
            rfl
          | true =>
            refine ⟨fun y => absurd y (by decide), fun _ v27 e27 => ?_⟩
            have ei : px_iw R S t p x A k = px_wt x A 8 k := by
              unfold px_iw
              rw [hb]
              rfl
            have := nxt τ2 (hf.tr hf2)
            rw [px_sum_s, ei] at this
            unfold wq_X6_icy_b135
            intro v15 e15
            rw [e15, nI_1, e27, nI_add]
            exact this
  exact ⟨257, key 256 0 σ (by omega) fP.rf⟩
theorem fxM.ice {μ ν : gq_M} {x : Int32} (h : fxM (gq_put μ 0 15 x) ν) (hi : μ.1 0 15 = nI 0) : fxM μ (gq_put ν 0 15 0) := by
  refine ⟨fun c a1 a2 a3 a4 a5 a6 a7 => ?_, fun j hj => ?_, fun j a1 a2 a3 a4 a5 a6 => ?_, ?_⟩
  · rw [gq_put_other _ _ _ _ a1, h.1 c a1 a2 a3 a4 a5 a6 a7, gq_put_other _ _ _ _ a1]
  · rw [mx_ro (by omega), h.2.1 j hj, mx_ro (by omega)]
  · by_cases e : j = 15
    · rw [e, mx_0s, hi]; rfl
    · rw [mx_0j e, h.2.2.1 j a1 a2 a3 a4 a5 a6, mx_0j e]
  · exact h.2.2.2
theorem mRd_ice {μ : gq_M} {R : Nat → Nat → Nat} {x : Int32} (h : mRd μ R) : mRd (gq_put μ 0 15 x) R := by
  unfold mRd at *
  rw [mx_0j (by omega), mx_0j (by omega), gq_put_other _ _ _ _ (by omega), gq_put_other _ _ _ _ (by omega), gq_put_other _ _ _ _ (by omega), gq_put_other _ _ _ _ (by omega)]
  exact h
theorem mSt_ice {μ : gq_M} {R S : Nat → Nat → Nat} {x c : Int32} (h : mSt μ 5 0 R S c) : mSt (gq_put μ 0 15 x) 5 0 R S c := by
  unfold mSt at *
  rw [gq_put_other _ _ _ _ (by omega)]
  exact h
theorem sp7_icy_l48 {R S : Nat → Nat → Nat} {t p x A : Nat} {up c : Int32} {μ : gq_M} {Q : Int32 → gq_M → Prop} {K : Int32 → Int32 → Int32 → gq_M → Prop} (hR : rOK R) (hS : sOK R S) (ht : t < R 1 0) (hp : p ≤ 10) (hx : x ≤ 10) (hA : A < 256) (hm : mRd μ R) (hmS : mSt μ 5 0 R S c) (hi : μ.1 0 15 = nI 0) (hK : ∀ ν, fxM μ ν → K up (nI (px_sum (px_iw R S t p x A) 256)) (nI (px_sum (px_wt x A 8) 256)) ν) : ∃ n, wq_X7_icy_l48 Q K n (nI t) (nI p) (nI x) up (nI A) 0 0 0 μ := by
  have hall := px_wt_all (A := A) hx
  have hmany := px_many (A := A)
  have key : ∀ m k ν, k + m = 256 → fxM μ ν → wq_X7_icy_l48 Q K (m + 1) (nI t) (nI p) (nI x) up (nI A) (nI (px_sum (px_iw R S t p x A) k)) (nI (px_sum (px_wt x A 8) k)) (nI k) ν := by
    intro m
    induction m with
    | zero =>
      intro k ν hk hf
      obtain rfl : k = 256 := by omega
      unfold wq_X7_icy_l48
      exact ⟨fun _ => hK ν hf, fun q => absurd (by decide) q⟩
    | succ m ih =>
      intro k ν hk hf
      have hk2 : k < 256 := by omega
      have hw : px_wt x A 8 k ≤ 100000000 := by
        have := px_sum_term (f := px_wt x A 8) 256 hk2
        omega
      have nxt := fun ν2 h => ih (k + 1) ν2 (by omega) h
      have iwle := px_iw_le (R := R) (S := S) (t := t) (p := p) (x := x) (A := A) (s := k)
      unfold wq_X7_icy_l48
      rw [show (256 : Int32) = nI 256 from rfl, nI_leI (by omega) (by omega), mx_sub hk2 hA]
      refine ⟨fun q => by omega, fun _ => ⟨fun q => ?_, fun q => ?_⟩⟩
      · unfold wq_X7_icy_b142
        intro v14 e14
        have := nxt ν hf
        rw [px_wt_out q] at iwle
        rw [px_sum_s, px_sum_s, px_wt_out q, show px_iw R S t p x A k = 0 by omega, Nat.add_zero, Nat.add_zero] at this
        rw [e14, nI_1]
        exact this
      · have hle := px_pc_sb 8 q
        have ew := px_wt_in (x := x) q
        refine sp7_ones (by omega) ?_
        rw [px_pc_8 k hk2]
        refine sp7_power (by omega) (sp7_ones (by omega) (sp7_ones (by omega) ?_))
        rw [px_pc_8 k hk2, px_pc_8 A hA, pk_sub hle, mx_10, pk_sub hx]
        refine sp7_power (by omega) (fun v25 e25 v26 e26 => ?_)
        rw [pk_mul, ← ew] at e25
        subst e25
        rw [nI_add] at e26
        subst e26
        rw [mx_0, nI_leI (by omega) (by omega)]
        have b134 : ∀ (ν2 : gq_M) (y : Int32), fxM (gq_put ν 0 15 (nI k)) ν2 → y = nI (px_iw R S t p x A k) → wq_X7_icy_b134 Q (wq_X7_icy_l48 Q K (m + 1)) (nI t) (nI p) (nI x) up (nI A) (nI (px_sum (px_wt x A 8) k + px_wt x A 8 k)) (nI k) (nI (px_sum (px_iw R S t p x A) k)) y ν2 := by
          intro ν2 y hf2 hy
          unfold wq_X7_icy_b134 wq_X7_icy_b142
          intro v28 e28 v14 e14
          have := nxt _ (hf.tr (hf2.ice (hf.ic hi)))
          rw [px_sum_s, px_sum_s] at this
          rw [e28, e14, nI_1, hy, nI_add]
          exact this
        refine ⟨fun z => b134 _ _ fxM.rf ?_, fun z => ?_⟩
        · rw [show px_iw R S t p x A k = 0 by omega]
        · refine sp7_reachNow (ice := k) hR hS ht (mRd_ice (hf.rd hm)) (mSt_ice (hf.st hR hmS)) (by omega) mx_0s (fun ν2 hf2 => ?_)
          have hml := px_mask_lt (R := R) (S := S) (t := t) (g := S 2 0) (ice := k)
          refine sp7_has (by omega) (by omega) (fun hb => ⟨fun y => absurd y (by decide), fun _ => b134 ν2 _ hf2 ?_⟩) (fun hb => ⟨fun _ => b134 ν2 _ hf2 ?_, fun y => absurd rfl y⟩)
          · unfold px_iw
            rw [hb]
            rfl
          · unfold px_iw
            rw [hb]
            rfl
  exact ⟨257, key 256 0 μ (by omega) fxM.rf⟩
theorem sim_icy {σ μ : gq_M} (h : Rel σ μ) : gl_S_icy Rel σ μ := by
  obtain ⟨⟨R, hR, hc, hm, ⟨S, c, hS, hcS, hmS⟩, ha, hk⟩, ht, hh, h2s, hi⟩ := id h
  have hT := hR.2.1
  have hP := hR.1
  intro a1 a2 a3 a4 _
  have z0 : (0 : Int32).toInt = 0 := by decide
  have z10 : (10 : Int32).toInt = 10 := by decide
  have hA : px_ic R (min (R 0 0) 8) < 256 := Nat.lt_of_lt_of_le (px_ic_lt R _) (Nat.pow_le_pow_right (n := 2) (by omega) (by omega : min (R 0 0) 8 ≤ 8))
  unfold wq_X6_icy
  refine sp2_hasTraveller hc.2.1 (by omega) (fun v => ⟨fun q => absurd q (by decide), fun _ => ?_⟩) (fun v => ⟨fun _ => ?_, fun q => absurd rfl q⟩)
  · refine sp2_hasPlace hc.1 (by omega) (fun v2 => ⟨fun _ => ?_, fun q => absurd q (by decide)⟩) (fun v2 => ⟨fun q => absurd rfl q, fun _ => ?_⟩)
    · have bad : ¬ (0 ≤ a3.toInt ∧ a3.toInt ≤ 10) → wq_X7_icy a1 a2 a3 a4 μ (fun r2 ν => (-2 : Int32) = r2 ∧ Rel σ ν) := by
        intro g
        unfold wq_X7_icy
        refine sp7_isTraveller hm.2.1 (by omega) (fun _ => ⟨fun q => absurd q (by decide), fun _ => ?_⟩) (fun w => absurd v w)
        refine sp7_isPlace hm.1 (by omega) (fun _ => ⟨fun _ => ?_, fun q => absurd q (by decide)⟩) (fun w => absurd v2 w)
        exact sp7_inI (lo := 0) (hi := 10) (by decide) (by decide) (fun u w => absurd ⟨u, w⟩ g) (fun _ => ⟨fun q => absurd rfl q, fun _ => ⟨rfl, h⟩⟩)
      rw [Int32.lt_iff_toInt_lt, Int32.le_iff_toInt_le, z0, z10]
      refine ⟨fun q => bad (by omega), fun q0 => ⟨fun q10 => ?_, fun q => bad (by omega)⟩⟩
      obtain ⟨x, hx, ex⟩ : ∃ n : Nat, n ≤ 10 ∧ a3 = nI n := nI_of2 (M := 10) (n := 10) (by decide) (by rw [Int32.lt_iff_toInt_lt]; omega) (by rw [Int32.le_iff_toInt_le]; omega)
      subst ex
      obtain ⟨t, ht1, e⟩ := (mx_in (by omega)).mp v
      subst e
      obtain ⟨p, hp1, e⟩ := (mx_in (by omega)).mp v2
      subst e
      refine sp2_canBeIced hR hc ?_
      have m7 : ∀ Q : Int32 → gq_M → Prop, (∃ n41, wq_X7_icy_l48 Q (fun e34 e35 e36 σ37 => wq_X7_common e35 e36 σ37 (fun r38 σ39 => ((e34 = 0 → ¬ r38 = 0 ∧ Q (e36 / r38) σ39) ∧ (¬ e34 = 0 → ¬ r38 = 0 ∧ Q (e35 / r38) σ39)))) n41 (nI t) (nI p) (nI x) a4 (nI (px_ic R (min (R 0 0) 8))) 0 0 0 μ) → wq_X7_icy (nI t) (nI p) (nI x) a4 μ Q := by
        intro Q hQ
        unfold wq_X7_icy
        refine sp7_isTraveller hm.2.1 (by omega) (fun _ => ⟨fun q => absurd q (by decide), fun _ => ?_⟩) (fun w => absurd v w)
        refine sp7_isPlace hm.1 (by omega) (fun _ => ⟨fun _ => ?_, fun q => absurd q (by decide)⟩) (fun w => absurd v2 w)
        refine sp7_inI (lo := 0) (hi := 10) (by decide) (by decide) (fun u w => ⟨fun _ => ?_, fun q => absurd q (by decide)⟩) (fun q => absurd (by rw [nI_toInt (by omega)]; omega) q)
        exact sp7_iceable hR hm hQ
      generalize px_ic R (min (R 0 0) 8) = A at hA m7
      have hall := px_wt_all (A := A) hx
      have hpos : 0 < 10 ^ px_pc A 8 := Nat.pow_pos (by omega)
      have hmany := px_many (A := A)
      have hsum : px_sum (px_iw R S t p x A) 256 ≤ 100000000 := by
        have := px_sum_mono (f := px_iw R S t p x A) (g := px_wt x A 8) 256 (fun i _ => px_iw_le)
        omega
      refine sp6_bitCount (by omega) ?_
      rw [px_pc_8 A hA]
      refine sp6_icy_l59 hR hS ht1 (by omega) hx hA hc hcS (fun τ a => ?_)
      rw [mx_10]
      refine sp6_power (by omega) (sp6_fraction (by omega) (by omega) hpos (m7 _ ?_))
      refine sp7_icy_l48 hR hS ht1 (by omega) hx hA hm hmS hi (fun ν b => ?_)
      rw [hall.1]
      exact sp7_fraction (Q := fun r2 ν => px_fq (px_sum (px_iw R S t p x A) 256) (10 ^ px_pc A 8) a4 = r2 ∧ Rel τ ν) (by omega) (by omega) hpos ⟨rfl, h.fx a.fxC b⟩
    · unfold wq_X7_icy
      refine sp7_isTraveller hm.2.1 (by omega) (fun _ => ⟨fun q => absurd q (by decide), fun _ => ?_⟩) (fun w => absurd v w)
      exact sp7_isPlace hm.1 (by omega) (fun w => absurd w v2) (fun _ => ⟨fun q => absurd rfl q, fun _ => ⟨rfl, h⟩⟩)
  · unfold wq_X7_icy
    exact sp7_isTraveller hm.2.1 (by omega) (fun w => absurd w v) (fun _ => ⟨fun _ => ⟨rfl, h⟩, fun q => absurd rfl q⟩)
