/-! ===== maths 24: the component's walk: tolls, nodes ===== -/
def kW (c : Nat) : Prop := 18 ≤ c ∧ c ≤ 23
def px_tS (R : Nat → Nat → Nat) (t g f ice k : Nat) : Nat := px_pay (R 5 t) (px_c0 (R 2 k) (R 3 k) f (g.testBit k) + (if ice.testBit k then 1 else 0))
def px_tO (R : Nat → Nat → Nat) (t ice k : Nat) : Nat := px_pay (R 5 t) (if ice.testBit k then 1 else 0)
def wK (σ : gq_M) (R : Nat → Nat → Nat) (t g f ice : Nat) : Prop := cRd σ R ∧ (∀ k, k < R 0 0 → σ.1 22 k = nI (px_tS R t g f ice k) ∧ σ.1 23 k = nI (px_tO R t ice k)) ∧ σ.1 18 6 = nI (R 4 t) ∧ σ.1 18 7 = (if R 5 t = 3 then 1 else 0)
theorem px_tS_lt {R : Nat → Nat → Nat} {t g f ice k : Nat} (hR : rOK R) (hk : k < R 0 0) (hf : f ≤ 5) : px_tS R t g f ice k < 100 := by
  have h1 := px_c0_le (k := R 3 k) (g := g.testBit k) (hR.2.2.1 k hk).2.1 hf
  have h2 := px_pay_le (h := R 5 t) (c := px_c0 (R 2 k) (R 3 k) f (g.testBit k) + (if ice.testBit k then 1 else 0))
  unfold px_tS
  have : (if ice.testBit k then 1 else 0) ≤ 1 := by split <;> omega
  omega
theorem px_tO_lt {R : Nat → Nat → Nat} {t ice k : Nat} : px_tO R t ice k < 100 := by
  have h2 := px_pay_le (h := R 5 t) (c := (if ice.testBit k then 1 else 0))
  unfold px_tO
  have : (if ice.testBit k then 1 else 0) ≤ 1 := by split <;> omega
  omega
theorem mx_bitN {g i : Nat} (hg : g < 2 ^ 31) (hi : i < 31) : ((nI g >>> (nI i &&& 31)) &&& 1 : Int32) = nI (if g.testBit i then 1 else 0) := by
  rw [mx_bit hg hi]; split <;> rfl
theorem sp5_modeAt {p o : Nat} {σ : gq_M} {Q : Int32 → gq_M → Prop} (hp : p ≤ 10) (ho : o ≤ 10) (h : Q (nI (px_md p o)) σ) : wq_X5_modeAt (nI p) (nI (px_ob o)) σ Q := by
  have hb := px_ob_lt ho
  unfold wq_X5_modeAt
  rw [mx_bit1 (by omega) (by omega), px_ob_bit, mx_0, nI_leI (by omega) (by omega)]
  simp only [decide_eq_true_eq]
  unfold px_md at h
  refine ⟨fun q => ⟨fun z => ?_, fun z => ?_⟩, fun q => ?_⟩
  · rw [if_neg q, if_neg (by omega)] at h; exact h
  · rw [mx_1, pk_sub (by omega), ← mx_1, mx_bit1 (by omega) (by omega), px_ob_bit]
    simp only [decide_eq_true_eq]
    rw [if_neg q] at h
    refine ⟨fun y => ?_, fun y => ?_⟩
    · rw [if_neg (by omega)] at h; exact h
    · rw [if_pos (by omega)] at h; exact h
  · rw [if_pos q] at h; exact h
theorem sp5_prepare {R S : Nat → Nat → Nat} {z t g ice : Nat} {c : Int32} {σ : gq_M} {Q : gq_M → Prop} (hz : 30 ≤ z) (hR : rOK R) (hS : sOK R S) (ht : t < R 1 0) (hc : cRd σ R) (hcS : cSt σ z R S c) (hg : g < 1024) (hice : ice < 1024) (hQ : ∀ τ, fP kW σ τ → wK τ R t g (S 2 2) ice → τ.1 18 8 = nI (px_nd (px_s0 S t)) → τ.1 18 9 = nI (S 1 t) → Q τ) : wq_X5_prepare z (nI t) (nI g) (nI ice) σ Q := by
  have hT := hR.2.1
  have hP := hR.1
  have hkd := (hR.2.2.2 t ht).2.2
  have hint : vp_in (nI t) 5 := vp_in_nI (by omega) (by omega)
  have hf := hS.2.2.2
  have hv := px_s0_v hR hS ht
  unfold wq_X5_prepare
  rw [nI_clamp (by omega), (hc.2.2.2 t ht).2]
  refine ⟨hint, fun v1 e1 => ?_⟩
  subst e1
  have end_ : ∀ τ (x : Int32), fP kW σ τ → (∀ k, k < R 0 0 → τ.1 22 k = nI (px_tS R t g (S 2 2) ice k) ∧ τ.1 23 k = nI (px_tO R t ice k)) → x = (if R 5 t = 3 then 1 else 0) → wq_X5_prepare_b109 z Q (nI t) x (gq_put τ 18 6 (τ.1 13 t)) := by
    intro τ x hf1 hl hx
    have hb : gq_b x := by rw [hx]; split; exact Or.inr rfl; exact Or.inl rfl
    have z0 : ∀ j, τ.1 z j = σ.1 z j := fun j => by rw [hf1.1 z (by unfold kW; omega)]
    have z1 : ∀ j, τ.1 (z + 1) j = σ.1 (z + 1) j := fun j => by rw [hf1.1 (z + 1) (by unfold kW; omega)]
    have z2 : ∀ j, τ.1 (z + 2) j = σ.1 (z + 2) j := fun j => by rw [hf1.1 (z + 2) (by unfold kW; omega)]
    have y13 : τ.1 13 t = nI (R 4 t) := by rw [hf1.1 13 (by unfold kW; omega)]; exact (hc.2.2.2 t ht).1
    unfold wq_X5_prepare_b109
    have b2 : ∀ y, (gq_put (gq_put τ 18 6 y) 18 7 x).1 (z + 2) t = nI (S 1 t) := fun y => by rw [mx_ro (by omega), mx_ro (by omega), z2]; exact (hcS.1 t ht).2
    have b1 : ∀ y u, (gq_put (gq_put (gq_put τ 18 6 y) 18 7 x) 18 9 u).1 (z + 1) t = nI (S 0 t) := fun y u => by rw [mx_ro (by omega), mx_ro (by omega), mx_ro (by omega), z1]; exact (hcS.1 t ht).1
    have b0 : ∀ y u, (gq_put (gq_put (gq_put τ 18 6 y) 18 7 x) 18 9 u).1 z 4 = nI (px_ob (S 2 1)) := fun y u => by rw [mx_ro (by omega), mx_ro (by omega), mx_ro (by omega), z0]; exact hcS.2.2.1
    rw [nI_clamp (by omega), y13, b2, b1, b0]
    refine ⟨hb, hint, hint, hint, ?_⟩
    have hp := (hS.1 t ht).1
    have ho := hS.2.2.1
    refine sp5_modeAt (by omega) (by omega) ?_
    rw [mx_3, pk_mul, nI_add]
    have hfr : fP kW σ (gq_put (gq_put (gq_put (gq_put τ 18 6 (nI (R 4 t))) 18 7 x) 18 9 (nI (S 1 t))) 18 8 (nI (S 0 t * 3 + px_md (S 0 t) (S 2 1)))) := (((hf1.put ⟨by omega, by omega⟩).put ⟨by omega, by omega⟩).put ⟨by omega, by omega⟩).put ⟨by omega, by omega⟩
    refine hQ _ hfr ⟨cRd_of (σ := σ) (fun c h1 h2 => hfr.1 c (by unfold kW; omega)) hc, fun k hk => ?_, ?_, ?_⟩ ?_ ?_
    · rw [mx_ro (by omega), mx_ro (by omega), mx_ro (by omega), mx_ro (by omega), mx_ro (by omega), mx_ro (by omega), mx_ro (by omega), mx_ro (by omega)]
      exact hl k hk
    · rw [mx_rs, if_neg (by omega), mx_rs, if_neg (by omega), mx_rs, if_neg (by omega), mx_rs, if_pos rfl]
    · rw [mx_rs, if_neg (by omega), mx_rs, if_neg (by omega), mx_rs, if_pos rfl]; exact hx
    · rw [mx_rs, if_pos rfl]
      unfold px_nd
      rw [hv.2.1, hv.2.2.2, Nat.mul_comm]
    · rw [mx_rs, if_neg (by omega), mx_rs, if_pos rfl]
  have key : ∀ n i τ, i + n = R 0 0 → fP kW σ τ → (∀ k, k < i → τ.1 22 k = nI (px_tS R t g (S 2 2) ice k) ∧ τ.1 23 k = nI (px_tO R t ice k)) → wq_X5_prepare_l14 z Q (fun e11 e12 σ13 => vp_in e11 5 ∧ ((¬ e12 = 3 → wq_X5_prepare_b109 z Q e11 0 (gq_put σ13 18 6 (σ13.1 13 e11.toNatClampNeg))) ∧ (e12 = 3 → wq_X5_prepare_b109 z Q e11 1 (gq_put σ13 18 6 (σ13.1 13 e11.toNatClampNeg))))) (n + 1) (nI t) (nI g) (nI ice) (nI (R 5 t)) (nI i) τ := by
    intro n
    induction n with
    | zero =>
      intro i τ hi hf1 hl
      obtain rfl : i = R 0 0 := by omega
      have y5 : τ.1 9 5 = nI (R 0 0) := by rw [hf1.1 9 (by unfold kW; omega)]; exact hc.1
      unfold wq_X5_prepare_l14
      rw [y5, nI_clamp (by omega), mx_3, nI_eq (by omega) (by omega)]
      exact ⟨fun _ => ⟨hint, fun q => end_ τ 0 hf1 hl (by rw [if_neg q]), fun q => end_ τ 1 hf1 hl (by rw [if_pos q])⟩, fun q => absurd (Int32.le_refl _) q⟩
    | succ n ih =>
      intro i τ hi hf1 hl
      have hi2 : i < R 0 0 := by omega
      have hc1 : cRd τ R := cRd_of (σ := σ) (fun c h1 h2 => hf1.1 c (by unfold kW; omega)) hc
      have y5 : τ.1 z 5 = nI (S 2 2) := by rw [hf1.1 z (by unfold kW; omega)]; exact hcS.2.2.2.1
      unfold wq_X5_prepare_l14
      rw [hc1.1, nI_leI (by omega) (by omega), mx_bitN (by omega) (by omega), y5, nI_clamp (by omega)]
      refine ⟨fun q => by omega, fun _ v3 e3 => ?_⟩
      subst e3
      have hb1 : (if ice.testBit i then 1 else 0) ≤ 1 := by split <;> omega
      have h1 := px_c0_le (k := R 3 i) (g := g.testBit i) (hR.2.2.1 i hi2).2.1 hf
      refine sp2_costShut hR hc1 hi2 hg hf ?_
      rw [nI_add]
      refine sp2_tollFor hkd (by omega) ⟨vp_in_nI (by omega) (by omega), ?_⟩
      refine sp2_tollFor hkd (by omega) ⟨vp_in_nI (by omega) (by omega), fun v10 e10 => ?_⟩
      rw [e10, nI_1]
      refine ih (i + 1) _ (by omega) ((hf1.put ⟨by omega, by omega⟩).put ⟨by omega, by omega⟩) (fun k hk => ⟨?_, ?_⟩)
      · rw [mx_ro (by omega), mx_rs, nI_clamp (by omega)]
        by_cases e : k = i
        · rw [if_pos e, e]; rfl
        · rw [if_neg e]; exact (hl k (by omega)).1
      · rw [mx_rs, nI_clamp (by omega)]
        by_cases e : k = i
        · rw [if_pos e, e]; rfl
        · rw [if_neg e, mx_ro (by omega)]; exact (hl k (by omega)).2
  exact ⟨R 0 0 + 1, key (R 0 0) 0 σ (by omega) fP.rf (fun k hk => absurd hk (by omega))⟩
theorem sp5_windBeyond {R : Nat → Nat → Nat} {t g f ice v w : Nat} {a2 : Int32} {σ : gq_M} {Q : Int32 → gq_M → Prop} (hR : rOK R) (hf : f ≤ 5) (hK : wK σ R t g f ice) (hv : v < 33) (hp : v / 3 ≤ R 0 0) (hw9 : w ≤ 9) (hw : σ.1 19 v = nI w) (h1 : ∀ w', px_wb R t g f ice (px_on a2) v w = some w' → Q (nI w') σ) (h2 : px_wb R t g f ice (px_on a2) v w = none → ∀ x, x < 0 → Q x σ) : wq_X5_windBeyond (nI v) a2 σ Q := by
  have hP := hR.1
  have hinv : vp_in (nI v) 33 := vp_in_nI (by omega) (by omega)
  -- from the pleat on
  have b56 : ∀ k, px_pl (R 0 0) (v / 3) (px_on a2) = some k → (if nI (v % 3) = (if px_on a2 then 2 else 1) then wq_X5_windBeyond_b56 Q (nI v) (nI k) 1 σ else wq_X5_windBeyond_b56 Q (nI v) (nI k) 0 σ) := by
    intro k hk
    have hk2 := px_pl_lt hp hk
    have hink : vp_in (nI k) 10 := vp_in_nI (by omega) (by omega)
    have hk3 := (hR.2.2.1 k hk2).2.2
    unfold px_wb at h1 h2
    rw [hk] at h1 h2
    simp only at h1 h2
    have b86 : ∀ T : Nat, T < 100 → T = px_pay (R 5 t) ((if v % 3 = (if px_on a2 then 2 else 1) then 0 else px_c0 (R 2 k) (R 3 k) f (g.testBit k)) + (if ice.testBit k then 1 else 0)) → wq_X5_windBeyond_b86 Q (nI k) (nI w) (nI T) σ := by
      intro T hT100 hT
      rw [← hT] at h1 h2
      unfold wq_X5_windBeyond_b86
      intro v8 e8
      rw [nI_clamp (by omega), (hK.1.2.2.1 k hk2).2, mx_3, nI_eq (by omega) (by omega), hK.2.2.1]
      by_cases hTw : T ≤ w
      · rw [pk_sub hTw] at e8
        rw [if_pos hTw] at h1
        subst e8
        refine ⟨fun q => absurd q (nI_pos (by omega)), fun _ => ⟨hink, fun q => ?_, fun q => ?_⟩⟩
        · exact h1 _ (by rw [if_neg q])
        · exact h1 _ (by rw [if_pos q])
      · rw [if_neg hTw] at h2
        have hneg : v8 < 0 := by rw [e8]; exact pk_sneg (by omega) (by omega)
        exact ⟨fun _ => h2 rfl v8 hneg, fun q => absurd hneg q⟩
    have hcond : (nI (v % 3) = (if px_on a2 then 2 else 1)) ↔ v % 3 = (if px_on a2 then 2 else 1) := by
      cases px_on a2 with
      | true => simp only [if_pos]; rw [mx_2, nI_eq (by omega) (by omega)]
      | false => simp only [Bool.false_eq_true, if_false]; rw [mx_1, nI_eq (by omega) (by omega)]
    by_cases hq : v % 3 = (if px_on a2 then 2 else 1)
    · rw [if_pos (hcond.mpr hq)]
      unfold wq_X5_windBeyond_b56
      rw [nI_clamp (by omega), nI_clamp (by omega), hw, (hK.2.1 k hk2).2]
      refine ⟨hinv, fun q => absurd q (by decide), fun _ => ⟨hink, b86 _ px_tO_lt ?_⟩⟩
      rw [if_pos hq, Nat.zero_add]; rfl
    · rw [if_neg (fun q => hq (hcond.mp q))]
      unfold wq_X5_windBeyond_b56
      rw [nI_clamp (by omega), nI_clamp (by omega), hw, (hK.2.1 k hk2).1]
      refine ⟨hinv, fun _ => ⟨hink, b86 _ (px_tS_lt hR hk2 hf) ?_⟩, fun q => absurd rfl q⟩
      rw [if_neg hq]; rfl
  have none_ : px_pl (R 0 0) (v / 3) (px_on a2) = none → ∀ x, x < 0 → Q x σ := by
    intro hk
    refine h2 ?_
    unfold px_wb
    rw [hk]
  unfold wq_X5_windBeyond
  intro v1 e1
  rw [mx_3, pk_div (by omega) (by omega) (by omega)] at e1
  subst e1
  have em : (nI v - nI v / 3 * 3 : Int32) = nI (v % 3) := pk_rem (d := 3) (by omega) (by omega) (by omega)
  unfold wq_X5_windBeyond_b15 wq_X5_windBeyond_b48
  rw [em, hK.1.1]
  refine ⟨fun q => ?_, fun q => ?_⟩
  · have hx : px_on a2 = false := by unfold px_on; simp [q]
    rw [hx] at b56 none_
    rcases Nat.eq_zero_or_pos (v / 3) with h0 | h0
    · have hneg : (nI (v / 3) - 1 : Int32) < 0 := by rw [h0]; decide
      exact ⟨fun _ => none_ (by unfold px_pl; simp [h0]) _ (by decide), fun q => absurd hneg q⟩
    · have bb := b56 (v / 3 - 1) (by unfold px_pl; simp [h0])
      simp only [Bool.false_eq_true, if_false] at bb
      rw [mx_1, pk_sub (by omega), ← mx_1, nI_ltI (by omega) (by omega)]
      refine ⟨fun q => absurd q (nI_pos (by omega)), fun _ => ⟨fun _ => ⟨fun _ => ⟨fun y => ?_, fun y => ?_⟩, fun q2 => absurd q q2⟩, fun q => by omega⟩⟩
      · rw [if_neg y] at bb; exact bb
      · rw [if_pos y] at bb; exact bb
  · have hx : px_on a2 = true := by unfold px_on; simp [q]
    rw [hx] at b56 none_
    rw [nI_ltI (by omega) (by omega)]
    refine ⟨fun q => absurd q (nI_pos (by omega)), fun _ => ⟨fun hlt => ⟨fun q2 => absurd q2 q, fun _ => ?_⟩, fun hlt => none_ (by unfold px_pl; simp [hlt]) _ (by decide)⟩⟩
    have bb := b56 (v / 3) (by unfold px_pl; simp [hlt])
    simp only [if_true] at bb
    refine ⟨fun y => ?_, fun y => ?_⟩
    · rw [if_neg y] at bb; exact bb
    · rw [if_pos y] at bb; exact bb
theorem sp5_nodeBeyond {R : Nat → Nat → Nat} {t g f ice v k : Nat} {a2 : Int32} {σ : gq_M} {Q : Int32 → gq_M → Prop} (hR : rOK R) (hK : wK σ R t g f ice) (hv : v < 33) (hk : px_pl (R 0 0) (v / 3) (px_on a2) = some k) (h : Q (nI (px_nb R t (px_on a2) v)) σ) : wq_X5_nodeBeyond (nI v) a2 σ Q := by
  have hP := hR.1
  unfold wq_X5_nodeBeyond wq_X5_nodeBeyond_b12 wq_X5_nodeBeyond_b23
  rw [mx_3, pk_div (by omega) (by omega) (by omega), hK.2.2.2]
  unfold px_nb at h
  refine ⟨fun q v2 e2 => ?_, fun q v2 e2 => ?_⟩
  · have hx : px_on a2 = false := by unfold px_on; simp [q]
    rw [hx] at h hk
    have h0 := px_pl_off hk
    rw [mx_pm (by omega)] at e2
    subst e2
    simp only [Bool.false_eq_true, if_false] at h
    rw [pk_mul, mx_0, nI_add, mx_2, nI_add, Nat.mul_comm]
    refine ⟨fun _ => ⟨fun y => ?_, fun y => ?_⟩, fun q2 => absurd q q2⟩
    · by_cases hh : R 5 t = 3
      · rw [if_pos hh] at y; exact absurd y (by decide)
      · rw [if_neg hh] at h; exact h
    · by_cases hh : R 5 t = 3
      · rw [if_pos hh] at h; exact h
      · rw [if_neg hh] at y; exact absurd rfl y
  · have hx : px_on a2 = true := by unfold px_on; simp [q]
    rw [hx] at h
    rw [nI_1] at e2
    subst e2
    simp only [if_true] at h
    rw [pk_mul, nI_1, mx_0, nI_add, Nat.mul_comm]
    refine ⟨fun q2 => absurd q2 q, fun _ => ⟨fun y => ?_, fun y => ?_⟩⟩
    · by_cases hh : R 5 t = 3
      · rw [if_pos hh] at y; exact absurd y (by decide)
      · rw [if_neg hh] at h; exact h
    · by_cases hh : R 5 t = 3
      · rw [if_pos hh] at h; exact h
      · rw [if_neg hh] at y; exact absurd rfl y
