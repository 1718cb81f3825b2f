/-! ===== maths 2: the road and a standing as numbers; costs, pays, steps, rests ===== -/
/-- R 0 0 pleats, R 1 0 travellers, R 2 stiffness, R 3 kinds of pleats, R 4 breaths, R 5 kinds of travellers -/
def rOK (R : Nat → Nat → Nat) : Prop := R 0 0 ≤ 10 ∧ R 1 0 ≤ 5 ∧ (∀ i, i < R 0 0 → 1 ≤ R 2 i ∧ R 2 i ≤ 9 ∧ R 3 i ≤ 3) ∧ (∀ t, t < R 1 0 → 1 ≤ R 4 t ∧ R 4 t ≤ 9 ∧ R 5 t ≤ 3)
def mRd (μ : gq_M) (R : Nat → Nat → Nat) : Prop := μ.1 0 0 = nI (R 0 0) ∧ μ.1 0 1 = nI (R 1 0) ∧ (∀ i, i < R 0 0 → μ.1 1 i = nI (R 2 i) ∧ μ.1 2 i = nI (R 3 i)) ∧ (∀ t, t < R 1 0 → μ.1 3 t = nI (R 4 t) ∧ μ.1 4 t = nI (R 5 t))
def cRd (σ : gq_M) (R : Nat → Nat → Nat) : Prop := σ.1 9 5 = nI (R 0 0) ∧ σ.1 9 6 = nI (R 1 0) ∧ (∀ i, i < R 0 0 → σ.1 10 i = nI (R 2 i) ∧ σ.1 11 i = nI (R 3 i)) ∧ (∀ t, t < R 1 0 → σ.1 13 t = nI (R 4 t) ∧ σ.1 14 t = nI (R 5 t))
/-- S 0 places, S 1 winds, S 2 0 greased, S 2 1 open (0, or the pleat and 1), S 2 2 frost -/
def sOK (R S : Nat → Nat → Nat) : Prop := (∀ t, t < R 1 0 → S 0 t ≤ R 0 0 ∧ S 1 t ≤ R 4 t) ∧ S 2 0 < 1024 ∧ S 2 1 ≤ R 0 0 ∧ S 2 2 ≤ 5
/-- the mask of what is open -/
def px_ob (o : Nat) : Nat := if o = 0 then 0 else 2 ^ (o - 1)
def mSt (μ : gq_M) (a b : Nat) (R S : Nat → Nat → Nat) (c : Int32) : Prop := (∀ t, t < R 1 0 → μ.1 a (b + t) = nI (S 0 t) ∧ μ.1 a (b + 5 + t) = nI (S 1 t)) ∧ μ.1 a (b + 10) = nI (S 2 0) ∧ μ.1 a (b + 11) = nI (S 2 1) ∧ μ.1 a (b + 12) = nI (S 2 2) ∧ μ.1 a (b + 13) = c
def cSt (σ : gq_M) (z : Nat) (R S : Nat → Nat → Nat) (c : Int32) : Prop := (∀ t, t < R 1 0 → σ.1 (z + 1) t = nI (S 0 t) ∧ σ.1 (z + 2) t = nI (S 1 t)) ∧ σ.1 z 3 = nI (S 2 0) ∧ σ.1 z 4 = nI (px_ob (S 2 1)) ∧ σ.1 z 5 = nI (S 2 2) ∧ σ.1 z 6 = c
/-- what a pleat costs that is shut: stiffness, kind, frost, greased -/
def px_c0 (s k f : Nat) (g : Bool) : Nat := if k = 3 then 1 else if g then max ((if k = 1 then max ((s + f) / 2) 1 else s + f) - 2) 1 else (if k = 1 then max ((s + f) / 2) 1 else s + f)
def px_cost (R : Nat → Nat → Nat) (i o g f ice : Nat) : Nat := (if o = i + 1 then 0 else px_c0 (R 2 i) (R 3 i) f (g.testBit i)) + (if ice.testBit i then 1 else 0)
def px_pay (h c : Nat) : Nat := if h = 1 then c / 2 else if h = 2 then c + 1 else c
theorem px_c0_le {s k f : Nat} {g : Bool} (hs : s ≤ 9) (hf : f ≤ 5) : px_c0 s k f g ≤ 14 := by
  unfold px_c0
  split
  · omega
  · split
    · split <;> omega
    · split <;> omega
theorem px_c0_pos {s k f : Nat} {g : Bool} (hs : 1 ≤ s) : 1 ≤ px_c0 s k f g := by
  unfold px_c0
  split
  · omega
  · split
    · split <;> omega
    · split <;> omega
theorem px_cost_le {R : Nat → Nat → Nat} {i o g f ice : Nat} (hR : rOK R) (hi : i < R 0 0) (hf : f ≤ 5) : px_cost R i o g f ice ≤ 15 := by
  unfold px_cost
  have h1 := px_c0_le (k := R 3 i) (g := g.testBit i) (hR.2.2.1 i hi).2.1 hf
  split <;> split <;> omega
theorem px_pay_le {h c : Nat} : px_pay h c ≤ c + 1 := by
  unfold px_pay
  split
  · omega
  · split <;> omega
theorem mx_atL2 : ∀ v, v < 20 → 1 ≤ v → ((1 ≤ nI v - 2 → nI v - 2 = nI (max (v - 2) 1)) ∧ (¬ 1 ≤ nI v - 2 → (1 : Int32) = nI (max (v - 2) 1))) := by decide +kernel
theorem mx_atL3 : ∀ v, v < 20 → ((1 ≤ nI v + (-2) → nI v + (-2) = nI (max (v - 2) 1)) ∧ (¬ 1 ≤ nI v + (-2) → (1 : Int32) = nI (max (v - 2) 1))) := by decide +kernel
theorem sp7_atLeast2 {v : Nat} {σ : gq_M} {Q : Int32 → gq_M → Prop} (h1 : 1 ≤ v) (h2 : v < 20) (h : Q (nI (max (v - 2) 1)) σ) : wq_X7_atLeast (nI v - 2) 1 σ Q := by
  unfold wq_X7_atLeast
  have e := mx_atL2 v h2 h1
  exact ⟨fun q => by rw [e.1 q]; exact h, fun q => by rw [e.2 q]; exact h⟩
theorem mx_eq {a b : Nat} (ha : a < 2 ^ 31) (hb : b < 2 ^ 31) : nI a = nI b ↔ a = b := nI_eq ha hb
theorem sp7_costs_b77 {g i v e : Nat} {σ : gq_M} {Q : Int32 → gq_M → Prop} (hg : g < 1024) (hi : i < 10) (h1 : 1 ≤ v) (h2 : v < 20) (h : Q (nI ((if g.testBit i then max (v - 2) 1 else v) + e)) σ) : wq_X7_costs_b77 Q (nI i) (nI g) (nI e) (nI v) σ := by
  unfold wq_X7_costs_b77
  refine sp7_has (by omega) (by omega) (fun hb => ?_) (fun hb => ?_)
  · rw [if_pos hb] at h
    refine ⟨fun q => absurd q (by decide), fun _ => ?_⟩
    refine sp7_atLeast2 h1 h2 ?_
    rw [nI_add]; exact h
  · rw [if_neg (by simp [hb])] at h
    refine ⟨fun _ => by rw [nI_add]; exact h, fun q => absurd rfl q⟩
theorem sp7_costs {R : Nat → Nat → Nat} {i o g f ice : Nat} {σ : gq_M} {Q : Int32 → gq_M → Prop} (hR : rOK R) (hM : mRd σ R) (hi : i < R 0 0) (ho : o < 100) (hg : g < 1024) (hf : f ≤ 5) (hice : ice < 1024) (hie : σ.1 0 15 = nI ice) (h : Q (nI (px_cost R i o g f ice)) σ) : wq_X7_costs (nI i) (nI o) (nI g) (nI f) σ Q := by
  have hP := hR.1
  obtain ⟨hs1, hs9, hk3⟩ := hR.2.2.1 i hi
  obtain ⟨e1, e2⟩ := hM.2.2.1 i hi
  unfold wq_X7_costs
  rw [hie]
  have key : ∀ e : Nat, e ≤ 1 → e = (if ice.testBit i then 1 else 0) → wq_X7_costs_b16 Q (nI i) (nI o) (nI g) (nI f) (nI e) σ := by
    intro e he1 he
    unfold wq_X7_costs_b16
    rw [nI_1, mx_eq (by omega) (by omega), nI_clamp (by omega), e1, e2]
    have hin : vp_in (nI i) 10 := vp_in_nI (by omega) (by omega)
    unfold px_cost at h
    rw [← he] at h
    refine ⟨fun q => ⟨hin, fun q3 => ⟨hin, fun v6 e6 => ⟨hin, fun q1 => ?_, fun q1 => ?_⟩⟩, fun q3 => ?_⟩, fun q => ?_⟩
    · rw [if_neg q] at h
      rw [mx_3, mx_eq (by omega) (by omega)] at q3
      rw [mx_1, mx_eq (by omega) (by omega)] at q1
      unfold px_c0 at h
      simp only [if_neg q3, if_neg q1] at h
      rw [e6, nI_add]
      exact sp7_costs_b77 hg (by omega) (by omega) (by omega) h
    · rw [if_neg q] at h
      rw [mx_3, mx_eq (by omega) (by omega)] at q3
      rw [mx_1, mx_eq (by omega) (by omega)] at q1
      unfold px_c0 at h
      simp only [if_neg q3, if_pos q1] at h
      rw [e6, nI_add, mx_2, pk_div (by omega) (by omega) (by omega)]
      refine sp7_atLeast (b := 1) (by omega) (by decide) ?_
      exact sp7_costs_b77 hg (by omega) (by omega) (by omega) h
    · rw [if_neg q] at h
      rw [mx_3, mx_eq (by omega) (by omega)] at q3
      unfold px_c0 at h
      rw [if_pos q3] at h
      rw [mx_1, nI_add]; exact h
    · rw [if_pos q, Nat.zero_add] at h
      exact h
  refine sp7_has (by omega) (by omega) (fun hb => ?_) (fun hb => ?_)
  · exact ⟨fun q => absurd q (by decide), fun _ => key 1 (by omega) (by simp [hb])⟩
  · exact ⟨fun _ => key 0 (by omega) (by simp [hb]), fun q => absurd rfl q⟩
theorem sp7_pays {a c : Nat} {σ : gq_M} {Q : Int32 → gq_M → Prop} (ha : a ≤ 3) (hc : c < 1000) (h : Q (nI (px_pay a c)) σ) : wq_X7_pays (nI a) (nI c) σ Q := by
  unfold wq_X7_pays
  unfold px_pay at h
  rw [mx_1, mx_2, mx_eq (by omega) (by omega), mx_eq (by omega) (by omega), pk_div (by omega) (by omega) (by omega), nI_add]
  refine ⟨fun q => ⟨fun r => ?_, fun r => ?_⟩, fun q => ?_⟩
  · rw [if_neg q, if_neg r] at h; exact h
  · rw [if_neg q, if_pos r] at h; exact h
  · rw [if_pos q] at h; exact h
theorem sp2_tollFor {a c : Nat} {σ : gq_M} {Q : Int32 → gq_M → Prop} (ha : a ≤ 3) (hc : c < 1000) (h : Q (nI (px_pay a c)) σ) : wq_X2_tollFor (nI a) (nI c) σ Q := by
  unfold wq_X2_tollFor
  unfold px_pay at h
  rw [mx_1, mx_2, mx_eq (by omega) (by omega), mx_eq (by omega) (by omega), pk_div (by omega) (by omega) (by omega), nI_add]
  refine ⟨fun q => ?_, fun q => ⟨fun r => ?_, fun r => ?_⟩⟩
  · rw [if_pos q] at h; exact h
  · rw [if_neg q, if_pos r] at h; exact h
  · rw [if_neg q, if_neg r] at h; exact h
theorem sp2_costShut_b50 {r v : Nat} {σ : gq_M} {Q : Int32 → gq_M → Prop} (hv : v < 100) (h : Q (nI (max v 1)) σ) : wq_X2_costShut_b50 r Q (nI v) σ := by
  unfold wq_X2_costShut_b50
  rw [mx_1, nI_leI (by omega) (by omega)]
  refine ⟨fun q => ?_, fun q => ?_⟩
  · rw [Nat.max_eq_left q] at h; exact h
  · rw [Nat.max_eq_right (by omega)] at h; exact h
theorem sp2_costShut_b38 {r i g v : Nat} {σ : gq_M} {Q : Int32 → gq_M → Prop} (hg : g < 1024) (hi : i < 10) (hv : v < 20) (h : Q (nI (if g.testBit i then max (v - 2) 1 else max v 1)) σ) : wq_X2_costShut_b38 r Q (nI i) (nI g) (nI v) σ := by
  unfold wq_X2_costShut_b38
  rw [mx_bit1 (by omega) (by omega)]
  refine ⟨fun q => ?_, fun q v7 e7 => ?_⟩
  · rw [if_neg q] at h
    exact sp2_costShut_b50 (by omega) h
  · rw [if_pos q] at h
    rw [e7]
    unfold wq_X2_costShut_b50
    have e := mx_atL3 v hv
    exact ⟨fun q => by rw [e.1 q]; exact h, fun q => by rw [e.2 q]; exact h⟩
theorem sp2_costShut {R : Nat → Nat → Nat} {i g f : Nat} {σ : gq_M} {Q : Int32 → gq_M → Prop} (hR : rOK R) (hM : cRd σ R) (hi : i < R 0 0) (hg : g < 1024) (hf : f ≤ 5) (h : Q (nI (px_c0 (R 2 i) (R 3 i) f (g.testBit i))) σ) : wq_X2_costShut 9 (nI i) (nI f) (nI g) σ Q := by
  have hP := hR.1
  obtain ⟨hs1, hs9, hk3⟩ := hR.2.2.1 i hi
  obtain ⟨e1, e2⟩ := hM.2.2.1 i hi
  have hin : vp_in (nI i) 10 := vp_in_nI (by omega) (by omega)
  unfold wq_X2_costShut
  rw [nI_clamp (by omega), show (9 : Nat) + 1 = 10 from rfl, show (9 : Nat) + 2 = 11 from rfl, e1, e2]
  unfold px_c0 at h
  refine ⟨hin, fun v1 ev => ?_⟩
  subst ev
  rw [mx_3, mx_1, mx_eq (by omega) (by omega), mx_eq (by omega) (by omega), nI_add]
  refine ⟨fun q3 => ⟨hin, fun v3 ev3 => ?_⟩, fun q3 => ?_⟩
  · subst ev3
    rw [if_neg q3] at h
    refine ⟨fun q1 => ?_, fun q1 v8 e8 => ?_⟩
    · simp only [if_neg q1] at h
      refine sp2_costShut_b38 hg (by omega) (by omega) ?_
      rw [Nat.max_eq_left (by omega : 1 ≤ R 2 i + f)]
      exact h
    · simp only [if_pos q1] at h
      subst e8
      rw [mx_2, pk_div (by omega) (by omega) (by omega)]
      refine sp2_costShut_b38 hg (by omega) (by omega) ?_
      have : max ((R 2 i + f) / 2 - 2) 1 = max (max ((R 2 i + f) / 2) 1 - 2) 1 := by omega
      rw [this]
      exact h
  · rw [if_pos q3] at h
    exact h
