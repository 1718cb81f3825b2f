/-! ===== maths 22: the model's spreading ===== -/
def fQ (μ ν : gq_M) : Prop := (∀ c, c ≠ 0 → c ≠ 10 → c ≠ 11 → ν.1 c = μ.1 c) ∧ (∀ j, j ≠ 21 → ν.1 0 j = μ.1 0 j) ∧ ν.2 = μ.2
theorem fQ.rf {μ : gq_M} : fQ μ μ := ⟨fun _ _ _ _ => rfl, fun _ _ => rfl, rfl⟩
theorem fQ.tr {μ ν ξ : gq_M} (h1 : fQ μ ν) (h2 : fQ ν ξ) : fQ μ ξ := ⟨fun c a b d => (h2.1 c a b d).trans (h1.1 c a b d), fun j a => (h2.2.1 j a).trans (h1.2.1 j a), h2.2.2.trans h1.2.2⟩
theorem fQ.fx {σ μ ν : gq_M} (h0 : fxM σ μ) (h : fQ μ ν) : fxM σ ν := h0.tr ⟨fun c a _ _ _ b d _ => h.1 c a b d, fun j _ => by rw [h.1 5 (by omega) (by omega) (by omega)], fun j _ _ _ _ a _ => h.2.1 j a, h.2.2⟩
def gK (μ : gq_M) (R : Nat → Nat → Nat) (lv g f ice : Nat) : Prop := mRd μ R ∧ μ.1 5 (14 * lv + 12) = nI f ∧ μ.1 0 22 = nI g ∧ μ.1 0 15 = nI ice
theorem fQ.k {μ ν : gq_M} {R : Nat → Nat → Nat} {lv g f ice : Nat} (h : fQ μ ν) (k : gK μ R lv g f ice) : gK ν R lv g f ice := by
  refine ⟨?_, by rw [h.1 5 (by omega) (by omega) (by omega)]; exact k.2.1, by rw [h.2.1 22 (by omega)]; exact k.2.2.1, by rw [h.2.1 15 (by omega)]; exact k.2.2.2⟩
  have k1 := k.1
  unfold mRd at *
  rw [h.2.1 0 (by omega), h.2.1 1 (by omega), h.1 1 (by omega) (by omega) (by omega), h.1 2 (by omega) (by omega) (by omega), h.1 3 (by omega) (by omega) (by omega), h.1 4 (by omega) (by omega) (by omega)]
  exact k1
def QM (μ : gq_M) (q : Nat → Nat) (m : Nat) (D : Nat → Nat) : Prop := μ.1 0 21 = nI m ∧ (∀ i, i < m → μ.1 11 i = nI (q i)) ∧ (∀ e, e < 1210 → (∀ i, i < m → q i ≠ e) → μ.1 10 e = -9) ∧ (∀ i, i < m → μ.1 10 (q i) = nI (D (q i)))
theorem sp7_meetState {μ : gq_M} {q D : Nat → Nat} {m p w o n : Nat} {Q : gq_M → Prop} (hp : p ≤ 10) (hw : w ≤ 9) (ho : o ≤ 10) (hq : ∀ i, i < m → q i < 1210) (hD : ∀ i, i < m → D (q i) < 2000) (hM : QM μ q m D) (hm : (∀ i, i < m → q i ≠ 110 * p + 11 * w + o) → m < 1210) (h1 : ∀ j, j < m → q j = 110 * p + 11 * w + o → Q μ) (h2 : (∀ i, i < m → q i ≠ 110 * p + 11 * w + o) → ∀ ν, fQ μ ν → QM ν (px_up q m (110 * p + 11 * w + o)) (m + 1) (px_up D (110 * p + 11 * w + o) n) → Q ν) : wq_X7_meetState (nI p) (nI w) (nI o) (nI n) μ Q := by
  have he : 110 * p + 11 * w + o < 1210 := by omega
  unfold wq_X7_meetState
  intro v1 e1
  rw [show (110 : Int32) = nI 110 from rfl, mx_11, pk_mul, pk_mul, nI_add, nI_add] at e1
  subst e1
  rw [nI_clamp (by omega)]
  generalize 110 * p + 11 * w + o = e at *
  have hin : vp_in (nI e) 1210 := vp_in_nI he (by omega)
  refine ⟨hin, fun z => ?_, fun z => ?_⟩
  · by_cases hx : ∀ i, i < m → q i ≠ e
    · exact absurd (hM.2.2.1 e he hx) z
    · have : ∃ j, j < m ∧ q j = e := Classical.byContradiction fun c => hx fun i hi g => c ⟨i, hi, g⟩
      obtain ⟨j, hj, g⟩ := this
      exact h1 j hj g
  · have hx : ∀ i, i < m → q i ≠ e := fun i hi g => by
      have a := hM.2.2.2 i hi
      rw [g] at a
      rw [z] at a
      exact mx_m9 (by have := hD i hi; rw [g] at this; omega) a.symm
    have hm' := hm hx
    have e21 : ∀ x, (gq_put μ 10 e x).1 0 21 = nI m := fun x => by rw [mx_ro (by omega)]; exact hM.1
    have e21' : ∀ x y, (gq_put (gq_put μ 10 e x) 11 m y).1 0 21 = nI m := fun x y => by rw [mx_ro (by omega)]; exact e21 x
    rw [e21, nI_clamp (by omega), e21', nI_1]
    refine ⟨hin, vp_in_nI hm' (by omega), h2 hx _ ⟨fun c a b d => ?_, fun j hj => ?_, rfl⟩ ⟨?_, fun i hi => ?_, fun e' he' hn => ?_, fun i hi => ?_⟩⟩
    · rw [gq_put_other _ _ _ _ a, gq_put_other _ _ _ _ d, gq_put_other _ _ _ _ b]
    · rw [mx_0j hj, mx_ro (by omega), mx_ro (by omega)]
    · exact mx_0s
    · rw [mx_ro (by omega), mx_rs]
      by_cases g : i = m
      · rw [if_pos g, g, px_up_s]
      · rw [if_neg g, px_up_n g, mx_ro (by omega)]; exact hM.2.1 i (by omega)
    · have g : e' ≠ e := fun g => hn m (by omega) (by rw [px_up_s, g])
      rw [mx_ro (by omega), mx_ro (by omega), mx_rs, if_neg g]
      exact hM.2.2.1 e' he' (fun i hi g2 => hn i (by omega) (by rw [px_up_n (by omega)]; exact g2))
    · rw [mx_ro (by omega), mx_ro (by omega), mx_rs]
      by_cases g : i = m
      · rw [g, px_up_s, if_pos rfl, px_up_s]
      · rw [px_up_n g, if_neg (hx i (by omega)), px_up_n (hx i (by omega))]
        exact hM.2.2.2 i (by omega)
theorem qJ_lt {R : Nat → Nat → Nat} {N : Nat → Nat → Option Nat} {t s0 m h : Nat} {q D : Nat → Nat} (hR : rOK R) (hJ : qJ (vOK R t) N s0 q m D h) : m ≤ 1210 := px_pigeon 1210 m q (fun i hi => vOK_lt hR (hJ.2.1 i hi)) hJ.2.2.1
/-- a state met from the row's state h -/
theorem sp7_meetJ {R : Nat → Nat → Nat} {N : Nat → Nat → Option Nat} {t s0 m h d p w o : Nat} {q D : Nat → Nat} {μ : gq_M} {Q : gq_M → Prop} (hR : rOK R) (hJ : qJ (vOK R t) N s0 q m D h) (hM : QM μ q m D) (hh : h < m) (hd : d < 3) (hp : p ≤ 10) (hw : w ≤ 9) (ho : o ≤ 10) (hN : N d (q h) = some (110 * p + 11 * w + o)) (hV : vOK R t (110 * p + 11 * w + o)) (hQ : ∀ ν q' m' D', fQ μ ν → qJ (vOK R t) N s0 q' m' D' h → QM ν q' m' D' → qE q m D q' m' D' → qMet q' m' D' h (110 * p + 11 * w + o) → Q ν) : wq_X7_meetState (nI p) (nI w) (nI o) (μ.1 10 (q h) + 1) μ Q := by
  have hlt := qJ_lt hR hJ
  rw [hM.2.2.2 h hh, nI_1]
  refine sp7_meetState hp hw ho (fun i hi => vOK_lt hR (hJ.2.1 i hi)) (fun i hi => ?_) hM (fun hx => ?_) (fun j hj g => ?_) (fun hx ν a b => ?_)
  · have := hJ.2.2.2.2.2.2.2 i hi
    omega
  · have := qJ_lt hR (qJ_new hJ hh hd hN hV hx).1
    omega
  · exact hQ μ q m D fQ.rf hJ hM qE.rf (by rw [← g]; exact qJ_old hJ hh hj)
  · have k := qJ_new hJ hh hd hN hV hx
    exact hQ ν _ _ _ a k.1 b k.2.1 k.2.2
theorem sp7_goJ {R : Nat → Nat → Nat} {t lv g f ice s0 m h d : Nat} {rs : Bool} {q D : Nat → Nat} {a4 : Int32} {μ : gq_M} {Q : gq_M → Prop} (hR : rOK R) (ht : t < R 1 0) (hl : lv ≤ 1) (hg : g < 1024) (hf : f ≤ 5) (hice : ice < 1024) (hK : gK μ R lv g f ice) (hJ : qJ (vOK R t) (px_N R t g f ice rs) s0 q m D h) (hM : QM μ q m D) (hh : h < m) (hd : d < 2) (hon : px_on a4 = decide (d = 1)) (hQ : ∀ ν q' m' D', fQ μ ν → qJ (vOK R t) (px_N R t g f ice rs) s0 q' m' D' h → QM ν q' m' D' → qE q m D q' m' D' → (∀ e, px_N R t g f ice rs d (q h) = some e → qMet q' m' D' h e) → Q ν) : wq_X7_goFrom (nI lv) (nI t) (nI (q h)) a4 μ Q := by
  have hT := hR.2.1
  have hP := hR.1
  have hv := hJ.2.1 h hh
  have he := vOK_lt hR hv
  have hbr := (hR.2.2.2 t ht).2.1
  have hkd := (hR.2.2.2 t ht).2.2
  have hN : px_N R t g f ice rs d (q h) = px_nx R t g f ice (px_on a4) (q h) := by
    unfold px_N
    rw [if_neg (by omega), hon]
  unfold wq_X7_goFrom
  intro v1 e1 v2 e2
  rw [show (110 : Int32) = nI 110 from rfl, pk_div (by omega) (by omega) (by omega)] at e1
  rw [mx_11, mx_10, pk_div (by omega) (by omega) (by omega), pk_rem (by omega) (by omega) (by omega)] at e2
  subst e1
  subst e2
  rw [mx_14, mx_12, pk_mul, nI_add, nI_clamp (by omega), nI_clamp (by omega), mx_11, pk_rem (by omega) (by omega) (by omega)]
  have hw : q h / 11 % 10 ≤ 9 := by omega
  refine sp7_pleatOf hK.1.1 hP hv.1 (fun k hk => ⟨fun _ => ?_, fun z => absurd z (mx_m9 (by have := px_pl_lt hv.1 hk; omega))⟩) (fun hk => ⟨fun z => absurd rfl z, fun _ => ?_⟩)
  · have hk2 := px_pl_lt hv.1 hk
    refine ⟨vp_in_nI (by omega) (by omega), vp_in_nI (by omega) (by omega), ?_⟩
    rw [hK.2.1, hK.2.2.1, (hK.1.2.2.2 t ht).2]
    refine sp7_costs hR hK.1 hk2 (by omega) hg hf hice hK.2.2.2 ?_
    have hcl := px_cost_le (o := q h % 11) (g := g) (ice := ice) hR hk2 hf
    refine sp7_pays hkd (by omega) ?_
    have hpl := px_pay_le (h := R 5 t) (c := px_cost R k (q h % 11) g f ice)
    unfold wq_X7_goFrom_b72 wq_X7_goFrom_b98 wq_X7_goFrom_b123 wq_X7_goFrom_b141
    rw [nI_ltI (by omega) (by omega), nI_clamp (by omega), nI_clamp (by omega), nI_clamp (by omega), (hK.1.2.2.1 k hk2).2, (hK.1.2.2.2 t ht).1, (hK.1.2.2.2 t ht).2, mx_3, nI_eq (by have := (hR.2.2.1 k hk2).2.2; omega) (by omega), nI_eq (by omega) (by omega), nI_1, nI_1]
    refine ⟨fun z => ?_, fun z => ?_⟩
    · refine hQ μ q m D fQ.rf hJ hM qE.rf (fun e q1 => ?_)
      rw [hN] at q1
      unfold px_nx at q1
      rw [hk] at q1
      simp only at q1
      rw [if_neg (by omega)] at q1
      cases q1
    · have hnx : px_nx R t g f ice (px_on a4) (q h) = some (110 * (if px_on a4 then q h / 110 + 1 else q h / 110 - 1) + 11 * (if R 3 k = 3 then R 4 t else q h / 11 % 10 - px_pay (R 5 t) (px_cost R k (q h % 11) g f ice)) + (if R 5 t = 3 then k + 1 else 0)) := by
        unfold px_nx
        rw [hk]
        simp only
        rw [if_pos (by omega)]
      have hsub : (nI (q h / 11 % 10) - nI (px_pay (R 5 t) (px_cost R k (q h % 11) g f ice)) : Int32) = nI (q h / 11 % 10 - px_pay (R 5 t) (px_cost R k (q h % 11) g f ice)) := pk_sub (by omega)
      rw [hsub]
      -- the meeting itself
      have meet : ∀ (x1 x2 x3 : Int32), x1 = nI (if px_on a4 then q h / 110 + 1 else q h / 110 - 1) → x2 = nI (if R 3 k = 3 then R 4 t else q h / 11 % 10 - px_pay (R 5 t) (px_cost R k (q h % 11) g f ice)) → x3 = nI (if R 5 t = 3 then k + 1 else 0) → wq_X7_meetState x1 x2 x3 (μ.1 10 (q h) + 1) μ (fun σ15 => Q σ15) := by
        intro x1 x2 x3 y1 y2 y3
        subst y1 y2 y3
        have hnv := px_nx_some hR ht hv hnx
        obtain ⟨k', _, _, _, _, _, _, hV⟩ := hnv
        refine sp7_meetJ (d := d) hR hJ hM hh (by omega) ?_ ?_ ?_ (by rw [hN]; exact hnx) hV (fun ν q' m' D' b1 b2 b3 b4 b5 => hQ ν q' m' D' b1 b2 b3 b4 (fun e z2 => ?_))
        · have := hv.1
          cases hx : px_on a4 with
          | true => rw [hx] at hk; have := px_pl_on hk; simp; omega
          | false => simp; omega
        · split <;> omega
        · split <;> omega
        · rw [hN, hnx] at z2
          have z3 := Option.some.inj z2
          rw [← z3]
          exact b5
      have hinx : vp_in (nI (q h)) 1210 := vp_in_nI (by omega) (by omega)
      have hint : vp_in (nI t) 5 := vp_in_nI (by omega) (by omega)
      have hink : vp_in (nI k) 10 := vp_in_nI (by omega) (by omega)
      have key : ∀ x1 : Int32, x1 = nI (if px_on a4 then q h / 110 + 1 else q h / 110 - 1) → (vp_in (nI k) 10 ∧ ((¬ R 3 k = 3 → vp_in (nI t) 5 ∧ ((¬ R 5 t = 3 → vp_in (nI (q h)) 1210 ∧ wq_X7_meetState x1 (nI (q h / 11 % 10 - px_pay (R 5 t) (px_cost R k (q h % 11) g f ice))) 0 (μ.1 10 (q h) + 1) μ (fun σ15 => Q σ15)) ∧ (R 5 t = 3 → vp_in (nI (q h)) 1210 ∧ wq_X7_meetState x1 (nI (q h / 11 % 10 - px_pay (R 5 t) (px_cost R k (q h % 11) g f ice))) (nI (k + 1)) (μ.1 10 (q h) + 1) μ (fun σ15 => Q σ15)))) ∧ (R 3 k = 3 → vp_in (nI t) 5 ∧ vp_in (nI t) 5 ∧ ((¬ R 5 t = 3 → vp_in (nI (q h)) 1210 ∧ wq_X7_meetState x1 (nI (R 4 t)) 0 (μ.1 10 (q h) + 1) μ (fun σ15 => Q σ15)) ∧ (R 5 t = 3 → vp_in (nI (q h)) 1210 ∧ wq_X7_meetState x1 (nI (R 4 t)) (nI (k + 1)) (μ.1 10 (q h) + 1) μ (fun σ15 => Q σ15)))))) := by
        intro x1 y1
        refine ⟨hink, fun z1 => ⟨hint, fun z2 => ⟨hinx, meet _ _ _ y1 (by rw [if_neg z1]) (by rw [if_neg z2]; rfl)⟩, fun z2 => ⟨hinx, meet _ _ _ y1 (by rw [if_neg z1]) (by rw [if_pos z2])⟩⟩, fun z1 => ⟨hint, hint, fun z2 => ⟨hinx, meet _ _ _ y1 (by rw [if_pos z1]) (by rw [if_neg z2]; rfl)⟩, fun z2 => ⟨hinx, meet _ _ _ y1 (by rw [if_pos z1]) (by rw [if_pos z2])⟩⟩⟩
      refine ⟨fun z0 => key _ ?_, fun z0 => key _ ?_⟩
      · have hx : px_on a4 = false := by unfold px_on; simp [z0]
        rw [hx] at hk ⊢
        have := px_pl_off hk
        rw [mx_1, pk_sub (by omega)]
        simp
      · have hx : px_on a4 = true := by unfold px_on; simp [z0]
        rw [hx]
        simp
  · unfold wq_X7_goFrom_b72
    rw [mx_10, nI_ltI (by omega) (by omega)]
    refine ⟨fun _ => hQ μ q m D fQ.rf hJ hM qE.rf (fun e q1 => ?_), fun z => by omega⟩
    rw [hN] at q1
    unfold px_nx at q1
    rw [hk] at q1
    cases q1
