/-! ===== maths 25: the component's places ===== -/
theorem px_sum_up {a : Nat → Nat} {v x : Nat} : ∀ n, (v < n → px_sum (px_up a v x) n + a v = px_sum a n + x) ∧ (n ≤ v → px_sum (px_up a v x) n = px_sum a n)
  | 0 => ⟨fun h => absurd h (by omega), fun _ => rfl⟩
  | n + 1 => by
    have ih := px_sum_up (a := a) (v := v) (x := x) n
    rw [px_sum_s, px_sum_s]
    refine ⟨fun h => ?_, fun h => ?_⟩
    · rcases Nat.lt_or_ge v n with g | g
      · have := ih.1 g
        rw [px_up_n (by omega)]
        omega
      · have := ih.2 g
        obtain rfl : v = n := by omega
        rw [px_up_s]
        omega
    · rw [px_up_n (by omega), ih.2 (by omega)]
theorem px_sum_le {a : Nat → Nat} {b : Nat} : ∀ n, (∀ i, i < n → a i ≤ b) → px_sum a n ≤ b * n
  | 0, _ => by unfold px_sum; omega
  | n + 1, h => by
    have ih := px_sum_le n (fun i hi => h i (by omega))
    have := h n (by omega)
    rw [px_sum_s, Nat.mul_succ]
    omega
def pJ (R : Nat → Nat → Nat) (t g f ice s0 : Nat) (a c : Nat → Nat) (T h : Nat) : Prop :=
  (1 ≤ T ∧ T ≤ px_sum a 33) ∧ (∀ v, v < 33 → a v ≤ R 4 t + 1) ∧ (∀ v, v < 33 → 0 < a v → ∃ n e, px_at (px_N R t g f ice false) s0 n e ∧ px_nd e = v ∧ e / 11 % 10 + 1 = a v) ∧ (∀ i, i < T → c i < 33 ∧ 0 < a (c i)) ∧ (∀ v, v < 33 → 0 < a v → (∃ i, h ≤ i ∧ i < T ∧ c i = v) ∨ ((∃ i, i < T ∧ c i = v) ∧ ∀ on w, px_wb R t g f ice on v (a v - 1) = some w → w < a (px_nb R t on v))) ∧ s0 / 11 % 10 + 1 ≤ a (px_nd s0)
theorem pJ_T {R : Nat → Nat → Nat} {t g f ice s0 T h : Nat} {a c : Nat → Nat} (hb : R 4 t ≤ 9) (hJ : pJ R t g f ice s0 a c T h) : T ≤ 330 := by
  have h1 := hJ.1.2
  have h2 := px_sum_le (b := 10) 33 (fun i hi => by have := hJ.2.1 i hi; omega : ∀ i, i < 33 → a i ≤ 10)
  omega
/-- what a step from a node of the row leads to -/
theorem pJ_go {R : Nat → Nat → Nat} {t g f ice s0 T h v w : Nat} {a c : Nat → Nat} {on : Bool} (hR : rOK R) (ht : t < R 1 0) (hs : vOK R t s0) (hJ : pJ R t g f ice s0 a c T h) (hv : v < 33) (ha : 0 < a v) (hw : px_wb R t g f ice on v (a v - 1) = some w) : ∃ n e, px_at (px_N R t g f ice false) s0 n e ∧ px_nd e = px_nb R t on v ∧ e / 11 % 10 = w ∧ px_nb R t on v < 33 ∧ w ≤ R 4 t ∧ px_nb R t on v ≠ v ∧ v / 3 ≤ R 0 0 := by
  obtain ⟨n, e, h1, h2, h3⟩ := hJ.2.2.1 v hv ha
  have hve := px_at_v hR ht hs n e h1
  have e3 : e / 11 % 10 = a v - 1 := by omega
  rw [← e3, ← h2] at hw
  obtain ⟨e1, g1, g2, g3⟩ := (px_nx_wb hR ht hve).2 w hw
  obtain ⟨k, k1, k2, k3, k4, k5, k6, k7⟩ := px_nx_some hR ht hve g1
  rw [h2] at g3
  refine ⟨n + 1, e1, ⟨e, if on then 1 else 0, by split <;> omega, h1, ?_⟩, g3, g2, ?_, ?_, ?_, ?_⟩
  · unfold px_N
    cases on <;> exact g1
  · rw [← g3]; exact px_nd_lt hR k7
  · have := k7.2.1; omega
  · intro q
    have p1 := (px_nd_p e1).1
    have p2 := (px_nd_p e).1
    rw [g3, q, ← h2] at p1
    rw [p2] at p1
    rw [k4] at p1
    cases on with
    | true => simp at p1
    | false => have := px_pl_off k1; simp at p1; omega
  · rw [← h2, (px_nd_p e).1]; exact hve.1
theorem pJ_new {R : Nat → Nat → Nat} {t g f ice s0 T h w : Nat} {a c : Nat → Nat} {on : Bool} (hR : rOK R) (ht : t < R 1 0) (hs : vOK R t s0) (hJ : pJ R t g f ice s0 a c T h) (hh : h < T) (hw : px_wb R t g f ice on (c h) (a (c h) - 1) = some w) (hn : a (px_nb R t on (c h)) ≤ w) : pJ R t g f ice s0 (px_up a (px_nb R t on (c h)) (w + 1)) (px_up c T (px_nb R t on (c h))) (T + 1) h := by
  obtain ⟨hv, ha⟩ := hJ.2.2.2.1 h hh
  obtain ⟨n, e, g1, g2, g3, g4, g5, g6, _⟩ := pJ_go hR ht hs hJ hv ha hw
  generalize px_nb R t on (c h) = b at *
  have up : ∀ v, a v ≤ px_up a b (w + 1) v := fun v => by
    by_cases q : v = b
    · rw [q, px_up_s]; omega
    · rw [px_up_n q]; omega
  have upc : ∀ i, i < T → px_up c T b i = c i := fun i hi => px_up_n (by omega)
  obtain ⟨j0, j1, j2, j3, j4, j5⟩ := hJ
  refine ⟨⟨by omega, ?_⟩, fun v hv => ?_, fun v hv hp => ?_, fun i hi => ?_, fun v hv hp => ?_, Nat.le_trans j5 (up _)⟩
  · have := (px_sum_up (a := a) (v := b) (x := w + 1) 33).1 g4
    omega
  · by_cases q : v = b
    · rw [q, px_up_s]; omega
    · rw [px_up_n q]; exact j1 v hv
  · by_cases q : v = b
    · exact ⟨n, e, g1, by rw [g2, q], by rw [q, px_up_s, g3]⟩
    · rw [px_up_n q] at hp ⊢; exact j2 v hv hp
  · rcases Nat.lt_or_ge i T with q | q
    · rw [upc i q]
      exact ⟨(j3 i q).1, Nat.lt_of_lt_of_le (j3 i q).2 (up _)⟩
    · rw [show i = T by omega, px_up_s, px_up_s]
      exact ⟨g4, by omega⟩
  · by_cases q : v = b
    · exact Or.inl ⟨T, by omega, by omega, by rw [px_up_s, q]⟩
    · rw [px_up_n q] at hp ⊢
      rcases j4 v hv hp with ⟨i, x1, x2, x3⟩ | ⟨⟨i, x2, x3⟩, x4⟩
      · exact Or.inl ⟨i, x1, by omega, by rw [upc i x2, x3]⟩
      · exact Or.inr ⟨⟨i, by omega, by rw [upc i x2, x3]⟩, fun on2 w2 hw2 => Nat.lt_of_lt_of_le (x4 on2 w2 hw2) (up _)⟩
theorem pJ_next {R : Nat → Nat → Nat} {t g f ice s0 T h : Nat} {a c : Nat → Nat} (hJ : pJ R t g f ice s0 a c T h) (hh : h < T) (hall : ∀ on w, px_wb R t g f ice on (c h) (a (c h) - 1) = some w → w < a (px_nb R t on (c h))) : pJ R t g f ice s0 a c T (h + 1) := by
  obtain ⟨j0, j1, j2, j3, j4, j5⟩ := hJ
  refine ⟨j0, j1, j2, j3, fun v hv hp => ?_, j5⟩
  by_cases q : v = c h
  · exact Or.inr ⟨⟨h, hh, q.symm⟩, by rw [q]; exact hall⟩
  · rcases j4 v hv hp with ⟨i, x1, x2, x3⟩ | y
    · refine Or.inl ⟨i, ?_, x2, x3⟩
      rcases Nat.lt_or_ge h i with z | z
      · omega
      · exact absurd (by rw [← x3, show i = h by omega]) q
    · exact Or.inr y
theorem pJ_all {R : Nat → Nat → Nat} {t g f ice s0 T : Nat} {a c : Nat → Nat} (hR : rOK R) (ht : t < R 1 0) (hs : vOK R t s0) (hJ : pJ R t g f ice s0 a c T T) : ∀ n e, px_at (px_N R t g f ice false) s0 n e → e / 11 % 10 + 1 ≤ a (px_nd e)
  | 0, e, h => by
    rw [show e = s0 from h]
    exact hJ.2.2.2.2.2
  | n + 1, e, ⟨e0, d, hd, h1, h2⟩ => by
    have ih := pJ_all hR ht hs hJ n e0 h1
    have v0 := px_at_v hR ht hs n e0 h1
    unfold px_N at h2
    split at h2
    · simp at h2
    · have b := (px_nx_wb hR ht v0).1 e h2
      have hlt := px_nd_lt hR v0
      have hav := hJ.2.1 _ hlt
      have hvp : px_nd e0 / 3 ≤ R 0 0 := by rw [(px_nd_p e0).1]; exact v0.1
      obtain ⟨w1, c1, c2, c3⟩ := px_wb_mono (w' := a (px_nd e0) - 1) hR hvp (fun _ _ x => x) (by omega) (by omega) b.1
      rcases hJ.2.2.2.2.1 _ hlt (by omega) with ⟨i, x1, x2, x3⟩ | ⟨_, x4⟩
      · omega
      · have := x4 _ _ c1
        rw [b.2]
        omega
theorem pJ_mask {R S : Nat → Nat → Nat} {t g ice T : Nat} {a c : Nat → Nat} (hR : rOK R) (hS : sOK R S) (ht : t < R 1 0) (hJ : pJ R t g (S 2 2) ice (px_s0 S t) a c T T) : isMask R S t g ice (px_orr (fun i => c i / 3) T) := by
  have hs := (px_s0_v hR hS ht).1
  refine ⟨px_orr_lt (b := 11) T (fun i hi => by have := (hJ.2.2.2.1 i hi).1; omega), fun p => ?_⟩
  rw [px_orr_bit]
  constructor
  · rintro ⟨i, hi, e⟩
    obtain ⟨h1, h2⟩ := hJ.2.2.2.1 i hi
    obtain ⟨n, e', g1, g2, _⟩ := hJ.2.2.1 _ h1 h2
    exact ⟨n, e', g1, by rw [← (px_nd_p e').1, g2]; exact e⟩
  · rintro ⟨n, e, h1, h2⟩
    have h3 := pJ_all hR ht hs hJ n e h1
    have hlt := px_nd_lt hR (px_at_v hR ht hs n e h1)
    rcases hJ.2.2.2.2.1 _ hlt (by omega) with ⟨i, x1, x2, x3⟩ | ⟨⟨i, x2, x3⟩, _⟩
    · exact ⟨i, x2, by rw [x3, (px_nd_p e).1]; exact h2⟩
    · exact ⟨i, x2, by rw [x3, (px_nd_p e).1]; exact h2⟩
/-- the memory of it -/
def PM (σ : gq_M) (a c : Nat → Nat) (T : Nat) : Prop := (∀ v, v < 33 → σ.1 19 v = nI (a v) - 1) ∧ (∀ i, i < T → σ.1 21 i = nI (c i))
def kV (c : Nat) : Prop := c = 19 ∨ c = 20 ∨ c = 21
theorem fP.wK {σ τ : gq_M} {R : Nat → Nat → Nat} {t g f ice : Nat} (h : fP kV σ τ) (k : wK σ R t g f ice) : wK τ R t g f ice := by
  refine ⟨cRd_of (fun c a b => h.1 c (by unfold kV; omega)) k.1, ?_, ?_, ?_⟩
  · rw [h.1 22 (by unfold kV; omega), h.1 23 (by unfold kV; omega)]; exact k.2.1
  · rw [h.1 18 (by unfold kV; omega)]; exact k.2.2.1
  · rw [h.1 18 (by unfold kV; omega)]; exact k.2.2.2
theorem mx_mw {a : Nat} (h : 0 < a) : (nI a - 1 : Int32) = nI (a - 1) := pk_sub (b := 1) h
theorem mx_mwlt {a w : Nat} (ha : a < 100) (hw : w < 100) : (nI a - 1 : Int32) < nI w ↔ a ≤ w := by
  rw [Int32.lt_iff_toInt_lt, mx_1, pk_sub_toInt (by omega) (by omega), nI_toInt (by omega)]
  omega
theorem sp5_enqueue {R : Nat → Nat → Nat} {t g f ice s0 T h : Nat} {a c : Nat → Nat} {a2 : Int32} {σ : gq_M} {Q : Int32 → gq_M → Prop} (hR : rOK R) (ht : t < R 1 0) (hf : f ≤ 5) (hs : vOK R t s0) (hK : wK σ R t g f ice) (hJ : pJ R t g f ice s0 a c T h) (hM : PM σ a c T) (hh : h < T) (hQ : ∀ τ a' c' T', fP kV σ τ → pJ R t g f ice s0 a' c' T' h → PM τ a' c' T' → T ≤ T' → (∀ i, i < T → c' i = c i) → (∀ v, a v ≤ a' v) → a' (c h) = a (c h) → (∀ w, px_wb R t g f ice (px_on a2) (c h) (a (c h) - 1) = some w → w < a' (px_nb R t (px_on a2) (c h))) → Q (nI T') τ) : wq_X5_enqueueBeyond (nI (c h)) a2 (nI T) σ Q := by
  have hb := (hR.2.2.2 t ht).2.1
  obtain ⟨hv, ha⟩ := hJ.2.2.2.1 h hh
  have hav := hJ.2.1 _ hv
  have hT := pJ_T hb hJ
  have hp : c h / 3 ≤ R 0 0 := by
    obtain ⟨n, e, g1, g2, _⟩ := hJ.2.2.1 _ hv ha
    rw [← g2, (px_nd_p e).1]
    exact (px_at_v hR ht hs n e g1).1
  unfold wq_X5_enqueueBeyond
  refine sp5_windBeyond (w := a (c h) - 1) hR hf hK hv hp (by omega) (by rw [hM.1 _ hv, mx_mw ha]) (fun w hw => ?_) (fun hw x hx => ?_)
  · obtain ⟨n, e, g1, g2, g3, g4, g5, g6, _⟩ := pJ_go hR ht hs hJ hv ha hw
    have hab := hJ.2.1 _ g4
    refine ⟨fun q => absurd q (nI_pos (by omega)), fun _ => ?_⟩
    rw [mx_330, nI_ltI (by omega) (by omega)]
    by_cases hle : a (px_nb R t (px_on a2) (c h)) ≤ w
    · have hJ' := pJ_new hR ht hs hJ hh hw hle
      have hT' := pJ_T hb hJ'
      refine ⟨fun _ => ?_, fun q => by omega⟩
      obtain ⟨k, hk⟩ : ∃ k, px_pl (R 0 0) (c h / 3) (px_on a2) = some k := by
        unfold px_wb at hw
        cases hk : px_pl (R 0 0) (c h / 3) (px_on a2) with
        | none => rw [hk] at hw; cases hw
        | some k => exact ⟨k, rfl⟩
      refine sp5_nodeBeyond hR hK hv hk ?_
      rw [nI_clamp (by omega), hM.1 _ g4, mx_mwlt (by omega) (by omega), nI_clamp (by omega), nI_1]
      refine ⟨vp_in_nI g4 (by omega), fun _ => ⟨vp_in_nI g4 (by omega), vp_in_nI (by omega) (by omega), ?_⟩, fun q => absurd hle q⟩
      refine hQ _ _ _ _ ((fP.put (P := kV) fP.rf (Or.inl rfl)).put (Or.inr (Or.inr rfl))) hJ' ⟨fun v hv => ?_, fun i hi => ?_⟩ (by omega) (fun i hi => px_up_n (by omega)) (fun v => ?_) (px_up_n (fun q => g6 q.symm)) (fun w2 hw2 => ?_)
      · rw [mx_ro (by omega), mx_rs]
        by_cases q : v = px_nb R t (px_on a2) (c h)
        · rw [if_pos q, q, px_up_s, mx_mw (by omega)]; rfl
        · rw [if_neg q, px_up_n q]; exact hM.1 v hv
      · rw [mx_rs]
        by_cases q : i = T
        · rw [if_pos q, q, px_up_s]
        · rw [if_neg q, px_up_n q, mx_ro (by omega)]; exact hM.2 i (by omega)
      · by_cases q : v = px_nb R t (px_on a2) (c h)
        · rw [q, px_up_s]; omega
        · rw [px_up_n q]; omega
      · rw [hw] at hw2
        have := Option.some.inj hw2
        rw [px_up_s]; omega
    · have same := hQ σ a c T fP.rf hJ hM (Nat.le_refl _) (fun _ _ => rfl) (fun _ => Nat.le_refl _) rfl (fun w2 hw2 => by
        rw [hw] at hw2
        have := Option.some.inj hw2
        omega)
      refine ⟨fun _ => ?_, fun _ => same⟩
      obtain ⟨k, hk⟩ : ∃ k, px_pl (R 0 0) (c h / 3) (px_on a2) = some k := by
        unfold px_wb at hw
        cases hk : px_pl (R 0 0) (c h / 3) (px_on a2) with
        | none => rw [hk] at hw; cases hw
        | some k => exact ⟨k, rfl⟩
      refine sp5_nodeBeyond hR hK hv hk ?_
      rw [nI_clamp (by omega), hM.1 _ g4, mx_mwlt (by omega) (by omega)]
      exact ⟨vp_in_nI g4 (by omega), fun q => absurd q hle, fun _ => same⟩
  · exact ⟨fun _ => hQ σ a c T fP.rf hJ hM (Nat.le_refl _) (fun _ _ => rfl) (fun _ => Nat.le_refl _) rfl (fun w2 hw2 => by rw [hw] at hw2; cases hw2), fun q => absurd hx q⟩
