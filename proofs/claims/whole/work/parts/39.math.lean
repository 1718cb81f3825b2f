/-! ===== maths 20: ways: places, winds, what stays let out; as one number 110 p + 11 w + o ===== -/
/-- what the step from e leads to -/
def px_nx (R : Nat → Nat → Nat) (t g f ice : Nat) (on : Bool) (e : Nat) : Option Nat := match px_pl (R 0 0) (e / 110) on with
  | none => none
  | some k => if px_pay (R 5 t) (px_cost R k (e % 11) g f ice) ≤ e / 11 % 10 then some (110 * (if on then e / 110 + 1 else e / 110 - 1) + 11 * (if R 3 k = 3 then R 4 t else e / 11 % 10 - px_pay (R 5 t) (px_cost R k (e % 11) g f ice)) + (if R 5 t = 3 then k + 1 else 0)) else none
def px_rs (R : Nat → Nat → Nat) (t e : Nat) : Nat := 110 * (e / 110) + 11 * px_restW (R 4 t) (e / 11 % 10)
/-- d 0: back, 1: on, 2: a rest -/
def px_N (R : Nat → Nat → Nat) (t g f ice : Nat) (rs : Bool) (d e : Nat) : Option Nat := if d = 2 then (if rs then some (px_rs R t e) else none) else px_nx R t g f ice (decide (d = 1)) e
/-- e is come to by just n moves -/
def px_at (N : Nat → Nat → Option Nat) (s0 : Nat) : Nat → Nat → Prop
  | 0, e => e = s0
  | n + 1, e => ∃ e' d, d < 3 ∧ px_at N s0 n e' ∧ N d e' = some e
def vOK (R : Nat → Nat → Nat) (t e : Nat) : Prop := e / 110 ≤ R 0 0 ∧ e / 11 % 10 ≤ R 4 t ∧ e % 11 ≤ R 0 0
theorem vOK_lt {R : Nat → Nat → Nat} {t e : Nat} (hR : rOK R) (h : vOK R t e) : e < 1210 := by
  have := hR.1
  have := h.1
  omega
theorem vOK_mk {R : Nat → Nat → Nat} {t p w o : Nat} (hR : rOK R) (ht : t < R 1 0) (hp : p ≤ R 0 0) (hw : w ≤ R 4 t) (ho : o ≤ R 0 0) : vOK R t (110 * p + 11 * w + o) ∧ (110 * p + 11 * w + o) / 110 = p ∧ (110 * p + 11 * w + o) / 11 % 10 = w ∧ (110 * p + 11 * w + o) % 11 = o := by
  have := hR.1
  have := (hR.2.2.2 t ht).2.1
  unfold vOK
  omega
theorem px_restW_b {b w : Nat} : px_restW b w ≤ b := by unfold px_restW; omega
theorem px_pl_on {P p k : Nat} (h : px_pl P p true = some k) : k = p ∧ p < P := by
  unfold px_pl at h
  simp at h
  omega
theorem px_pl_off {P p k : Nat} (h : px_pl P p false = some k) : p = k + 1 := by
  unfold px_pl at h
  simp at h
  omega
/-- the parts of what a step leads to -/
theorem px_nx_some {R : Nat → Nat → Nat} {t g f ice e e1 : Nat} {on : Bool} (hR : rOK R) (ht : t < R 1 0) (hv : vOK R t e) (h : px_nx R t g f ice on e = some e1) : ∃ k, px_pl (R 0 0) (e / 110) on = some k ∧ k < R 0 0 ∧ px_pay (R 5 t) (px_cost R k (e % 11) g f ice) ≤ e / 11 % 10 ∧ e1 / 110 = (if on then e / 110 + 1 else e / 110 - 1) ∧ e1 / 11 % 10 = (if R 3 k = 3 then R 4 t else e / 11 % 10 - px_pay (R 5 t) (px_cost R k (e % 11) g f ice)) ∧ e1 % 11 = (if R 5 t = 3 then k + 1 else 0) ∧ vOK R t e1 := by
  unfold px_nx at h
  cases hk : px_pl (R 0 0) (e / 110) on with
  | none => rw [hk] at h; cases h
  | some k =>
    rw [hk] at h
    have hk2 := px_pl_lt hv.1 hk
    simp only at h
    split at h
    · rename_i hc
      have h := Option.some.inj h
      have hw : (if R 3 k = 3 then R 4 t else e / 11 % 10 - px_pay (R 5 t) (px_cost R k (e % 11) g f ice)) ≤ R 4 t := by
        have := hv.2.1
        split <;> omega
      have ho : (if R 5 t = 3 then k + 1 else 0) ≤ R 0 0 := by split <;> omega
      have hp : (if on then e / 110 + 1 else e / 110 - 1) ≤ R 0 0 := by
        have := hv.1
        cases on with
        | true => have := px_pl_on hk; simp; omega
        | false => simp; omega
      have m := vOK_mk hR ht hp hw ho
      rw [h] at m
      exact ⟨k, rfl, hk2, hc, m.2.1, m.2.2.1, m.2.2.2, m.1⟩
    · cases h
theorem px_rs_p {R : Nat → Nat → Nat} {t e : Nat} (hR : rOK R) (ht : t < R 1 0) (hv : vOK R t e) : px_rs R t e / 110 = e / 110 ∧ px_rs R t e / 11 % 10 = px_restW (R 4 t) (e / 11 % 10) ∧ px_rs R t e % 11 = 0 ∧ vOK R t (px_rs R t e) := by
  have m := vOK_mk (o := 0) hR ht hv.1 (px_restW_b (b := R 4 t) (w := e / 11 % 10)) (by omega)
  unfold px_rs
  exact ⟨m.2.1, m.2.2.1, m.2.2.2, m.1⟩
theorem px_N_v {R : Nat → Nat → Nat} {t g f ice d e e1 : Nat} {rs : Bool} (hR : rOK R) (ht : t < R 1 0) (hv : vOK R t e) (h : px_N R t g f ice rs d e = some e1) : vOK R t e1 := by
  unfold px_N at h
  split at h
  · split at h
    · cases h; exact (px_rs_p hR ht hv).2.2.2
    · cases h
  · obtain ⟨k, _, _, _, _, _, _, q⟩ := px_nx_some hR ht hv h
    exact q
theorem px_at_v {R : Nat → Nat → Nat} {t g f ice s0 : Nat} {rs : Bool} (hR : rOK R) (ht : t < R 1 0) (hv : vOK R t s0) : ∀ n e, px_at (px_N R t g f ice rs) s0 n e → vOK R t e
  | 0, e, h => by cases h; exact hv
  | n + 1, e, ⟨e', d, _, h1, h2⟩ => px_N_v hR ht (px_at_v hR ht hv n e' h1) h2
/-- what is let out beside a place: 0 nothing, 1 behind, 2 ahead -/
def px_md (p o : Nat) : Nat := if o = p + 1 then 2 else if o = p ∧ 0 < p then 1 else 0
def px_nd (e : Nat) : Nat := 3 * (e / 110) + px_md (e / 110) (e % 11)
theorem px_md_le (p o : Nat) : px_md p o ≤ 2 := by
  unfold px_md
  split
  · omega
  · split <;> omega
theorem px_nd_p (e : Nat) : px_nd e / 3 = e / 110 ∧ px_nd e % 3 = px_md (e / 110) (e % 11) := by
  have := px_md_le (e / 110) (e % 11)
  unfold px_nd
  omega
theorem px_nd_lt {R : Nat → Nat → Nat} {t e : Nat} (hR : rOK R) (h : vOK R t e) : px_nd e < 33 := by
  have := hR.1
  have := h.1
  have := px_md_le (e / 110) (e % 11)
  unfold px_nd
  omega
/-- what stands at a node with wind w: the wind behind a step -/
def px_wb (R : Nat → Nat → Nat) (t g f ice : Nat) (on : Bool) (v w : Nat) : Option Nat := match px_pl (R 0 0) (v / 3) on with
  | none => none
  | some k => if px_pay (R 5 t) ((if v % 3 = (if on then 2 else 1) then 0 else px_c0 (R 2 k) (R 3 k) f (g.testBit k)) + (if ice.testBit k then 1 else 0)) ≤ w then some (if R 3 k = 3 then R 4 t else w - px_pay (R 5 t) ((if v % 3 = (if on then 2 else 1) then 0 else px_c0 (R 2 k) (R 3 k) f (g.testBit k)) + (if ice.testBit k then 1 else 0))) else none
def px_nb (R : Nat → Nat → Nat) (t : Nat) (on : Bool) (v : Nat) : Nat := 3 * (if on then v / 3 + 1 else v / 3 - 1) + (if R 5 t = 3 then (if on then 1 else 2) else 0)
theorem px_cost_nd {R : Nat → Nat → Nat} {g f ice e k : Nat} {on : Bool} (hk : px_pl (R 0 0) (e / 110) on = some k) : px_cost R k (e % 11) g f ice = (if px_nd e % 3 = (if on then 2 else 1) then 0 else px_c0 (R 2 k) (R 3 k) f (g.testBit k)) + (if ice.testBit k then 1 else 0) := by
  unfold px_cost
  rw [(px_nd_p e).2]
  have key : (e % 11 = k + 1) ↔ (px_md (e / 110) (e % 11) = (if on then 2 else 1)) := by
    unfold px_md
    cases on with
    | true =>
      have := (px_pl_on hk).1
      subst this
      by_cases h : e % 11 = e / 110 + 1
      · simp [h]
      · simp [h]
        split <;> omega
    | false =>
      have := px_pl_off hk
      by_cases h : e % 11 = k + 1
      · rw [if_neg (by omega), if_pos (by omega)]; simp [h]
      · by_cases h2 : e % 11 = e / 110 + 1
        · rw [if_pos h2]; simp [h]
        · rw [if_neg h2, if_neg (by omega)]; simp [h]
  by_cases h : e % 11 = k + 1
  · rw [if_pos h, if_pos (key.mp h)]
  · rw [if_neg h, if_neg (fun q => h (key.mpr q))]
/-- a step of a state is a step of its node -/
theorem px_nx_wb {R : Nat → Nat → Nat} {t g f ice e : Nat} {on : Bool} (hR : rOK R) (ht : t < R 1 0) (hv : vOK R t e) : (∀ e1, px_nx R t g f ice on e = some e1 → px_wb R t g f ice on (px_nd e) (e / 11 % 10) = some (e1 / 11 % 10) ∧ px_nd e1 = px_nb R t on (px_nd e)) ∧ (∀ w1, px_wb R t g f ice on (px_nd e) (e / 11 % 10) = some w1 → ∃ e1, px_nx R t g f ice on e = some e1 ∧ e1 / 11 % 10 = w1 ∧ px_nd e1 = px_nb R t on (px_nd e)) := by
  have a : ∀ e1, px_nx R t g f ice on e = some e1 → px_wb R t g f ice on (px_nd e) (e / 11 % 10) = some (e1 / 11 % 10) ∧ px_nd e1 = px_nb R t on (px_nd e) := by
    intro e1 h
    obtain ⟨k, h1, h2, h3, h4, h5, h6, h7⟩ := px_nx_some hR ht hv h
    refine ⟨?_, ?_⟩
    · unfold px_wb
      rw [(px_nd_p e).1, h1]
      simp only
      rw [← px_cost_nd h1, if_pos h3, h5]
    · unfold px_nd px_nb
      rw [h4, h6]
      have := (px_nd_p e).1
      unfold px_nd at this
      rw [this]
      unfold px_md
      cases on with
      | true =>
        have hk := (px_pl_on h1).1
        rw [hk]
        by_cases hh : R 5 t = 3
        · simp [hh]
        · simp [hh]
      | false =>
        have := px_pl_off h1
        by_cases hh : R 5 t = 3
        · simp [hh]; omega
        · simp [hh]; omega
  refine ⟨a, fun w1 h => ?_⟩
  cases hx : px_nx R t g f ice on e with
  | some e1 =>
    have b := a e1 hx
    rw [h] at b
    exact ⟨e1, rfl, (Option.some.inj b.1).symm, b.2⟩
  | none =>
    unfold px_wb at h
    unfold px_nx at hx
    rw [(px_nd_p e).1] at h
    cases hk : px_pl (R 0 0) (e / 110) on with
    | none => rw [hk] at h; cases h
    | some k =>
      rw [hk] at h hx
      simp only at h hx
      rw [← px_cost_nd hk] at h
      split at hx
      · cases hx
      · rename_i q
        rw [if_neg q] at h
        cases h
theorem px_pay_mono {h c d : Nat} (hc : c ≤ d) : px_pay h c ≤ px_pay h d := by
  unfold px_pay
  split
  · exact Nat.div_le_div_right hc
  · split <;> omega
theorem px_c0_mono {s k f : Nat} {g g' : Bool} (h : g = true → g' = true) (hs : 1 ≤ s) : px_c0 s k f g' ≤ px_c0 s k f g := by
  unfold px_c0
  cases g with
  | true => rw [h rfl]; omega
  | false =>
    cases g' with
    | true =>
      by_cases hk : k = 3
      · simp [hk]
      · simp [hk]
        split <;> omega
    | false => omega
/-- more wind, more grease: no step is hindered -/
theorem px_wb_mono {R : Nat → Nat → Nat} {t g g' f ice v w w' w1 : Nat} {on : Bool} (hR : rOK R) (hv : v / 3 ≤ R 0 0) (hg : ∀ i, i < R 0 0 → g.testBit i = true → g'.testBit i = true) (hw : w ≤ w') (hb : w' ≤ R 4 t) (h : px_wb R t g f ice on v w = some w1) : ∃ w1', px_wb R t g' f ice on v w' = some w1' ∧ w1 ≤ w1' ∧ w1' ≤ R 4 t := by
  unfold px_wb at h ⊢
  cases hk : px_pl (R 0 0) (v / 3) on with
  | none => rw [hk] at h; cases h
  | some k =>
    rw [hk] at h
    simp only at h ⊢
    have hk2 := px_pl_lt hv hk
    have hc : (if v % 3 = (if on then 2 else 1) then 0 else px_c0 (R 2 k) (R 3 k) f (g'.testBit k)) + (if ice.testBit k then 1 else 0) ≤ (if v % 3 = (if on then 2 else 1) then 0 else px_c0 (R 2 k) (R 3 k) f (g.testBit k)) + (if ice.testBit k then 1 else 0) := by
      have := px_c0_mono (k := R 3 k) (f := f) (hg k hk2) (hR.2.2.1 k hk2).1
      apply Nat.add_le_add_right
      by_cases q : v % 3 = (if on then 2 else 1)
      · rw [if_pos q, if_pos q]; omega
      · rw [if_neg q, if_neg q]; exact this
    have hp := px_pay_mono (h := R 5 t) hc
    generalize px_pay (R 5 t) ((if v % 3 = (if on then 2 else 1) then 0 else px_c0 (R 2 k) (R 3 k) f (g'.testBit k)) + (if ice.testBit k then 1 else 0)) = c' at hp
    generalize px_pay (R 5 t) ((if v % 3 = (if on then 2 else 1) then 0 else px_c0 (R 2 k) (R 3 k) f (g.testBit k)) + (if ice.testBit k then 1 else 0)) = c at hp h
    split at h
    · rename_i q
      have h := Option.some.inj h
      rw [if_pos (by omega)]
      refine ⟨_, rfl, ?_, ?_⟩
      · rw [← h]; split <;> omega
      · split <;> omega
    · cases h
theorem px_restW_mono {b w w' : Nat} (h : w ≤ w') : px_restW b w ≤ px_restW b w' := by unfold px_restW; omega
/-- what can be come to can be come to with more grease -/
theorem px_at_mono {R : Nat → Nat → Nat} {t g g' f ice s0 : Nat} {rs : Bool} (hR : rOK R) (ht : t < R 1 0) (hv : vOK R t s0) (hg : ∀ i, i < R 0 0 → g.testBit i = true → g'.testBit i = true) : ∀ n e, px_at (px_N R t g f ice rs) s0 n e → ∃ e', px_at (px_N R t g' f ice rs) s0 n e' ∧ px_nd e = px_nd e' ∧ e / 11 % 10 ≤ e' / 11 % 10
  | 0, e, h => ⟨s0, rfl, by cases h; rfl, by cases h; omega⟩
  | n + 1, e, ⟨e0, d, hd, h1, h2⟩ => by
    obtain ⟨e0', a1, a2, a3⟩ := px_at_mono hR ht hv hg n e0 h1
    have v0 := px_at_v hR ht hv n e0 h1
    have v0' := px_at_v hR ht hv n e0' a1
    unfold px_N at h2
    split at h2
    · rename_i hd2
      split at h2
      · rename_i hrs
        cases h2
        have b := px_rs_p hR ht v0
        have b' := px_rs_p hR ht v0'
        refine ⟨px_rs R t e0', ⟨e0', d, hd, a1, by unfold px_N; rw [if_pos hd2, if_pos hrs]⟩, ?_, ?_⟩
        · have c1 := (px_nd_p e0).1
          have c2 := (px_nd_p e0').1
          rw [a2] at c1
          unfold px_nd
          rw [b.1, b.2.2.1, b'.1, b'.2.2.1, ← c1, ← c2]
        · rw [b.2.1, b'.2.1]
          exact px_restW_mono a3
      · cases h2
    · rename_i hd2
      have c := (px_nx_wb hR ht v0).1 e h2
      rw [a2] at c
      have hvp : px_nd e0' / 3 ≤ R 0 0 := by rw [(px_nd_p e0').1]; exact v0'.1
      obtain ⟨w1', b1, b2, _⟩ := px_wb_mono hR hvp hg a3 v0'.2.1 c.1
      obtain ⟨e1', d1, d2, d3⟩ := (px_nx_wb hR ht v0').2 w1' b1
      exact ⟨e1', ⟨e0', d, hd, a1, by unfold px_N; rw [if_neg hd2]; exact d1⟩, by rw [c.2, d3], by omega⟩
