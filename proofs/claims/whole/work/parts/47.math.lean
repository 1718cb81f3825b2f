/-! ===== maths 28: fewest ===== -/
theorem mx_upo {σ : gq_M} {i c : Nat} {f : Nat → Int32} (h : c ≠ i) : (gq_up σ i f).1 c = σ.1 c := if_neg h
theorem mx_ups {σ : gq_M} {i : Nat} {f : Nat → Int32} : (gq_up σ i f).1 i = f := if_pos rfl
theorem mx_wK20 {σ τ : gq_M} {R : Nat → Nat → Nat} {t g f ice : Nat} (h : fP (fun c => c = 20) σ τ) (k : wK σ R t g f ice) : wK τ R t g f ice := fP.wK (σ := σ) ⟨fun c hc => h.1 c (fun e => hc (Or.inr (Or.inl e))), h.2⟩ k
theorem sp5_stepOnce {R : Nat → Nat → Nat} {t g f s0 n v : Nat} {a b : Nat → Nat} {a2 : Int32} {σ : gq_M} {Q : gq_M → Prop} (hR : rOK R) (ht : t < R 1 0) (hf : f ≤ 5) (hs : vOK R t s0) (hK : wK σ R t g f 0) (hI : mI R t g f s0 a n) (hB : mB R t g f s0 a b n) (hA : MM σ 19 a) (hM : MM σ 20 b) (hv : v < 33) (hav : 0 < a v) (hQ : ∀ τ b', fP (fun c => c = 20) σ τ → MM τ 20 b' → mB R t g f s0 a b' n → (∀ v, b v ≤ b' v) → (∀ w, px_wb R t g f 0 (px_on a2) v (a v - 1) = some w → w + 1 ≤ b' (px_nb R t (px_on a2) v)) → Q τ) : wq_X5_stepOnce (nI v) a2 σ Q := by
  have hb := (hR.2.2.2 t ht).2.1
  obtain ⟨e, h1, h2, h3⟩ := hI.2.1 v hv hav
  have hve := px_at_v hR ht hs n e h1
  have ha1 := hI.1 v hv
  have hp : v / 3 ≤ R 0 0 := by rw [← h2, (px_nd_p e).1]; exact hve.1
  unfold wq_X5_stepOnce
  refine sp5_windBeyond (w := a v - 1) hR hf hK hv hp (by omega) (by rw [hA v hv, mx_mw hav]) (fun w hw => ?_) (fun hw x hx => ?_)
  · have hw' := hw
    rw [show a v - 1 = e / 11 % 10 by omega, ← h2] at hw'
    obtain ⟨e1, g1, g2, g3⟩ := (px_nx_wb hR ht hve).2 w hw'
    obtain ⟨k, k1, k2, k3, k4, k5, k6, k7⟩ := px_nx_some hR ht hve g1
    have hnb : px_nb R t (px_on a2) v < 33 := by rw [← h2, ← g3]; exact px_nd_lt hR k7
    have hw9 : w ≤ R 4 t := by rw [← g2]; exact k7.2.1
    have hat : px_at (px_N R t g f 0 true) s0 (n + 1) e1 := by
      refine ⟨e, if px_on a2 then 1 else 0, by split <;> omega, h1, ?_⟩
      unfold px_N
      cases hx : px_on a2 with
      | true => rw [hx] at g1; exact g1
      | false => rw [hx] at g1; exact g1
    refine ⟨fun q => absurd q (nI_pos (by omega)), fun _ => ?_⟩
    refine sp5_nodeBeyond (k := k) hR hK hv (by rw [← h2, (px_nd_p e).1]; exact k1) ?_
    refine sp5_raise hnb (by omega) (by have := hB.1 _ hnb; omega) hM (fun τ c1 c2 => ?_)
    refine hQ τ _ c1 c2 (mB_rz hB hw9 ⟨e1, hat, by rw [g3, h2], g2⟩) (fun v => px_rz_le v) (fun w2 hw2 => ?_)
    rw [hw] at hw2
    have := Option.some.inj hw2
    unfold px_rz
    rw [px_up_s]
    omega
  · exact ⟨fun _ => hQ σ b fP.rf hM hB (fun _ => Nat.le_refl _) (fun w hw2 => by rw [hw] at hw2; cases hw2), fun q => absurd hx q⟩
theorem sp5_moveOnce {R : Nat → Nat → Nat} {t g f s0 n : Nat} {a : Nat → Nat} {σ : gq_M} {Q : gq_M → Prop} (hR : rOK R) (ht : t < R 1 0) (hf : f ≤ 5) (hs : vOK R t s0) (hK : wK σ R t g f 0) (hI : mI R t g f s0 a n) (hA : MM σ 19 a) (hQ : ∀ τ b, fP kV σ τ → MM τ 19 b → mI R t g f s0 b (n + 1) → Q τ) : wq_X5_moveOnce σ Q := by
  have hbr := (hR.2.2.2 t ht).2.1
  unfold wq_X5_moveOnce
  refine spJ_fill (fun τ0 a0 b0 => ?_)
  have hK0 : wK τ0 R t g f 0 := mx_wK20 a0 hK
  have hA0 : MM τ0 19 a := fun v hv => by rw [a0.1 19 (by omega)]; exact hA v hv
  have key : ∀ (K : gq_M → Prop), (∀ τ b, fP (fun c => c = 20) σ τ → MM τ 20 b → mB R t g f s0 a b n → (∀ v, v < 33 → mD R t g f a b v) → K τ) → ∀ m k τ b, k + m = 33 → fP (fun c => c = 20) σ τ → MM τ 20 b → mB R t g f s0 a b n → (∀ v, v < k → mD R t g f a b v) → wq_X5_moveOnce_l10 Q K (m + 1) (nI k) τ := by
    intro K hKK
    intro m
    induction m with
    | zero =>
      intro k τ b hk hfr hM hB hD
      obtain rfl : k = 33 := by omega
      unfold wq_X5_moveOnce_l10
      exact ⟨fun _ => hKK τ b hfr hM hB hD, fun q => absurd (by decide) q⟩
    | succ m ih =>
      intro k τ b hk hfr hM hB hD
      have hk33 : k < 33 := by omega
      have hin : vp_in (nI k) 33 := vp_in_nI (by omega) (by omega)
      have hAτ : MM τ 19 a := fun v hv => by rw [hfr.1 19 (by omega)]; exact hA v hv
      unfold wq_X5_moveOnce_l10
      rw [show (33 : Int32) = nI 33 from rfl, nI_leI (by omega) (by omega), nI_clamp (by omega), hAτ k hk33]
      have ext : ∀ b', (∀ v, b v ≤ b' v) → mD R t g f a b' k → ∀ v, v < k + 1 → mD R t g f a b' v := fun b' hb' hk' v hv => by
        rcases Nat.lt_or_ge v k with z | z
        · exact mD_up hb' (hD v z)
        · rw [show v = k by omega]; exact hk'
      refine ⟨fun q => by omega, fun _ => ⟨hin, fun q => ?_, fun q => ?_⟩⟩
      · unfold wq_X5_moveOnce_b61
        intro v5 e5
        rw [e5, nI_1]
        refine ih (k + 1) τ b (by omega) hfr hM hB (ext b (fun _ => Nat.le_refl _) (fun p => ?_))
        rw [mx_mw p] at q
        exact absurd q (nI_pos (by have := hI.1 k hk33; omega))
      · have hak : 0 < a k := by
          rcases Nat.eq_zero_or_pos (a k) with z | z
          · rw [z] at q; exact absurd (by decide) q
          · exact z
        have hKτ : wK τ R t g f 0 := mx_wK20 hfr hK
        refine sp5_stepOnce hR ht hf hs hKτ hI hB hAτ hM hk33 hak (fun τ1 b1 x1 x2 x3 x4 x5 => ?_)
        have hA1 : MM τ1 19 a := fun v hv => by rw [x1.1 19 (by omega)]; exact hAτ v hv
        refine sp5_stepOnce hR ht hf hs (mx_wK20 x1 hKτ) hI x3 hA1 x2 hk33 hak (fun τ2 b2 y1 y2 y3 y4 y5 => ⟨hin, ?_⟩)
        have hA2 : MM τ2 19 a := fun v hv => by rw [y1.1 19 (by omega)]; exact hA1 v hv
        have hK2 := mx_wK20 y1 (mx_wK20 x1 hKτ)
        have ha1 := hI.1 k hk33
        rw [hA2 k hk33, mx_mw hak, hK2.2.2.1]
        refine sp2_windRested hbr (by omega) ?_
        have em : (nI k - (nI k - nI k / 3 * 3) + 0 : Int32) = nI (k - k % 3) := by
          rw [mx_3, pk_rem (by omega) (by omega) (by omega), pk_sub (by omega), mx_0, nI_add]
          rfl
        rw [em]
        obtain ⟨e, h1, h2, h3⟩ := hI.2.1 k hk33 hak
        have hve := px_at_v hR ht hs n e h1
        have r := px_rs_p hR ht hve
        have p := px_nd_p e
        have hmd := px_md_le (e / 110) (e % 11)
        have hrw := px_restW_b (b := R 4 t) (w := a k - 1)
        refine sp5_raise (by omega) (by omega) (by have := y3.1 (k - k % 3) (by omega); omega) y2 (fun τ3 z1 z2 => ?_)
        unfold wq_X5_moveOnce_b61
        intro v5 e5
        rw [e5, nI_1]
        refine ih (k + 1) τ3 _ (by omega) (((hfr.tr x1).tr y1).tr z1) z2 (mB_rz y3 hrw ⟨px_rs R t e, ⟨e, 2, by omega, h1, by unfold px_N; rfl⟩, ?_, ?_⟩) (ext _ (fun v => Nat.le_trans (Nat.le_trans (x4 v) (y4 v)) (px_rz_le v)) (fun _ => ⟨fun on w hw => ?_, ?_⟩))
        · have : px_nd (px_rs R t e) = 3 * (e / 110) := by
            unfold px_nd
            rw [r.1, r.2.2.1]
            have : px_md (e / 110) 0 = 0 := by
              unfold px_md
              rw [if_neg (by omega), if_neg (by omega)]
            omega
          rw [this]
          rw [← h2]
          unfold px_nd
          omega
        · rw [r.2.1, show e / 11 % 10 = a k - 1 by omega]
        · cases on with
          | true => exact Nat.le_trans (x5 w hw) (Nat.le_trans (y4 _) (px_rz_le _))
          | false => exact Nat.le_trans (y5 w hw) (px_rz_le _)
        · unfold px_rz
          rw [px_up_s]
          omega
  refine ⟨34, key _ (fun τ b hfr hM hB hD => ?_) 33 0 τ0 (fun _ => 0) (by omega) a0 (fun v hv => by rw [b0 v hv]; rfl) ⟨fun v _ => Nat.zero_le _, fun v _ h => absurd h (Nat.lt_irrefl 0)⟩ (fun v hv => absurd hv (by omega))⟩
  have c0 : (0 : Int32).toNatClampNeg = 0 := by decide
  have c33 : (33 : Int32).toNatClampNeg = 33 := by decide
  rw [c0, c33]
  refine hQ _ b ⟨fun c hc => ?_, hfr.2⟩ (fun v hv => ?_) (mI_next hR ht hs hI hB (fun v hv => hD v hv))
  · rw [mx_upo (fun e => hc (Or.inl e))]
    exact hfr.1 c (fun e => hc (Or.inr (Or.inl e)))
  · rw [mx_ups, pk_cpy_in (by omega) (by omega), Nat.zero_add, Nat.sub_zero]
    exact hM v hv
theorem sp5_movesTo {R S : Nat → Nat → Nat} {t p : Nat} {σ : gq_M} {Q : Int32 → gq_M → Prop} (hR : rOK R) (hS : sOK R S) (ht : t < R 1 0) (hp : p ≤ 10) (hK : wK σ R t (S 2 0) (S 2 2) 0) (h8 : σ.1 18 8 = nI (px_nd (px_s0 S t))) (h9 : σ.1 18 9 = nI (S 1 t)) (h1 : ∀ n, px_P R S t p n → (∀ j, j < n → ¬ px_P R S t p j) → n ≤ 30 → ∀ τ, fP kV σ τ → Q (nI n) τ) (h2 : (∀ n, n ≤ 30 → ¬ px_P R S t p n) → ∀ τ, fP kV σ τ → Q (-9) τ) : wq_X5_movesTo (nI p) σ Q := by
  have hv := px_s0_v hR hS ht
  have hnd := px_nd_lt hR hv.1
  have hbr := (hR.2.2.2 t ht).2.1
  have hw := (hS.1 t ht).2
  have hf := hS.2.2.2
  have key : ∀ m n τ a, n + m = 31 → fP kV σ τ → MM τ 19 a → mI R t (S 2 0) (S 2 2) (px_s0 S t) a n → (∀ j, j < n → ¬ px_P R S t p j) → wq_X5_movesTo_l6 Q (fun σ14 => Q (-9) σ14) (m + 1) (nI p) (nI n) τ := by
    intro m
    induction m with
    | zero =>
      intro n τ a hn hfr hA hI hmin
      obtain rfl : n = 31 := by omega
      unfold wq_X5_movesTo_l6
      exact ⟨fun _ => h2 (fun n hn => hmin n (by omega)) τ hfr, fun q => absurd (by decide) q⟩
    | succ m ih =>
      intro n τ a hn hfr hA hI hmin
      unfold wq_X5_movesTo_l6
      rw [mx_30, nI_ltI (by omega) (by omega)]
      refine ⟨fun q => by omega, fun _ => ?_⟩
      have kin : ∀ r k, k + r = 3 → (∀ j, j < k → a (p * 3 + j) = 0) → wq_X5_movesTo_l14 Q (fun e7 e8 σ9 => wq_X5_moveOnce σ9 (fun σ11 => ∀ v12, v12 = (e8 + 1) → wq_X5_movesTo_l6 Q (fun σ14 => Q (-9) σ14) (m + 1) e7 v12 σ11)) (r + 1) (nI p) (nI n) (nI k) τ := by
        intro r
        induction r with
        | zero =>
          intro k hk hz
          obtain rfl : k = 3 := by omega
          unfold wq_X5_movesTo_l14
          refine ⟨fun _ => ?_, fun q => absurd (by decide) q⟩
          have hno : ¬ px_P R S t p n := by
            rintro ⟨e, g1, g2⟩
            have g3 := hI.2.2 e g1
            have hmd := px_md_le (e / 110) (e % 11)
            have := hz (px_md (e / 110) (e % 11)) (by omega)
            rw [show p * 3 + px_md (e / 110) (e % 11) = px_nd e by unfold px_nd; omega] at this
            omega
          refine sp5_moveOnce hR ht hf hv.1 (hfr.wK hK) hI hA (fun τ2 b x1 x2 x3 v12 e12 => ?_)
          rw [e12, nI_1]
          refine ih (n + 1) τ2 b (by omega) (hfr.tr x1) x2 x3 (fun j hj => ?_)
          rcases Nat.lt_or_ge j n with z | z
          · exact hmin j z
          · rw [show j = n by omega]; exact hno
        | succ r ihr =>
          intro k hk hz
          have ha1 := hI.1 (p * 3 + k) (by omega)
          unfold wq_X5_movesTo_l14
          rw [mx_3, nI_leI (by omega) (by omega), pk_mul, nI_add, nI_clamp (by omega), hA _ (by omega)]
          refine ⟨fun q => by omega, fun _ => ⟨vp_in_nI (by omega) (by omega), fun q v6 e6 => ?_, fun q => ?_⟩⟩
          · rw [e6, nI_1]
            refine ihr (k + 1) (by omega) (fun j hj => ?_)
            rcases Nat.lt_or_ge j k with z | z
            · exact hz j z
            · rw [show j = k by omega]
              rcases Nat.eq_zero_or_pos (a (p * 3 + k)) with y | y
              · exact y
              · rw [mx_mw y] at q
                exact absurd q (nI_pos (by omega))
          · have hpos : 0 < a (p * 3 + k) := by
              rcases Nat.eq_zero_or_pos (a (p * 3 + k)) with y | y
              · rw [y] at q; exact absurd (by decide) q
              · exact y
            obtain ⟨e, g1, g2, g3⟩ := hI.2.1 _ (by omega) hpos
            refine h1 n ⟨e, g1, ?_⟩ hmin (by omega) τ hfr
            rw [← (px_nd_p e).1, g2]
            omega
      exact ⟨4, kin 3 0 (by omega) (fun j hj => absurd hj (by omega))⟩
  unfold wq_X5_movesTo
  refine sp5_beginAt hnd h8 h9 (fun τ x1 x2 x3 x4 => ?_)
  refine ⟨32, key 31 0 τ (px_up (fun _ => 0) (px_nd (px_s0 S t)) (S 1 t + 1)) (by omega) x1 x4 ⟨fun v _ => ?_, fun v _ h => ?_, fun e he => ?_⟩ (fun j hj => absurd hj (by omega))⟩
  · by_cases e : v = px_nd (px_s0 S t)
    · rw [e, px_up_s]; omega
    · rw [px_up_n e]; omega
  · have e : v = px_nd (px_s0 S t) := by
      by_cases e : v = px_nd (px_s0 S t)
      · exact e
      · rw [px_up_n e] at h; exact absurd h (by omega)
    exact ⟨px_s0 S t, rfl, e.symm, by rw [e, px_up_s, hv.2.2.1]⟩
  · rw [show e = px_s0 S t from he, px_up_s, hv.2.2.1]; exact Nat.le_refl _
theorem sim_fewest {σ μ : gq_M} (h : Rel σ μ) : gl_S_fewest Rel σ μ := by
  obtain ⟨⟨R, hR, hc, hm, ⟨S, c, hS, hcS, hmS⟩, ha, hk⟩, ht, hh, h2s, hi⟩ := id h
  have hT := hR.2.1
  have hP := hR.1
  intro a1 a2
  unfold wq_X6_fewest
  refine sp2_hasTraveller hc.2.1 (by omega) (fun v => ⟨fun q => absurd q (by decide), fun _ => ?_⟩) (fun v => ⟨fun _ => ?_, fun q => absurd rfl q⟩)
  · refine sp2_hasPlace hc.1 (by omega) (fun v2 => ⟨fun _ => ?_, fun q => absurd q (by decide)⟩) (fun v2 => ⟨fun q => absurd rfl q, fun _ => ?_⟩)
    · obtain ⟨t, ht1, e⟩ := (mx_in (by omega)).mp v
      subst e
      obtain ⟨p, hp1, e⟩ := (mx_in (by omega)).mp v2
      subst e
      have m7 : ∀ Q : Int32 → gq_M → Prop, wq_X7_spread 0 (nI t) 1 (nI (S 2 0)) μ (fun σ8 => (∃ n14, wq_X7_fewest_l34 Q (fun σ13 => Q (-9) σ13) n14 (nI p) 0 σ8)) → wq_X7_fewest (nI t) (nI p) μ Q := by
        intro Q hQ
        have e10 : μ.1 5 10 = nI (S 2 0) := hmS.2.1
        unfold wq_X7_fewest
        refine sp7_isTraveller hm.2.1 (by omega) (fun _ => ⟨fun q => absurd q (by decide), fun _ => ?_⟩) (fun w => absurd v w)
        refine sp7_isPlace hm.1 (by omega) (fun _ => ⟨fun _ => ?_, fun q => absurd q (by decide)⟩) (fun w => absurd v2 w)
        rw [e10]
        exact hQ
      rw [hcS.2.1]
      refine sp5_prepare (ice := 0) (by omega) hR hS ht1 hc hcS hS.2.1 (by omega) (fun τ x1 x2 x3 x4 => ?_)
      refine sp5_movesTo hR hS ht1 (by omega) x2 x3 x4 (fun n g1 g2 g3 τ2 y => m7 _ ?_) (fun g τ2 y => m7 _ ?_)
      · have fr : fP kW σ τ2 := x1.tr ⟨fun c hc => y.1 c (fun q => hc (by unfold kV at q; unfold kW; omega)), y.2⟩
        refine sp7_few hR hS ht1 (by omega) hm hmS hi (fun n' k1 k2 k3 ν b => ⟨?_, h.fx fr.fxC b⟩) (fun k ν b => absurd g1 (k n g3))
        rcases Nat.lt_trichotomy n n' with z | z | z
        · exact absurd g1 (k2 n z)
        · rw [z]
        · exact absurd k1 (g2 n' z)
      · have fr : fP kW σ τ2 := x1.tr ⟨fun c hc => y.1 c (fun q => hc (by unfold kV at q; unfold kW; omega)), y.2⟩
        exact sp7_few hR hS ht1 (by omega) hm hmS hi (fun n' k1 k2 k3 ν b => absurd k1 (g n' k3)) (fun k ν b => ⟨rfl, h.fx fr.fxC b⟩)
    · unfold wq_X7_fewest
      refine sp7_isTraveller hm.2.1 (by omega) (fun _ => ⟨fun q => absurd q (by decide), fun _ => ?_⟩) (fun w => absurd v w)
      exact sp7_isPlace hm.1 (by omega) (fun w => absurd w v2) (fun _ => ⟨fun q => absurd rfl q, fun _ => ⟨rfl, h⟩⟩)
  · unfold wq_X7_fewest
    exact sp7_isTraveller hm.2.1 (by omega) (fun w => absurd w v) (fun _ => ⟨fun _ => ⟨rfl, h⟩, fun q => absurd rfl q⟩)
