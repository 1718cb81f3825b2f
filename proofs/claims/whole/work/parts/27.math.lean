/-! ===== maths 8: the acts: step, rest, grease, freeze, thaw, undo ===== -/
theorem mx_rdS (σ : gq_M) (z j : Nat) (x : Int32) : fS σ (gq_put σ z j x) z := fS.rf.put (Or.inl rfl)
theorem sim_step {σ μ : gq_M} (h : Rel σ μ) : gl_S_step Rel σ μ := by
  obtain ⟨⟨R, hR, hc, hm, hn0, ⟨e, n, he, hn, r1, r2, r3, r4, ha⟩, hk⟩, ht, hh, h2s, hi⟩ := id h
  obtain ⟨S, c, hS, hcS, hmS⟩ := id hn0
  have hT := hR.2.1
  have hP := hR.1
  intro a1 a2 hb
  unfold wq_X6_step
  refine sp2_hasTraveller hc.2.1 (by omega) (fun v => ⟨fun _ => ?_, fun q => absurd q (by decide)⟩) (fun v => ⟨fun q => absurd rfl q, fun _ => ?_⟩)
  · have hmod : wq_X7_canStep 0 a1 a2 μ = wq_X7_canStep (nI 0) a1 a2 μ := rfl
    refine sp4_canStep hR hc hS hcS (fun t ht' e1 => ?_) (fun v2 => absurd v v2)
    have hp := (hS.1 t ht').1
    cases hcan : px_can R S t (px_on a2)
    · refine ⟨fun q => absurd rfl q, fun _ => ?_⟩
      unfold wq_X7_step
      refine sp7_isTraveller hm.2.1 (by omega) (fun _ => ⟨fun _ => ?_, fun q => absurd q (by decide)⟩) (fun v2 => absurd v v2)
      rw [hmod]
      refine sp7_canStep hR hm (by omega) hS hmS hi (fun u hu e2 => ?_) (fun v2 => absurd v v2)
      rw [e1, nI_eq (by omega) (by omega)] at e2
      subst e2
      rw [hcan]
      exact ⟨fun q => absurd rfl q, fun _ => ⟨rfl, h⟩⟩
    · unfold px_can at hcan
      cases hk1 : px_pl (R 0 0) (S 0 t) (px_on a2) with
      | none => rw [hk1] at hcan; cases hcan
      | some k =>
        rw [hk1] at hcan
        have hpay : px_pay (R 5 t) (px_cost R k (S 2 1) (S 2 0) (S 2 2) 0) ≤ S 1 t := of_decide_eq_true hcan
        refine ⟨fun _ => ?_, fun q => absurd q (by decide)⟩
        refine sp_remember he hn r1 r3 (fun σ1 hC g0 g1 g2 => ?_)
        rw [e1]
        refine sp4_doStep (by omega) hR (hC.rd hc) hS (cSt_of g0 g1 g2 hcS) ht' hk1 hpay (fun τ hτ hfS => ?_)
        refine ⟨vp_in_nI (by omega) (by omega), ?_⟩
        rw [nI_clamp (by omega), (hτ.1 t ht').1]
        unfold wq_X7_step
        refine sp7_isTraveller hm.2.1 (by omega) (fun _ => ⟨fun _ => ?_, fun q => absurd q (by decide)⟩) (fun v2 => absurd (vp_in_nI ht' (by omega)) v2)
        have hmod2 : wq_X7_canStep 0 (nI t) a2 μ = wq_X7_canStep (nI 0) (nI t) a2 μ := rfl
        rw [hmod2]
        refine sp7_canStep hR hm (by omega) hS hmS hi (fun u hu e2 => ?_) (fun v2 => absurd (vp_in_nI ht' (by omega)) v2)
        rw [nI_eq (by omega) (by omega)] at e2
        subst e2
        have hcan2 : px_can R S t (px_on a2) = true := by unfold px_can; rw [hk1]; exact hcan
        rw [hcan2]
        refine ⟨fun _ => ?_, fun q => absurd q (by decide)⟩
        refine sp_keepAct he hn r2 r4 (fun μ1 hM f5 => ?_)
        have hmS1 : mSt μ1 5 0 R S c := mSt_cpy hR (fun k _ => by rw [f5]) hmS
        have hmod3 : wq_X7_stepOn 0 (nI t) a2 μ1 = wq_X7_stepOn (nI 0) (nI t) a2 μ1 := rfl
        rw [hmod3]
        refine sp7_stepOn (lv := 0) hR (hM.rd hm) (by omega) hS hmS1 (by rw [hM.2.2.1 15 (by omega) (by omega)]; exact hi) ht' hk1 hpay (fun ν hν hfM => ?_)
        refine ⟨vp_in_nI (by omega) (by omega), ?_, ?_⟩
        · have e3 := (hν.1 t ht').1
          rw [show 14 * 0 + t = t by omega] at e3
          rw [nI_clamp (by omega), e3]
        · exact Rel.act hR hc hm hn0 he hn ha hk ht hh h2s hi (hC.fS he hfS) (hM.fM hfM) ⟨_, _, sOK_step hS ht' hk1, hτ, hν⟩
  · unfold wq_X7_step
    exact sp7_isTraveller hm.2.1 (by omega) (fun v2 => absurd v2 v) (fun _ => ⟨fun q => absurd rfl q, fun _ => ⟨rfl, h⟩⟩)
theorem sim_rest {σ μ : gq_M} (h : Rel σ μ) : gl_S_rest Rel σ μ := by
  obtain ⟨⟨R, hR, hc, hm, hn0, ⟨e, n, he, hn, r1, r2, r3, r4, ha⟩, hk⟩, ht, hh, h2s, hi⟩ := id h
  obtain ⟨S, c, hS, hcS, hmS⟩ := id hn0
  have hT := hR.2.1
  intro a1
  unfold wq_X6_rest
  refine sp2_hasTraveller hc.2.1 (by omega) (fun v => ⟨fun _ => ?_, fun q => absurd q (by decide)⟩) (fun v => ⟨fun q => absurd rfl q, fun _ => ?_⟩)
  · obtain ⟨t, ht', e1⟩ := (mx_in (by omega)).mp v
    subst e1
    refine sp_remember he hn r1 r3 (fun σ1 hC g0 g1 g2 => ?_)
    refine sp4_doRest (by omega) hR (hC.rd hc) hS (cSt_of g0 g1 g2 hcS) ht' (fun τ hτ hfS => ?_)
    refine ⟨vp_in_nI (by omega) (by omega), ?_⟩
    rw [nI_clamp (by omega), (hτ.1 t ht').2]
    unfold wq_X7_rest
    refine sp7_isTraveller hm.2.1 (by omega) (fun _ => ⟨fun _ => ?_, fun q => absurd q (by decide)⟩) (fun v2 => absurd v v2)
    refine sp_keepAct he hn r2 r4 (fun μ1 hM f5 => ?_)
    have hmS1 : mSt μ1 5 0 R S c := mSt_cpy hR (fun k _ => by rw [f5]) hmS
    have hmod3 : wq_X7_restOn 0 (nI t) μ1 = wq_X7_restOn (nI 0) (nI t) μ1 := rfl
    rw [hmod3]
    refine sp7_restOn (lv := 0) hR (hM.rd hm) (by omega) hS hmS1 ht' (fun ν hν hfM => ?_)
    have e3 := (hν.1 t ht').2
    rw [show 14 * 0 + 5 + t = 5 + t by omega] at e3
    rw [mx_5, nI_add, nI_clamp (by omega), e3]
    exact ⟨vp_in_nI (by omega) (by omega), rfl, Rel.act hR hc hm hn0 he hn ha hk ht hh h2s hi (hC.fS he hfS) (hM.fM hfM) ⟨_, _, sOK_rest hS, hτ, hν⟩⟩
  · unfold wq_X7_rest
    exact sp7_isTraveller hm.2.1 (by omega) (fun v2 => absurd v2 v) (fun _ => ⟨fun q => absurd rfl q, fun _ => ⟨rfl, h⟩⟩)
/-- one number of a standing set: greased, frost -/
theorem cSt_set {R S : Nat → Nat → Nat} {σ : gq_M} {z v : Nat} {c : Int32} (h : cSt σ z R S c) : cSt (gq_put σ z 3 (nI v)) z R (px_set S 2 0 v) c ∧ cSt (gq_put σ z 5 (nI v)) z R (px_set S 2 2 v) c := by
  refine ⟨⟨fun t ht => ?_, ?_, ?_, ?_, ?_⟩, ⟨fun t ht => ?_, ?_, ?_, ?_, ?_⟩⟩
  · rw [mx_ro (by omega), mx_ro (by omega)]; unfold px_set; simpa using h.1 t ht
  · rw [mx_rs, if_pos rfl]; unfold px_set; simp
  · rw [mx_rs, if_neg (by omega)]; unfold px_set; simpa using h.2.2.1
  · rw [mx_rs, if_neg (by omega)]; unfold px_set; simpa using h.2.2.2.1
  · rw [mx_rs, if_neg (by omega)]; exact h.2.2.2.2
  · rw [mx_ro (by omega), mx_ro (by omega)]; unfold px_set; simpa using h.1 t ht
  · rw [mx_rs, if_neg (by omega)]; unfold px_set; simpa using h.2.1
  · rw [mx_rs, if_neg (by omega)]; unfold px_set; simpa using h.2.2.1
  · rw [mx_rs, if_pos rfl]; unfold px_set; simp
  · rw [mx_rs, if_neg (by omega)]; exact h.2.2.2.2
theorem mSt_set {R S : Nat → Nat → Nat} {σ : gq_M} {a b v : Nat} {c : Int32} (hR : rOK R) (h : mSt σ a b R S c) : mSt (gq_put σ a (b + 10) (nI v)) a b R (px_set S 2 0 v) c ∧ mSt (gq_put σ a (b + 12) (nI v)) a b R (px_set S 2 2 v) c := by
  have hT := hR.2.1
  refine ⟨⟨fun t ht => ?_, ?_, ?_, ?_, ?_⟩, ⟨fun t ht => ?_, ?_, ?_, ?_, ?_⟩⟩
  · rw [mx_rs, mx_rs, if_neg (by omega), if_neg (by omega)]; unfold px_set; simpa using h.1 t ht
  · rw [mx_rs, if_pos rfl]; unfold px_set; simp
  · rw [mx_rs, if_neg (by omega)]; unfold px_set; simpa using h.2.2.1
  · rw [mx_rs, if_neg (by omega)]; unfold px_set; simpa using h.2.2.2.1
  · rw [mx_rs, if_neg (by omega)]; exact h.2.2.2.2
  · rw [mx_rs, mx_rs, if_neg (by omega), if_neg (by omega)]; unfold px_set; simpa using h.1 t ht
  · rw [mx_rs, if_neg (by omega)]; unfold px_set; simpa using h.2.1
  · rw [mx_rs, if_neg (by omega)]; unfold px_set; simpa using h.2.2.1
  · rw [mx_rs, if_pos rfl]; unfold px_set; simp
  · rw [mx_rs, if_neg (by omega)]; exact h.2.2.2.2
theorem sOK_g {R S : Nat → Nat → Nat} {v : Nat} (h : sOK R S) (hv : v < 1024) : sOK R (px_set S 2 0 v) := by
  refine ⟨fun t ht => ?_, ?_, ?_, ?_⟩
  · unfold px_set; simpa using h.1 t ht
  · unfold px_set; simpa using hv
  · unfold px_set; simpa using h.2.2.1
  · unfold px_set; simpa using h.2.2.2
theorem sOK_f {R S : Nat → Nat → Nat} {v : Nat} (h : sOK R S) (hv : v ≤ 5) : sOK R (px_set S 2 2 v) := by
  refine ⟨fun t ht => ?_, ?_, ?_, ?_⟩
  · unfold px_set; simpa using h.1 t ht
  · unfold px_set; simpa using h.2.1
  · unfold px_set; simpa using h.2.2.1
  · unfold px_set; simpa using hv
theorem px_or_lt {g i : Nat} (hg : g < 1024) (hi : i < 10) : g ||| 2 ^ i < 1024 := Nat.or_lt_two_pow (n := 10) hg (Nat.pow_lt_pow_right (by omega) hi)
theorem sim_freeze {σ μ : gq_M} (h : Rel σ μ) : gl_S_freeze Rel σ μ := by
  obtain ⟨⟨R, hR, hc, hm, hn0, ⟨e, n, he, hn, r1, r2, r3, r4, ha⟩, hk⟩, ht, hh, h2s, hi⟩ := id h
  obtain ⟨S, c, hS, hcS, hmS⟩ := id hn0
  have hf := hS.2.2.2
  have em : μ.1 5 12 = nI (S 2 2) := hmS.2.2.2.1
  unfold gl_S_freeze wq_X6_freeze wq_X4_canFreeze
  rw [hcS.2.2.2.1, mx_5, nI_leI (by omega) (by omega)]
  refine ⟨fun q => ⟨fun r => absurd rfl r, fun _ => ?_⟩, fun q => ⟨fun _ => ?_, fun r => absurd r (by decide)⟩⟩
  · unfold wq_X7_freeze
    rw [em, mx_5, nI_eq (by omega) (by omega)]
    exact ⟨fun r => absurd (by omega) r, fun _ => ⟨rfl, h⟩⟩
  · refine sp_remember he hn r1 r3 (fun σ1 hC g0 g1 g2 => ?_)
    have hc1 := cSt_of g0 g1 g2 hcS
    rw [hc1.2.2.2.1, nI_1, mx_rs, if_pos rfl]
    unfold wq_X7_freeze
    rw [em, mx_5, nI_eq (by omega) (by omega)]
    refine ⟨fun _ => ?_, fun r => absurd r (by omega)⟩
    refine sp_keepAct he hn r2 r4 (fun μ1 hM f5 => ?_)
    have hmS1 : mSt μ1 5 0 R S c := mSt_cpy hR (fun k _ => by rw [f5]) hmS
    have em1 : μ1.1 5 12 = nI (S 2 2) := hmS1.2.2.2.1
    rw [em1, nI_1, mx_rs, if_pos rfl]
    refine ⟨rfl, Rel.act hR hc hm hn0 he hn ha hk ht hh h2s hi (hC.fS he (fS.rf.put (Or.inl rfl))) (hM.fM (fM.rf.put (by omega) (by omega))) ⟨_, _, sOK_f hS (show S 2 2 + 1 ≤ 5 by omega), (cSt_set hc1).2, (mSt_set hR hmS1).2⟩⟩
theorem sim_thaw {σ μ : gq_M} (h : Rel σ μ) : gl_S_thaw Rel σ μ := by
  obtain ⟨⟨R, hR, hc, hm, hn0, ⟨e, n, he, hn, r1, r2, r3, r4, ha⟩, hk⟩, ht, hh, h2s, hi⟩ := id h
  obtain ⟨S, c, hS, hcS, hmS⟩ := id hn0
  have hf := hS.2.2.2
  have em : μ.1 5 12 = nI (S 2 2) := hmS.2.2.2.1
  unfold gl_S_thaw wq_X6_thaw
  rw [hcS.2.2.2.1, mx_0, nI_eq (by omega) (by omega)]
  refine ⟨fun q => ?_, fun q => ?_⟩
  · refine sp_remember he hn r1 r3 (fun σ1 hC g0 g1 g2 => ?_)
    have hc1 := cSt_of g0 g1 g2 hcS
    intro v4 e4
    rw [hc1.2.2.2.1] at e4
    unfold wq_X7_thaw
    rw [em, mx_0, nI_eq (by omega) (by omega)]
    refine ⟨fun _ => ?_, fun r => absurd r q⟩
    refine sp_keepAct he hn r2 r4 (fun μ1 hM f5 => ?_)
    have hmS1 : mSt μ1 5 0 R S c := mSt_cpy hR (fun k _ => by rw [f5]) hmS
    have em1 : μ1.1 5 12 = nI (S 2 2) := hmS1.2.2.2.1
    intro v5 e5
    rw [em1] at e5
    refine ⟨by rw [e4, e5], Rel.act hR hc hm hn0 he hn ha hk ht hh h2s hi (hC.fS he (fS.rf.put (Or.inl rfl))) (hM.fM (fM.rf.put (by omega) (by omega))) ⟨_, _, sOK_f hS (show 0 ≤ 5 by omega), (cSt_set hc1).2, (mSt_set hR hmS1).2⟩⟩
  · unfold wq_X7_thaw
    rw [em, mx_0, nI_eq (by omega) (by omega)]
    exact ⟨fun r => absurd q r, fun _ => ⟨rfl, h⟩⟩
theorem sim_grease {σ μ : gq_M} (h : Rel σ μ) : gl_S_grease Rel σ μ := by
  obtain ⟨⟨R, hR, hc, hm, hn0, ⟨e, n, he, hn, r1, r2, r3, r4, ha⟩, hk⟩, ht, hh, h2s, hi⟩ := id h
  obtain ⟨S, c, hS, hcS, hmS⟩ := id hn0
  have hP := hR.1
  have hg := hS.2.1
  have em : μ.1 5 10 = nI (S 2 0) := hmS.2.1
  intro a1
  unfold wq_X6_grease
  refine sp2_hasPleat hc.1 (by omega) (fun v => ⟨fun _ => ?_, fun q => absurd q (by decide)⟩) (fun v => ⟨fun q => absurd rfl q, fun _ => ?_⟩)
  · obtain ⟨i, hi', e1⟩ := (mx_in (by omega)).mp v
    subst e1
    unfold wq_X4_canGrease
    refine sp2_hasPleat hc.1 (by omega) (fun _ => ⟨fun q => absurd q (by decide), fun _ => ?_⟩) (fun v2 => absurd v v2)
    rw [hcS.2.1, mx_bit0 (by omega) (by omega)]
    refine ⟨fun q => ⟨fun r => absurd rfl r, fun _ => ?_⟩, fun q => ⟨fun _ => ?_, fun r => absurd r (by decide)⟩⟩
    · have hb : (S 2 0).testBit i = true := by simpa using q
      unfold wq_X7_grease
      refine sp7_isPleat hm.1 (by omega) (fun _ => ⟨fun _ => ?_, fun q => absurd q (by decide)⟩) (fun v2 => absurd v v2)
      rw [em]
      exact sp7_has (by omega) (by omega) (fun _ => ⟨fun q => absurd q (by decide), fun _ => ⟨rfl, h⟩⟩) (fun q => by rw [hb] at q; cases q)
    · refine sp_remember he hn r1 r3 (fun σ1 hC g0 g1 g2 => ?_)
      have hc1 := cSt_of g0 g1 g2 hcS
      unfold wq_X4_doGrease
      rw [hc1.2.1, mx_shl (by omega), mx_or]
      have hg2 := px_or_lt hg (show i < 10 by omega)
      have hcs2 := (cSt_set (v := S 2 0 ||| 2 ^ i) hc1).1
      have hok2 := sOK_g hS hg2
      have hfs : fS σ1 (gq_put σ1 30 3 (nI (S 2 0 ||| 2 ^ i))) 30 := fS.rf.put (Or.inl rfl)
      refine sp4_costOf hR (hfs.rd (by omega) (hC.rd hc)) hok2 hcs2 hi' ?_
      unfold wq_X7_grease
      refine sp7_isPleat hm.1 (by omega) (fun _ => ⟨fun _ => ?_, fun q => absurd q (by decide)⟩) (fun v2 => absurd v v2)
      rw [em]
      refine sp7_has (by omega) (by omega) (fun r => by rw [q] at r; cases r) (fun _ => ⟨fun _ => ?_, fun q => absurd rfl q⟩)
      refine sp_keepAct he hn r2 r4 (fun μ1 hM f5 => ?_)
      have hmS1 : mSt μ1 5 0 R S c := mSt_cpy hR (fun k _ => by rw [f5]) hmS
      have em1 : μ1.1 5 10 = nI (S 2 0) := hmS1.2.1
      rw [em1, mx_shl (by omega), mx_or]
      have hms2 : mSt (gq_put μ1 5 10 (nI (S 2 0 ||| 2 ^ i))) 5 0 R (px_set S 2 0 (S 2 0 ||| 2 ^ i)) c := (mSt_set (v := S 2 0 ||| 2 ^ i) hR hmS1).1
      have hfm : fM μ1 (gq_put μ1 5 10 (nI (S 2 0 ||| 2 ^ i))) 0 := fM.rf.put (by omega) (by omega)
      have k1 := hms2.2.1
      have k2 := hms2.2.2.1
      have k3 := hms2.2.2.2.1
      rw [Nat.zero_add] at k1 k2 k3
      rw [k1, k2, k3]
      refine sp7_costs (ice := 0) hR (hfm.rd (hM.rd hm)) hi' (by have := hok2.2.2.1; omega) hok2.2.1 hok2.2.2.2 (by omega) (by rw [mx_ro (by decide), hM.2.2.1 15 (by omega) (by omega)]; exact hi) ?_
      exact ⟨rfl, Rel.act hR hc hm hn0 he hn ha hk ht hh h2s hi (hC.fS he hfs) (hM.fM hfm) ⟨_, _, hok2, hcs2, hms2⟩⟩
  · unfold wq_X7_grease
    exact sp7_isPleat hm.1 (by omega) (fun v2 => absurd v2 v) (fun _ => ⟨fun q => absurd rfl q, fun _ => ⟨rfl, h⟩⟩)
theorem sim_undo {σ μ : gq_M} (h : Rel σ μ) : gl_S_undo Rel σ μ := by
  obtain ⟨⟨R, hR, hc, hm, hn0, ⟨e, n, he, hn, r1, r2, r3, r4, ha⟩, hk⟩, ht, hh, h2s, hi⟩ := id h
  unfold gl_S_undo wq_X6_undo
  rw [r3, mx_0, nI_eq (by omega) (by omega)]
  refine ⟨fun q => ?_, fun q => ?_⟩
  · refine sp0_takeBack (by omega) (by omega) he hn (by omega) r1 r3 (fun τ a1 a2 a3 a4 a5 => ?_)
    rw [a5]
    have hml : (e + 13) % 14 < 14 := Nat.mod_lt _ (by omega)
    unfold wq_X7_undo
    rw [r4, mx_0, nI_eq (by omega) (by omega), mx_1, pk_sub (by omega)]
    refine ⟨fun _ => ?_, fun r => absurd r q⟩
    have e3 : (gq_put μ 0 16 (nI (n - 1))).1 0 17 = nI e := by rw [mx_rs, if_neg (by omega)]; exact r2
    rw [e3, mx_mod13b he]
    refine ⟨15, ?_⟩
    generalize hμ2 : gq_put (gq_put μ 0 16 (nI (n - 1))) 0 17 (nI ((e + 13) % 14)) = μ2
    have m17 : μ2.1 0 17 = nI ((e + 13) % 14) := by rw [← hμ2, mx_rs, if_pos rfl]
    have m16 : μ2.1 0 16 = nI (n - 1) := by rw [← hμ2, mx_rs, if_neg (by omega), mx_rs, if_pos rfl]
    have mo : ∀ j, j ≠ 16 → j ≠ 17 → μ2.1 0 j = μ.1 0 j := fun j h1 h2 => by rw [← hμ2, mx_rs, if_neg h2, mx_rs, if_neg h1]
    have mr : ∀ c, c ≠ 0 → μ2.1 c = μ.1 c := fun c h1 => by rw [← hμ2]; funext j; rw [mx_ro h1, mx_ro h1]
    have m2 : μ2.2 = μ.2 := by rw [← hμ2]; rfl
    refine sp7_undo_l hml m17 (fun ν hf hcp => ?_) 14 0 μ2 (by omega) fR.rf (fun k hk => absurd hk (by omega))
    have n0 : ν.1 0 = μ2.1 0 := hf.1 0 (by omega)
    rw [n0, m16]
    refine ⟨rfl, ⟨R, hR, cRd_of (fun c _ _ => a2 c (by omega) (by omega) (by omega) (by omega)) hc, ?_, ?_, ⟨(e + 13) % 14, n - 1, hml, by omega, a4, by rw [n0]; exact m17, a5, by rw [n0]; exact m16, fun j hj => ?_⟩, ?_⟩, ?_, ?_, ?_, ?_⟩
    · unfold mRd at *
      rw [n0, mo 0 (by omega) (by omega), mo 1 (by omega) (by omega), hf.1 1 (by omega), hf.1 2 (by omega), hf.1 3 (by omega), hf.1 4 (by omega), mr 1 (by omega), mr 2 (by omega), mr 3 (by omega), mr 4 (by omega)]
      exact hm
    · obtain ⟨S, c, g1, g2, g3⟩ := ha 0 (by omega)
      rw [show (e + 13 - 0) % 14 = (e + 13) % 14 by omega] at g2 g3
      exact ⟨S, c, g1, cSt_cpy hR a1 g2, mSt_cpy hR (fun k hk => by rw [Nat.zero_add, hcp k hk, mr 9 (by omega)]) g3⟩
    · have ei : ((e + 13) % 14 + 13 - j) % 14 = (e + 13 - (j + 1)) % 14 := by omega
      have el : (e + 13 - (j + 1)) % 14 < 14 := Nat.mod_lt _ (by omega)
      rw [ei]
      have hold := ha (j + 1) (by omega)
      generalize (e + 13 - (j + 1)) % 14 = i at el hold ⊢
      exact rSt_of hR hold (a2 _ (by omega) (by omega) (by omega) (by omega)) (a2 _ (by omega) (by omega) (by omega) (by omega)) (a2 _ (by omega) (by omega) (by omega) (by omega)) (fun k hk => by rw [hf.1 9 (by omega), mr 9 (by omega)])
    · exact RelK_of hR hk (a2 27 (by omega) (by omega) (by omega) (by omega)) (fun c _ _ => a2 c (by omega) (by omega) (by omega) (by omega)) (by rw [hf.1 15 (by omega), mr 15 (by omega)]) (by rw [hf.1 16 (by omega), mr 16 (by omega)])
    · exact RelT_of ht (a2 1 (by omega) (by omega) (by omega) (by omega)) (a2 2 (by omega) (by omega) (by omega) (by omega)) (by rw [n0]; exact mo 12 (by omega) (by omega)) (by rw [hf.1 8 (by omega), mr 8 (by omega)])
    · exact RelH_of hh (a2 15 (by omega) (by omega) (by omega) (by omega)) (a2 16 (by omega) (by omega) (by omega) (by omega)) (a2 17 (by omega) (by omega) (by omega) (by omega)) (by rw [n0]; exact mo 23 (by omega) (by omega)) (by rw [hf.1 12 (by omega), mr 12 (by omega)]) (by rw [hf.1 13 (by omega), mr 13 (by omega)])
    · rw [a3, hf.2.2, m2]; exact h2s
    · rw [n0, mo 15 (by omega) (by omega)]; exact hi
  · unfold wq_X7_undo
    rw [r4, mx_0, nI_eq (by omega) (by omega)]
    exact ⟨fun r => absurd q r, fun _ => ⟨rfl, h⟩⟩
