/-! ===== the static row of thousands, and judge ===== -/
def gt_th (j : Nat) : Int64 := if j = 0 then 1 else if j = 1 then 1000 else if j = 2 then 1000000 else if j = 3 then 1000000000 else 1000000000000
/-- the static row THOUSANDS lies at tt, apart from A -/
def gq_Th (tt : Nat) (A : Nat → Prop) (U : State) : Prop := va_Z "PleatRoads" "THOUSANDS" "[J" (.ref tt) A U U.heap ∧ va_T .long tt 5 (fun j => .long (gt_th j)) A U U.heap
section GJ
variable {p : Program} {l : Launch} {e : Env} {R : Room} {s : State} {m : MethodId} {args : Array Value} {below : List Frame} {meth : Method} {c : Code} {QW : State → Prop} {D : va_G} {N : Nat} {ad : Nat → Nat} {cs : gq_S} {nL : Nat} {σ : gq_M} {pc : Nat} {L : List (Nat × Value)} {st : List Value} {cc : ByteArray} {own : String} {Ts : List Cond} {tys : List (ClassId × FieldType)} {ret : Option FieldType}
theorem gq_gets (C : gq_C p s m args meth c cc nL own Ts D tys N ad ret) {Cn n d ref : String} {v : Value} {index : Nat} (hZ : va_Z Cn n d v (gq_A N ad) s s.heap) (hl : Cond.fieldLink own index ref n d ∈ Ts) (hsame : ∀ x, s.fieldFound? Cn n d = some x → s.fieldFound? ref n d = some x) (hd : decode cc pc = .ok (.getstatic index, 3)) (kk : gq_G p l e R s m args below meth c QW D N ad cs nL σ (pc + 3) L (v :: st)) : gq_G p l e R s m args below meth c QW D N ad cs nL σ pc L st :=
  fun H locs ls hP hS h => va_gets C.1.1 C.1.2.1 hZ hS C.1.2.2.2.1 (C.1.2.2.2.2 _ hl) hsame hd (kk H locs ls hP hS h)
theorem gq_tl (C : gq_C p s m args meth c cc nL own Ts D tys N ad ret) {t n : Nat} {f : Nat → Int64} (hT : va_T .long t n (fun j => .long (f j)) (gq_A N ad) s s.heap) {x : Int32} (hin : vp_in x n) (hd : decode cc pc = .ok (.laload, 1)) (kk : gq_G p l e R s m args below meth c QW D N ad cs nL σ (pc + 1) L (.long (f x.toNatClampNeg) :: st)) : gq_G p l e R s m args below meth c QW D N ad cs nL σ pc L (.int x :: .ref t :: st) :=
  fun H locs ls hP hS h => va_tl C.1.1 C.1.2.1 hT hS hin rfl hd (kk H locs ls hP hS h)
/-- a contract whose start says more -/
theorem gq_metX {y : MethodName} {ws ws' : List Cond} {rm : Room} {Qc : Array Value → State → Outcome → State → Prop} {X : State → Prop} {maxL : Nat} {rt : Option FieldType} {own : String} {av : List Value} (hap : gq_ap N ad) (hy : plainName y.cls = true) (hyo : y.cls = own) (hw : ws = Cond.code y cc maxL rt :: ws') (hav : (lg_sl av).length ≤ maxL)
    (body : ∀ p e s m below meth c, gq_C p s m av.toArray meth c cc maxL own ws D tys N ad rt → X s → gq_G p l e rm s m av.toArray below meth c (MQ below Qc av.toArray s 0 0 (gq_A N ad)) D N ad cs maxL σ 0 (lv_args 0 av) []) : Met l y ws rm (va_Pc av (fun U => gq_P D tys N ad cs σ U ∧ X U)) Qc 0 0 (gq_A N ad) := by
  refine Met.ofW (cc := cc) (maxL := maxL) (ret := rt) hy hw ?_
  intro p e s m args below meth c s₁ B hml hv
  obtain ⟨rfl, ⟨hP, hK⟩, hX⟩ := hv
  have hts := atoms_spec (ws := ws) B.pre
  have hown : s.vm.findClass own = some m.cls := hyo ▸ findClass_of_methodNamed B.named
  have hl := lv_entry av (n := maxL) hav
  rw [lg_entry_eq]
  exact body p e s m below meth c ⟨⟨B.exec, B.bytes, hml, hown, hts⟩, hK, hap, B.notSynchronized, B.returns⟩ hX s.heap [] _ hP va_S.rf hl
end GJ
abbrev rq_X6_judge : Room := { frames := 6, cells := 0, slots := 0, locals := 139 }
theorem dq_X6_judge : gq_dsc yX6_judge 2 := by unfold gq_dsc; decide +kernel
theorem iq_X6_judge_X6 : ∀ w ∈ u_ws RX6 TX6 13, w ∈ wsX6_judge := by decide +kernel
theorem fq_X6_judge_35 : Cond.fieldLink RX6 35 (TX6 4).1 (TX6 4).2.1 (TX6 4).2.2.1 ∈ wsX6_judge := by decide +kernel
theorem fq_X6_judge_31 : Cond.fieldLink RX6 31 (TX6 3).1 (TX6 3).2.1 (TX6 3).2.2.1 ∈ wsX6_judge := by decide +kernel
def wq_X6_judge_l43 (tt : Nat) (Q : Int32 → gq_M → Prop) (K105 : gq_M → Prop) : Nat → Int32 → Int64 → Int32 → gq_M → Prop
  | 0, _, _, _, _ => False
  | n + 1, x1, x2, x4, σ => ((x1 ≤ x4 → K105 σ) ∧ (¬ x1 ≤ x4 → vp_in ((x1 - 1) - x4) 5 ∧ ¬ (gt_th (((x1 - 1) - x4)).toNatClampNeg) = 0 ∧ ∀ v8, v8 = (((x2 / (gt_th (((x1 - 1) - x4)).toNatClampNeg)) - (x2 / (gt_th (((x1 - 1) - x4)).toNatClampNeg)) / 1000 * 1000)).toInt32 → wq_X4_doTold 33 (v8 / 100) ((v8 / 10) - (v8 / 10) / 10 * 10) (v8 - v8 / 10 * 10) σ (fun r9 σ10 => ((¬ r9 = 0 → ∀ v12, v12 = (x4 + 1) → wq_X6_judge_l43 tt Q K105 n x1 x2 v12 σ10) ∧ (r9 = 0 → Q x4 σ10)))))
set_option maxRecDepth 100000 in
set_option maxHeartbeats 4000000 in
theorem tq_X6_judge_l43 {p : Program} {l : Launch} {e : Env} {s : State} {m : MethodId} {args : Array Value} {below : List Frame} {meth : Method} {c : Code} {D : va_G} {cyI cyZ cyS : ClassId} {ad : Nat → Nat} {tt : Nat} {Q : Int32 → gq_M → Prop} {K105 : gq_M → Prop} (C : gq_C p s m args meth c cX6_judge 6 RX6 wsX6_judge D (gc_T cyI cyZ cyS) 84 ad (some .int)) (hTh : gq_Th tt (gq_A 84 ad) s) (hK105 : ∀ (τ : gq_M), K105 τ → gq_G p l e rq_X6_judge s m args below meth c (gq_Ri below args s D (gc_T cyI cyZ cyS) 84 ad (gc_S cyI cyZ cyS ad) Q) D 84 ad (gc_S cyI cyZ cyS ad) 6 τ 105 [(0, .ref (ad 0))] []) : ∀ (n : Nat) (x1 : Int32) (x2 : Int64) (x4 : Int32) (σ : gq_M), wq_X6_judge_l43 tt Q K105 n x1 x2 x4 σ → gq_G p l e rq_X6_judge s m args below meth c (gq_Ri below args s D (gc_T cyI cyZ cyS) 84 ad (gc_S cyI cyZ cyS ad) Q) D 84 ad (gc_S cyI cyZ cyS ad) 6 σ 43 [(0, .ref (ad 0)), (1, .int x1), (2, .long x2), (4, .int x4)] [] := by
  intro n
  induction n with
  | zero =>
    intro x1 x2 x4 σ h
    exact absurd h (fun q => q)
  | succ n ih =>
    intro x1 x2 x4 σ h
    unfold wq_X6_judge_l43 at h
    refine gq_iload (j := 3) C dX6_judge_43 rfl ?_
    refine gq_iload_n (j := 1) C dX6_judge_45 rfl ?_
    refine gq_icmp_ge (tgt := 105) C dX6_judge_46 (by decide) (fun c7 => ?_) (fun c7 => ?_)
    · have h := h.1 c7
      refine gq_sub [0] rfl ?_
      exact hK105  _ h
    · have h := h.2 c7
      refine gq_lload_n (j := 2) C dX6_judge_49 rfl ?_
      refine gq_gets C hTh.1 (by decide +kernel) (fun _ h9 => h9) dX6_judge_50 ?_
      refine gq_iload_n (j := 1) C dX6_judge_53 rfl ?_
      refine gq_iconst (v := 1) C dX6_judge_54 (by decide) ?_
      refine gq_isub C dX6_judge_55 ?_
      refine gq_iload (j := 3) C dX6_judge_56 rfl ?_
      refine gq_isub C dX6_judge_58 ?_
      refine gq_tl C hTh.2 h.1 dX6_judge_59 ?_
      have h := h.2
      refine gq_ldiv C dX6_judge_60 h.1 ?_
      have h := h.2
      refine gq_ldc2 (v := 1000) C (by decide +kernel) dX6_judge_61 ?_
      refine gq_lrem C dX6_judge_64 (by decide) ?_
      refine gq_l2i C dX6_judge_65 ?_
      refine gq_topi (fun v8 qv8 => ?_)
      have h := h v8 qv8
      refine gq_istore (L' := [(0, .ref (ad 0)), (1, .int x1), (2, .long x2), (4, .int x4), (5, .int v8)]) C [1, 2, 3, 4, 0] dX6_judge_66 (by decide) rfl ?_
      refine gq_aload_n (j := 0) C dX6_judge_68 rfl ?_
      refine gq_get (v := .ref (ad 33)) (i := 0) C gcs_0 rfl iq_X6_judge_X6 4 (by decide) fq_X6_judge_35 rfl dX6_judge_69 ?_
      refine gq_iload (j := 4) C dX6_judge_72 rfl ?_
      refine gq_bipush (v := 100) C dX6_judge_74 (by decide) ?_
      refine gq_idiv C dX6_judge_76 (by decide) ?_
      refine gq_iload (j := 4) C dX6_judge_77 rfl ?_
      refine gq_bipush (v := 10) C dX6_judge_79 (by decide) ?_
      refine gq_idiv C dX6_judge_81 (by decide) ?_
      refine gq_bipush (v := 10) C dX6_judge_82 (by decide) ?_
      refine gq_irem C dX6_judge_84 (by decide) ?_
      refine gq_iload (j := 4) C dX6_judge_85 rfl ?_
      refine gq_bipush (v := 10) C dX6_judge_87 (by decide) ?_
      refine gq_irem C dX6_judge_89 (by decide) ?_
      refine gq_vi (i := 33) C (gcs_X4 gs_33) rfl [.int (v8 / 100), .int ((v8 / 10) - (v8 / 10) / 10 * 10), .int (v8 - v8 / 10 * 10)] (mq_X4_doTold C.2.2.1 gs_33 (v8 / 100) ((v8 / 10) - (v8 / 10) / 10 * 10) (v8 - v8 / 10 * 10) σ _ h) gX6_judge_X4_doTold rfl rfl dq_X4_doTold ⟨rfl, rfl, by decide, by decide⟩ rfl rfl (Nat.le_of_ble_eq_true rfl) dX6_judge_90 (fun r9 σ10 h => ?_)
      refine gq_if_ne (tgt := 99) C dX6_judge_93 (by decide) (fun c11 => ?_) (fun c11 => ?_)
      · have h := h.1 c11
        obtain ⟨v12, qv12⟩ : ∃ y : Int32, y = (x4 + 1) := ⟨_, rfl⟩
        have h := h v12 qv12
        refine gq_iinc (j := 3) (v := v12) (L' := [(0, .ref (ad 0)), (1, .int x1), (2, .long x2), (4, .int v12), (5, .int v8)]) C [1, 2, 3, 0, 4] dX6_judge_99 rfl (by rw [qv12]; rfl) (by decide) rfl ?_
        refine gq_goto (tgt := 43) C dX6_judge_102 (by decide) ?_
        refine gq_sub [0, 1, 2, 3] rfl ?_
        exact ih _ _ _ _ h
      · have h := h.2 c11
        refine gq_iload (j := 3) C dX6_judge_96 rfl ?_
        exact gq_iret C h dX6_judge_98
def wq_X6_judge (tt : Nat) (a1 : Int32) (a2 : Int64) (σ : gq_M) (Q : Int32 → gq_M → Prop) : Prop := ((a1 < 1 → Q (-2) σ) ∧ (¬ a1 < 1 → ((4 < a1 → Q (-2) σ) ∧ (¬ 4 < a1 → (((lg_cmp a2 0) < 0 → Q (-2) σ) ∧ (¬ (lg_cmp a2 0) < 0 → vp_in a1 5 ∧ (((lg_cmp a2 (gt_th a1.toNatClampNeg)) < 0 → wq_X4_takeFrom 33 30 σ (fun σ6 => (∃ n14, wq_X6_judge_l43 tt Q (fun σ13 => Q (-9) σ13) n14 a1 a2 0 σ6))) ∧ (¬ (lg_cmp a2 (gt_th a1.toNatClampNeg)) < 0 → Q (-2) σ))))))))
set_option maxRecDepth 100000 in
set_option maxHeartbeats 4000000 in
theorem tq_X6_judge {p : Program} {l : Launch} {e : Env} {s : State} {m : MethodId} {args : Array Value} {below : List Frame} {meth : Method} {c : Code} {D : va_G} {cyI cyZ cyS : ClassId} {ad : Nat → Nat} {tt : Nat} {Q : Int32 → gq_M → Prop} (C : gq_C p s m args meth c cX6_judge 6 RX6 wsX6_judge D (gc_T cyI cyZ cyS) 84 ad (some .int)) (hTh : gq_Th tt (gq_A 84 ad) s) (a1 : Int32) (a2 : Int64) (σ : gq_M) (h : wq_X6_judge tt a1 a2 σ Q) : gq_G p l e rq_X6_judge s m args below meth c (gq_Ri below args s D (gc_T cyI cyZ cyS) 84 ad (gc_S cyI cyZ cyS ad) Q) D 84 ad (gc_S cyI cyZ cyS ad) 6 σ 0 [(0, .ref (ad 0)), (1, .int a1), (2, .long a2)] [] := by
  unfold wq_X6_judge at h
  refine gq_iload_n (j := 1) C dX6_judge_0 rfl ?_
  refine gq_iconst (v := 1) C dX6_judge_1 (by decide) ?_
  refine gq_icmp_lt (tgt := 26) C dX6_judge_2 (by decide) (fun c1 => ?_) (fun c1 => ?_)
  · have h := h.1 c1
    refine gq_bipush (v := (-2)) C dX6_judge_26 (by decide) ?_
    exact gq_iret C h dX6_judge_28
  · have h := h.2 c1
    refine gq_iload_n (j := 1) C dX6_judge_5 rfl ?_
    refine gq_iconst (v := 4) C dX6_judge_6 (by decide) ?_
    refine gq_icmp_gt (tgt := 26) C dX6_judge_7 (by decide) (fun c2 => ?_) (fun c2 => ?_)
    · have h := h.1 c2
      refine gq_bipush (v := (-2)) C dX6_judge_26 (by decide) ?_
      exact gq_iret C h dX6_judge_28
    · have h := h.2 c2
      refine gq_lload_n (j := 2) C dX6_judge_10 rfl ?_
      refine gq_lconst (v := 0) C dX6_judge_11 (by decide) ?_
      refine gq_lcmp C dX6_judge_12 ?_
      refine gq_if_lt (tgt := 26) C dX6_judge_13 (by decide) (fun c3 => ?_) (fun c3 => ?_)
      · have h := h.1 c3
        refine gq_bipush (v := (-2)) C dX6_judge_26 (by decide) ?_
        exact gq_iret C h dX6_judge_28
      · have h := h.2 c3
        refine gq_lload_n (j := 2) C dX6_judge_16 rfl ?_
        refine gq_gets C hTh.1 (by decide +kernel) (fun _ h9 => h9) dX6_judge_17 ?_
        refine gq_iload_n (j := 1) C dX6_judge_20 rfl ?_
        refine gq_tl C hTh.2 h.1 dX6_judge_21 ?_
        have h := h.2
        refine gq_lcmp C dX6_judge_22 ?_
        refine gq_if_lt (tgt := 29) C dX6_judge_23 (by decide) (fun c4 => ?_) (fun c4 => ?_)
        · have h := h.1 c4
          refine gq_aload_n (j := 0) C dX6_judge_29 rfl ?_
          refine gq_get (v := .ref (ad 33)) (i := 0) C gcs_0 rfl iq_X6_judge_X6 4 (by decide) fq_X6_judge_35 rfl dX6_judge_30 ?_
          refine gq_aload_n (j := 0) C dX6_judge_33 rfl ?_
          refine gq_get (v := .ref (ad 30)) (i := 0) C gcs_0 rfl iq_X6_judge_X6 3 (by decide) fq_X6_judge_31 rfl dX6_judge_34 ?_
          refine gq_vv (i := 33) C (gcs_X4 gs_33) rfl [.ref (ad 30)] (mq_X4_takeFrom C.2.2.1 gs_33 gs_30 σ _ h) gX6_judge_X4_takeFrom rfl rfl dq_X4_takeFrom ⟨rfl, rfl, by decide, by decide⟩ rfl rfl (Nat.le_of_ble_eq_true rfl) dX6_judge_37 (fun σ6 h => ?_)
          refine gq_iconst (v := 0) C dX6_judge_40 (by decide) ?_
          refine gq_istore (L' := [(0, .ref (ad 0)), (1, .int a1), (2, .long a2), (4, .int 0)]) C [1, 2, 3, 0] dX6_judge_41 (by decide) rfl ?_
          obtain ⟨n14, h⟩ := h
          refine tq_X6_judge_l43 C hTh (fun σ13 h => ?_) n14 _ _ _ _ h
          refine gq_bipush (v := (-9)) C dX6_judge_105 (by decide) ?_
          exact gq_iret C h dX6_judge_107
        · have h := h.2 c4
          refine gq_bipush (v := (-2)) C dX6_judge_26 (by decide) ?_
          exact gq_iret C h dX6_judge_28
theorem mq_X6_judge {l : Launch} {D : va_G} {cyI cyZ cyS : ClassId} {ad : Nat → Nat} (hap : gq_ap 84 ad) {tt : Nat} (a1 : Int32) (a2 : Int64) (σ : gq_M) (Q : Int32 → gq_M → Prop) (h : wq_X6_judge tt a1 a2 σ Q) : Met l yX6_judge wsX6_judge rq_X6_judge (va_Pc [.ref (ad 0), .int a1, .long a2] (fun U => gq_P D (gc_T cyI cyZ cyS) 84 ad (gc_S cyI cyZ cyS ad) σ U ∧ gq_Th tt (gq_A 84 ad) U)) (va_Qi Q (gq_P D (gc_T cyI cyZ cyS) 84 ad (gc_S cyI cyZ cyS ad)) (gq_A 84 ad)) 0 0 (gq_A 84 ad) :=
  gq_metX hap (by decide) rfl rfl (Nat.le_of_ble_eq_true rfl) (fun _ _ _ _ _ _ _ C hTh => tq_X6_judge C hTh a1 a2 σ h)
