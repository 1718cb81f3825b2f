/-! ===== the two worlds: the cells of a PleatRoads (84), and of a PleatRoadsModel (17) ===== -/
def gc_T (cyI cyZ cyS : ClassId) : List (ClassId × FieldType) := [(cyI, .int), (cyZ, .boolean), (cyS, .object "PleatRoads$Standing")]
def gm_T (cyI cyZ : ClassId) : List (ClassId × FieldType) := [(cyI, .int), (cyZ, .boolean)]
def gf_X0 (ad : Nat → Nat) (f : Nat → Int32) (_ : Int64) : List Value := [.ref (ad 25), .int (f 1), .int (f 2)]
theorem gs_X0_1 {ad : Nat → Nat} : ∀ f d x, (gf_X0 ad f d).set 1 (.int x) = gf_X0 ad (upd f 1 x) d := fun _ _ _ => rfl
theorem gs_X0_2 {ad : Nat → Nat} : ∀ f d x, (gf_X0 ad f d).set 2 (.int x) = gf_X0 ad (upd f 2 x) d := fun _ _ _ => rfl
def gf_X1 (ad : Nat → Nat) (f : Nat → Int32) (_ : Int64) : List Value := [.ref (ad 9), .ref (ad 16), .ref (ad 17), .int (f 3)]
theorem gs_X1_3 {ad : Nat → Nat} : ∀ f d x, (gf_X1 ad f d).set 3 (.int x) = gf_X1 ad (upd f 3 x) d := fun _ _ _ => rfl
def gf_X2 (ad : Nat → Nat) (r : Nat) (f : Nat → Int32) (_ : Int64) : List Value := [.ref (ad (r + 1)), .ref (ad (r + 2)), .ref (ad (r + 3)), .ref (ad (r + 4)), .ref (ad (r + 5)), .int (f 5), .int (f 6)]
theorem gs_X2_5 {ad : Nat → Nat} {r : Nat} : ∀ f d x, (gf_X2 ad r f d).set 5 (.int x) = gf_X2 ad r (upd f 5 x) d := fun _ _ _ => rfl
theorem gs_X2_6 {ad : Nat → Nat} {r : Nat} : ∀ f d x, (gf_X2 ad r f d).set 6 (.int x) = gf_X2 ad r (upd f 6 x) d := fun _ _ _ => rfl
def gf_X3 (ad : Nat → Nat) (f : Nat → Int32) (_ : Int64) : List Value := [.ref (ad 2), .int (f 1)]
theorem gs_X3_1 {ad : Nat → Nat} : ∀ f d x, (gf_X3 ad f d).set 1 (.int x) = gf_X3 ad (upd f 1 x) d := fun _ _ _ => rfl
def gf_X4 (ad : Nat → Nat) (z : Nat) (f : Nat → Int32) (_ : Int64) : List Value := [.ref (ad 9), .ref (ad (z + 1)), .ref (ad (z + 2)), .int (f 3), .int (f 4), .int (f 5), .int (f 6)]
theorem gs_X4_3 {ad : Nat → Nat} {z : Nat} : ∀ f d x, (gf_X4 ad z f d).set 3 (.int x) = gf_X4 ad z (upd f 3 x) d := fun _ _ _ => rfl
theorem gs_X4_4 {ad : Nat → Nat} {z : Nat} : ∀ f d x, (gf_X4 ad z f d).set 4 (.int x) = gf_X4 ad z (upd f 4 x) d := fun _ _ _ => rfl
theorem gs_X4_5 {ad : Nat → Nat} {z : Nat} : ∀ f d x, (gf_X4 ad z f d).set 5 (.int x) = gf_X4 ad z (upd f 5 x) d := fun _ _ _ => rfl
theorem gs_X4_6 {ad : Nat → Nat} {z : Nat} : ∀ f d x, (gf_X4 ad z f d).set 6 (.int x) = gf_X4 ad z (upd f 6 x) d := fun _ _ _ => rfl
def gf_X5 (ad : Nat → Nat) (f : Nat → Int32) (_ : Int64) : List Value := [.ref (ad 9), .ref (ad 19), .ref (ad 20), .ref (ad 21), .ref (ad 22), .ref (ad 23), .int (f 6), .int (f 7), .int (f 8), .int (f 9)]
theorem gs_X5_6 {ad : Nat → Nat} : ∀ f d x, (gf_X5 ad f d).set 6 (.int x) = gf_X5 ad (upd f 6 x) d := fun _ _ _ => rfl
theorem gs_X5_7 {ad : Nat → Nat} : ∀ f d x, (gf_X5 ad f d).set 7 (.int x) = gf_X5 ad (upd f 7 x) d := fun _ _ _ => rfl
theorem gs_X5_8 {ad : Nat → Nat} : ∀ f d x, (gf_X5 ad f d).set 8 (.int x) = gf_X5 ad (upd f 8 x) d := fun _ _ _ => rfl
theorem gs_X5_9 {ad : Nat → Nat} : ∀ f d x, (gf_X5 ad f d).set 9 (.int x) = gf_X5 ad (upd f 9 x) d := fun _ _ _ => rfl
def gf_X6 (ad : Nat → Nat) (_ : Nat → Int32) (d : Int64) : List Value := [.ref (ad 1), .ref (ad 3), .ref (ad 9), .ref (ad 30), .ref (ad 33), .ref (ad 24), .ref (ad 26), .ref (ad 27), .ref (ad 18), .ref (ad 15), .ref (ad 28), .ref (ad 29), .long d]
theorem gs_X6_12 {ad : Nat → Nat} : ∀ f d x, (gf_X6 ad f d).set 12 (.long x) = gf_X6 ad f x := fun _ _ _ => rfl
def gf_X7 (ad : Nat → Nat) (f : Nat → Int32) (d : Int64) : List Value := [.int (f 0), .int (f 1), .ref (ad 1), .ref (ad 2), .ref (ad 3), .ref (ad 4), .ref (ad 5), .ref (ad 6), .ref (ad 7), .int (f 9), .int (f 10), .ref (ad 8), .int (f 12), .int (f 13), .int (f 14), .int (f 15), .int (f 16), .int (f 17), .ref (ad 9), .ref (ad 10), .ref (ad 11), .int (f 21), .int (f 22), .int (f 23), .ref (ad 12), .ref (ad 13), .ref (ad 14), .long d, .ref (ad 15), .ref (ad 16)]
theorem gs_X7_0 {ad : Nat → Nat} : ∀ f d x, (gf_X7 ad f d).set 0 (.int x) = gf_X7 ad (upd f 0 x) d := fun _ _ _ => rfl
theorem gs_X7_1 {ad : Nat → Nat} : ∀ f d x, (gf_X7 ad f d).set 1 (.int x) = gf_X7 ad (upd f 1 x) d := fun _ _ _ => rfl
theorem gs_X7_9 {ad : Nat → Nat} : ∀ f d x, (gf_X7 ad f d).set 9 (.int x) = gf_X7 ad (upd f 9 x) d := fun _ _ _ => rfl
theorem gs_X7_10 {ad : Nat → Nat} : ∀ f d x, (gf_X7 ad f d).set 10 (.int x) = gf_X7 ad (upd f 10 x) d := fun _ _ _ => rfl
theorem gs_X7_12 {ad : Nat → Nat} : ∀ f d x, (gf_X7 ad f d).set 12 (.int x) = gf_X7 ad (upd f 12 x) d := fun _ _ _ => rfl
theorem gs_X7_13 {ad : Nat → Nat} : ∀ f d x, (gf_X7 ad f d).set 13 (.int x) = gf_X7 ad (upd f 13 x) d := fun _ _ _ => rfl
theorem gs_X7_14 {ad : Nat → Nat} : ∀ f d x, (gf_X7 ad f d).set 14 (.int x) = gf_X7 ad (upd f 14 x) d := fun _ _ _ => rfl
theorem gs_X7_15 {ad : Nat → Nat} : ∀ f d x, (gf_X7 ad f d).set 15 (.int x) = gf_X7 ad (upd f 15 x) d := fun _ _ _ => rfl
theorem gs_X7_16 {ad : Nat → Nat} : ∀ f d x, (gf_X7 ad f d).set 16 (.int x) = gf_X7 ad (upd f 16 x) d := fun _ _ _ => rfl
theorem gs_X7_17 {ad : Nat → Nat} : ∀ f d x, (gf_X7 ad f d).set 17 (.int x) = gf_X7 ad (upd f 17 x) d := fun _ _ _ => rfl
theorem gs_X7_21 {ad : Nat → Nat} : ∀ f d x, (gf_X7 ad f d).set 21 (.int x) = gf_X7 ad (upd f 21 x) d := fun _ _ _ => rfl
theorem gs_X7_22 {ad : Nat → Nat} : ∀ f d x, (gf_X7 ad f d).set 22 (.int x) = gf_X7 ad (upd f 22 x) d := fun _ _ _ => rfl
theorem gs_X7_23 {ad : Nat → Nat} : ∀ f d x, (gf_X7 ad f d).set 23 (.int x) = gf_X7 ad (upd f 23 x) d := fun _ _ _ => rfl
theorem gs_X7_27 {ad : Nat → Nat} : ∀ f d x, (gf_X7 ad f d).set 27 (.long x) = gf_X7 ad f x := fun _ _ _ => rfl
def gc_S0 (cyI cyZ cyS : ClassId) (ad : Nat → Nat) (i : Nat) (f : Nat → Int32) (d : Int64) : va_E := match i with
  | 0 => .inr (6, gf_X6 ad f d)
  | 1 => .inr (3, gf_X3 ad f d)
  | 2 => .inl (cyI, 52, .inl f)
  | 3 => .inr (2, gf_X2 ad 3 f d)
  | 4 => .inl (cyI, 10, .inl f)
  | 5 => .inl (cyI, 10, .inl f)
  | 6 => .inl (cyI, 5, .inl f)
  | 7 => .inl (cyI, 5, .inl f)
  | 8 => .inl (cyI, 5, .inl f)
  | 9 => .inr (2, gf_X2 ad 9 f d)
  | 10 => .inl (cyI, 10, .inl f)
  | 11 => .inl (cyI, 10, .inl f)
  | 12 => .inl (cyI, 5, .inl f)
  | 13 => .inl (cyI, 5, .inl f)
  | 14 => .inl (cyI, 5, .inl f)
  | 15 => .inr (1, gf_X1 ad f d)
  | 16 => .inl (cyI, 6, .inl f)
  | 17 => .inl (cyZ, 6, .inl f)
  | 18 => .inr (5, gf_X5 ad f d)
  | 19 => .inl (cyI, 33, .inl f)
  | 20 => .inl (cyI, 33, .inl f)
  | 21 => .inl (cyI, 330, .inl f)
  | 22 => .inl (cyI, 10, .inl f)
  | 23 => .inl (cyI, 10, .inl f)
  | 24 => .inr (0, gf_X0 ad f d)
  | 25 => .inl (cyS, 14, .inr (.inr (.inr (.inr (fun j => some (ad (42 + 3 * j)))))))
  | 26 => .inl (cyS, 2, .inr (.inr (.inr (.inr (fun j => some (ad (36 + 3 * j)))))))
  | 27 => .inl (cyZ, 2, .inl f)
  | 28 => .inl (cyI, 9, .inl f)
  | _ => .inl (cyI, 9, .inl f)
def gc_S (cyI cyZ cyS : ClassId) (ad : Nat → Nat) : gq_S := fun i f d => if i < 30 then gc_S0 cyI cyZ cyS ad i f d else if (i - 30) % 3 = 0 then .inr (4, gf_X4 ad i f d) else .inl (cyI, 5, .inl f)
section GW
variable {cyI cyZ cyS : ClassId} {ad : Nat → Nat}
theorem gcs_0 : gq_at 84 (gc_S cyI cyZ cyS ad) 0 (fun f d => .inr (6, gf_X6 ad f d)) := ⟨by decide, fun _ _ => rfl⟩
theorem gcs_1 : gq_at 84 (gc_S cyI cyZ cyS ad) 1 (fun f d => .inr (3, gf_X3 ad f d)) := ⟨by decide, fun _ _ => rfl⟩
theorem gcs_2 : gq_at 84 (gc_S cyI cyZ cyS ad) 2 (fun f _ => .inl (cyI, 52, .inl f)) := ⟨by decide, fun _ _ => rfl⟩
theorem gcs_15 : gq_at 84 (gc_S cyI cyZ cyS ad) 15 (fun f d => .inr (1, gf_X1 ad f d)) := ⟨by decide, fun _ _ => rfl⟩
theorem gcs_16 : gq_at 84 (gc_S cyI cyZ cyS ad) 16 (fun f _ => .inl (cyI, 6, .inl f)) := ⟨by decide, fun _ _ => rfl⟩
theorem gcs_17 : gq_at 84 (gc_S cyI cyZ cyS ad) 17 (fun f _ => .inl (cyZ, 6, .inl f)) := ⟨by decide, fun _ _ => rfl⟩
theorem gcs_18 : gq_at 84 (gc_S cyI cyZ cyS ad) 18 (fun f d => .inr (5, gf_X5 ad f d)) := ⟨by decide, fun _ _ => rfl⟩
theorem gcs_19 : gq_at 84 (gc_S cyI cyZ cyS ad) 19 (fun f _ => .inl (cyI, 33, .inl f)) := ⟨by decide, fun _ _ => rfl⟩
theorem gcs_20 : gq_at 84 (gc_S cyI cyZ cyS ad) 20 (fun f _ => .inl (cyI, 33, .inl f)) := ⟨by decide, fun _ _ => rfl⟩
theorem gcs_21 : gq_at 84 (gc_S cyI cyZ cyS ad) 21 (fun f _ => .inl (cyI, 330, .inl f)) := ⟨by decide, fun _ _ => rfl⟩
theorem gcs_22 : gq_at 84 (gc_S cyI cyZ cyS ad) 22 (fun f _ => .inl (cyI, 10, .inl f)) := ⟨by decide, fun _ _ => rfl⟩
theorem gcs_23 : gq_at 84 (gc_S cyI cyZ cyS ad) 23 (fun f _ => .inl (cyI, 10, .inl f)) := ⟨by decide, fun _ _ => rfl⟩
theorem gcs_24 : gq_at 84 (gc_S cyI cyZ cyS ad) 24 (fun f d => .inr (0, gf_X0 ad f d)) := ⟨by decide, fun _ _ => rfl⟩
theorem gcs_25 : gq_at 84 (gc_S cyI cyZ cyS ad) 25 (fun _ _ => .inl (cyS, 14, .inr (.inr (.inr (.inr (fun j => some (ad (42 + 3 * j)))))))) := ⟨by decide, fun _ _ => rfl⟩
theorem gcs_26 : gq_at 84 (gc_S cyI cyZ cyS ad) 26 (fun _ _ => .inl (cyS, 2, .inr (.inr (.inr (.inr (fun j => some (ad (36 + 3 * j)))))))) := ⟨by decide, fun _ _ => rfl⟩
theorem gcs_27 : gq_at 84 (gc_S cyI cyZ cyS ad) 27 (fun f _ => .inl (cyZ, 2, .inl f)) := ⟨by decide, fun _ _ => rfl⟩
theorem gcs_28 : gq_at 84 (gc_S cyI cyZ cyS ad) 28 (fun f _ => .inl (cyI, 9, .inl f)) := ⟨by decide, fun _ _ => rfl⟩
theorem gcs_29 : gq_at 84 (gc_S cyI cyZ cyS ad) 29 (fun f _ => .inl (cyI, 9, .inl f)) := ⟨by decide, fun _ _ => rfl⟩
def gr_r (r : Nat) : Prop := r = 3 ∨ r = 9
theorem gr_3 : gr_r 3 := Or.inl rfl
theorem gr_9 : gr_r 9 := Or.inr rfl
theorem gcs_X2 {r : Nat} (h : gr_r r) : gq_at 84 (gc_S cyI cyZ cyS ad) r (fun f d => .inr (2, gf_X2 ad r f d)) := by
  rcases h with rfl | rfl
  · exact ⟨by decide, fun _ _ => rfl⟩
  · exact ⟨by decide, fun _ _ => rfl⟩
theorem gcs_X2_1 {r : Nat} (h : gr_r r) : gq_at 84 (gc_S cyI cyZ cyS ad) (r + 1) (fun f _ => .inl (cyI, 10, .inl f)) := by
  rcases h with rfl | rfl
  · exact ⟨by decide, fun _ _ => rfl⟩
  · exact ⟨by decide, fun _ _ => rfl⟩
theorem gcs_X2_2 {r : Nat} (h : gr_r r) : gq_at 84 (gc_S cyI cyZ cyS ad) (r + 2) (fun f _ => .inl (cyI, 10, .inl f)) := by
  rcases h with rfl | rfl
  · exact ⟨by decide, fun _ _ => rfl⟩
  · exact ⟨by decide, fun _ _ => rfl⟩
theorem gcs_X2_3 {r : Nat} (h : gr_r r) : gq_at 84 (gc_S cyI cyZ cyS ad) (r + 3) (fun f _ => .inl (cyI, 5, .inl f)) := by
  rcases h with rfl | rfl
  · exact ⟨by decide, fun _ _ => rfl⟩
  · exact ⟨by decide, fun _ _ => rfl⟩
theorem gcs_X2_4 {r : Nat} (h : gr_r r) : gq_at 84 (gc_S cyI cyZ cyS ad) (r + 4) (fun f _ => .inl (cyI, 5, .inl f)) := by
  rcases h with rfl | rfl
  · exact ⟨by decide, fun _ _ => rfl⟩
  · exact ⟨by decide, fun _ _ => rfl⟩
theorem gcs_X2_5 {r : Nat} (h : gr_r r) : gq_at 84 (gc_S cyI cyZ cyS ad) (r + 5) (fun f _ => .inl (cyI, 5, .inl f)) := by
  rcases h with rfl | rfl
  · exact ⟨by decide, fun _ _ => rfl⟩
  · exact ⟨by decide, fun _ _ => rfl⟩
def gs_z (z : Nat) : Prop := ∃ k, k < 18 ∧ z = 30 + 3 * k
theorem gs_30 : gs_z 30 := ⟨0, by decide, rfl⟩
theorem gs_33 : gs_z 33 := ⟨1, by decide, rfl⟩
theorem gs_zA {x : Int32} (h : vp_in x 14) : gs_z (42 + 3 * x.toNatClampNeg) := ⟨4 + x.toNatClampNeg, by have h2 : x.toNatClampNeg < 14 := Nat.lt_of_not_le (fun q => h (Or.inr q)); omega, by omega⟩
theorem gs_zB {x : Int32} (h : vp_in x 2) : gs_z (36 + 3 * x.toNatClampNeg) := ⟨2 + x.toNatClampNeg, by have h2 : x.toNatClampNeg < 2 := Nat.lt_of_not_le (fun q => h (Or.inr q)); omega, by omega⟩
theorem gcs_X4 {z : Nat} (h : gs_z z) : gq_at 84 (gc_S cyI cyZ cyS ad) z (fun f d => .inr (4, gf_X4 ad z f d)) := by
  obtain ⟨k, hk, rfl⟩ := h
  refine ⟨by omega, fun f d => ?_⟩
  unfold gc_S
  rw [if_neg (by omega), if_pos (by omega)]
theorem gcs_X4_1 {z : Nat} (h : gs_z z) : gq_at 84 (gc_S cyI cyZ cyS ad) (z + 1) (fun f _ => .inl (cyI, 5, .inl f)) := by
  obtain ⟨k, hk, rfl⟩ := h
  refine ⟨by omega, fun f d => ?_⟩
  unfold gc_S
  rw [if_neg (by omega), if_neg (by omega)]
theorem gcs_X4_2 {z : Nat} (h : gs_z z) : gq_at 84 (gc_S cyI cyZ cyS ad) (z + 2) (fun f _ => .inl (cyI, 5, .inl f)) := by
  obtain ⟨k, hk, rfl⟩ := h
  refine ⟨by omega, fun f d => ?_⟩
  unfold gc_S
  rw [if_neg (by omega), if_neg (by omega)]
def gi_i (i : Nat) : Prop := i = 19 ∨ i = 20
theorem gi_19 : gi_i 19 := Or.inl rfl
theorem gi_20 : gi_i 20 := Or.inr rfl
theorem gcs_fill {i : Nat} (h : gi_i i) : gq_at 84 (gc_S cyI cyZ cyS ad) i (fun f _ => .inl (cyI, 33, .inl f)) := by
  rcases h with rfl | rfl
  · exact ⟨by decide, fun _ _ => rfl⟩
  · exact ⟨by decide, fun _ _ => rfl⟩
theorem gl_X6 : ∀ j, j ≠ 0 → ∀ f a b, gc_S cyI cyZ cyS ad j f a = gc_S cyI cyZ cyS ad j f b := by
  intro j hj f a b
  unfold gc_S gc_S0
  split
  · split
    · exact absurd rfl hj
    all_goals rfl
  · split <;> rfl
end GW
def gm_S (cyI cyZ : ClassId) (ad : Nat → Nat) : gq_S := fun i f d => match i with
  | 0 => .inr (7, gf_X7 ad f d)
  | 1 => .inl (cyI, 10, .inl f)
  | 2 => .inl (cyI, 10, .inl f)
  | 3 => .inl (cyI, 5, .inl f)
  | 4 => .inl (cyI, 5, .inl f)
  | 5 => .inl (cyI, 28, .inl f)
  | 6 => .inl (cyI, 20, .inl f)
  | 7 => .inl (cyI, 15, .inl f)
  | 8 => .inl (cyI, 52, .inl f)
  | 9 => .inl (cyI, 196, .inl f)
  | 10 => .inl (cyI, 1210, .inl f)
  | 11 => .inl (cyI, 1210, .inl f)
  | 12 => .inl (cyI, 6, .inl f)
  | 13 => .inl (cyI, 6, .inl f)
  | 14 => .inl (cyI, 5, .inl f)
  | 15 => .inl (cyZ, 2, .inl f)
  | _ => .inl (cyI, 28, .inl f)
section GX
variable {cyI cyZ : ClassId} {ad : Nat → Nat}
theorem gms_0 : gq_at 17 (gm_S cyI cyZ ad) 0 (fun f d => .inr (7, gf_X7 ad f d)) := ⟨by decide, fun _ _ => rfl⟩
theorem gms_1 : gq_at 17 (gm_S cyI cyZ ad) 1 (fun f _ => .inl (cyI, 10, .inl f)) := ⟨by decide, fun _ _ => rfl⟩
theorem gms_2 : gq_at 17 (gm_S cyI cyZ ad) 2 (fun f _ => .inl (cyI, 10, .inl f)) := ⟨by decide, fun _ _ => rfl⟩
theorem gms_3 : gq_at 17 (gm_S cyI cyZ ad) 3 (fun f _ => .inl (cyI, 5, .inl f)) := ⟨by decide, fun _ _ => rfl⟩
theorem gms_4 : gq_at 17 (gm_S cyI cyZ ad) 4 (fun f _ => .inl (cyI, 5, .inl f)) := ⟨by decide, fun _ _ => rfl⟩
theorem gms_5 : gq_at 17 (gm_S cyI cyZ ad) 5 (fun f _ => .inl (cyI, 28, .inl f)) := ⟨by decide, fun _ _ => rfl⟩
theorem gms_6 : gq_at 17 (gm_S cyI cyZ ad) 6 (fun f _ => .inl (cyI, 20, .inl f)) := ⟨by decide, fun _ _ => rfl⟩
theorem gms_7 : gq_at 17 (gm_S cyI cyZ ad) 7 (fun f _ => .inl (cyI, 15, .inl f)) := ⟨by decide, fun _ _ => rfl⟩
theorem gms_8 : gq_at 17 (gm_S cyI cyZ ad) 8 (fun f _ => .inl (cyI, 52, .inl f)) := ⟨by decide, fun _ _ => rfl⟩
theorem gms_9 : gq_at 17 (gm_S cyI cyZ ad) 9 (fun f _ => .inl (cyI, 196, .inl f)) := ⟨by decide, fun _ _ => rfl⟩
theorem gms_10 : gq_at 17 (gm_S cyI cyZ ad) 10 (fun f _ => .inl (cyI, 1210, .inl f)) := ⟨by decide, fun _ _ => rfl⟩
theorem gms_11 : gq_at 17 (gm_S cyI cyZ ad) 11 (fun f _ => .inl (cyI, 1210, .inl f)) := ⟨by decide, fun _ _ => rfl⟩
theorem gms_12 : gq_at 17 (gm_S cyI cyZ ad) 12 (fun f _ => .inl (cyI, 6, .inl f)) := ⟨by decide, fun _ _ => rfl⟩
theorem gms_13 : gq_at 17 (gm_S cyI cyZ ad) 13 (fun f _ => .inl (cyI, 6, .inl f)) := ⟨by decide, fun _ _ => rfl⟩
theorem gms_14 : gq_at 17 (gm_S cyI cyZ ad) 14 (fun f _ => .inl (cyI, 5, .inl f)) := ⟨by decide, fun _ _ => rfl⟩
theorem gms_15 : gq_at 17 (gm_S cyI cyZ ad) 15 (fun f _ => .inl (cyZ, 2, .inl f)) := ⟨by decide, fun _ _ => rfl⟩
theorem gms_16 : gq_at 17 (gm_S cyI cyZ ad) 16 (fun f _ => .inl (cyI, 28, .inl f)) := ⟨by decide, fun _ _ => rfl⟩
theorem gl_X7 : ∀ j, j ≠ 0 → ∀ f a b, gm_S cyI cyZ ad j f a = gm_S cyI cyZ ad j f b := by
  intro j hj f a b
  unfold gm_S
  split
  · exact absurd rfl hj
  all_goals rfl
end GX
