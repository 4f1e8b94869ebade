abbrev rm_X6_empty : Room := { frames := 0, cells := 0, slots := 0, locals := 0 }
theorem cv_X6_empty : sr_Cv yX6_empty cX6_empty 1 (none) RX6 0 := ⟨lk_278, lk_276, lk_277, lk_5, rfl, by decide +kernel, by decide +kernel, by decide +kernel⟩
set_option maxHeartbeats 4000000 in
set_option maxRecDepth 100000 in
theorem c_X6_empty {l : Launch} {D : va_G} {aC : Nat → ClassId} {n0 : Nat} {σ' : St}  {σ : St} {q0 : Nat} (h0 : shC q0 = 7) (hf : f_X6_empty q0 σ = σ') : sr_Met l D aC shC n0 yX6_empty cX6_empty 1 (none) rm_X6_empty [.ref (n0 + q0)] σ none σ' := by
  refine s_met (own := RX6) (by decide) (Nat.le_of_ble_eq_true rfl) rfl ?_
  intro p e s m below meth c ls hX hV hl
  have hl : lv_has ls 1 [(0, .ref (n0 + q0))] := hl
  have hx := hX.1.1
  have hb := hX.1.2.1
  unfold f_X6_empty at hf
  refine lv_aload_n hx hb dX6_empty_0 rfl (lv_at hl 0 rfl) ?_
  refine lv_iconst (v := 0) hx hb dX6_empty_1 (by decide) ?_
  obtain ⟨σ1, e2, hf⟩ := sr_bnd hf
  refine fp_6_0 (x := 0) hX hV lk_57 (h0) dX6_empty_2 (fun H locs hV => ?_)
  rw [e2] at hV
  refine lv_aload_n hx hb dX6_empty_5 rfl (lv_at hl 0 rfl) ?_
  refine lv_iconst (v := 0) hx hb dX6_empty_6 (by decide) ?_
  obtain ⟨σ3, e4, hf⟩ := sr_bnd hf
  refine fp_6_1 (x := 0) hX hV lk_59 (h0) dX6_empty_7 (fun H locs hV => ?_)
  rw [e4] at hV
  refine lv_aload_n hx hb dX6_empty_10 rfl (lv_at hl 0 rfl) ?_
  refine lv_iconst (v := 0) hx hb dX6_empty_11 (by decide) ?_
  obtain ⟨σ5, e6, hf⟩ := sr_bnd hf
  refine fp_6_2 (x := 0) hX hV lk_61 (h0) dX6_empty_12 (fun H locs hV => ?_)
  rw [e6] at hV
  refine lv_aload_n hx hb dX6_empty_15 rfl (lv_at hl 0 rfl) ?_
  refine lv_iconst (v := 0) hx hb dX6_empty_16 (by decide) ?_
  obtain ⟨σ7, e8, hf⟩ := sr_bnd hf
  refine fp_6_3 (x := 0) hX hV lk_63 (h0) dX6_empty_17 (fun H locs hV => ?_)
  rw [e8] at hV
  refine lv_aload_n hx hb dX6_empty_20 rfl (lv_at hl 0 rfl) ?_
  refine lv_lconst (v := 1) hx hb dX6_empty_21 (by decide) ?_
  obtain ⟨σ9, e10, hf⟩ := sr_bnd hf
  refine fp_6_4 (x := 1) hX hV lk_65 (h0) dX6_empty_22 (fun H locs hV => ?_)
  rw [e10] at hV
  refine lv_aload_n hx hb dX6_empty_25 rfl (lv_at hl 0 rfl) ?_
  refine lv_lconst (v := 1) hx hb dX6_empty_26 (by decide) ?_
  obtain ⟨σ11, e12, hf⟩ := sr_bnd hf
  refine fp_6_5 (x := 1) hX hV lk_67 (h0) dX6_empty_27 (fun H locs hV => ?_)
  rw [e12] at hV
  cases hf
  exact s_vret hX hV dX6_empty_30
abbrev rm_X0_makeNew : Room := { frames := 1, cells := 0, slots := 0, locals := 20 }
theorem cv_X0_makeNew : sr_Cv yX0_makeNew cX0_makeNew 2 (none) RX0 1 := ⟨lk_274, lk_272, lk_273, lk_3, rfl, by decide +kernel, by decide +kernel, by decide +kernel⟩
set_option maxHeartbeats 4000000 in
set_option maxRecDepth 100000 in
theorem c_X0_makeNew {l : Launch} {D : va_G} {aC : Nat → ClassId} {n0 : Nat} {σ' : St}  {σ : St} {q0 : Nat} {b1 : Bool} (h0 : shC q0 = 1) (hf : f_X0_makeNew q0 b1 σ = σ') : sr_Met l D aC shC n0 yX0_makeNew cX0_makeNew 2 (none) rm_X0_makeNew [.ref (n0 + q0), .int (bI b1)] σ none σ' := by
  refine s_met (own := RX0) (by decide) (Nat.le_of_ble_eq_true rfl) rfl ?_
  intro p e s m below meth c ls hX hV hl
  have hl : lv_has ls 2 [(0, .ref (n0 + q0)), (1, .int (bI b1))] := hl
  have hx := hX.1.1
  have hb := hX.1.2.1
  unfold f_X0_makeNew at hf
  refine lv_aload_n hx hb dX0_makeNew_0 rfl (lv_at hl 0 rfl) ?_
  refine lv_iload_n hx hb dX0_makeNew_1 rfl (lv_at hl 1 rfl) ?_
  obtain ⟨σ1, e2, hf⟩ := sr_bnd hf
  refine fp_0_7 (x := b1) hX hV lk_99 (h0) dX0_makeNew_2 (fun H locs hV => ?_)
  rw [e2] at hV
  refine lv_aload_n hx hb dX0_makeNew_5 rfl (lv_at hl 0 rfl) ?_
  refine lv_iconst (v := 0) hx hb dX0_makeNew_6 (by decide) ?_
  obtain ⟨σ3, e4, hf⟩ := sr_bnd hf
  refine fp_0_4 (x := 0) hX hV lk_90 (h0) dX0_makeNew_7 (fun H locs hV => ?_)
  rw [e4] at hV
  refine lv_aload_n hx hb dX0_makeNew_10 rfl (lv_at hl 0 rfl) ?_
  refine lv_iconst (v := 0) hx hb dX0_makeNew_11 (by decide) ?_
  obtain ⟨σ5, e6, hf⟩ := sr_bnd hf
  refine fp_0_5 (x := 0) hX hV lk_93 (h0) dX0_makeNew_12 (fun H locs hV => ?_)
  rw [e6] at hV
  refine lv_aload_n hx hb dX0_makeNew_15 rfl (lv_at hl 0 rfl) ?_
  refine lv_iconst (v := 0) hx hb dX0_makeNew_16 (by decide) ?_
  obtain ⟨σ7, e8, hf⟩ := sr_bnd hf
  refine fp_0_6 (x := 0) hX hV lk_96 (h0) dX0_makeNew_17 (fun H locs hV => ?_)
  rw [e8] at hV
  refine lv_aload_n hx hb dX0_makeNew_20 rfl (lv_at hl 0 rfl) ?_
  refine fg_0_1 hX hV lk_84 (h0) dX0_makeNew_21 ?_
  refine lv_iconst (v := 0) hx hb dX0_makeNew_24 (by decide) ?_
  obtain ⟨σ9, e10, hf⟩ := sr_bnd hf
  refine fp_4_1 (x := 0) hX hV lk_42 (ch_0_1 (h0)) dX0_makeNew_25 (fun H locs hV => ?_)
  rw [e10] at hV
  refine lv_aload_n hx hb dX0_makeNew_28 rfl (lv_at hl 0 rfl) ?_
  refine fg_0_2 hX hV lk_86 (h0) dX0_makeNew_29 ?_
  obtain ⟨σ12, e11, hf⟩ := sr_bnd hf
  refine s_callV0 (ci := 6) hX hV hl.1 (c_X6_empty (ch_0_2 (h0)) e11) cv_X6_empty lk_275 ⟨rfl, rfl, Nat.le_of_ble_eq_true rfl, Nat.le_of_ble_eq_true rfl⟩ rfl (by decide) (ch_0_2 (h0)) rfl rfl (Nat.le_of_ble_eq_true rfl) dX0_makeNew_32 ⟨Nat.le_of_ble_eq_true rfl, Nat.le_of_ble_eq_true rfl⟩ (fun H locs hV => ?_)
  cases hf
  exact s_vret hX hV dX0_makeNew_35
abbrev rm_X4_copyFrom : Room := { frames := 1, cells := 0, slots := 0, locals := 30 }
theorem cv_X4_copyFrom : sr_Cv yX4_copyFrom cX4_copyFrom 2 (none) RX4 1 := ⟨lk_376, lk_374, lk_375, lk_4, rfl, by decide +kernel, by decide +kernel, by decide +kernel⟩
set_option maxHeartbeats 4000000 in
set_option maxRecDepth 100000 in
theorem c_X4_copyFrom {l : Launch} {D : va_G} {aC : Nat → ClassId} {n0 : Nat} {σ' : St}  {σ : St} {q0 : Nat} {q1 : Nat} (h0 : shC q0 = 5) (h1 : shC q1 = 5) (hf : f_X4_copyFrom q0 q1 σ = σ') : sr_Met l D aC shC n0 yX4_copyFrom cX4_copyFrom 2 (none) rm_X4_copyFrom [.ref (n0 + q0), .ref (n0 + q1)] σ none σ' := by
  refine s_met (own := RX4) (by decide) (Nat.le_of_ble_eq_true rfl) rfl ?_
  intro p e s m below meth c ls hX hV hl
  have hl : lv_has ls 2 [(0, .ref (n0 + q0)), (1, .ref (n0 + q1))] := hl
  have hx := hX.1.1
  have hb := hX.1.2.1
  unfold f_X4_copyFrom at hf
  refine lv_aload_n hx hb dX4_copyFrom_0 rfl (lv_at hl 0 rfl) ?_
  refine lv_aload_n hx hb dX4_copyFrom_1 rfl (lv_at hl 1 rfl) ?_
  refine fg_4_1 hX hV lk_41 (h1) dX4_copyFrom_2 ?_
  obtain ⟨σ1, e2, hf⟩ := sr_bnd hf
  refine fp_4_1 (x := (gI σ q1 1)) hX hV lk_41 (h0) dX4_copyFrom_5 (fun H locs hV => ?_)
  rw [e2] at hV
  refine lv_aload_n hx hb dX4_copyFrom_8 rfl (lv_at hl 1 rfl) ?_
  refine fg_4_0 hX hV lk_40 (h1) dX4_copyFrom_9 ?_
  refine lv_iconst (v := 0) hx hb dX4_copyFrom_12 (by decide) ?_
  refine lv_aload_n hx hb dX4_copyFrom_13 rfl (lv_at hl 0 rfl) ?_
  refine fg_4_0 hX hV lk_40 (h0) dX4_copyFrom_14 ?_
  refine lv_iconst (v := 0) hx hb dX4_copyFrom_17 (by decide) ?_
  refine lv_bipush (v := 18) hx hb dX4_copyFrom_18 (by decide) ?_
  obtain ⟨σ3, e4, hf⟩ := sr_bnd hf
  refine s_copy (nn := 18) (n1 := 18) (n2 := 18) hX hV hl.1 lk_377 (ch_4_0 (h1)) (ch_4_0 (h0)) (by decide) (by decide) (by decide) (by decide) (by decide) (by decide) (Nat.le_of_ble_eq_true rfl) (Nat.le_of_ble_eq_true rfl) dX4_copyFrom_20 (fun H locs hV => ?_)
  rw [e4] at hV
  cases hf
  exact s_vret hX hV dX4_copyFrom_23
abbrev rm_X6_copyFrom : Room := { frames := 0, cells := 0, slots := 0, locals := 0 }
theorem cv_X6_copyFrom : sr_Cv yX6_copyFrom cX6_copyFrom 2 (none) RX6 1 := ⟨lk_608, lk_606, lk_607, lk_5, rfl, by decide +kernel, by decide +kernel, by decide +kernel⟩
set_option maxHeartbeats 4000000 in
set_option maxRecDepth 100000 in
theorem c_X6_copyFrom {l : Launch} {D : va_G} {aC : Nat → ClassId} {n0 : Nat} {σ' : St}  {σ : St} {q0 : Nat} {q1 : Nat} (h0 : shC q0 = 7) (h1 : shC q1 = 7) (hf : f_X6_copyFrom q0 q1 σ = σ') : sr_Met l D aC shC n0 yX6_copyFrom cX6_copyFrom 2 (none) rm_X6_copyFrom [.ref (n0 + q0), .ref (n0 + q1)] σ none σ' := by
  refine s_met (own := RX6) (by decide) (Nat.le_of_ble_eq_true rfl) rfl ?_
  intro p e s m below meth c ls hX hV hl
  have hl : lv_has ls 2 [(0, .ref (n0 + q0)), (1, .ref (n0 + q1))] := hl
  have hx := hX.1.1
  have hb := hX.1.2.1
  unfold f_X6_copyFrom at hf
  refine lv_aload_n hx hb dX6_copyFrom_0 rfl (lv_at hl 0 rfl) ?_
  refine lv_aload_n hx hb dX6_copyFrom_1 rfl (lv_at hl 1 rfl) ?_
  refine fg_6_0 hX hV lk_57 (h1) dX6_copyFrom_2 ?_
  obtain ⟨σ1, e2, hf⟩ := sr_bnd hf
  refine fp_6_0 (x := (gI σ q1 0)) hX hV lk_57 (h0) dX6_copyFrom_5 (fun H locs hV => ?_)
  rw [e2] at hV
  refine lv_aload_n hx hb dX6_copyFrom_8 rfl (lv_at hl 0 rfl) ?_
  refine lv_aload_n hx hb dX6_copyFrom_9 rfl (lv_at hl 1 rfl) ?_
  refine fg_6_1 hX hV lk_59 (h1) dX6_copyFrom_10 ?_
  obtain ⟨σ3, e4, hf⟩ := sr_bnd hf
  refine fp_6_1 (x := (gI σ1 q1 1)) hX hV lk_59 (h0) dX6_copyFrom_13 (fun H locs hV => ?_)
  rw [e4] at hV
  refine lv_aload_n hx hb dX6_copyFrom_16 rfl (lv_at hl 0 rfl) ?_
  refine lv_aload_n hx hb dX6_copyFrom_17 rfl (lv_at hl 1 rfl) ?_
  refine fg_6_2 hX hV lk_61 (h1) dX6_copyFrom_18 ?_
  obtain ⟨σ5, e6, hf⟩ := sr_bnd hf
  refine fp_6_2 (x := (gI σ3 q1 2)) hX hV lk_61 (h0) dX6_copyFrom_21 (fun H locs hV => ?_)
  rw [e6] at hV
  refine lv_aload_n hx hb dX6_copyFrom_24 rfl (lv_at hl 0 rfl) ?_
  refine lv_aload_n hx hb dX6_copyFrom_25 rfl (lv_at hl 1 rfl) ?_
  refine fg_6_3 hX hV lk_63 (h1) dX6_copyFrom_26 ?_
  obtain ⟨σ7, e8, hf⟩ := sr_bnd hf
  refine fp_6_3 (x := (gI σ5 q1 3)) hX hV lk_63 (h0) dX6_copyFrom_29 (fun H locs hV => ?_)
  rw [e8] at hV
  refine lv_aload_n hx hb dX6_copyFrom_32 rfl (lv_at hl 0 rfl) ?_
  refine lv_aload_n hx hb dX6_copyFrom_33 rfl (lv_at hl 1 rfl) ?_
  refine fg_6_4 hX hV lk_65 (h1) dX6_copyFrom_34 ?_
  obtain ⟨σ9, e10, hf⟩ := sr_bnd hf
  refine fp_6_4 (x := (gL σ7 q1 4)) hX hV lk_65 (h0) dX6_copyFrom_37 (fun H locs hV => ?_)
  rw [e10] at hV
  refine lv_aload_n hx hb dX6_copyFrom_40 rfl (lv_at hl 0 rfl) ?_
  refine lv_aload_n hx hb dX6_copyFrom_41 rfl (lv_at hl 1 rfl) ?_
  refine fg_6_5 hX hV lk_67 (h1) dX6_copyFrom_42 ?_
  obtain ⟨σ11, e12, hf⟩ := sr_bnd hf
  refine fp_6_5 (x := (gL σ9 q1 5)) hX hV lk_67 (h0) dX6_copyFrom_45 (fun H locs hV => ?_)
  rw [e12] at hV
  cases hf
  exact s_vret hX hV dX6_copyFrom_48
abbrev rm_X0_copyFrom : Room := { frames := 2, cells := 0, slots := 0, locals := 51 }
theorem cv_X0_copyFrom : sr_Cv yX0_copyFrom cX0_copyFrom 2 (none) RX0 1 := ⟨lk_603, lk_601, lk_602, lk_3, rfl, by decide +kernel, by decide +kernel, by decide +kernel⟩
set_option maxHeartbeats 4000000 in
set_option maxRecDepth 100000 in
theorem c_X0_copyFrom {l : Launch} {D : va_G} {aC : Nat → ClassId} {n0 : Nat} {σ' : St}  {σ : St} {q0 : Nat} {q1 : Nat} (h0 : shC q0 = 1) (h1 : shC q1 = 1) (hf : f_X0_copyFrom q0 q1 σ = σ') : sr_Met l D aC shC n0 yX0_copyFrom cX0_copyFrom 2 (none) rm_X0_copyFrom [.ref (n0 + q0), .ref (n0 + q1)] σ none σ' := by
  refine s_met (own := RX0) (by decide) (Nat.le_of_ble_eq_true rfl) rfl ?_
  intro p e s m below meth c ls hX hV hl
  have hl : lv_has ls 2 [(0, .ref (n0 + q0)), (1, .ref (n0 + q1))] := hl
  have hx := hX.1.1
  have hb := hX.1.2.1
  unfold f_X0_copyFrom at hf
  refine lv_aload_n hx hb dX0_copyFrom_0 rfl (lv_at hl 0 rfl) ?_
  refine lv_aload_n hx hb dX0_copyFrom_1 rfl (lv_at hl 1 rfl) ?_
  refine fg_0_7 hX hV lk_99 (h1) dX0_copyFrom_2 ?_
  obtain ⟨σ1, e2, hf⟩ := sr_bnd hf
  refine fp_0_7 (x := (gB σ q1 7)) hX hV lk_99 (h0) dX0_copyFrom_5 (fun H locs hV => ?_)
  rw [e2] at hV
  refine lv_aload_n hx hb dX0_copyFrom_8 rfl (lv_at hl 0 rfl) ?_
  refine lv_aload_n hx hb dX0_copyFrom_9 rfl (lv_at hl 1 rfl) ?_
  refine fg_0_4 hX hV lk_90 (h1) dX0_copyFrom_10 ?_
  obtain ⟨σ3, e4, hf⟩ := sr_bnd hf
  refine fp_0_4 (x := (gI σ1 q1 4)) hX hV lk_90 (h0) dX0_copyFrom_13 (fun H locs hV => ?_)
  rw [e4] at hV
  refine lv_aload_n hx hb dX0_copyFrom_16 rfl (lv_at hl 0 rfl) ?_
  refine lv_aload_n hx hb dX0_copyFrom_17 rfl (lv_at hl 1 rfl) ?_
  refine fg_0_5 hX hV lk_93 (h1) dX0_copyFrom_18 ?_
  obtain ⟨σ5, e6, hf⟩ := sr_bnd hf
  refine fp_0_5 (x := (gI σ3 q1 5)) hX hV lk_93 (h0) dX0_copyFrom_21 (fun H locs hV => ?_)
  rw [e6] at hV
  refine lv_aload_n hx hb dX0_copyFrom_24 rfl (lv_at hl 0 rfl) ?_
  refine lv_aload_n hx hb dX0_copyFrom_25 rfl (lv_at hl 1 rfl) ?_
  refine fg_0_6 hX hV lk_96 (h1) dX0_copyFrom_26 ?_
  obtain ⟨σ7, e8, hf⟩ := sr_bnd hf
  refine fp_0_6 (x := (gI σ5 q1 6)) hX hV lk_96 (h0) dX0_copyFrom_29 (fun H locs hV => ?_)
  rw [e8] at hV
  refine lv_aload_n hx hb dX0_copyFrom_32 rfl (lv_at hl 0 rfl) ?_
  refine fg_0_1 hX hV lk_84 (h0) dX0_copyFrom_33 ?_
  refine lv_aload_n hx hb dX0_copyFrom_36 rfl (lv_at hl 1 rfl) ?_
  refine fg_0_1 hX hV lk_84 (h1) dX0_copyFrom_37 ?_
  obtain ⟨σ10, e9, hf⟩ := sr_bnd hf
  refine s_callV0 (ci := 4) hX hV hl.1 (c_X4_copyFrom (ch_0_1 (h0)) (ch_0_1 (h1)) e9) cv_X4_copyFrom lk_604 ⟨rfl, rfl, Nat.le_of_ble_eq_true rfl, Nat.le_of_ble_eq_true rfl⟩ rfl (by decide) (ch_0_1 (h0)) rfl rfl (Nat.le_of_ble_eq_true rfl) dX0_copyFrom_40 ⟨Nat.le_of_ble_eq_true rfl, Nat.le_of_ble_eq_true rfl⟩ (fun H locs hV => ?_)
  refine lv_aload_n hx hb dX0_copyFrom_43 rfl (lv_at hl 0 rfl) ?_
  refine fg_0_2 hX hV lk_86 (h0) dX0_copyFrom_44 ?_
  refine lv_aload_n hx hb dX0_copyFrom_47 rfl (lv_at hl 1 rfl) ?_
  refine fg_0_2 hX hV lk_86 (h1) dX0_copyFrom_48 ?_
  obtain ⟨σ12, e11, hf⟩ := sr_bnd hf
  refine s_callV0 (ci := 6) hX hV hl.1 (c_X6_copyFrom (ch_0_2 (h0)) (ch_0_2 (h1)) e11) cv_X6_copyFrom lk_605 ⟨rfl, rfl, Nat.le_of_ble_eq_true rfl, Nat.le_of_ble_eq_true rfl⟩ rfl (by decide) (ch_0_2 (h0)) rfl rfl (Nat.le_of_ble_eq_true rfl) dX0_copyFrom_51 ⟨Nat.le_of_ble_eq_true rfl, Nat.le_of_ble_eq_true rfl⟩ (fun H locs hV => ?_)
  refine lv_aload_n hx hb dX0_copyFrom_54 rfl (lv_at hl 1 rfl) ?_
  refine fg_0_3 hX hV lk_89 (h1) dX0_copyFrom_55 ?_
  refine lv_iconst (v := 0) hx hb dX0_copyFrom_58 (by decide) ?_
  refine lv_aload_n hx hb dX0_copyFrom_59 rfl (lv_at hl 0 rfl) ?_
  refine fg_0_3 hX hV lk_89 (h0) dX0_copyFrom_60 ?_
  refine lv_iconst (v := 0) hx hb dX0_copyFrom_63 (by decide) ?_
  refine lv_bipush (v := 6) hx hb dX0_copyFrom_64 (by decide) ?_
  obtain ⟨σ13, e14, hf⟩ := sr_bnd hf
  refine s_copy (nn := 6) (n1 := 6) (n2 := 6) hX hV hl.1 lk_609 (ch_0_3 (h1)) (ch_0_3 (h0)) (by decide) (by decide) (by decide) (by decide) (by decide) (by decide) (Nat.le_of_ble_eq_true rfl) (Nat.le_of_ble_eq_true rfl) dX0_copyFrom_66 (fun H locs hV => ?_)
  rw [e14] at hV
  cases hf
  exact s_vret hX hV dX0_copyFrom_69
abbrev rm_X0_isUnderWay : Room := { frames := 0, cells := 0, slots := 0, locals := 0 }
theorem cv_X0_isUnderWay : sr_Cv yX0_isUnderWay cX0_isUnderWay 1 (Option.some FieldType.boolean) RX0 0 := ⟨lk_504, lk_502, lk_503, lk_3, rfl, by decide +kernel, by decide +kernel, by decide +kernel⟩
set_option maxHeartbeats 4000000 in
set_option maxRecDepth 100000 in
theorem c_X0_isUnderWay {l : Launch} {D : va_G} {aC : Nat → ClassId} {n0 : Nat} {r : Bool} {σ : St}  {q0 : Nat} (h0 : shC q0 = 1) (hf : f_X0_isUnderWay q0 σ = r) : sr_Met l D aC shC n0 yX0_isUnderWay cX0_isUnderWay 1 (Option.some FieldType.boolean) rm_X0_isUnderWay [.ref (n0 + q0)] σ (some (.int (bI r))) σ := by
  refine s_met (own := RX0) (by decide) (Nat.le_of_ble_eq_true rfl) rfl ?_
  intro p e s m below meth c ls hX hV hl
  have hl : lv_has ls 1 [(0, .ref (n0 + q0))] := hl
  have hx := hX.1.1
  have hb := hX.1.2.1
  unfold f_X0_isUnderWay at hf
  refine lv_aload_n hx hb dX0_isUnderWay_0 rfl (lv_at hl 0 rfl) ?_
  refine fg_0_5 hX hV lk_93 (h0) dX0_isUnderWay_1 ?_
  refine lv_iconst (v := 1) hx hb dX0_isUnderWay_4 (by decide) ?_
  refine lv_icmp_eq (tgt := 24) hx hb dX0_isUnderWay_5 (by decide) (fun c1 => ?_) (fun c1 => ?_)
  · have hf := sr_t hf c1
    refine lv_iconst (v := 1) hx hb dX0_isUnderWay_24 (by decide) ?_
    refine lv_goto (tgt := 29) hx hb dX0_isUnderWay_25 (by decide) ?_
    cases hf
    exact s_zret (b := true) hX hV dX0_isUnderWay_29
  · have hf := sr_f hf c1
    refine lv_aload_n hx hb dX0_isUnderWay_8 rfl (lv_at hl 0 rfl) ?_
    refine fg_0_5 hX hV lk_93 (h0) dX0_isUnderWay_9 ?_
    refine lv_iconst (v := 2) hx hb dX0_isUnderWay_12 (by decide) ?_
    refine lv_icmp_eq (tgt := 24) hx hb dX0_isUnderWay_13 (by decide) (fun c2 => ?_) (fun c2 => ?_)
    · have hf := sr_t hf c2
      refine lv_iconst (v := 1) hx hb dX0_isUnderWay_24 (by decide) ?_
      refine lv_goto (tgt := 29) hx hb dX0_isUnderWay_25 (by decide) ?_
      cases hf
      exact s_zret (b := true) hX hV dX0_isUnderWay_29
    · have hf := sr_f hf c2
      refine lv_aload_n hx hb dX0_isUnderWay_16 rfl (lv_at hl 0 rfl) ?_
      refine fg_0_5 hX hV lk_93 (h0) dX0_isUnderWay_17 ?_
      refine lv_iconst (v := 4) hx hb dX0_isUnderWay_20 (by decide) ?_
      refine lv_icmp_ne (tgt := 28) hx hb dX0_isUnderWay_21 (by decide) (fun c3 => ?_) (fun c3 => ?_)
      · have hf := sr_f hf c3
        refine lv_iconst (v := 0) hx hb dX0_isUnderWay_28 (by decide) ?_
        cases hf
        exact s_zret (b := false) hX hV dX0_isUnderWay_29
      · have hf := sr_t hf c3
        refine lv_iconst (v := 1) hx hb dX0_isUnderWay_24 (by decide) ?_
        refine lv_goto (tgt := 29) hx hb dX0_isUnderWay_25 (by decide) ?_
        cases hf
        exact s_zret (b := true) hX hV dX0_isUnderWay_29
abbrev rm_X0_isWatched : Room := { frames := 0, cells := 0, slots := 0, locals := 0 }
theorem cv_X0_isWatched : sr_Cv yX0_isWatched cX0_isWatched 1 (Option.some FieldType.boolean) RX0 0 := ⟨lk_432, lk_430, lk_431, lk_3, rfl, by decide +kernel, by decide +kernel, by decide +kernel⟩
set_option maxHeartbeats 4000000 in
set_option maxRecDepth 100000 in
theorem c_X0_isWatched {l : Launch} {D : va_G} {aC : Nat → ClassId} {n0 : Nat} {r : Bool} {σ : St}  {q0 : Nat} (h0 : shC q0 = 1) (hf : f_X0_isWatched q0 σ = r) : sr_Met l D aC shC n0 yX0_isWatched cX0_isWatched 1 (Option.some FieldType.boolean) rm_X0_isWatched [.ref (n0 + q0)] σ (some (.int (bI r))) σ := by
  refine s_met (own := RX0) (by decide) (Nat.le_of_ble_eq_true rfl) rfl ?_
  intro p e s m below meth c ls hX hV hl
  have hl : lv_has ls 1 [(0, .ref (n0 + q0))] := hl
  have hx := hX.1.1
  have hb := hX.1.2.1
  unfold f_X0_isWatched at hf
  refine lv_aload_n hx hb dX0_isWatched_0 rfl (lv_at hl 0 rfl) ?_
  refine fg_0_5 hX hV lk_93 (h0) dX0_isWatched_1 ?_
  refine lv_iconst (v := 1) hx hb dX0_isWatched_4 (by decide) ?_
  refine lv_icmp_eq (tgt := 16) hx hb dX0_isWatched_5 (by decide) (fun c1 => ?_) (fun c1 => ?_)
  · have hf := sr_t hf c1
    refine lv_iconst (v := 1) hx hb dX0_isWatched_16 (by decide) ?_
    refine lv_goto (tgt := 21) hx hb dX0_isWatched_17 (by decide) ?_
    cases hf
    exact s_zret (b := true) hX hV dX0_isWatched_21
  · have hf := sr_f hf c1
    refine lv_aload_n hx hb dX0_isWatched_8 rfl (lv_at hl 0 rfl) ?_
    refine fg_0_5 hX hV lk_93 (h0) dX0_isWatched_9 ?_
    refine lv_iconst (v := 2) hx hb dX0_isWatched_12 (by decide) ?_
    refine lv_icmp_ne (tgt := 20) hx hb dX0_isWatched_13 (by decide) (fun c2 => ?_) (fun c2 => ?_)
    · have hf := sr_f hf c2
      refine lv_iconst (v := 0) hx hb dX0_isWatched_20 (by decide) ?_
      cases hf
      exact s_zret (b := false) hX hV dX0_isWatched_21
    · have hf := sr_t hf c2
      refine lv_iconst (v := 1) hx hb dX0_isWatched_16 (by decide) ?_
      refine lv_goto (tgt := 21) hx hb dX0_isWatched_17 (by decide) ?_
      cases hf
      exact s_zret (b := true) hX hV dX0_isWatched_21
abbrev rm_X0_hasFurtherStage : Room := { frames := 0, cells := 0, slots := 0, locals := 0 }
theorem cv_X0_hasFurtherStage : sr_Cv yX0_hasFurtherStage cX0_hasFurtherStage 1 (Option.some FieldType.boolean) RX0 0 := ⟨lk_524, lk_522, lk_523, lk_3, rfl, by decide +kernel, by decide +kernel, by decide +kernel⟩
set_option maxHeartbeats 4000000 in
set_option maxRecDepth 100000 in
theorem c_X0_hasFurtherStage {l : Launch} {D : va_G} {aC : Nat → ClassId} {n0 : Nat} {r : Bool} {σ : St}  {q0 : Nat} (h0 : shC q0 = 1) (hf : f_X0_hasFurtherStage q0 σ = r) : sr_Met l D aC shC n0 yX0_hasFurtherStage cX0_hasFurtherStage 1 (Option.some FieldType.boolean) rm_X0_hasFurtherStage [.ref (n0 + q0)] σ (some (.int (bI r))) σ := by
  refine s_met (own := RX0) (by decide) (Nat.le_of_ble_eq_true rfl) rfl ?_
  intro p e s m below meth c ls hX hV hl
  have hl : lv_has ls 1 [(0, .ref (n0 + q0))] := hl
  have hx := hX.1.1
  have hb := hX.1.2.1
  unfold f_X0_hasFurtherStage at hf
  refine lv_aload_n hx hb dX0_hasFurtherStage_0 rfl (lv_at hl 0 rfl) ?_
  refine fg_0_6 hX hV lk_96 (h0) dX0_hasFurtherStage_1 ?_
  refine lv_aload_n hx hb dX0_hasFurtherStage_4 rfl (lv_at hl 0 rfl) ?_
  refine fg_0_1 hX hV lk_84 (h0) dX0_hasFurtherStage_5 ?_
  refine fg_4_1 hX hV lk_42 (ch_0_1 (h0)) dX0_hasFurtherStage_8 ?_
  refine lv_icmp_ge (tgt := 18) hx hb dX0_hasFurtherStage_11 (by decide) (fun c1 => ?_) (fun c1 => ?_)
  · have hf := sr_t hf c1
    refine lv_iconst (v := 0) hx hb dX0_hasFurtherStage_18 (by decide) ?_
    cases hf
    exact s_zret (b := false) hX hV dX0_hasFurtherStage_19
  · have hf := sr_f hf c1
    refine lv_iconst (v := 1) hx hb dX0_hasFurtherStage_14 (by decide) ?_
    refine lv_goto (tgt := 19) hx hb dX0_hasFurtherStage_15 (by decide) ?_
    cases hf
    exact s_zret (b := true) hX hV dX0_hasFurtherStage_19
abbrev rm_X4_cellsOfFirst : Room := { frames := 0, cells := 0, slots := 0, locals := 0 }
theorem cv_X4_cellsOfFirst : sr_Cv yX4_cellsOfFirst cX4_cellsOfFirst 4 (Option.some FieldType.int) RX4 1 := ⟨lk_294, lk_292, lk_293, lk_4, rfl, by decide +kernel, by decide +kernel, by decide +kernel⟩
set_option maxHeartbeats 4000000 in
set_option maxRecDepth 100000 in
theorem k_X4_cellsOfFirst_L4 {p : Program} {l : Launch} {e : Env} {s : State} {m : MethodId} {args : Array Value} {below : List Frame} {meth : Method} {c : Code} {D : va_G} {aC : Nat → ClassId} {n0 : Nat} {r : Int32} {σ : St} {q0 : Nat} {x1 : Int32} (hX : sr_X p s m args meth c cX4_cellsOfFirst 4 (Option.some FieldType.int) RX4 D aC) (h0 : shC q0 = 5) (rec4 : Int32 → Int32 → Option Int32) (hrec4 : ∀ (x2 : Int32) (x3 : Int32) (H : Heap) (locs : List Loc) (ls : Array Slot) , lv_has ls 4 [(0, .ref (n0 + q0)), (1, .int x1), (2, .int x2), (3, .int x3)] → sr_V D aC shC n0 σ s.heap H locs → rec4 x2 x3 = some r → W p l e rm_X4_cellsOfFirst s m args below meth c H locs 0 0 (MQ below (sr_Qc D aC shC n0 σ (some (.int r))) args s 0 0 (sr_A shC n0)) (F0 m 4 ls [])) : ∀ (x2 : Int32) (x3 : Int32) (H : Heap) (locs : List Loc) (ls : Array Slot) , lv_has ls 4 [(0, .ref (n0 + q0)), (1, .int x1), (2, .int x2), (3, .int x3)] → sr_V D aC shC n0 σ s.heap H locs → f_X4_cellsOfFirst_L4 σ q0 x1 rec4 x2 x3 = some r → W p l e rm_X4_cellsOfFirst s m args below meth c H locs 0 0 (MQ below (sr_Qc D aC shC n0 σ (some (.int r))) args s 0 0 (sr_A shC n0)) (F0 m 4 ls []) := by
  intro x2 x3 H locs ls  hl hV hf
  have hx := hX.1.1
  have hb := hX.1.2.1
  unfold f_X4_cellsOfFirst_L4 at hf
  refine lv_iload_n hx hb dX4_cellsOfFirst_4 rfl (lv_at hl 3 rfl) ?_
  refine lv_iload_n hx hb dX4_cellsOfFirst_5 rfl (lv_at hl 1 rfl) ?_
  refine lv_icmp_ge (tgt := 42) hx hb dX4_cellsOfFirst_6 (by decide) (fun c1 => ?_) (fun c1 => ?_)
  · have hf := sr_t hf c1
    refine lv_iload_n hx hb dX4_cellsOfFirst_42 rfl (lv_at hl 2 rfl) ?_
    cases hf
    exact s_iret hX hV dX4_cellsOfFirst_43
  · have hf := sr_f hf c1
    refine lv_iload_n hx hb dX4_cellsOfFirst_9 rfl (lv_at hl 3 rfl) ?_
    refine lv_aload_n hx hb dX4_cellsOfFirst_10 rfl (lv_at hl 0 rfl) ?_
    refine fg_4_1 hX hV lk_41 (h0) dX4_cellsOfFirst_11 ?_
    refine lv_icmp_ge (tgt := 42) hx hb dX4_cellsOfFirst_14 (by decide) (fun c2 => ?_) (fun c2 => ?_)
    · have hf := sr_t hf c2
      refine lv_iload_n hx hb dX4_cellsOfFirst_42 rfl (lv_at hl 2 rfl) ?_
      cases hf
      exact s_iret hX hV dX4_cellsOfFirst_43
    · have hf := sr_f hf c2
      refine lv_iload_n hx hb dX4_cellsOfFirst_17 rfl (lv_at hl 3 rfl) ?_
      refine lv_bipush (v := 6) hx hb dX4_cellsOfFirst_18 (by decide) ?_
      refine lv_icmp_ge (tgt := 42) hx hb dX4_cellsOfFirst_20 (by decide) (fun c3 => ?_) (fun c3 => ?_)
      · have hf := sr_t hf c3
        refine lv_iload_n hx hb dX4_cellsOfFirst_42 rfl (lv_at hl 2 rfl) ?_
        cases hf
        exact s_iret hX hV dX4_cellsOfFirst_43
      · have hf := sr_f hf c3
        refine lv_iload_n hx hb dX4_cellsOfFirst_23 rfl (lv_at hl 2 rfl) ?_
        refine lv_aload_n hx hb dX4_cellsOfFirst_24 rfl (lv_at hl 0 rfl) ?_
        refine fg_4_0 hX hV lk_40 (h0) dX4_cellsOfFirst_25 ?_
        refine lv_iload_n hx hb dX4_cellsOfFirst_28 rfl (lv_at hl 3 rfl) ?_
        refine lv_iconst (v := 3) hx hb dX4_cellsOfFirst_29 (by decide) ?_
        refine lv_imul hx hb dX4_cellsOfFirst_30 ?_
        refine lv_iconst (v := 0) hx hb dX4_cellsOfFirst_31 (by decide) ?_
        refine lv_iadd hx hb dX4_cellsOfFirst_32 ?_
        obtain ⟨v4, e5, hf⟩ := sr_bnd hf
        rw [e5]
        obtain ⟨g6, hf⟩ := sr_gd hf
        refine s_iald hX hV (n := 18) (ch_4_0 (h0)) (by decide) (inb_in g6) dX4_cellsOfFirst_33 ?_
        refine lv_ior hx hb dX4_cellsOfFirst_34 ?_
        obtain ⟨v7, e8, hf⟩ := sr_bnd hf
        rw [e8]
        refine lv_istore_n (lv' := [(2, .int v7), (0, .ref (n0 + q0)), (1, .int x1), (3, .int x3)]) hx hb dX4_cellsOfFirst_35 rfl hl (by decide) rfl (fun ls hl => ?_)
        obtain ⟨v9, e10, hf⟩ := sr_bnd hf
        refine lv_iinc (v := v9) (lv' := [(3, .int v9), (2, .int v7), (0, .ref (n0 + q0)), (1, .int x1)]) hx hb dX4_cellsOfFirst_36 hl (k := 3) rfl (by rw [← e10]; rfl) (by decide) rfl (fun ls hl => ?_)
        refine lv_goto (tgt := 4) hx hb dX4_cellsOfFirst_39 (by decide) ?_
        exact hrec4 _ _ _ _ _  (lv_sub hl [2, 3, 1, 0] rfl) hV hf
set_option maxHeartbeats 4000000 in
set_option maxRecDepth 100000 in
theorem k_X4_cellsOfFirst_L4w {p : Program} {l : Launch} {e : Env} {s : State} {m : MethodId} {args : Array Value} {below : List Frame} {meth : Method} {c : Code} {D : va_G} {aC : Nat → ClassId} {n0 : Nat} {r : Int32} {σ : St} {q0 : Nat} {x1 : Int32} (hX : sr_X p s m args meth c cX4_cellsOfFirst 4 (Option.some FieldType.int) RX4 D aC) (h0 : shC q0 = 5) (n : Nat) : ∀ (x2 : Int32) (x3 : Int32) (H : Heap) (locs : List Loc) (ls : Array Slot) , lv_has ls 4 [(0, .ref (n0 + q0)), (1, .int x1), (2, .int x2), (3, .int x3)] → sr_V D aC shC n0 σ s.heap H locs → it2 (f_X4_cellsOfFirst_L4 σ q0 x1) n x2 x3 = some r → W p l e rm_X4_cellsOfFirst s m args below meth c H locs 0 0 (MQ below (sr_Qc D aC shC n0 σ (some (.int r))) args s 0 0 (sr_A shC n0)) (F0 m 4 ls []) :=
  it2_ind (fun rec4 => ∀ (x2 : Int32) (x3 : Int32) (H : Heap) (locs : List Loc) (ls : Array Slot) , lv_has ls 4 [(0, .ref (n0 + q0)), (1, .int x1), (2, .int x2), (3, .int x3)] → sr_V D aC shC n0 σ s.heap H locs → rec4 x2 x3 = some r → W p l e rm_X4_cellsOfFirst s m args below meth c H locs 0 0 (MQ below (sr_Qc D aC shC n0 σ (some (.int r))) args s 0 0 (sr_A shC n0)) (F0 m 4 ls [])) (by intros; rename_i hf; exact absurd hf (by simp)) (fun rec hrec => k_X4_cellsOfFirst_L4 hX h0  rec hrec) n
set_option maxHeartbeats 4000000 in
set_option maxRecDepth 100000 in
theorem c_X4_cellsOfFirst {l : Launch} {D : va_G} {aC : Nat → ClassId} {n0 : Nat} {r : Int32} {σ : St}  {q0 : Nat} {x1 : Int32} (h0 : shC q0 = 5) (hf : f_X4_cellsOfFirst q0 x1 σ = some r) : sr_Met l D aC shC n0 yX4_cellsOfFirst cX4_cellsOfFirst 4 (Option.some FieldType.int) rm_X4_cellsOfFirst [.ref (n0 + q0), .int x1] σ (some (.int r)) σ := by
  refine s_met (own := RX4) (by decide) (Nat.le_of_ble_eq_true rfl) rfl ?_
  intro p e s m below meth c ls hX hV hl
  have hl : lv_has ls 4 [(0, .ref (n0 + q0)), (1, .int x1)] := hl
  have hx := hX.1.1
  have hb := hX.1.2.1
  unfold f_X4_cellsOfFirst at hf
  refine lv_iconst (v := 0) hx hb dX4_cellsOfFirst_0 (by decide) ?_
  refine lv_istore_n (lv' := [(2, .int 0), (0, .ref (n0 + q0)), (1, .int x1)]) hx hb dX4_cellsOfFirst_1 rfl hl (by decide) rfl (fun ls hl => ?_)
  refine lv_iconst (v := 0) hx hb dX4_cellsOfFirst_2 (by decide) ?_
  refine lv_istore_n (lv' := [(3, .int 0), (2, .int 0), (0, .ref (n0 + q0)), (1, .int x1)]) hx hb dX4_cellsOfFirst_3 rfl hl (by decide) rfl (fun ls hl => ?_)
  exact k_X4_cellsOfFirst_L4w hX h0  sr_fuel _ _ _ _ _  (lv_sub hl [2, 3, 1, 0] rfl) hV hf
abbrev rm_X0_isAt : Room := { frames := 1, cells := 0, slots := 0, locals := 23 }
theorem cv_X0_isAt : sr_Cv yX0_isAt cX0_isAt 2 (Option.some FieldType.boolean) RX0 1 := ⟨lk_436, lk_434, lk_435, lk_3, rfl, by decide +kernel, by decide +kernel, by decide +kernel⟩
set_option maxHeartbeats 4000000 in
set_option maxRecDepth 100000 in
theorem c_X0_isAt {l : Launch} {D : va_G} {aC : Nat → ClassId} {n0 : Nat} {r : Bool} {σ : St}  {q0 : Nat} {x1 : Int32} (h0 : shC q0 = 1) (hf : f_X0_isAt q0 x1 σ = some r) : sr_Met l D aC shC n0 yX0_isAt cX0_isAt 2 (Option.some FieldType.boolean) rm_X0_isAt [.ref (n0 + q0), .int x1] σ (some (.int (bI r))) σ := by
  refine s_met (own := RX0) (by decide) (Nat.le_of_ble_eq_true rfl) rfl ?_
  intro p e s m below meth c ls hX hV hl
  have hl : lv_has ls 2 [(0, .ref (n0 + q0)), (1, .int x1)] := hl
  have hx := hX.1.1
  have hb := hX.1.2.1
  unfold f_X0_isAt at hf
  refine lv_aload_n hx hb dX0_isAt_0 rfl (lv_at hl 0 rfl) ?_
  refine fg_0_1 hX hV lk_84 (h0) dX0_isAt_1 ?_
  refine lv_aload_n hx hb dX0_isAt_4 rfl (lv_at hl 0 rfl) ?_
  refine fg_0_6 hX hV lk_96 (h0) dX0_isAt_5 ?_
  obtain ⟨v2, e1, hf⟩ := sr_obd hf
  refine s_callV1 (ci := 4) hX hV hl.1 (c_X4_cellsOfFirst (ch_0_1 (h0)) e1) cv_X4_cellsOfFirst lk_437 ⟨rfl, rfl, Nat.le_of_ble_eq_true rfl, Nat.le_of_ble_eq_true rfl⟩ rfl (by decide) (ch_0_1 (h0)) rfl rfl (Nat.le_of_ble_eq_true rfl) dX0_isAt_8 ⟨Nat.le_of_ble_eq_true rfl, Nat.le_of_ble_eq_true rfl⟩ (fun H locs hV => ?_)
  refine lv_iload_n hx hb dX0_isAt_11 rfl (lv_at hl 1 rfl) ?_
  refine lv_ishr hx hb dX0_isAt_12 ?_
  refine lv_iconst (v := 1) hx hb dX0_isAt_13 (by decide) ?_
  refine lv_iand hx hb dX0_isAt_14 ?_
  refine lv_if_eq (tgt := 22) hx hb dX0_isAt_15 (by decide) (fun c3 => ?_) (fun c3 => ?_)
  · have hf := sr_t hf c3
    refine lv_iconst (v := 0) hx hb dX0_isAt_22 (by decide) ?_
    cases hf
    exact s_zret (b := false) hX hV dX0_isAt_23
  · have hf := sr_f hf c3
    refine lv_iconst (v := 1) hx hb dX0_isAt_18 (by decide) ?_
    refine lv_goto (tgt := 23) hx hb dX0_isAt_19 (by decide) ?_
    cases hf
    exact s_zret (b := true) hX hV dX0_isAt_23
abbrev rm_X6_treated : Room := { frames := 0, cells := 0, slots := 0, locals := 0 }
theorem cv_X6_treated : sr_Cv yX6_treated cX6_treated 1 (Option.some FieldType.int) RX6 0 := ⟨lk_445, lk_443, lk_444, lk_5, rfl, by decide +kernel, by decide +kernel, by decide +kernel⟩
set_option maxHeartbeats 4000000 in
set_option maxRecDepth 100000 in
theorem c_X6_treated {l : Launch} {D : va_G} {aC : Nat → ClassId} {n0 : Nat} {r : Int32} {σ : St}  {q0 : Nat} (h0 : shC q0 = 7) (hf : f_X6_treated q0 σ = r) : sr_Met l D aC shC n0 yX6_treated cX6_treated 1 (Option.some FieldType.int) rm_X6_treated [.ref (n0 + q0)] σ (some (.int r)) σ := by
  refine s_met (own := RX6) (by decide) (Nat.le_of_ble_eq_true rfl) rfl ?_
  intro p e s m below meth c ls hX hV hl
  have hl : lv_has ls 1 [(0, .ref (n0 + q0))] := hl
  have hx := hX.1.1
  have hb := hX.1.2.1
  unfold f_X6_treated at hf
  refine lv_aload_n hx hb dX6_treated_0 rfl (lv_at hl 0 rfl) ?_
  refine fg_6_0 hX hV lk_57 (h0) dX6_treated_1 ?_
  refine lv_aload_n hx hb dX6_treated_4 rfl (lv_at hl 0 rfl) ?_
  refine fg_6_1 hX hV lk_59 (h0) dX6_treated_5 ?_
  refine lv_iadd hx hb dX6_treated_8 ?_
  cases hf
  exact s_iret hX hV dX6_treated_9
abbrev rm_X6_setsOf : Room := { frames := 1, cells := 0, slots := 0, locals := 30 }
theorem cs_X6_setsOf : sr_Cs yX6_setsOf cX6_setsOf 6 (Option.some FieldType.long) RX6 2 := ⟨lk_452, lk_451, lk_5, rfl, by decide +kernel, by decide +kernel, by decide +kernel⟩
set_option maxHeartbeats 4000000 in
set_option maxRecDepth 100000 in
theorem k_X6_setsOf_L21 {p : Program} {l : Launch} {e : Env} {s : State} {m : MethodId} {args : Array Value} {below : List Frame} {meth : Method} {c : Code} {D : va_G} {aC : Nat → ClassId} {n0 : Nat} {sh : Nat → Nat} {r : Int64} {σ : St} {x0 : Int32} {x1 : Int32} (hX : sr_X p s m args meth c cX6_setsOf 6 (Option.some FieldType.long) RX6 D aC)  (rec21 : Int32 → Int64 → Int32 → Option Int64) (hrec21 : ∀ (x2 : Int32) (w3 : Int64) (x5 : Int32) (H : Heap) (locs : List Loc) (ls : Array Slot) , lv_has ls 6 [(0, .int x0), (2, .int x2), (3, .long w3), (5, .int x5)] → sr_V D aC sh n0 σ s.heap H locs → rec21 x2 w3 x5 = some r → W p l e rm_X6_setsOf s m args below meth c H locs 0 0 (MQ below (sr_Qc D aC sh n0 σ (some (.long r))) args s 0 0 (sr_A sh n0)) (F0 m 21 ls [])) : ∀ (x2 : Int32) (w3 : Int64) (x5 : Int32) (H : Heap) (locs : List Loc) (ls : Array Slot) , lv_has ls 6 [(0, .int x0), (2, .int x2), (3, .long w3), (5, .int x5)] → sr_V D aC sh n0 σ s.heap H locs → f_X6_setsOf_L21 x0 x1 rec21 x2 w3 x5 = some r → W p l e rm_X6_setsOf s m args below meth c H locs 0 0 (MQ below (sr_Qc D aC sh n0 σ (some (.long r))) args s 0 0 (sr_A sh n0)) (F0 m 21 ls []) := by
  intro x2 w3 x5 H locs ls  hl hV hf
  have hx := hX.1.1
  have hb := hX.1.2.1
  unfold f_X6_setsOf_L21 at hf
  refine lv_iload hx hb dX6_setsOf_21 (lv_at hl 3 rfl) ?_
  refine lv_iload_n hx hb dX6_setsOf_23 rfl (lv_at hl 1 rfl) ?_
  refine lv_icmp_gt (tgt := 47) hx hb dX6_setsOf_24 (by decide) (fun c1 => ?_) (fun c1 => ?_)
  · have hf := sr_t hf c1
    refine lv_lload_n hx hb dX6_setsOf_47 rfl (lv_at hl 2 rfl) ?_
    cases hf
    exact s_lret hX hV dX6_setsOf_48
  · have hf := sr_f hf c1
    refine lv_lload_n hx hb dX6_setsOf_27 rfl (lv_at hl 2 rfl) ?_
    refine lv_iload_n hx hb dX6_setsOf_28 rfl (lv_at hl 0 rfl) ?_
    refine lv_iload_n hx hb dX6_setsOf_29 rfl (lv_at hl 1 rfl) ?_
    refine lv_isub hx hb dX6_setsOf_30 ?_
    refine lv_iload hx hb dX6_setsOf_31 (lv_at hl 3 rfl) ?_
    refine lv_iadd hx hb dX6_setsOf_33 ?_
    refine lv_i2l hx hb dX6_setsOf_34 rfl ?_
    refine lv_lmul hx hb dX6_setsOf_35 ?_
    refine lv_iload hx hb dX6_setsOf_36 (lv_at hl 3 rfl) ?_
    refine lv_i2l hx hb dX6_setsOf_38 rfl ?_
    obtain ⟨g2, hf⟩ := sr_gd hf
    refine lv_ldiv hx hb dX6_setsOf_39 g2 ?_
    obtain ⟨v3, e4, hf⟩ := sr_bnd hf
    rw [e4]
    refine lv_lstore_n (lv' := [(3, .long v3), (0, .int x0), (2, .int x2), (5, .int x5)]) hx hb dX6_setsOf_40 rfl hl (by decide) rfl (fun ls hl => ?_)
    obtain ⟨v5, e6, hf⟩ := sr_bnd hf
    refine lv_iinc (v := v5) (lv' := [(5, .int v5), (3, .long v3), (0, .int x0), (2, .int x2)]) hx hb dX6_setsOf_41 hl (k := 3) rfl (by rw [← e6]; rfl) (by decide) rfl (fun ls hl => ?_)
    refine lv_goto (tgt := 21) hx hb dX6_setsOf_44 (by decide) ?_
    exact hrec21 _ _ _ _ _ _  (lv_sub hl [2, 3, 1, 0] rfl) hV hf
set_option maxHeartbeats 4000000 in
set_option maxRecDepth 100000 in
theorem k_X6_setsOf_L21w {p : Program} {l : Launch} {e : Env} {s : State} {m : MethodId} {args : Array Value} {below : List Frame} {meth : Method} {c : Code} {D : va_G} {aC : Nat → ClassId} {n0 : Nat} {sh : Nat → Nat} {r : Int64} {σ : St} {x0 : Int32} {x1 : Int32} (hX : sr_X p s m args meth c cX6_setsOf 6 (Option.some FieldType.long) RX6 D aC)  (n : Nat) : ∀ (x2 : Int32) (w3 : Int64) (x5 : Int32) (H : Heap) (locs : List Loc) (ls : Array Slot) , lv_has ls 6 [(0, .int x0), (2, .int x2), (3, .long w3), (5, .int x5)] → sr_V D aC sh n0 σ s.heap H locs → it3 (f_X6_setsOf_L21 x0 x1) n x2 w3 x5 = some r → W p l e rm_X6_setsOf s m args below meth c H locs 0 0 (MQ below (sr_Qc D aC sh n0 σ (some (.long r))) args s 0 0 (sr_A sh n0)) (F0 m 21 ls []) :=
  it3_ind (fun rec21 => ∀ (x2 : Int32) (w3 : Int64) (x5 : Int32) (H : Heap) (locs : List Loc) (ls : Array Slot) , lv_has ls 6 [(0, .int x0), (2, .int x2), (3, .long w3), (5, .int x5)] → sr_V D aC sh n0 σ s.heap H locs → rec21 x2 w3 x5 = some r → W p l e rm_X6_setsOf s m args below meth c H locs 0 0 (MQ below (sr_Qc D aC sh n0 σ (some (.long r))) args s 0 0 (sr_A sh n0)) (F0 m 21 ls [])) (by intros; rename_i hf; exact absurd hf (by simp)) (fun rec hrec => k_X6_setsOf_L21 hX   rec hrec) n
set_option maxHeartbeats 4000000 in
set_option maxRecDepth 100000 in
theorem c_X6_setsOf {l : Launch} {D : va_G} {aC : Nat → ClassId} {n0 : Nat} {sh : Nat → Nat} {r : Int64} {σ : St}  {x0 : Int32} {x1 : Int32}  (hf : f_X6_setsOf x0 x1 = some r) : sr_Met l D aC sh n0 yX6_setsOf cX6_setsOf 6 (Option.some FieldType.long) rm_X6_setsOf [.int x0, .int x1] σ (some (.long r)) σ := by
  refine s_met (own := RX6) (by decide) (Nat.le_of_ble_eq_true rfl) rfl ?_
  intro p e s m below meth c ls hX hV hl
  have hl : lv_has ls 6 [(0, .int x0), (1, .int x1)] := hl
  have hx := hX.1.1
  have hb := hX.1.2.1
  unfold f_X6_setsOf at hf
  refine lv_iload_n hx hb dX6_setsOf_0 rfl (lv_at hl 1 rfl) ?_
  refine lv_iload_n hx hb dX6_setsOf_1 rfl (lv_at hl 0 rfl) ?_
  refine lv_iload_n hx hb dX6_setsOf_2 rfl (lv_at hl 1 rfl) ?_
  refine lv_isub hx hb dX6_setsOf_3 ?_
  refine va_mmin hx hb (by rw [hX.1.2.2.1, hl.1]) hX.1.2.2.2.1 (s_w hX lk_453) (s_w hX lk_454) (s_w hX lk_12) (s_w hX lk_455) (Nat.le_of_ble_eq_true rfl) (Nat.le_of_ble_eq_true rfl) (Nat.le_of_ble_eq_true rfl) (Nat.le_of_ble_eq_true rfl) dX6_setsOf_4 ?_
  obtain ⟨v7, e8, hf⟩ := sr_bnd hf
  rw [e8]
  refine lv_istore_n (lv' := [(2, .int v7), (0, .int x0), (1, .int x1)]) hx hb dX6_setsOf_7 rfl hl (by decide) rfl (fun ls hl => ?_)
  refine lv_iload_n hx hb dX6_setsOf_8 rfl (lv_at hl 0 rfl) ?_
  refine lv_if_ge (tgt := 16) hx hb dX6_setsOf_9 (by decide) (fun c9 => ?_) (fun c9 => ?_)
  · have hf := sr_t hf c9
    refine lv_lconst (v := 1) hx hb dX6_setsOf_16 (by decide) ?_
    refine lv_lstore_n (lv' := [(3, .long 1), (2, .int v7), (0, .int x0), (1, .int x1)]) hx hb dX6_setsOf_17 rfl hl (by decide) rfl (fun ls hl => ?_)
    refine lv_iconst (v := 1) hx hb dX6_setsOf_18 (by decide) ?_
    refine lv_istore (lv' := [(5, .int 1), (3, .long 1), (2, .int v7), (0, .int x0), (1, .int x1)]) hx hb dX6_setsOf_19 hl (by decide) rfl (fun ls hl => ?_)
    exact k_X6_setsOf_L21w hX   sr_fuel _ _ _ _ _ _  (lv_sub hl [3, 2, 1, 0] rfl) hV hf
  · have hf := sr_f hf c9
    refine lv_lconst (v := 0) hx hb dX6_setsOf_12 (by decide) ?_
    refine lv_goto (tgt := 17) hx hb dX6_setsOf_13 (by decide) ?_
    refine lv_lstore_n (lv' := [(3, .long 0), (2, .int v7), (0, .int x0), (1, .int x1)]) hx hb dX6_setsOf_17 rfl hl (by decide) rfl (fun ls hl => ?_)
    refine lv_iconst (v := 1) hx hb dX6_setsOf_18 (by decide) ?_
    refine lv_istore (lv' := [(5, .int 1), (3, .long 0), (2, .int v7), (0, .int x0), (1, .int x1)]) hx hb dX6_setsOf_19 hl (by decide) rfl (fun ls hl => ?_)
    exact k_X6_setsOf_L21w hX   sr_fuel _ _ _ _ _ _  (lv_sub hl [3, 2, 1, 0] rfl) hV hf
abbrev rm_X6_commonDivisor : Room := { frames := 1, cells := 0, slots := 0, locals := 30 }
theorem cs_X6_commonDivisor : sr_Cs yX6_commonDivisor cX6_commonDivisor 11 (Option.some FieldType.long) RX6 2 := ⟨lk_458, lk_457, lk_5, rfl, by decide +kernel, by decide +kernel, by decide +kernel⟩
set_option maxHeartbeats 4000000 in
set_option maxRecDepth 100000 in
theorem k_X6_commonDivisor_L9 {p : Program} {l : Launch} {e : Env} {s : State} {m : MethodId} {args : Array Value} {below : List Frame} {meth : Method} {c : Code} {D : va_G} {aC : Nat → ClassId} {n0 : Nat} {sh : Nat → Nat} {r : Int64} {σ : St} {w0 : Int64} {w2 : Int64} (hX : sr_X p s m args meth c cX6_commonDivisor 11 (Option.some FieldType.long) RX6 D aC)  (rec9 : Int64 → Int64 → Int32 → Option Int64) (hrec9 : ∀ (w4 : Int64) (w6 : Int64) (x8 : Int32) (H : Heap) (locs : List Loc) (ls : Array Slot) , lv_has ls 11 [(4, .long w4), (6, .long w6), (8, .int x8)] → sr_V D aC sh n0 σ s.heap H locs → rec9 w4 w6 x8 = some r → W p l e rm_X6_commonDivisor s m args below meth c H locs 0 0 (MQ below (sr_Qc D aC sh n0 σ (some (.long r))) args s 0 0 (sr_A sh n0)) (F0 m 9 ls [])) : ∀ (w4 : Int64) (w6 : Int64) (x8 : Int32) (H : Heap) (locs : List Loc) (ls : Array Slot) , lv_has ls 11 [(4, .long w4), (6, .long w6), (8, .int x8)] → sr_V D aC sh n0 σ s.heap H locs → f_X6_commonDivisor_L9 w0 w2 rec9 w4 w6 x8 = some r → W p l e rm_X6_commonDivisor s m args below meth c H locs 0 0 (MQ below (sr_Qc D aC sh n0 σ (some (.long r))) args s 0 0 (sr_A sh n0)) (F0 m 9 ls []) := by
  intro w4 w6 x8 H locs ls  hl hV hf
  have hx := hX.1.1
  have hb := hX.1.2.1
  unfold f_X6_commonDivisor_L9 at hf
  refine lv_iload hx hb dX6_commonDivisor_9 (lv_at hl 2 rfl) ?_
  refine lv_sipush (v := 1000) hx hb dX6_commonDivisor_11 (by decide) ?_
  refine lv_icmp_ge (tgt := 45) hx hb dX6_commonDivisor_14 (by decide) (fun c1 => ?_) (fun c1 => ?_)
  · have hf := sr_t hf c1
    refine lv_lload hx hb dX6_commonDivisor_45 (lv_at hl 0 rfl) ?_
    refine lv_lconst (v := 1) hx hb dX6_commonDivisor_47 (by decide) ?_
    refine va_mmax_long hx hb (by rw [hX.1.2.2.1, hl.1]) hX.1.2.2.2.1 (s_w hX lk_459) (s_w hX lk_460) (s_w hX lk_12) (s_w hX lk_461) (Nat.le_of_ble_eq_true rfl) (Nat.le_of_ble_eq_true rfl) (Nat.le_of_ble_eq_true rfl) (Nat.le_of_ble_eq_true rfl) dX6_commonDivisor_48 ?_
    cases hf
    exact s_lret hX hV dX6_commonDivisor_51
  · have hf := sr_f hf c1
    refine lv_lload hx hb dX6_commonDivisor_17 (lv_at hl 1 rfl) ?_
    refine lv_lconst (v := 0) hx hb dX6_commonDivisor_19 (by decide) ?_
    refine W.lcmp hx hb dX6_commonDivisor_20 ?_
    refine lv_if_eq (tgt := 45) hx hb dX6_commonDivisor_21 (by decide) (fun c2 => ?_) (fun c2 => ?_)
    · have hf := sr_t hf c2
      refine lv_lload hx hb dX6_commonDivisor_45 (lv_at hl 0 rfl) ?_
      refine lv_lconst (v := 1) hx hb dX6_commonDivisor_47 (by decide) ?_
      refine va_mmax_long hx hb (by rw [hX.1.2.2.1, hl.1]) hX.1.2.2.2.1 (s_w hX lk_459) (s_w hX lk_460) (s_w hX lk_12) (s_w hX lk_461) (Nat.le_of_ble_eq_true rfl) (Nat.le_of_ble_eq_true rfl) (Nat.le_of_ble_eq_true rfl) (Nat.le_of_ble_eq_true rfl) dX6_commonDivisor_48 ?_
      cases hf
      exact s_lret hX hV dX6_commonDivisor_51
    · have hf := sr_f hf c2
      refine lv_lload hx hb dX6_commonDivisor_24 (lv_at hl 0 rfl) ?_
      refine lv_lload hx hb dX6_commonDivisor_26 (lv_at hl 1 rfl) ?_
      obtain ⟨g3, hf⟩ := sr_gd hf
      refine lv_lrem hx hb dX6_commonDivisor_28 g3 ?_
      obtain ⟨v4, e5, hf⟩ := sr_bnd hf
      rw [e5]
      refine lv_lstore (lv' := [(9, .long v4), (4, .long w4), (6, .long w6), (8, .int x8)]) hx hb dX6_commonDivisor_29 hl (by decide) rfl (fun ls hl => ?_)
      refine lv_lload hx hb dX6_commonDivisor_31 (lv_at hl 2 rfl) ?_
      refine lv_lstore (lv' := [(4, .long w6), (9, .long v4), (6, .long w6), (8, .int x8)]) hx hb dX6_commonDivisor_33 hl (by decide) rfl (fun ls hl => ?_)
      refine lv_lload hx hb dX6_commonDivisor_35 (lv_at hl 1 rfl) ?_
      refine lv_lstore (lv' := [(6, .long v4), (4, .long w6), (9, .long v4), (8, .int x8)]) hx hb dX6_commonDivisor_37 hl (by decide) rfl (fun ls hl => ?_)
      obtain ⟨v6, e7, hf⟩ := sr_bnd hf
      refine lv_iinc (v := v6) (lv' := [(8, .int v6), (6, .long v4), (4, .long w6), (9, .long v4)]) hx hb dX6_commonDivisor_39 hl (k := 3) rfl (by rw [← e7]; rfl) (by decide) rfl (fun ls hl => ?_)
      refine lv_goto (tgt := 9) hx hb dX6_commonDivisor_42 (by decide) ?_
      exact hrec9 _ _ _ _ _ _  (lv_sub hl [2, 1, 0] rfl) hV hf
set_option maxHeartbeats 4000000 in
set_option maxRecDepth 100000 in
theorem k_X6_commonDivisor_L9w {p : Program} {l : Launch} {e : Env} {s : State} {m : MethodId} {args : Array Value} {below : List Frame} {meth : Method} {c : Code} {D : va_G} {aC : Nat → ClassId} {n0 : Nat} {sh : Nat → Nat} {r : Int64} {σ : St} {w0 : Int64} {w2 : Int64} (hX : sr_X p s m args meth c cX6_commonDivisor 11 (Option.some FieldType.long) RX6 D aC)  (n : Nat) : ∀ (w4 : Int64) (w6 : Int64) (x8 : Int32) (H : Heap) (locs : List Loc) (ls : Array Slot) , lv_has ls 11 [(4, .long w4), (6, .long w6), (8, .int x8)] → sr_V D aC sh n0 σ s.heap H locs → it3 (f_X6_commonDivisor_L9 w0 w2) n w4 w6 x8 = some r → W p l e rm_X6_commonDivisor s m args below meth c H locs 0 0 (MQ below (sr_Qc D aC sh n0 σ (some (.long r))) args s 0 0 (sr_A sh n0)) (F0 m 9 ls []) :=
  it3_ind (fun rec9 => ∀ (w4 : Int64) (w6 : Int64) (x8 : Int32) (H : Heap) (locs : List Loc) (ls : Array Slot) , lv_has ls 11 [(4, .long w4), (6, .long w6), (8, .int x8)] → sr_V D aC sh n0 σ s.heap H locs → rec9 w4 w6 x8 = some r → W p l e rm_X6_commonDivisor s m args below meth c H locs 0 0 (MQ below (sr_Qc D aC sh n0 σ (some (.long r))) args s 0 0 (sr_A sh n0)) (F0 m 9 ls [])) (by intros; rename_i hf; exact absurd hf (by simp)) (fun rec hrec => k_X6_commonDivisor_L9 hX   rec hrec) n
set_option maxHeartbeats 4000000 in
set_option maxRecDepth 100000 in
theorem c_X6_commonDivisor {l : Launch} {D : va_G} {aC : Nat → ClassId} {n0 : Nat} {sh : Nat → Nat} {r : Int64} {σ : St}  {w0 : Int64} {w2 : Int64}  (hf : f_X6_commonDivisor w0 w2 = some r) : sr_Met l D aC sh n0 yX6_commonDivisor cX6_commonDivisor 11 (Option.some FieldType.long) rm_X6_commonDivisor [.long w0, .long w2] σ (some (.long r)) σ := by
  refine s_met (own := RX6) (by decide) (Nat.le_of_ble_eq_true rfl) rfl ?_
  intro p e s m below meth c ls hX hV hl
  have hl : lv_has ls 11 [(0, .long w0), (2, .long w2)] := hl
  have hx := hX.1.1
  have hb := hX.1.2.1
  unfold f_X6_commonDivisor at hf
  refine lv_lload_n hx hb dX6_commonDivisor_0 rfl (lv_at hl 0 rfl) ?_
  refine lv_lstore (lv' := [(4, .long w0), (0, .long w0), (2, .long w2)]) hx hb dX6_commonDivisor_1 hl (by decide) rfl (fun ls hl => ?_)
  refine lv_lload_n hx hb dX6_commonDivisor_3 rfl (lv_at hl 2 rfl) ?_
  refine lv_lstore (lv' := [(6, .long w2), (4, .long w0), (0, .long w0), (2, .long w2)]) hx hb dX6_commonDivisor_4 hl (by decide) rfl (fun ls hl => ?_)
  refine lv_iconst (v := 0) hx hb dX6_commonDivisor_6 (by decide) ?_
  refine lv_istore (lv' := [(8, .int 0), (6, .long w2), (4, .long w0), (0, .long w0), (2, .long w2)]) hx hb dX6_commonDivisor_7 hl (by decide) rfl (fun ls hl => ?_)
  exact k_X6_commonDivisor_L9w hX   sr_fuel _ _ _ _ _ _  (lv_sub hl [2, 1, 0] rfl) hV hf
abbrev rm_X6_computeChance : Room := { frames := 2, cells := 0, slots := 0, locals := 60 }
theorem cv_X6_computeChance : sr_Cv yX6_computeChance cX6_computeChance 10 (none) RX6 0 := ⟨lk_449, lk_448, lp_8, lk_5, rfl, by decide +kernel, by decide +kernel, by decide +kernel⟩
set_option maxHeartbeats 4000000 in
set_option maxRecDepth 100000 in
theorem k_X6_computeChance_B72 {p : Program} {l : Launch} {e : Env} {s : State} {m : MethodId} {args : Array Value} {below : List Frame} {meth : Method} {c : Code} {D : va_G} {aC : Nat → ClassId} {n0 : Nat} {σ' : St} {q0 : Nat} {σ : St} (hX : sr_X p s m args meth c cX6_computeChance 10 (none) RX6 D aC) (h0 : shC q0 = 7) {x1 : Int32} {x2 : Int32} {x3 : Int32} {w4 : Int64}  {H : Heap} {locs : List Loc} {ls : Array Slot} (hl : lv_has ls 10 [(0, .ref (n0 + q0)), (1, .int x1), (2, .int x2), (3, .int x3), (4, .long w4)]) (hV : sr_V D aC shC n0 σ s.heap H locs) (hf : f_X6_computeChance_B72 q0 x1 x2 x3 w4 σ = some σ') : W p l e rm_X6_computeChance s m args below meth c H locs 0 0 (MQ below (sr_Qc D aC shC n0 σ' none) args s 0 0 (sr_A shC n0)) (F0 m 72 ls []) := by
  have hx := hX.1.1
  have hb := hX.1.2.1
  unfold f_X6_computeChance_B72 at hf
  refine lv_iload_n hx hb dX6_computeChance_72 rfl (lv_at hl 2 rfl) ?_
  refine lv_iload_n hx hb dX6_computeChance_73 rfl (lv_at hl 3 rfl) ?_
  refine lv_iadd hx hb dX6_computeChance_74 ?_
  refine lv_iload_n hx hb dX6_computeChance_75 rfl (lv_at hl 1 rfl) ?_
  obtain ⟨v2, e1, hf⟩ := sr_obd hf
  refine s_callS1 hX hV hl.1 (c_X6_setsOf  e1) cs_X6_setsOf lk_450 ⟨rfl, rfl, Nat.le_of_ble_eq_true rfl, Nat.le_of_ble_eq_true rfl⟩ rfl rfl (Nat.le_of_ble_eq_true rfl) dX6_computeChance_76 ⟨Nat.le_of_ble_eq_true rfl, Nat.le_of_ble_eq_true rfl⟩ (fun H locs hV => ?_)
  refine lv_lstore (lv' := [(6, .long v2), (0, .ref (n0 + q0)), (1, .int x1), (2, .int x2), (3, .int x3), (4, .long w4)]) hx hb dX6_computeChance_79 hl (by decide) rfl (fun ls hl => ?_)
  refine lv_lload hx hb dX6_computeChance_81 (lv_at hl 5 rfl) ?_
  refine lv_lload hx hb dX6_computeChance_83 (lv_at hl 0 rfl) ?_
  obtain ⟨v4, e3, hf⟩ := sr_obd hf
  refine s_callS1 hX hV hl.1 (c_X6_commonDivisor  e3) cs_X6_commonDivisor lk_456 ⟨rfl, rfl, Nat.le_of_ble_eq_true rfl, Nat.le_of_ble_eq_true rfl⟩ rfl rfl (Nat.le_of_ble_eq_true rfl) dX6_computeChance_85 ⟨Nat.le_of_ble_eq_true rfl, Nat.le_of_ble_eq_true rfl⟩ (fun H locs hV => ?_)
  refine lv_lstore (lv' := [(8, .long v4), (6, .long v2), (0, .ref (n0 + q0)), (1, .int x1), (2, .int x2), (3, .int x3), (4, .long w4)]) hx hb dX6_computeChance_88 hl (by decide) rfl (fun ls hl => ?_)
  refine lv_aload_n hx hb dX6_computeChance_90 rfl (lv_at hl 2 rfl) ?_
  refine lv_lload hx hb dX6_computeChance_91 (lv_at hl 6 rfl) ?_
  refine lv_lload hx hb dX6_computeChance_93 (lv_at hl 0 rfl) ?_
  obtain ⟨g5, hf⟩ := sr_gd hf
  refine lv_ldiv hx hb dX6_computeChance_95 g5 ?_
  obtain ⟨σ6, e7, hf⟩ := sr_bnd hf
  refine fp_6_4 (x := (w4 / v4)) hX hV lk_65 (h0) dX6_computeChance_96 (fun H locs hV => ?_)
  rw [e7] at hV
  refine lv_aload_n hx hb dX6_computeChance_99 rfl (lv_at hl 2 rfl) ?_
  refine lv_lload hx hb dX6_computeChance_100 (lv_at hl 1 rfl) ?_
  refine lv_lload hx hb dX6_computeChance_102 (lv_at hl 0 rfl) ?_
  obtain ⟨g8, hf⟩ := sr_gd hf
  refine lv_ldiv hx hb dX6_computeChance_104 g8 ?_
  obtain ⟨σ9, e10, hf⟩ := sr_bnd hf
  refine fp_6_5 (x := (v2 / v4)) hX hV lk_67 (h0) dX6_computeChance_105 (fun H locs hV => ?_)
  rw [e10] at hV
  cases hf
  exact s_vret hX hV dX6_computeChance_108
set_option maxHeartbeats 4000000 in
set_option maxRecDepth 100000 in
theorem k_X6_computeChance_L34 {p : Program} {l : Launch} {e : Env} {s : State} {m : MethodId} {args : Array Value} {below : List Frame} {meth : Method} {c : Code} {D : va_G} {aC : Nat → ClassId} {n0 : Nat} {σ' : St} {q0 : Nat} (hX : sr_X p s m args meth c cX6_computeChance 10 (none) RX6 D aC) (h0 : shC q0 = 7) (rec34 : Int32 → Int32 → Int32 → Int64 → Int32 → St → Option St) (hrec34 : ∀ (x1 : Int32) (x2 : Int32) (x3 : Int32) (w4 : Int64) (x6 : Int32) (σ : St) (H : Heap) (locs : List Loc) (ls : Array Slot) , lv_has ls 10 [(0, .ref (n0 + q0)), (1, .int x1), (2, .int x2), (3, .int x3), (4, .long w4), (6, .int x6)] → sr_V D aC shC n0 σ s.heap H locs → rec34 x1 x2 x3 w4 x6 σ = some σ' → W p l e rm_X6_computeChance s m args below meth c H locs 0 0 (MQ below (sr_Qc D aC shC n0 σ' none) args s 0 0 (sr_A shC n0)) (F0 m 34 ls [])) : ∀ (x1 : Int32) (x2 : Int32) (x3 : Int32) (w4 : Int64) (x6 : Int32) (σ : St) (H : Heap) (locs : List Loc) (ls : Array Slot) , lv_has ls 10 [(0, .ref (n0 + q0)), (1, .int x1), (2, .int x2), (3, .int x3), (4, .long w4), (6, .int x6)] → sr_V D aC shC n0 σ s.heap H locs → f_X6_computeChance_L34 q0 rec34 x1 x2 x3 w4 x6 σ = some σ' → W p l e rm_X6_computeChance s m args below meth c H locs 0 0 (MQ below (sr_Qc D aC shC n0 σ' none) args s 0 0 (sr_A shC n0)) (F0 m 34 ls []) := by
  intro x1 x2 x3 w4 x6 σ H locs ls  hl hV hf
  have hx := hX.1.1
  have hb := hX.1.2.1
  unfold f_X6_computeChance_L34 at hf
  refine lv_iload hx hb dX6_computeChance_34 (lv_at hl 5 rfl) ?_
  refine lv_iload_n hx hb dX6_computeChance_36 rfl (lv_at hl 1 rfl) ?_
  refine lv_icmp_gt (tgt := 72) hx hb dX6_computeChance_37 (by decide) (fun c11 => ?_) (fun c11 => ?_)
  · have hf := sr_t hf c11
    exact k_X6_computeChance_B72 hX h0   (lv_sub hl [0, 1, 2, 3, 4] rfl) hV hf
  · have hf := sr_f hf c11
    refine lv_iload hx hb dX6_computeChance_40 (lv_at hl 5 rfl) ?_
    refine lv_iload_n hx hb dX6_computeChance_42 rfl (lv_at hl 2 rfl) ?_
    refine lv_icmp_gt (tgt := 72) hx hb dX6_computeChance_43 (by decide) (fun c12 => ?_) (fun c12 => ?_)
    · have hf := sr_t hf c12
      exact k_X6_computeChance_B72 hX h0   (lv_sub hl [0, 1, 2, 3, 4] rfl) hV hf
    · have hf := sr_f hf c12
      refine lv_lload hx hb dX6_computeChance_46 (lv_at hl 4 rfl) ?_
      refine lv_iload_n hx hb dX6_computeChance_48 rfl (lv_at hl 2 rfl) ?_
      refine lv_iload hx hb dX6_computeChance_49 (lv_at hl 5 rfl) ?_
      obtain ⟨v14, e13, hf⟩ := sr_obd hf
      refine s_callS1 hX hV hl.1 (c_X6_setsOf  e13) cs_X6_setsOf lk_450 ⟨rfl, rfl, Nat.le_of_ble_eq_true rfl, Nat.le_of_ble_eq_true rfl⟩ rfl rfl (Nat.le_of_ble_eq_true rfl) dX6_computeChance_51 ⟨Nat.le_of_ble_eq_true rfl, Nat.le_of_ble_eq_true rfl⟩ (fun H locs hV => ?_)
      refine lv_iload_n hx hb dX6_computeChance_54 rfl (lv_at hl 3 rfl) ?_
      refine lv_iload_n hx hb dX6_computeChance_55 rfl (lv_at hl 1 rfl) ?_
      refine lv_iload hx hb dX6_computeChance_56 (lv_at hl 5 rfl) ?_
      refine lv_isub hx hb dX6_computeChance_58 ?_
      obtain ⟨v16, e15, hf⟩ := sr_obd hf
      refine s_callS1 hX hV hl.1 (c_X6_setsOf  e15) cs_X6_setsOf lk_450 ⟨rfl, rfl, Nat.le_of_ble_eq_true rfl, Nat.le_of_ble_eq_true rfl⟩ rfl rfl (Nat.le_of_ble_eq_true rfl) dX6_computeChance_59 ⟨Nat.le_of_ble_eq_true rfl, Nat.le_of_ble_eq_true rfl⟩ (fun H locs hV => ?_)
      refine lv_lmul hx hb dX6_computeChance_62 ?_
      refine lv_ladd hx hb dX6_computeChance_63 ?_
      obtain ⟨v17, e18, hf⟩ := sr_bnd hf
      rw [e18]
      refine lv_lstore (lv' := [(4, .long v17), (0, .ref (n0 + q0)), (1, .int x1), (2, .int x2), (3, .int x3), (6, .int x6)]) hx hb dX6_computeChance_64 hl (by decide) rfl (fun ls hl => ?_)
      obtain ⟨v19, e20, hf⟩ := sr_bnd hf
      refine lv_iinc (v := v19) (lv' := [(6, .int v19), (4, .long v17), (0, .ref (n0 + q0)), (1, .int x1), (2, .int x2), (3, .int x3)]) hx hb dX6_computeChance_66 hl (k := 5) rfl (by rw [← e20]; rfl) (by decide) rfl (fun ls hl => ?_)
      refine lv_goto (tgt := 34) hx hb dX6_computeChance_69 (by decide) ?_
      exact hrec34 _ _ _ _ _ _ _ _ _  (lv_sub hl [2, 3, 4, 5, 1, 0] rfl) hV hf
set_option maxHeartbeats 4000000 in
set_option maxRecDepth 100000 in
theorem k_X6_computeChance_L34w {p : Program} {l : Launch} {e : Env} {s : State} {m : MethodId} {args : Array Value} {below : List Frame} {meth : Method} {c : Code} {D : va_G} {aC : Nat → ClassId} {n0 : Nat} {σ' : St} {q0 : Nat} (hX : sr_X p s m args meth c cX6_computeChance 10 (none) RX6 D aC) (h0 : shC q0 = 7) (n : Nat) : ∀ (x1 : Int32) (x2 : Int32) (x3 : Int32) (w4 : Int64) (x6 : Int32) (σ : St) (H : Heap) (locs : List Loc) (ls : Array Slot) , lv_has ls 10 [(0, .ref (n0 + q0)), (1, .int x1), (2, .int x2), (3, .int x3), (4, .long w4), (6, .int x6)] → sr_V D aC shC n0 σ s.heap H locs → it6 (f_X6_computeChance_L34 q0) n x1 x2 x3 w4 x6 σ = some σ' → W p l e rm_X6_computeChance s m args below meth c H locs 0 0 (MQ below (sr_Qc D aC shC n0 σ' none) args s 0 0 (sr_A shC n0)) (F0 m 34 ls []) :=
  it6_ind (fun rec34 => ∀ (x1 : Int32) (x2 : Int32) (x3 : Int32) (w4 : Int64) (x6 : Int32) (σ : St) (H : Heap) (locs : List Loc) (ls : Array Slot) , lv_has ls 10 [(0, .ref (n0 + q0)), (1, .int x1), (2, .int x2), (3, .int x3), (4, .long w4), (6, .int x6)] → sr_V D aC shC n0 σ s.heap H locs → rec34 x1 x2 x3 w4 x6 σ = some σ' → W p l e rm_X6_computeChance s m args below meth c H locs 0 0 (MQ below (sr_Qc D aC shC n0 σ' none) args s 0 0 (sr_A shC n0)) (F0 m 34 ls [])) (by intros; rename_i hf; exact absurd hf (by simp)) (fun rec hrec => k_X6_computeChance_L34 hX h0  rec hrec) n
set_option maxHeartbeats 4000000 in
set_option maxRecDepth 100000 in
theorem c_X6_computeChance {l : Launch} {D : va_G} {aC : Nat → ClassId} {n0 : Nat} {σ' : St}  {σ : St} {q0 : Nat} (h0 : shC q0 = 7) (hf : f_X6_computeChance q0 σ = some σ') : sr_Met l D aC shC n0 yX6_computeChance cX6_computeChance 10 (none) rm_X6_computeChance [.ref (n0 + q0)] σ none σ' := by
  refine s_met (own := RX6) (by decide) (Nat.le_of_ble_eq_true rfl) rfl ?_
  intro p e s m below meth c ls hX hV hl
  have hl : lv_has ls 10 [(0, .ref (n0 + q0))] := hl
  have hx := hX.1.1
  have hb := hX.1.2.1
  unfold f_X6_computeChance at hf
  refine lv_aload_n hx hb dX6_computeChance_0 rfl (lv_at hl 0 rfl) ?_
  obtain ⟨v22, e21, hf⟩ := sr_bnd hf
  refine s_callV1 (ci := 6) hX hV hl.1 (c_X6_treated (h0) e21) cv_X6_treated lk_442 ⟨rfl, rfl, Nat.le_of_ble_eq_true rfl, Nat.le_of_ble_eq_true rfl⟩ rfl (by decide) (h0) rfl rfl (Nat.le_of_ble_eq_true rfl) dX6_computeChance_1 ⟨Nat.le_of_ble_eq_true rfl, Nat.le_of_ble_eq_true rfl⟩ (fun H locs hV => ?_)
  refine lv_istore_n (lv' := [(1, .int v22), (0, .ref (n0 + q0))]) hx hb dX6_computeChance_4 rfl hl (by decide) rfl (fun ls hl => ?_)
  refine lv_aload_n hx hb dX6_computeChance_5 rfl (lv_at hl 1 rfl) ?_
  refine fg_6_0 hX hV lk_57 (h0) dX6_computeChance_6 ?_
  refine lv_aload_n hx hb dX6_computeChance_9 rfl (lv_at hl 1 rfl) ?_
  refine fg_6_2 hX hV lk_61 (h0) dX6_computeChance_10 ?_
  refine lv_iadd hx hb dX6_computeChance_13 ?_
  obtain ⟨v23, e24, hf⟩ := sr_bnd hf
  rw [e24]
  refine lv_istore_n (lv' := [(2, .int v23), (1, .int v22), (0, .ref (n0 + q0))]) hx hb dX6_computeChance_14 rfl hl (by decide) rfl (fun ls hl => ?_)
  refine lv_aload_n hx hb dX6_computeChance_15 rfl (lv_at hl 2 rfl) ?_
  refine fg_6_1 hX hV lk_59 (h0) dX6_computeChance_16 ?_
  refine lv_aload_n hx hb dX6_computeChance_19 rfl (lv_at hl 2 rfl) ?_
  refine fg_6_3 hX hV lk_63 (h0) dX6_computeChance_20 ?_
  refine lv_iadd hx hb dX6_computeChance_23 ?_
  obtain ⟨v25, e26, hf⟩ := sr_bnd hf
  rw [e26]
  refine lv_istore_n (lv' := [(3, .int v25), (2, .int v23), (1, .int v22), (0, .ref (n0 + q0))]) hx hb dX6_computeChance_24 rfl hl (by decide) rfl (fun ls hl => ?_)
  refine lv_lconst (v := 0) hx hb dX6_computeChance_25 (by decide) ?_
  refine lv_lstore (lv' := [(4, .long 0), (3, .int v25), (2, .int v23), (1, .int v22), (0, .ref (n0 + q0))]) hx hb dX6_computeChance_26 hl (by decide) rfl (fun ls hl => ?_)
  refine lv_aload_n hx hb dX6_computeChance_28 rfl (lv_at hl 4 rfl) ?_
  refine fg_6_0 hX hV lk_57 (h0) dX6_computeChance_29 ?_
  obtain ⟨v27, e28, hf⟩ := sr_bnd hf
  rw [e28]
  refine lv_istore (lv' := [(6, .int v27), (4, .long 0), (3, .int v25), (2, .int v23), (1, .int v22), (0, .ref (n0 + q0))]) hx hb dX6_computeChance_32 hl (by decide) rfl (fun ls hl => ?_)
  exact k_X6_computeChance_L34w hX h0  sr_fuel _ _ _ _ _ _ _ _ _  (lv_sub hl [5, 4, 3, 2, 1, 0] rfl) hV hf
abbrev rm_X6_takesTreated : Room := { frames := 3, cells := 0, slots := 0, locals := 89 }
theorem cv_X6_takesTreated : sr_Cv yX6_takesTreated cX6_takesTreated 3 (Option.some FieldType.boolean) RX6 2 := ⟨lk_441, lk_439, lk_440, lk_5, rfl, by decide +kernel, by decide +kernel, by decide +kernel⟩
set_option maxHeartbeats 4000000 in
set_option maxRecDepth 100000 in
theorem c_X6_takesTreated {l : Launch} {D : va_G} {aC : Nat → ClassId} {n0 : Nat} {r : Bool} {σ' : St}  {σ : St} {q0 : Nat} {x1 : Int32} {x2 : Int32} (h0 : shC q0 = 7) (hf : f_X6_takesTreated q0 x1 x2 σ = some (r, σ')) : sr_Met l D aC shC n0 yX6_takesTreated cX6_takesTreated 3 (Option.some FieldType.boolean) rm_X6_takesTreated [.ref (n0 + q0), .int x1, .int x2] σ (some (.int (bI r))) σ' := by
  refine s_met (own := RX6) (by decide) (Nat.le_of_ble_eq_true rfl) rfl ?_
  intro p e s m below meth c ls hX hV hl
  have hl : lv_has ls 3 [(0, .ref (n0 + q0)), (1, .int x1), (2, .int x2)] := hl
  have hx := hX.1.1
  have hb := hX.1.2.1
  unfold f_X6_takesTreated at hf
  refine lv_aload_n hx hb dX6_takesTreated_0 rfl (lv_at hl 0 rfl) ?_
  obtain ⟨v2, e1, hf⟩ := sr_bnd hf
  refine s_callV1 (ci := 6) hX hV hl.1 (c_X6_treated (h0) e1) cv_X6_treated lk_442 ⟨rfl, rfl, Nat.le_of_ble_eq_true rfl, Nat.le_of_ble_eq_true rfl⟩ rfl (by decide) (h0) rfl rfl (Nat.le_of_ble_eq_true rfl) dX6_takesTreated_1 ⟨Nat.le_of_ble_eq_true rfl, Nat.le_of_ble_eq_true rfl⟩ (fun H locs hV => ?_)
  refine lv_iload_n hx hb dX6_takesTreated_4 rfl (lv_at hl 1 rfl) ?_
  refine lv_iadd hx hb dX6_takesTreated_5 ?_
  refine lv_iload_n hx hb dX6_takesTreated_6 rfl (lv_at hl 2 rfl) ?_
  refine lv_iadd hx hb dX6_takesTreated_7 ?_
  refine lv_bipush (v := 25) hx hb dX6_takesTreated_8 (by decide) ?_
  refine lv_icmp_le (tgt := 15) hx hb dX6_takesTreated_10 (by decide) (fun c3 => ?_) (fun c3 => ?_)
  · have hf := sr_t hf c3
    refine lv_aload_n hx hb dX6_takesTreated_15 rfl (lv_at hl 0 rfl) ?_
    refine lv_dup hx hb dX6_takesTreated_16 rfl ?_
    refine fg_6_0 hX hV lk_57 (h0) dX6_takesTreated_17 ?_
    refine lv_iload_n hx hb dX6_takesTreated_20 rfl (lv_at hl 1 rfl) ?_
    refine lv_iadd hx hb dX6_takesTreated_21 ?_
    obtain ⟨σ4, e5, hf⟩ := sr_bnd hf
    refine fp_6_0 (x := ((gI σ q0 0) + x1)) hX hV lk_57 (h0) dX6_takesTreated_22 (fun H locs hV => ?_)
    rw [e5] at hV
    refine lv_aload_n hx hb dX6_takesTreated_25 rfl (lv_at hl 0 rfl) ?_
    refine lv_dup hx hb dX6_takesTreated_26 rfl ?_
    refine fg_6_1 hX hV lk_59 (h0) dX6_takesTreated_27 ?_
    refine lv_iload_n hx hb dX6_takesTreated_30 rfl (lv_at hl 2 rfl) ?_
    refine lv_iadd hx hb dX6_takesTreated_31 ?_
    obtain ⟨σ6, e7, hf⟩ := sr_bnd hf
    refine fp_6_1 (x := ((gI σ4 q0 1) + x2)) hX hV lk_59 (h0) dX6_takesTreated_32 (fun H locs hV => ?_)
    rw [e7] at hV
    refine lv_aload_n hx hb dX6_takesTreated_35 rfl (lv_at hl 0 rfl) ?_
    obtain ⟨σ9, e8, hf⟩ := sr_obd hf
    refine s_callV0 (ci := 6) hX hV hl.1 (c_X6_computeChance (h0) e8) cv_X6_computeChance lk_446 ⟨rfl, rfl, Nat.le_of_ble_eq_true rfl, Nat.le_of_ble_eq_true rfl⟩ rfl (by decide) (h0) rfl rfl (Nat.le_of_ble_eq_true rfl) dX6_takesTreated_36 ⟨Nat.le_of_ble_eq_true rfl, Nat.le_of_ble_eq_true rfl⟩ (fun H locs hV => ?_)
    refine lv_iconst (v := 1) hx hb dX6_takesTreated_39 (by decide) ?_
    cases hf
    exact s_zret (b := true) hX hV dX6_takesTreated_40
  · have hf := sr_f hf c3
    refine lv_iconst (v := 0) hx hb dX6_takesTreated_13 (by decide) ?_
    cases hf
    exact s_zret (b := false) hX hV dX6_takesTreated_14
abbrev rm_X6_control : Room := { frames := 0, cells := 0, slots := 0, locals := 0 }
theorem cv_X6_control : sr_Cv yX6_control cX6_control 1 (Option.some FieldType.int) RX6 0 := ⟨lk_469, lk_467, lk_468, lk_5, rfl, by decide +kernel, by decide +kernel, by decide +kernel⟩
set_option maxHeartbeats 4000000 in
set_option maxRecDepth 100000 in
theorem c_X6_control {l : Launch} {D : va_G} {aC : Nat → ClassId} {n0 : Nat} {r : Int32} {σ : St}  {q0 : Nat} (h0 : shC q0 = 7) (hf : f_X6_control q0 σ = r) : sr_Met l D aC shC n0 yX6_control cX6_control 1 (Option.some FieldType.int) rm_X6_control [.ref (n0 + q0)] σ (some (.int r)) σ := by
  refine s_met (own := RX6) (by decide) (Nat.le_of_ble_eq_true rfl) rfl ?_
  intro p e s m below meth c ls hX hV hl
  have hl : lv_has ls 1 [(0, .ref (n0 + q0))] := hl
  have hx := hX.1.1
  have hb := hX.1.2.1
  unfold f_X6_control at hf
  refine lv_aload_n hx hb dX6_control_0 rfl (lv_at hl 0 rfl) ?_
  refine fg_6_2 hX hV lk_61 (h0) dX6_control_1 ?_
  refine lv_aload_n hx hb dX6_control_4 rfl (lv_at hl 0 rfl) ?_
  refine fg_6_3 hX hV lk_63 (h0) dX6_control_5 ?_
  refine lv_iadd hx hb dX6_control_8 ?_
  cases hf
  exact s_iret hX hV dX6_control_9
abbrev rm_X6_takesControl : Room := { frames := 3, cells := 0, slots := 0, locals := 89 }
theorem cv_X6_takesControl : sr_Cv yX6_takesControl cX6_takesControl 3 (Option.some FieldType.boolean) RX6 2 := ⟨lk_465, lk_463, lk_464, lk_5, rfl, by decide +kernel, by decide +kernel, by decide +kernel⟩
set_option maxHeartbeats 4000000 in
set_option maxRecDepth 100000 in
theorem c_X6_takesControl {l : Launch} {D : va_G} {aC : Nat → ClassId} {n0 : Nat} {r : Bool} {σ' : St}  {σ : St} {q0 : Nat} {x1 : Int32} {x2 : Int32} (h0 : shC q0 = 7) (hf : f_X6_takesControl q0 x1 x2 σ = some (r, σ')) : sr_Met l D aC shC n0 yX6_takesControl cX6_takesControl 3 (Option.some FieldType.boolean) rm_X6_takesControl [.ref (n0 + q0), .int x1, .int x2] σ (some (.int (bI r))) σ' := by
  refine s_met (own := RX6) (by decide) (Nat.le_of_ble_eq_true rfl) rfl ?_
  intro p e s m below meth c ls hX hV hl
  have hl : lv_has ls 3 [(0, .ref (n0 + q0)), (1, .int x1), (2, .int x2)] := hl
  have hx := hX.1.1
  have hb := hX.1.2.1
  unfold f_X6_takesControl at hf
  refine lv_aload_n hx hb dX6_takesControl_0 rfl (lv_at hl 0 rfl) ?_
  obtain ⟨v2, e1, hf⟩ := sr_bnd hf
  refine s_callV1 (ci := 6) hX hV hl.1 (c_X6_control (h0) e1) cv_X6_control lk_466 ⟨rfl, rfl, Nat.le_of_ble_eq_true rfl, Nat.le_of_ble_eq_true rfl⟩ rfl (by decide) (h0) rfl rfl (Nat.le_of_ble_eq_true rfl) dX6_takesControl_1 ⟨Nat.le_of_ble_eq_true rfl, Nat.le_of_ble_eq_true rfl⟩ (fun H locs hV => ?_)
  refine lv_iload_n hx hb dX6_takesControl_4 rfl (lv_at hl 1 rfl) ?_
  refine lv_iadd hx hb dX6_takesControl_5 ?_
  refine lv_iload_n hx hb dX6_takesControl_6 rfl (lv_at hl 2 rfl) ?_
  refine lv_iadd hx hb dX6_takesControl_7 ?_
  refine lv_bipush (v := 25) hx hb dX6_takesControl_8 (by decide) ?_
  refine lv_icmp_le (tgt := 15) hx hb dX6_takesControl_10 (by decide) (fun c3 => ?_) (fun c3 => ?_)
  · have hf := sr_t hf c3
    refine lv_aload_n hx hb dX6_takesControl_15 rfl (lv_at hl 0 rfl) ?_
    refine lv_dup hx hb dX6_takesControl_16 rfl ?_
    refine fg_6_2 hX hV lk_61 (h0) dX6_takesControl_17 ?_
    refine lv_iload_n hx hb dX6_takesControl_20 rfl (lv_at hl 1 rfl) ?_
    refine lv_iadd hx hb dX6_takesControl_21 ?_
    obtain ⟨σ4, e5, hf⟩ := sr_bnd hf
    refine fp_6_2 (x := ((gI σ q0 2) + x1)) hX hV lk_61 (h0) dX6_takesControl_22 (fun H locs hV => ?_)
    rw [e5] at hV
    refine lv_aload_n hx hb dX6_takesControl_25 rfl (lv_at hl 0 rfl) ?_
    refine lv_dup hx hb dX6_takesControl_26 rfl ?_
    refine fg_6_3 hX hV lk_63 (h0) dX6_takesControl_27 ?_
    refine lv_iload_n hx hb dX6_takesControl_30 rfl (lv_at hl 2 rfl) ?_
    refine lv_iadd hx hb dX6_takesControl_31 ?_
    obtain ⟨σ6, e7, hf⟩ := sr_bnd hf
    refine fp_6_3 (x := ((gI σ4 q0 3) + x2)) hX hV lk_63 (h0) dX6_takesControl_32 (fun H locs hV => ?_)
    rw [e7] at hV
    refine lv_aload_n hx hb dX6_takesControl_35 rfl (lv_at hl 0 rfl) ?_
    obtain ⟨σ9, e8, hf⟩ := sr_obd hf
    refine s_callV0 (ci := 6) hX hV hl.1 (c_X6_computeChance (h0) e8) cv_X6_computeChance lk_446 ⟨rfl, rfl, Nat.le_of_ble_eq_true rfl, Nat.le_of_ble_eq_true rfl⟩ rfl (by decide) (h0) rfl rfl (Nat.le_of_ble_eq_true rfl) dX6_takesControl_36 ⟨Nat.le_of_ble_eq_true rfl, Nat.le_of_ble_eq_true rfl⟩ (fun H locs hV => ?_)
    refine lv_iconst (v := 1) hx hb dX6_takesControl_39 (by decide) ?_
    cases hf
    exact s_zret (b := true) hX hV dX6_takesControl_40
  · have hf := sr_f hf c3
    refine lv_iconst (v := 0) hx hb dX6_takesControl_13 (by decide) ?_
    cases hf
    exact s_zret (b := false) hX hV dX6_takesControl_14
