abbrev rm_X7_start : Room := { frames := 1, cells := 0, slots := 0, locals := 21 }
theorem cv_X7_start : sr_Cv yX7_start cX7_start 3 (Option.some FieldType.int) RX7 1 := ⟨lk_383, lk_381, lk_382, lk_1, rfl, by decide +kernel, by decide +kernel, by decide +kernel⟩
set_option maxHeartbeats 4000000 in
set_option maxRecDepth 100000 in
theorem c_X7_start {l : Launch} {D : va_G} {aC : Nat → ClassId} {n0 : Nat} {r : Int32} {σ' : St}  {σ : St} {q0 : Nat} {x1 : Int32} (h0 : shC q0 = 8) (hf : f_X7_start q0 x1 σ = some (r, σ')) : sr_Met l D aC shC n0 yX7_start cX7_start 3 (Option.some FieldType.int) rm_X7_start [.ref (n0 + q0), .int x1] σ (some (.int r)) σ' := by
  refine s_met (own := RX7) (by decide) (Nat.le_of_ble_eq_true rfl) rfl ?_
  intro p e s m below meth c ls hX hV hl
  have hl : lv_has ls 3 [(0, .ref (n0 + q0)), (1, .int x1)] := hl
  have hx := hX.1.1
  have hb := hX.1.2.1
  unfold f_X7_start at hf
  refine lv_aload_n hx hb dX7_start_0 rfl (lv_at hl 0 rfl) ?_
  refine fg_7_0 hX hV lk_216 (h0) dX7_start_1 ?_
  refine lv_iload_n hx hb dX7_start_4 rfl (lv_at hl 1 rfl) ?_
  obtain ⟨v2, e1, hf⟩ := sr_obd hf
  refine s_callV1 (ci := 1) hX hV hl.1 (c_X1_find (ch_7_0 (h0)) e1) cv_X1_find lk_283 ⟨rfl, rfl, Nat.le_of_ble_eq_true rfl, Nat.le_of_ble_eq_true rfl⟩ rfl (by decide) (ch_7_0 (h0)) rfl rfl (Nat.le_of_ble_eq_true rfl) dX7_start_5 ⟨Nat.le_of_ble_eq_true rfl, Nat.le_of_ble_eq_true rfl⟩ (fun H locs hV => ?_)
  rcases v2 with _ | q3
  · have hf := sr_on hf
    refine lv_astore_nN (lv' := [(2, .null), (0, .ref (n0 + q0)), (1, .int x1)]) hx hb dX7_start_8 rfl hl (by decide) rfl (fun ls hl => ?_)
    refine lv_aload_nN hx hb dX7_start_9 rfl (lv_at hl 0 rfl) ?_
    refine lv_ifnonnullN hx hb dX7_start_10 ?_
    refine lv_bipush (v := (-11)) hx hb dX7_start_13 (by decide) ?_
    cases hf
    exact s_iret hX hV dX7_start_15
  · have hf := sr_os hf
    obtain ⟨g4, hf⟩ := sr_gd hf
    refine lv_astore_n (lv' := [(2, .ref (n0 + q3)), (0, .ref (n0 + q0)), (1, .int x1)]) hx hb dX7_start_8 rfl hl (by decide) rfl (fun ls hl => ?_)
    refine lv_aload_n hx hb dX7_start_9 rfl (lv_at hl 0 rfl) ?_
    refine lv_ifnonnull (tgt := 16) hx hb dX7_start_10 (by decide) ?_
    refine lv_aload_n hx hb dX7_start_16 rfl (lv_at hl 0 rfl) ?_
    refine fg_0_5 hX hV lk_94 (g4) dX7_start_17 ?_
    refine lv_if_ne (tgt := 33) hx hb dX7_start_20 (by decide) (fun c5 => ?_) (fun c5 => ?_)
    · have hf := sr_f hf c5
      refine lv_bipush (v := (-13)) hx hb dX7_start_33 (by decide) ?_
      cases hf
      exact s_iret hX hV dX7_start_35
    · have hf := sr_t hf c5
      refine lv_aload_n hx hb dX7_start_23 rfl (lv_at hl 0 rfl) ?_
      refine fg_0_1 hX hV lk_85 (g4) dX7_start_24 ?_
      refine fg_4_1 hX hV lk_44 (ch_0_1 (g4)) dX7_start_27 ?_
      refine lv_if_ne (tgt := 36) hx hb dX7_start_30 (by decide) (fun c6 => ?_) (fun c6 => ?_)
      · have hf := sr_f hf c6
        refine lv_aload_n hx hb dX7_start_36 rfl (lv_at hl 0 rfl) ?_
        refine lv_iconst (v := 1) hx hb dX7_start_37 (by decide) ?_
        obtain ⟨σ7, e8, hf⟩ := sr_bnd hf
        refine fp_0_5 (x := 1) hX hV lk_94 (g4) dX7_start_38 (fun H locs hV => ?_)
        rw [e8] at hV
        refine lv_aload_n hx hb dX7_start_41 rfl (lv_at hl 0 rfl) ?_
        refine fg_0_1 hX hV lk_85 (g4) dX7_start_42 ?_
        refine fg_4_1 hX hV lk_44 (ch_0_1 (g4)) dX7_start_45 ?_
        cases hf
        exact s_iret hX hV dX7_start_48
      · have hf := sr_t hf c6
        refine lv_bipush (v := (-13)) hx hb dX7_start_33 (by decide) ?_
        cases hf
        exact s_iret hX hV dX7_start_35
abbrev rm_X7_move : Room := { frames := 3, cells := 0, slots := 0, locals := 70 }
theorem cv_X7_move : sr_Cv yX7_move cX7_move 6 (Option.some FieldType.int) RX7 4 := ⟨lk_391, lk_390, lp_6, lk_1, rfl, by decide +kernel, by decide +kernel, by decide +kernel⟩
set_option maxHeartbeats 4000000 in
set_option maxRecDepth 100000 in
theorem c_X7_move {l : Launch} {D : va_G} {aC : Nat → ClassId} {n0 : Nat} {r : Int32} {σ' : St}  {σ : St} {q0 : Nat} {x1 : Int32} {x2 : Int32} {x3 : Int32} {x4 : Int32} (h0 : shC q0 = 8) (hf : f_X7_move q0 x1 x2 x3 x4 σ = some (r, σ')) : sr_Met l D aC shC n0 yX7_move cX7_move 6 (Option.some FieldType.int) rm_X7_move [.ref (n0 + q0), .int x1, .int x2, .int x3, .int x4] σ (some (.int r)) σ' := by
  refine s_met (own := RX7) (by decide) (Nat.le_of_ble_eq_true rfl) rfl ?_
  intro p e s m below meth c ls hX hV hl
  have hl : lv_has ls 6 [(0, .ref (n0 + q0)), (1, .int x1), (2, .int x2), (3, .int x3), (4, .int x4)] := hl
  have hx := hX.1.1
  have hb := hX.1.2.1
  unfold f_X7_move at hf
  refine lv_aload_n hx hb dX7_move_0 rfl (lv_at hl 0 rfl) ?_
  refine fg_7_0 hX hV lk_216 (h0) dX7_move_1 ?_
  refine lv_iload_n hx hb dX7_move_4 rfl (lv_at hl 1 rfl) ?_
  obtain ⟨v2, e1, hf⟩ := sr_obd hf
  refine s_callV1 (ci := 1) hX hV hl.1 (c_X1_find (ch_7_0 (h0)) e1) cv_X1_find lk_283 ⟨rfl, rfl, Nat.le_of_ble_eq_true rfl, Nat.le_of_ble_eq_true rfl⟩ rfl (by decide) (ch_7_0 (h0)) rfl rfl (Nat.le_of_ble_eq_true rfl) dX7_move_5 ⟨Nat.le_of_ble_eq_true rfl, Nat.le_of_ble_eq_true rfl⟩ (fun H locs hV => ?_)
  rcases v2 with _ | q3
  · have hf := sr_on hf
    refine lv_astoreN (lv' := [(5, .null), (0, .ref (n0 + q0)), (1, .int x1), (2, .int x2), (3, .int x3), (4, .int x4)]) hx hb dX7_move_8 hl (by decide) rfl (fun ls hl => ?_)
    refine lv_aloadN hx hb dX7_move_10 (lv_at hl 0 rfl) ?_
    refine lv_ifnonnullN hx hb dX7_move_12 ?_
    refine lv_bipush (v := (-11)) hx hb dX7_move_15 (by decide) ?_
    cases hf
    exact s_iret hX hV dX7_move_17
  · have hf := sr_os hf
    obtain ⟨g4, hf⟩ := sr_gd hf
    refine lv_astore (lv' := [(5, .ref (n0 + q3)), (0, .ref (n0 + q0)), (1, .int x1), (2, .int x2), (3, .int x3), (4, .int x4)]) hx hb dX7_move_8 hl (by decide) rfl (fun ls hl => ?_)
    refine lv_aload hx hb dX7_move_10 (lv_at hl 0 rfl) ?_
    refine lv_ifnonnull (tgt := 18) hx hb dX7_move_12 (by decide) ?_
    refine lv_iload_n hx hb dX7_move_18 rfl (lv_at hl 3 rfl) ?_
    refine lv_aload hx hb dX7_move_19 (lv_at hl 0 rfl) ?_
    refine fg_0_5 hX hV lk_94 (g4) dX7_move_21 ?_
    refine lv_ishr hx hb dX7_move_24 ?_
    refine lv_iconst (v := 1) hx hb dX7_move_25 (by decide) ?_
    refine lv_iand hx hb dX7_move_26 ?_
    refine lv_if_ne (tgt := 33) hx hb dX7_move_27 (by decide) (fun c5 => ?_) (fun c5 => ?_)
    · have hf := sr_f hf c5
      refine lv_aload_n hx hb dX7_move_33 rfl (lv_at hl 1 rfl) ?_
      refine fg_7_0 hX hV lk_216 (h0) dX7_move_34 ?_
      refine lv_aload hx hb dX7_move_37 (lv_at hl 0 rfl) ?_
      refine lv_iload_n hx hb dX7_move_39 rfl (lv_at hl 4 rfl) ?_
      refine lv_iload hx hb dX7_move_40 (lv_at hl 5 rfl) ?_
      obtain ⟨σ7, e6, hf⟩ := sr_obd hf
      refine s_callV0 (ci := 1) hX hV hl.1 (c_X1_become (ch_7_0 (h0)) (g4) e6) cv_X1_become lk_392 ⟨rfl, rfl, Nat.le_of_ble_eq_true rfl, Nat.le_of_ble_eq_true rfl⟩ rfl (by decide) (ch_7_0 (h0)) rfl rfl (Nat.le_of_ble_eq_true rfl) dX7_move_42 ⟨Nat.le_of_ble_eq_true rfl, Nat.le_of_ble_eq_true rfl⟩ (fun H locs hV => ?_)
      refine lv_aload hx hb dX7_move_45 (lv_at hl 0 rfl) ?_
      refine fg_0_6 hX hV lk_98 (g4) dX7_move_47 ?_
      cases hf
      exact s_iret hX hV dX7_move_50
    · have hf := sr_t hf c5
      refine lv_bipush (v := (-13)) hx hb dX7_move_30 (by decide) ?_
      cases hf
      exact s_iret hX hV dX7_move_32
abbrev rm_X7_hold : Room := { frames := 4, cells := 0, slots := 0, locals := 95 }
theorem cv_X7_hold : sr_Cv yX7_hold cX7_hold 2 (Option.some FieldType.int) RX7 1 := ⟨lk_387, lk_385, lk_386, lk_1, rfl, by decide +kernel, by decide +kernel, by decide +kernel⟩
set_option maxHeartbeats 4000000 in
set_option maxRecDepth 100000 in
theorem c_X7_hold {l : Launch} {D : va_G} {aC : Nat → ClassId} {n0 : Nat} {r : Int32} {σ' : St}  {σ : St} {q0 : Nat} {x1 : Int32} (h0 : shC q0 = 8) (hf : f_X7_hold q0 x1 σ = some (r, σ')) : sr_Met l D aC shC n0 yX7_hold cX7_hold 2 (Option.some FieldType.int) rm_X7_hold [.ref (n0 + q0), .int x1] σ (some (.int r)) σ' := by
  refine s_met (own := RX7) (by decide) (Nat.le_of_ble_eq_true rfl) rfl ?_
  intro p e s m below meth c ls hX hV hl
  have hl : lv_has ls 2 [(0, .ref (n0 + q0)), (1, .int x1)] := hl
  have hx := hX.1.1
  have hb := hX.1.2.1
  unfold f_X7_hold at hf
  refine lv_aload_n hx hb dX7_hold_0 rfl (lv_at hl 0 rfl) ?_
  refine lv_iload_n hx hb dX7_hold_1 rfl (lv_at hl 1 rfl) ?_
  refine lv_iconst (v := 2) hx hb dX7_hold_2 (by decide) ?_
  refine lv_iconst (v := 2) hx hb dX7_hold_3 (by decide) ?_
  refine lv_bipush (v := 6) hx hb dX7_hold_4 (by decide) ?_
  obtain ⟨v2, σ3, e1, hf⟩ := sr_ob2 hf
  refine s_callV1 (ci := 7) hX hV hl.1 (c_X7_move (h0) e1) cv_X7_move lk_388 ⟨rfl, rfl, Nat.le_of_ble_eq_true rfl, Nat.le_of_ble_eq_true rfl⟩ rfl (by decide) (h0) rfl rfl (Nat.le_of_ble_eq_true rfl) dX7_hold_6 ⟨Nat.le_of_ble_eq_true rfl, Nat.le_of_ble_eq_true rfl⟩ (fun H locs hV => ?_)
  cases hf
  exact s_iret hX hV dX7_hold_9
abbrev rm_X7_resume : Room := { frames := 4, cells := 0, slots := 0, locals := 95 }
theorem cv_X7_resume : sr_Cv yX7_resume cX7_resume 2 (Option.some FieldType.int) RX7 1 := ⟨lk_408, lk_406, lk_407, lk_1, rfl, by decide +kernel, by decide +kernel, by decide +kernel⟩
set_option maxHeartbeats 4000000 in
set_option maxRecDepth 100000 in
theorem c_X7_resume {l : Launch} {D : va_G} {aC : Nat → ClassId} {n0 : Nat} {r : Int32} {σ' : St}  {σ : St} {q0 : Nat} {x1 : Int32} (h0 : shC q0 = 8) (hf : f_X7_resume q0 x1 σ = some (r, σ')) : sr_Met l D aC shC n0 yX7_resume cX7_resume 2 (Option.some FieldType.int) rm_X7_resume [.ref (n0 + q0), .int x1] σ (some (.int r)) σ' := by
  refine s_met (own := RX7) (by decide) (Nat.le_of_ble_eq_true rfl) rfl ?_
  intro p e s m below meth c ls hX hV hl
  have hl : lv_has ls 2 [(0, .ref (n0 + q0)), (1, .int x1)] := hl
  have hx := hX.1.1
  have hb := hX.1.2.1
  unfold f_X7_resume at hf
  refine lv_aload_n hx hb dX7_resume_0 rfl (lv_at hl 0 rfl) ?_
  refine lv_iload_n hx hb dX7_resume_1 rfl (lv_at hl 1 rfl) ?_
  refine lv_iconst (v := 4) hx hb dX7_resume_2 (by decide) ?_
  refine lv_iconst (v := 1) hx hb dX7_resume_3 (by decide) ?_
  refine lv_bipush (v := 7) hx hb dX7_resume_4 (by decide) ?_
  obtain ⟨v2, σ3, e1, hf⟩ := sr_ob2 hf
  refine s_callV1 (ci := 7) hX hV hl.1 (c_X7_move (h0) e1) cv_X7_move lk_388 ⟨rfl, rfl, Nat.le_of_ble_eq_true rfl, Nat.le_of_ble_eq_true rfl⟩ rfl (by decide) (h0) rfl rfl (Nat.le_of_ble_eq_true rfl) dX7_resume_6 ⟨Nat.le_of_ble_eq_true rfl, Nat.le_of_ble_eq_true rfl⟩ (fun H locs hV => ?_)
  cases hf
  exact s_iret hX hV dX7_resume_9
abbrev rm_X7_turnBack : Room := { frames := 4, cells := 0, slots := 0, locals := 95 }
theorem cv_X7_turnBack : sr_Cv yX7_turnBack cX7_turnBack 2 (Option.some FieldType.int) RX7 1 := ⟨lk_412, lk_410, lk_411, lk_1, rfl, by decide +kernel, by decide +kernel, by decide +kernel⟩
set_option maxHeartbeats 4000000 in
set_option maxRecDepth 100000 in
theorem c_X7_turnBack {l : Launch} {D : va_G} {aC : Nat → ClassId} {n0 : Nat} {r : Int32} {σ' : St}  {σ : St} {q0 : Nat} {x1 : Int32} (h0 : shC q0 = 8) (hf : f_X7_turnBack q0 x1 σ = some (r, σ')) : sr_Met l D aC shC n0 yX7_turnBack cX7_turnBack 2 (Option.some FieldType.int) rm_X7_turnBack [.ref (n0 + q0), .int x1] σ (some (.int r)) σ' := by
  refine s_met (own := RX7) (by decide) (Nat.le_of_ble_eq_true rfl) rfl ?_
  intro p e s m below meth c ls hX hV hl
  have hl : lv_has ls 2 [(0, .ref (n0 + q0)), (1, .int x1)] := hl
  have hx := hX.1.1
  have hb := hX.1.2.1
  unfold f_X7_turnBack at hf
  refine lv_aload_n hx hb dX7_turnBack_0 rfl (lv_at hl 0 rfl) ?_
  refine lv_iload_n hx hb dX7_turnBack_1 rfl (lv_at hl 1 rfl) ?_
  refine lv_bipush (v := 14) hx hb dX7_turnBack_2 (by decide) ?_
  refine lv_iconst (v := 4) hx hb dX7_turnBack_4 (by decide) ?_
  refine lv_iconst (v := 3) hx hb dX7_turnBack_5 (by decide) ?_
  obtain ⟨v2, σ3, e1, hf⟩ := sr_ob2 hf
  refine s_callV1 (ci := 7) hX hV hl.1 (c_X7_move (h0) e1) cv_X7_move lk_388 ⟨rfl, rfl, Nat.le_of_ble_eq_true rfl, Nat.le_of_ble_eq_true rfl⟩ rfl (by decide) (h0) rfl rfl (Nat.le_of_ble_eq_true rfl) dX7_turnBack_6 ⟨Nat.le_of_ble_eq_true rfl, Nat.le_of_ble_eq_true rfl⟩ (fun H locs hV => ?_)
  cases hf
  exact s_iret hX hV dX7_turnBack_9
abbrev rm_X7_report : Room := { frames := 6, cells := 0, slots := 0, locals := 159 }
theorem cv_X7_report : sr_Cv yX7_report cX7_report 4 (Option.some FieldType.int) RX7 3 := ⟨lk_416, lk_414, lk_415, lk_1, rfl, by decide +kernel, by decide +kernel, by decide +kernel⟩
set_option maxHeartbeats 4000000 in
set_option maxRecDepth 100000 in
theorem c_X7_report {l : Launch} {D : va_G} {aC : Nat → ClassId} {n0 : Nat} {r : Int32} {σ' : St}  {σ : St} {q0 : Nat} {x1 : Int32} {x2 : Int32} {x3 : Int32} (h0 : shC q0 = 8) (hf : f_X7_report q0 x1 x2 x3 σ = some (r, σ')) : sr_Met l D aC shC n0 yX7_report cX7_report 4 (Option.some FieldType.int) rm_X7_report [.ref (n0 + q0), .int x1, .int x2, .int x3] σ (some (.int r)) σ' := by
  refine s_met (own := RX7) (by decide) (Nat.le_of_ble_eq_true rfl) rfl ?_
  intro p e s m below meth c ls hX hV hl
  have hl : lv_has ls 4 [(0, .ref (n0 + q0)), (1, .int x1), (2, .int x2), (3, .int x3)] := hl
  have hx := hX.1.1
  have hb := hX.1.2.1
  unfold f_X7_report at hf
  refine lv_aload_n hx hb dX7_report_0 rfl (lv_at hl 0 rfl) ?_
  refine fg_7_0 hX hV lk_216 (h0) dX7_report_1 ?_
  refine lv_iload_n hx hb dX7_report_4 rfl (lv_at hl 1 rfl) ?_
  obtain ⟨v2, e1, hf⟩ := sr_bnd hf
  refine s_callV1 (ci := 1) hX hV hl.1 (c_X1_isCell (ch_7_0 (h0)) e1) cv_X1_isCell lk_417 ⟨rfl, rfl, Nat.le_of_ble_eq_true rfl, Nat.le_of_ble_eq_true rfl⟩ rfl (by decide) (ch_7_0 (h0)) rfl rfl (Nat.le_of_ble_eq_true rfl) dX7_report_5 ⟨Nat.le_of_ble_eq_true rfl, Nat.le_of_ble_eq_true rfl⟩ (fun H locs hV => ?_)
  refine lv_if_ne (tgt := 14) hx hb dX7_report_8 (by decide) (fun c3 => ?_) (fun c3 => ?_)
  · have hf := sr_t hf (sr_b1 c3)
    refine lv_iload_n hx hb dX7_report_14 rfl (lv_at hl 2 rfl) ?_
    refine lv_iconst (v := 0) hx hb dX7_report_15 (by decide) ?_
    refine lv_bipush (v := 9) hx hb dX7_report_16 (by decide) ?_
    obtain ⟨v5, e4, hf⟩ := sr_bnd hf
    refine s_callS1 hX hV hl.1 (c_X7_isWithin  e4) cs_X7_isWithin lk_236 ⟨rfl, rfl, Nat.le_of_ble_eq_true rfl, Nat.le_of_ble_eq_true rfl⟩ rfl rfl (Nat.le_of_ble_eq_true rfl) dX7_report_18 ⟨Nat.le_of_ble_eq_true rfl, Nat.le_of_ble_eq_true rfl⟩ (fun H locs hV => ?_)
    refine lv_if_eq (tgt := 34) hx hb dX7_report_21 (by decide) (fun c6 => ?_) (fun c6 => ?_)
    · have hf := sr_f hf (sr_b0 c6)
      refine lv_bipush (v := (-12)) hx hb dX7_report_34 (by decide) ?_
      cases hf
      exact s_iret hX hV dX7_report_36
    · have hf := sr_t hf (sr_b1 c6)
      refine lv_iload_n hx hb dX7_report_24 rfl (lv_at hl 3 rfl) ?_
      refine lv_iconst (v := 0) hx hb dX7_report_25 (by decide) ?_
      refine lv_bipush (v := 9) hx hb dX7_report_26 (by decide) ?_
      obtain ⟨v8, e7, hf⟩ := sr_bnd hf
      refine s_callS1 hX hV hl.1 (c_X7_isWithin  e7) cs_X7_isWithin lk_236 ⟨rfl, rfl, Nat.le_of_ble_eq_true rfl, Nat.le_of_ble_eq_true rfl⟩ rfl rfl (Nat.le_of_ble_eq_true rfl) dX7_report_28 ⟨Nat.le_of_ble_eq_true rfl, Nat.le_of_ble_eq_true rfl⟩ (fun H locs hV => ?_)
      refine lv_if_ne (tgt := 37) hx hb dX7_report_31 (by decide) (fun c9 => ?_) (fun c9 => ?_)
      · have hf := sr_t hf (sr_b1 c9)
        refine lv_aload_n hx hb dX7_report_37 rfl (lv_at hl 0 rfl) ?_
        refine fg_7_0 hX hV lk_216 (h0) dX7_report_38 ?_
        refine lv_iload_n hx hb dX7_report_41 rfl (lv_at hl 1 rfl) ?_
        refine lv_iload_n hx hb dX7_report_42 rfl (lv_at hl 2 rfl) ?_
        refine lv_iload_n hx hb dX7_report_43 rfl (lv_at hl 3 rfl) ?_
        obtain ⟨v11, σ12, e10, hf⟩ := sr_ob2 hf
        refine s_callV1 (ci := 1) hX hV hl.1 (c_X1_takeProbes (ch_7_0 (h0)) e10) cv_X1_takeProbes lk_421 ⟨rfl, rfl, Nat.le_of_ble_eq_true rfl, Nat.le_of_ble_eq_true rfl⟩ rfl (by decide) (ch_7_0 (h0)) rfl rfl (Nat.le_of_ble_eq_true rfl) dX7_report_44 ⟨Nat.le_of_ble_eq_true rfl, Nat.le_of_ble_eq_true rfl⟩ (fun H locs hV => ?_)
        cases hf
        exact s_iret hX hV dX7_report_47
      · have hf := sr_f hf (sr_b0 c9)
        refine lv_bipush (v := (-12)) hx hb dX7_report_34 (by decide) ?_
        cases hf
        exact s_iret hX hV dX7_report_36
  · have hf := sr_f hf (sr_b0 c3)
    refine lv_bipush (v := (-11)) hx hb dX7_report_11 (by decide) ?_
    cases hf
    exact s_iret hX hV dX7_report_13
abbrev rm_X7_pass : Room := { frames := 6, cells := 0, slots := 0, locals := 133 }
theorem cv_X7_pass : sr_Cv yX7_pass cX7_pass 4 (Option.some FieldType.int) RX7 1 := ⟨lk_473, lk_471, lk_472, lk_1, rfl, by decide +kernel, by decide +kernel, by decide +kernel⟩
set_option maxHeartbeats 4000000 in
set_option maxRecDepth 100000 in
theorem k_X7_pass_L26 {p : Program} {l : Launch} {e : Env} {s : State} {m : MethodId} {args : Array Value} {below : List Frame} {meth : Method} {c : Code} {D : va_G} {aC : Nat → ClassId} {n0 : Nat} {r : Int32} {σ' : St} {q0 : Nat} {x1 : Int32} (hX : sr_X p s m args meth c cX7_pass 4 (Option.some FieldType.int) RX7 D aC) (h0 : shC q0 = 8) (rec26 : Int32 → Int32 → St → Option (Int32 × St)) (hrec26 : ∀ (x2 : Int32) (x3 : Int32) (σ : St) (H : Heap) (locs : List Loc) (ls : Array Slot) , lv_has ls 4 [(0, .ref (n0 + q0)), (1, .int x1), (2, .int x2), (3, .int x3)] → sr_V D aC shC n0 σ s.heap H locs → rec26 x2 x3 σ = some (r, σ') → W p l e rm_X7_pass s m args below meth c H locs 0 0 (MQ below (sr_Qc D aC shC n0 σ' (some (.int r))) args s 0 0 (sr_A shC n0)) (F0 m 26 ls [])) : ∀ (x2 : Int32) (x3 : Int32) (σ : St) (H : Heap) (locs : List Loc) (ls : Array Slot) , lv_has ls 4 [(0, .ref (n0 + q0)), (1, .int x1), (2, .int x2), (3, .int x3)] → sr_V D aC shC n0 σ s.heap H locs → f_X7_pass_L26 q0 x1 rec26 x2 x3 σ = some (r, σ') → W p l e rm_X7_pass s m args below meth c H locs 0 0 (MQ below (sr_Qc D aC shC n0 σ' (some (.int r))) args s 0 0 (sr_A shC n0)) (F0 m 26 ls []) := by
  intro x2 x3 σ H locs ls  hl hV hf
  have hx := hX.1.1
  have hb := hX.1.2.1
  unfold f_X7_pass_L26 at hf
  refine lv_iload_n hx hb dX7_pass_26 rfl (lv_at hl 3 rfl) ?_
  refine lv_iload_n hx hb dX7_pass_27 rfl (lv_at hl 1 rfl) ?_
  refine lv_icmp_ge (tgt := 44) hx hb dX7_pass_28 (by decide) (fun c1 => ?_) (fun c1 => ?_)
  · have hf := sr_t hf c1
    refine lv_aload_n hx hb dX7_pass_44 rfl (lv_at hl 0 rfl) ?_
    refine fg_7_0 hX hV lk_216 (h0) dX7_pass_45 ?_
    refine fg_1_2 hX hV lk_162 (ch_7_0 (h0)) dX7_pass_48 ?_
    refine fg_3_3 hX hV lk_148 (ch_1_2 (ch_7_0 (h0))) dX7_pass_51 ?_
    refine lv_iload_n hx hb dX7_pass_54 rfl (lv_at hl 2 rfl) ?_
    refine lv_isub hx hb dX7_pass_55 ?_
    cases hf
    exact s_iret hX hV dX7_pass_56
  · have hf := sr_f hf c1
    refine lv_aload_n hx hb dX7_pass_31 rfl (lv_at hl 0 rfl) ?_
    refine fg_7_0 hX hV lk_216 (h0) dX7_pass_32 ?_
    obtain ⟨σ3, e2, hf⟩ := sr_obd hf
    refine s_callV0 (ci := 1) hX hV hl.1 (c_X1_passHour (ch_7_0 (h0)) e2) cv_X1_passHour lk_474 ⟨rfl, rfl, Nat.le_of_ble_eq_true rfl, Nat.le_of_ble_eq_true rfl⟩ rfl (by decide) (ch_7_0 (h0)) rfl rfl (Nat.le_of_ble_eq_true rfl) dX7_pass_35 ⟨Nat.le_of_ble_eq_true rfl, Nat.le_of_ble_eq_true rfl⟩ (fun H locs hV => ?_)
    obtain ⟨v4, e5, hf⟩ := sr_bnd hf
    refine lv_iinc (v := v4) (lv' := [(3, .int v4), (0, .ref (n0 + q0)), (1, .int x1), (2, .int x2)]) hx hb dX7_pass_38 hl (k := 3) rfl (by rw [← e5]; rfl) (by decide) rfl (fun ls hl => ?_)
    refine lv_goto (tgt := 26) hx hb dX7_pass_41 (by decide) ?_
    exact hrec26 _ _ _ _ _ _  (lv_sub hl [1, 2, 3, 0] rfl) hV hf
set_option maxHeartbeats 4000000 in
set_option maxRecDepth 100000 in
theorem k_X7_pass_L26w {p : Program} {l : Launch} {e : Env} {s : State} {m : MethodId} {args : Array Value} {below : List Frame} {meth : Method} {c : Code} {D : va_G} {aC : Nat → ClassId} {n0 : Nat} {r : Int32} {σ' : St} {q0 : Nat} {x1 : Int32} (hX : sr_X p s m args meth c cX7_pass 4 (Option.some FieldType.int) RX7 D aC) (h0 : shC q0 = 8) (n : Nat) : ∀ (x2 : Int32) (x3 : Int32) (σ : St) (H : Heap) (locs : List Loc) (ls : Array Slot) , lv_has ls 4 [(0, .ref (n0 + q0)), (1, .int x1), (2, .int x2), (3, .int x3)] → sr_V D aC shC n0 σ s.heap H locs → it3 (f_X7_pass_L26 q0 x1) n x2 x3 σ = some (r, σ') → W p l e rm_X7_pass s m args below meth c H locs 0 0 (MQ below (sr_Qc D aC shC n0 σ' (some (.int r))) args s 0 0 (sr_A shC n0)) (F0 m 26 ls []) :=
  it3_ind (fun rec26 => ∀ (x2 : Int32) (x3 : Int32) (σ : St) (H : Heap) (locs : List Loc) (ls : Array Slot) , lv_has ls 4 [(0, .ref (n0 + q0)), (1, .int x1), (2, .int x2), (3, .int x3)] → sr_V D aC shC n0 σ s.heap H locs → rec26 x2 x3 σ = some (r, σ') → W p l e rm_X7_pass s m args below meth c H locs 0 0 (MQ below (sr_Qc D aC shC n0 σ' (some (.int r))) args s 0 0 (sr_A shC n0)) (F0 m 26 ls [])) (by intros; rename_i hf; exact absurd hf (by simp)) (fun rec hrec => k_X7_pass_L26 hX h0  rec hrec) n
set_option maxHeartbeats 4000000 in
set_option maxRecDepth 100000 in
theorem c_X7_pass {l : Launch} {D : va_G} {aC : Nat → ClassId} {n0 : Nat} {r : Int32} {σ' : St}  {σ : St} {q0 : Nat} {x1 : Int32} (h0 : shC q0 = 8) (hf : f_X7_pass q0 x1 σ = some (r, σ')) : sr_Met l D aC shC n0 yX7_pass cX7_pass 4 (Option.some FieldType.int) rm_X7_pass [.ref (n0 + q0), .int x1] σ (some (.int r)) σ' := by
  refine s_met (own := RX7) (by decide) (Nat.le_of_ble_eq_true rfl) rfl ?_
  intro p e s m below meth c ls hX hV hl
  have hl : lv_has ls 4 [(0, .ref (n0 + q0)), (1, .int x1)] := hl
  have hx := hX.1.1
  have hb := hX.1.2.1
  unfold f_X7_pass at hf
  refine lv_iload_n hx hb dX7_pass_0 rfl (lv_at hl 1 rfl) ?_
  refine lv_iconst (v := 1) hx hb dX7_pass_1 (by decide) ?_
  refine lv_bipush (v := 100) hx hb dX7_pass_2 (by decide) ?_
  obtain ⟨v7, e6, hf⟩ := sr_bnd hf
  refine s_callS1 hX hV hl.1 (c_X7_isWithin  e6) cs_X7_isWithin lk_236 ⟨rfl, rfl, Nat.le_of_ble_eq_true rfl, Nat.le_of_ble_eq_true rfl⟩ rfl rfl (Nat.le_of_ble_eq_true rfl) dX7_pass_4 ⟨Nat.le_of_ble_eq_true rfl, Nat.le_of_ble_eq_true rfl⟩ (fun H locs hV => ?_)
  refine lv_if_ne (tgt := 13) hx hb dX7_pass_7 (by decide) (fun c8 => ?_) (fun c8 => ?_)
  · have hf := sr_t hf (sr_b1 c8)
    refine lv_aload_n hx hb dX7_pass_13 rfl (lv_at hl 0 rfl) ?_
    refine fg_7_0 hX hV lk_216 (h0) dX7_pass_14 ?_
    refine fg_1_2 hX hV lk_162 (ch_7_0 (h0)) dX7_pass_17 ?_
    refine fg_3_3 hX hV lk_148 (ch_1_2 (ch_7_0 (h0))) dX7_pass_20 ?_
    obtain ⟨v9, e10, hf⟩ := sr_bnd hf
    rw [e10]
    refine lv_istore_n (lv' := [(2, .int v9), (0, .ref (n0 + q0)), (1, .int x1)]) hx hb dX7_pass_23 rfl hl (by decide) rfl (fun ls hl => ?_)
    refine lv_iconst (v := 0) hx hb dX7_pass_24 (by decide) ?_
    refine lv_istore_n (lv' := [(3, .int 0), (2, .int v9), (0, .ref (n0 + q0)), (1, .int x1)]) hx hb dX7_pass_25 rfl hl (by decide) rfl (fun ls hl => ?_)
    exact k_X7_pass_L26w hX h0  sr_fuel _ _ _ _ _ _  (lv_sub hl [2, 3, 1, 0] rfl) hV hf
  · have hf := sr_f hf (sr_b0 c8)
    refine lv_bipush (v := (-12)) hx hb dX7_pass_10 (by decide) ?_
    cases hf
    exact s_iret hX hV dX7_pass_12
abbrev rm_X7_time : Room := { frames := 0, cells := 0, slots := 0, locals := 0 }
theorem cv_X7_time : sr_Cv yX7_time cX7_time 1 (Option.some FieldType.int) RX7 0 := ⟨lk_552, lk_550, lk_551, lk_1, rfl, by decide +kernel, by decide +kernel, by decide +kernel⟩
set_option maxHeartbeats 4000000 in
set_option maxRecDepth 100000 in
theorem c_X7_time {l : Launch} {D : va_G} {aC : Nat → ClassId} {n0 : Nat} {r : Int32} {σ : St}  {q0 : Nat} (h0 : shC q0 = 8) (hf : f_X7_time q0 σ = r) : sr_Met l D aC shC n0 yX7_time cX7_time 1 (Option.some FieldType.int) rm_X7_time [.ref (n0 + q0)] σ (some (.int r)) σ := by
  refine s_met (own := RX7) (by decide) (Nat.le_of_ble_eq_true rfl) rfl ?_
  intro p e s m below meth c ls hX hV hl
  have hl : lv_has ls 1 [(0, .ref (n0 + q0))] := hl
  have hx := hX.1.1
  have hb := hX.1.2.1
  unfold f_X7_time at hf
  refine lv_aload_n hx hb dX7_time_0 rfl (lv_at hl 0 rfl) ?_
  refine fg_7_0 hX hV lk_216 (h0) dX7_time_1 ?_
  refine fg_1_6 hX hV lk_169 (ch_7_0 (h0)) dX7_time_4 ?_
  cases hf
  exact s_iret hX hV dX7_time_7
abbrev rm_X7_change : Room := { frames := 4, cells := 0, slots := 0, locals := 90 }
theorem cv_X7_change : sr_Cv yX7_change cX7_change 4 (Option.some FieldType.int) RX7 2 := ⟨lk_556, lk_554, lk_555, lk_1, rfl, by decide +kernel, by decide +kernel, by decide +kernel⟩
set_option maxHeartbeats 4000000 in
set_option maxRecDepth 100000 in
theorem c_X7_change {l : Launch} {D : va_G} {aC : Nat → ClassId} {n0 : Nat} {r : Int32} {σ : St}  {q0 : Nat} {x1 : Int32} {x2 : Int32} (h0 : shC q0 = 8) (hf : f_X7_change q0 x1 x2 σ = some r) : sr_Met l D aC shC n0 yX7_change cX7_change 4 (Option.some FieldType.int) rm_X7_change [.ref (n0 + q0), .int x1, .int x2] σ (some (.int r)) σ := by
  refine s_met (own := RX7) (by decide) (Nat.le_of_ble_eq_true rfl) rfl ?_
  intro p e s m below meth c ls hX hV hl
  have hl : lv_has ls 4 [(0, .ref (n0 + q0)), (1, .int x1), (2, .int x2)] := hl
  have hx := hX.1.1
  have hb := hX.1.2.1
  unfold f_X7_change at hf
  refine lv_aload_n hx hb dX7_change_0 rfl (lv_at hl 0 rfl) ?_
  refine fg_7_0 hX hV lk_216 (h0) dX7_change_1 ?_
  refine lv_iload_n hx hb dX7_change_4 rfl (lv_at hl 1 rfl) ?_
  obtain ⟨v2, e1, hf⟩ := sr_obd hf
  refine s_callV1 (ci := 1) hX hV hl.1 (c_X1_find (ch_7_0 (h0)) e1) cv_X1_find lk_283 ⟨rfl, rfl, Nat.le_of_ble_eq_true rfl, Nat.le_of_ble_eq_true rfl⟩ rfl (by decide) (ch_7_0 (h0)) rfl rfl (Nat.le_of_ble_eq_true rfl) dX7_change_5 ⟨Nat.le_of_ble_eq_true rfl, Nat.le_of_ble_eq_true rfl⟩ (fun H locs hV => ?_)
  rcases v2 with _ | q3
  · have hf := sr_on hf
    refine lv_astore_nN (lv' := [(3, .null), (0, .ref (n0 + q0)), (1, .int x1), (2, .int x2)]) hx hb dX7_change_8 rfl hl (by decide) rfl (fun ls hl => ?_)
    refine lv_aload_nN hx hb dX7_change_9 rfl (lv_at hl 0 rfl) ?_
    refine lv_ifnonnullN hx hb dX7_change_10 ?_
    refine lv_bipush (v := (-11)) hx hb dX7_change_13 (by decide) ?_
    cases hf
    exact s_iret hX hV dX7_change_15
  · have hf := sr_os hf
    obtain ⟨g4, hf⟩ := sr_gd hf
    refine lv_astore_n (lv' := [(3, .ref (n0 + q3)), (0, .ref (n0 + q0)), (1, .int x1), (2, .int x2)]) hx hb dX7_change_8 rfl hl (by decide) rfl (fun ls hl => ?_)
    refine lv_aload_n hx hb dX7_change_9 rfl (lv_at hl 0 rfl) ?_
    refine lv_ifnonnull (tgt := 16) hx hb dX7_change_10 (by decide) ?_
    refine lv_iload_n hx hb dX7_change_16 rfl (lv_at hl 3 rfl) ?_
    by_cases c5 : x2 = 0
    · have hf := sr_t hf c5
      refine s_tabIn c5 (tgt := 60) (off := 43) hx hb dX7_change_17 (by decide) (by decide) (by decide) (by decide) ?_
      refine lv_aload_n hx hb dX7_change_60 rfl (lv_at hl 0 rfl) ?_
      refine fg_0_5 hX hV lk_94 (g4) dX7_change_61 ?_
      cases hf
      exact s_iret hX hV dX7_change_64
    have hf := sr_f hf c5
    by_cases c6 : x2 = 1
    · have hf := sr_t hf c6
      refine s_tabIn c6 (tgt := 65) (off := 48) hx hb dX7_change_17 (by decide) (by decide) (by decide) (by decide) ?_
      refine lv_aload_n hx hb dX7_change_65 rfl (lv_at hl 0 rfl) ?_
      refine fg_0_1 hX hV lk_85 (g4) dX7_change_66 ?_
      refine fg_4_1 hX hV lk_44 (ch_0_1 (g4)) dX7_change_69 ?_
      cases hf
      exact s_iret hX hV dX7_change_72
    have hf := sr_f hf c6
    by_cases c7 : x2 = 2
    · have hf := sr_t hf c7
      refine s_tabIn c7 (tgt := 73) (off := 56) hx hb dX7_change_17 (by decide) (by decide) (by decide) (by decide) ?_
      refine lv_aload_n hx hb dX7_change_73 rfl (lv_at hl 0 rfl) ?_
      refine fg_0_6 hX hV lk_98 (g4) dX7_change_74 ?_
      cases hf
      exact s_iret hX hV dX7_change_77
    have hf := sr_f hf c7
    by_cases c8 : x2 = 3
    · have hf := sr_t hf c8
      refine s_tabIn c8 (tgt := 78) (off := 61) hx hb dX7_change_17 (by decide) (by decide) (by decide) (by decide) ?_
      refine lv_aload_n hx hb dX7_change_78 rfl (lv_at hl 0 rfl) ?_
      refine lv_aload_n hx hb dX7_change_79 rfl (lv_at hl 1 rfl) ?_
      refine fg_7_0 hX hV lk_216 (h0) dX7_change_80 ?_
      refine fg_1_6 hX hV lk_169 (ch_7_0 (h0)) dX7_change_83 ?_
      obtain ⟨v10, e9, hf⟩ := sr_obd hf
      refine s_callV1 (ci := 0) hX hV hl.1 (c_X0_hoursSinceLatest (g4) e9) cv_X0_hoursSinceLatest lk_557 ⟨rfl, rfl, Nat.le_of_ble_eq_true rfl, Nat.le_of_ble_eq_true rfl⟩ rfl (by decide) (g4) rfl rfl (Nat.le_of_ble_eq_true rfl) dX7_change_86 ⟨Nat.le_of_ble_eq_true rfl, Nat.le_of_ble_eq_true rfl⟩ (fun H locs hV => ?_)
      cases hf
      exact s_iret hX hV dX7_change_89
    have hf := sr_f hf c8
    by_cases c11 : x2 = 4
    · have hf := sr_t hf c11
      refine s_tabIn c11 (tgt := 90) (off := 73) hx hb dX7_change_17 (by decide) (by decide) (by decide) (by decide) ?_
      refine lv_aload_n hx hb dX7_change_90 rfl (lv_at hl 1 rfl) ?_
      refine fg_7_0 hX hV lk_216 (h0) dX7_change_91 ?_
      refine lv_aload_n hx hb dX7_change_94 rfl (lv_at hl 0 rfl) ?_
      obtain ⟨v13, e12, hf⟩ := sr_obd hf
      refine s_callV1 (ci := 1) hX hV hl.1 (c_X1_reasonOf (ch_7_0 (h0)) (g4) e12) cv_X1_reasonOf lk_558 ⟨rfl, rfl, Nat.le_of_ble_eq_true rfl, Nat.le_of_ble_eq_true rfl⟩ rfl (by decide) (ch_7_0 (h0)) rfl rfl (Nat.le_of_ble_eq_true rfl) dX7_change_95 ⟨Nat.le_of_ble_eq_true rfl, Nat.le_of_ble_eq_true rfl⟩ (fun H locs hV => ?_)
      cases hf
      exact s_iret hX hV dX7_change_98
    have hf := sr_f hf c11
    by_cases c14 : x2 = 5
    · have hf := sr_t hf c14
      refine s_tabIn c14 (tgt := 99) (off := 82) hx hb dX7_change_17 (by decide) (by decide) (by decide) (by decide) ?_
      refine lv_aload_n hx hb dX7_change_99 rfl (lv_at hl 0 rfl) ?_
      refine fg_0_4 hX hV lk_91 (g4) dX7_change_100 ?_
      cases hf
      exact s_iret hX hV dX7_change_103
    have hf := sr_f hf c14
    by_cases c15 : x2 = 6
    · have hf := sr_t hf c15
      refine s_tabIn c15 (tgt := 104) (off := 87) hx hb dX7_change_17 (by decide) (by decide) (by decide) (by decide) ?_
      refine lv_aload_n hx hb dX7_change_104 rfl (lv_at hl 0 rfl) ?_
      refine fg_0_7 hX hV lk_101 (g4) dX7_change_105 ?_
      refine lv_if_eq (tgt := 115) hx hb dX7_change_108 (by decide) (fun c16 => ?_) (fun c16 => ?_)
      · have hf := sr_f hf (sr_b0 c16)
        refine lv_iconst (v := 0) hx hb dX7_change_115 (by decide) ?_
        cases hf
        exact s_iret hX hV dX7_change_116
      · have hf := sr_t hf (sr_b1 c16)
        refine lv_iconst (v := 1) hx hb dX7_change_111 (by decide) ?_
        refine lv_goto (tgt := 116) hx hb dX7_change_112 (by decide) ?_
        cases hf
        exact s_iret hX hV dX7_change_116
    have hf := sr_f hf c15
    refine lv_tableOut (tgt := 117) hx hb dX7_change_17 (by have z0 := lv_neT (a := 0) c5 (by decide); have z1 := lv_neT (a := 1) c6 (by decide); have z2 := lv_neT (a := 2) c7 (by decide); have z3 := lv_neT (a := 3) c8 (by decide); have z4 := lv_neT (a := 4) c11 (by decide); have z5 := lv_neT (a := 5) c14 (by decide); have z6 := lv_neT (a := 6) c15 (by decide); omega) (by decide) ?_
    refine lv_bipush (v := (-12)) hx hb dX7_change_117 (by decide) ?_
    cases hf
    exact s_iret hX hV dX7_change_119
abbrev rm_X7_probes : Room := { frames := 1, cells := 0, slots := 0, locals := 21 }
theorem cv_X7_probes : sr_Cv yX7_probes cX7_probes 4 (Option.some FieldType.int) RX7 2 := ⟨lk_562, lk_560, lk_561, lk_1, rfl, by decide +kernel, by decide +kernel, by decide +kernel⟩
set_option maxHeartbeats 4000000 in
set_option maxRecDepth 100000 in
theorem c_X7_probes {l : Launch} {D : va_G} {aC : Nat → ClassId} {n0 : Nat} {r : Int32} {σ : St}  {q0 : Nat} {x1 : Int32} {x2 : Int32} (h0 : shC q0 = 8) (hf : f_X7_probes q0 x1 x2 σ = some r) : sr_Met l D aC shC n0 yX7_probes cX7_probes 4 (Option.some FieldType.int) rm_X7_probes [.ref (n0 + q0), .int x1, .int x2] σ (some (.int r)) σ := by
  refine s_met (own := RX7) (by decide) (Nat.le_of_ble_eq_true rfl) rfl ?_
  intro p e s m below meth c ls hX hV hl
  have hl : lv_has ls 4 [(0, .ref (n0 + q0)), (1, .int x1), (2, .int x2)] := hl
  have hx := hX.1.1
  have hb := hX.1.2.1
  unfold f_X7_probes at hf
  refine lv_aload_n hx hb dX7_probes_0 rfl (lv_at hl 0 rfl) ?_
  refine fg_7_0 hX hV lk_216 (h0) dX7_probes_1 ?_
  refine lv_iload_n hx hb dX7_probes_4 rfl (lv_at hl 1 rfl) ?_
  obtain ⟨v2, e1, hf⟩ := sr_obd hf
  refine s_callV1 (ci := 1) hX hV hl.1 (c_X1_find (ch_7_0 (h0)) e1) cv_X1_find lk_283 ⟨rfl, rfl, Nat.le_of_ble_eq_true rfl, Nat.le_of_ble_eq_true rfl⟩ rfl (by decide) (ch_7_0 (h0)) rfl rfl (Nat.le_of_ble_eq_true rfl) dX7_probes_5 ⟨Nat.le_of_ble_eq_true rfl, Nat.le_of_ble_eq_true rfl⟩ (fun H locs hV => ?_)
  rcases v2 with _ | q3
  · have hf := sr_on hf
    refine lv_astore_nN (lv' := [(3, .null), (0, .ref (n0 + q0)), (1, .int x1), (2, .int x2)]) hx hb dX7_probes_8 rfl hl (by decide) rfl (fun ls hl => ?_)
    refine lv_aload_nN hx hb dX7_probes_9 rfl (lv_at hl 0 rfl) ?_
    refine lv_ifnonnullN hx hb dX7_probes_10 ?_
    refine lv_bipush (v := (-11)) hx hb dX7_probes_13 (by decide) ?_
    cases hf
    exact s_iret hX hV dX7_probes_15
  · have hf := sr_os hf
    obtain ⟨g4, hf⟩ := sr_gd hf
    refine lv_astore_n (lv' := [(3, .ref (n0 + q3)), (0, .ref (n0 + q0)), (1, .int x1), (2, .int x2)]) hx hb dX7_probes_8 rfl hl (by decide) rfl (fun ls hl => ?_)
    refine lv_aload_n hx hb dX7_probes_9 rfl (lv_at hl 0 rfl) ?_
    refine lv_ifnonnull (tgt := 16) hx hb dX7_probes_10 (by decide) ?_
    refine lv_iload_n hx hb dX7_probes_16 rfl (lv_at hl 3 rfl) ?_
    by_cases c5 : x2 = 0
    · have hf := sr_t hf c5
      refine s_tabIn c5 (tgt := 48) (off := 31) hx hb dX7_probes_17 (by decide) (by decide) (by decide) (by decide) ?_
      refine lv_aload_n hx hb dX7_probes_48 rfl (lv_at hl 0 rfl) ?_
      refine fg_0_2 hX hV lk_88 (g4) dX7_probes_49 ?_
      refine fg_6_0 hX hV lk_58 (ch_0_2 (g4)) dX7_probes_52 ?_
      cases hf
      exact s_iret hX hV dX7_probes_55
    have hf := sr_f hf c5
    by_cases c6 : x2 = 1
    · have hf := sr_t hf c6
      refine s_tabIn c6 (tgt := 56) (off := 39) hx hb dX7_probes_17 (by decide) (by decide) (by decide) (by decide) ?_
      refine lv_aload_n hx hb dX7_probes_56 rfl (lv_at hl 0 rfl) ?_
      refine fg_0_2 hX hV lk_88 (g4) dX7_probes_57 ?_
      refine fg_6_1 hX hV lk_60 (ch_0_2 (g4)) dX7_probes_60 ?_
      cases hf
      exact s_iret hX hV dX7_probes_63
    have hf := sr_f hf c6
    by_cases c7 : x2 = 2
    · have hf := sr_t hf c7
      refine s_tabIn c7 (tgt := 64) (off := 47) hx hb dX7_probes_17 (by decide) (by decide) (by decide) (by decide) ?_
      refine lv_aload_n hx hb dX7_probes_64 rfl (lv_at hl 0 rfl) ?_
      refine fg_0_2 hX hV lk_88 (g4) dX7_probes_65 ?_
      refine fg_6_2 hX hV lk_62 (ch_0_2 (g4)) dX7_probes_68 ?_
      cases hf
      exact s_iret hX hV dX7_probes_71
    have hf := sr_f hf c7
    by_cases c8 : x2 = 3
    · have hf := sr_t hf c8
      refine s_tabIn c8 (tgt := 72) (off := 55) hx hb dX7_probes_17 (by decide) (by decide) (by decide) (by decide) ?_
      refine lv_aload_n hx hb dX7_probes_72 rfl (lv_at hl 0 rfl) ?_
      refine fg_0_2 hX hV lk_88 (g4) dX7_probes_73 ?_
      refine fg_6_3 hX hV lk_64 (ch_0_2 (g4)) dX7_probes_76 ?_
      cases hf
      exact s_iret hX hV dX7_probes_79
    have hf := sr_f hf c8
    refine lv_tableOut (tgt := 80) hx hb dX7_probes_17 (by have z0 := lv_neT (a := 0) c5 (by decide); have z1 := lv_neT (a := 1) c6 (by decide); have z2 := lv_neT (a := 2) c7 (by decide); have z3 := lv_neT (a := 3) c8 (by decide); omega) (by decide) ?_
    refine lv_bipush (v := (-12)) hx hb dX7_probes_80 (by decide) ?_
    cases hf
    exact s_iret hX hV dX7_probes_82
abbrev rm_X7_chance : Room := { frames := 1, cells := 0, slots := 0, locals := 21 }
theorem cv_X7_chance : sr_Cv yX7_chance cX7_chance 4 (Option.some FieldType.long) RX7 2 := ⟨lk_566, lk_564, lk_565, lk_1, rfl, by decide +kernel, by decide +kernel, by decide +kernel⟩
set_option maxHeartbeats 4000000 in
set_option maxRecDepth 100000 in
theorem c_X7_chance {l : Launch} {D : va_G} {aC : Nat → ClassId} {n0 : Nat} {r : Int64} {σ : St}  {q0 : Nat} {x1 : Int32} {b2 : Bool} (h0 : shC q0 = 8) (hf : f_X7_chance q0 x1 b2 σ = some r) : sr_Met l D aC shC n0 yX7_chance cX7_chance 4 (Option.some FieldType.long) rm_X7_chance [.ref (n0 + q0), .int x1, .int (bI b2)] σ (some (.long r)) σ := by
  refine s_met (own := RX7) (by decide) (Nat.le_of_ble_eq_true rfl) rfl ?_
  intro p e s m below meth c ls hX hV hl
  have hl : lv_has ls 4 [(0, .ref (n0 + q0)), (1, .int x1), (2, .int (bI b2))] := hl
  have hx := hX.1.1
  have hb := hX.1.2.1
  unfold f_X7_chance at hf
  refine lv_aload_n hx hb dX7_chance_0 rfl (lv_at hl 0 rfl) ?_
  refine fg_7_0 hX hV lk_216 (h0) dX7_chance_1 ?_
  refine lv_iload_n hx hb dX7_chance_4 rfl (lv_at hl 1 rfl) ?_
  obtain ⟨v2, e1, hf⟩ := sr_obd hf
  refine s_callV1 (ci := 1) hX hV hl.1 (c_X1_find (ch_7_0 (h0)) e1) cv_X1_find lk_283 ⟨rfl, rfl, Nat.le_of_ble_eq_true rfl, Nat.le_of_ble_eq_true rfl⟩ rfl (by decide) (ch_7_0 (h0)) rfl rfl (Nat.le_of_ble_eq_true rfl) dX7_chance_5 ⟨Nat.le_of_ble_eq_true rfl, Nat.le_of_ble_eq_true rfl⟩ (fun H locs hV => ?_)
  rcases v2 with _ | q3
  · have hf := sr_on hf
    refine lv_astore_nN (lv' := [(3, .null), (0, .ref (n0 + q0)), (1, .int x1), (2, .int (bI b2))]) hx hb dX7_chance_8 rfl hl (by decide) rfl (fun ls hl => ?_)
    refine lv_aload_nN hx hb dX7_chance_9 rfl (lv_at hl 0 rfl) ?_
    refine lv_ifnonnullN hx hb dX7_chance_10 ?_
    refine lv_ldc2 hx hb hX.1.2.2.2.1 (s_w hX lk_567) dX7_chance_13 ?_
    cases hf
    exact s_lret hX hV dX7_chance_16
  · have hf := sr_os hf
    obtain ⟨g4, hf⟩ := sr_gd hf
    refine lv_astore_n (lv' := [(3, .ref (n0 + q3)), (0, .ref (n0 + q0)), (1, .int x1), (2, .int (bI b2))]) hx hb dX7_chance_8 rfl hl (by decide) rfl (fun ls hl => ?_)
    refine lv_aload_n hx hb dX7_chance_9 rfl (lv_at hl 0 rfl) ?_
    refine lv_ifnonnull (tgt := 17) hx hb dX7_chance_10 (by decide) ?_
    refine lv_iload_n hx hb dX7_chance_17 rfl (lv_at hl 3 rfl) ?_
    refine lv_if_eq (tgt := 31) hx hb dX7_chance_18 (by decide) (fun c5 => ?_) (fun c5 => ?_)
    · have hf := sr_f hf (sr_b0 c5)
      refine lv_aload_n hx hb dX7_chance_31 rfl (lv_at hl 0 rfl) ?_
      refine fg_0_2 hX hV lk_88 (g4) dX7_chance_32 ?_
      refine fg_6_4 hX hV lk_66 (ch_0_2 (g4)) dX7_chance_35 ?_
      cases hf
      exact s_lret hX hV dX7_chance_38
    · have hf := sr_t hf (sr_b1 c5)
      refine lv_aload_n hx hb dX7_chance_21 rfl (lv_at hl 0 rfl) ?_
      refine fg_0_2 hX hV lk_88 (g4) dX7_chance_22 ?_
      refine fg_6_5 hX hV lk_68 (ch_0_2 (g4)) dX7_chance_25 ?_
      refine lv_goto (tgt := 38) hx hb dX7_chance_28 (by decide) ?_
      cases hf
      exact s_lret hX hV dX7_chance_38
abbrev rm_X7_has : Room := { frames := 3, cells := 0, slots := 0, locals := 67 }
theorem cv_X7_has : sr_Cv yX7_has cX7_has 2 (Option.some FieldType.int) RX7 1 := ⟨lk_571, lk_569, lk_570, lk_1, rfl, by decide +kernel, by decide +kernel, by decide +kernel⟩
set_option maxHeartbeats 4000000 in
set_option maxRecDepth 100000 in
theorem c_X7_has {l : Launch} {D : va_G} {aC : Nat → ClassId} {n0 : Nat} {r : Int32} {σ : St}  {q0 : Nat} {x1 : Int32} (h0 : shC q0 = 8) (hf : f_X7_has q0 x1 σ = some r) : sr_Met l D aC shC n0 yX7_has cX7_has 2 (Option.some FieldType.int) rm_X7_has [.ref (n0 + q0), .int x1] σ (some (.int r)) σ := by
  refine s_met (own := RX7) (by decide) (Nat.le_of_ble_eq_true rfl) rfl ?_
  intro p e s m below meth c ls hX hV hl
  have hl : lv_has ls 2 [(0, .ref (n0 + q0)), (1, .int x1)] := hl
  have hx := hX.1.1
  have hb := hX.1.2.1
  unfold f_X7_has at hf
  refine lv_aload_n hx hb dX7_has_0 rfl (lv_at hl 0 rfl) ?_
  refine fg_7_0 hX hV lk_216 (h0) dX7_has_1 ?_
  refine lv_iload_n hx hb dX7_has_4 rfl (lv_at hl 1 rfl) ?_
  obtain ⟨v2, e1, hf⟩ := sr_bnd hf
  refine s_callV1 (ci := 1) hX hV hl.1 (c_X1_isCell (ch_7_0 (h0)) e1) cv_X1_isCell lk_417 ⟨rfl, rfl, Nat.le_of_ble_eq_true rfl, Nat.le_of_ble_eq_true rfl⟩ rfl (by decide) (ch_7_0 (h0)) rfl rfl (Nat.le_of_ble_eq_true rfl) dX7_has_5 ⟨Nat.le_of_ble_eq_true rfl, Nat.le_of_ble_eq_true rfl⟩ (fun H locs hV => ?_)
  refine lv_if_eq (tgt := 22) hx hb dX7_has_8 (by decide) (fun c3 => ?_) (fun c3 => ?_)
  · have hf := sr_f hf (sr_b0 c3)
    refine lv_bipush (v := (-11)) hx hb dX7_has_22 (by decide) ?_
    cases hf
    exact s_iret hX hV dX7_has_24
  · have hf := sr_t hf (sr_b1 c3)
    refine lv_aload_n hx hb dX7_has_11 rfl (lv_at hl 0 rfl) ?_
    refine fg_7_0 hX hV lk_216 (h0) dX7_has_12 ?_
    refine lv_iload_n hx hb dX7_has_15 rfl (lv_at hl 1 rfl) ?_
    obtain ⟨v5, e4, hf⟩ := sr_obd hf
    refine s_callV1 (ci := 1) hX hV hl.1 (c_X1_changesOf (ch_7_0 (h0)) e4) cv_X1_changesOf lk_572 ⟨rfl, rfl, Nat.le_of_ble_eq_true rfl, Nat.le_of_ble_eq_true rfl⟩ rfl (by decide) (ch_7_0 (h0)) rfl rfl (Nat.le_of_ble_eq_true rfl) dX7_has_16 ⟨Nat.le_of_ble_eq_true rfl, Nat.le_of_ble_eq_true rfl⟩ (fun H locs hV => ?_)
    refine lv_goto (tgt := 24) hx hb dX7_has_19 (by decide) ?_
    cases hf
    exact s_iret hX hV dX7_has_24
abbrev rm_X7_isFrozen : Room := { frames := 1, cells := 0, slots := 0, locals := 22 }
theorem cv_X7_isFrozen : sr_Cv yX7_isFrozen cX7_isFrozen 2 (Option.some FieldType.int) RX7 1 := ⟨lk_580, lk_578, lk_579, lk_1, rfl, by decide +kernel, by decide +kernel, by decide +kernel⟩
set_option maxHeartbeats 4000000 in
set_option maxRecDepth 100000 in
theorem c_X7_isFrozen {l : Launch} {D : va_G} {aC : Nat → ClassId} {n0 : Nat} {r : Int32} {σ : St}  {q0 : Nat} {x1 : Int32} (h0 : shC q0 = 8) (hf : f_X7_isFrozen q0 x1 σ = some r) : sr_Met l D aC shC n0 yX7_isFrozen cX7_isFrozen 2 (Option.some FieldType.int) rm_X7_isFrozen [.ref (n0 + q0), .int x1] σ (some (.int r)) σ := by
  refine s_met (own := RX7) (by decide) (Nat.le_of_ble_eq_true rfl) rfl ?_
  intro p e s m below meth c ls hX hV hl
  have hl : lv_has ls 2 [(0, .ref (n0 + q0)), (1, .int x1)] := hl
  have hx := hX.1.1
  have hb := hX.1.2.1
  unfold f_X7_isFrozen at hf
  refine lv_iload_n hx hb dX7_isFrozen_0 rfl (lv_at hl 1 rfl) ?_
  refine lv_iconst (v := 0) hx hb dX7_isFrozen_1 (by decide) ?_
  refine lv_sipush (v := 167) hx hb dX7_isFrozen_2 (by decide) ?_
  obtain ⟨v2, e1, hf⟩ := sr_bnd hf
  refine s_callS1 hX hV hl.1 (c_X7_isWithin  e1) cs_X7_isWithin lk_236 ⟨rfl, rfl, Nat.le_of_ble_eq_true rfl, Nat.le_of_ble_eq_true rfl⟩ rfl rfl (Nat.le_of_ble_eq_true rfl) dX7_isFrozen_5 ⟨Nat.le_of_ble_eq_true rfl, Nat.le_of_ble_eq_true rfl⟩ (fun H locs hV => ?_)
  refine lv_if_ne (tgt := 14) hx hb dX7_isFrozen_8 (by decide) (fun c3 => ?_) (fun c3 => ?_)
  · have hf := sr_t hf (sr_b1 c3)
    refine lv_aload_n hx hb dX7_isFrozen_14 rfl (lv_at hl 0 rfl) ?_
    refine fg_7_0 hX hV lk_216 (h0) dX7_isFrozen_15 ?_
    refine fg_1_1 hX hV lk_160 (ch_7_0 (h0)) dX7_isFrozen_18 ?_
    refine lv_iload_n hx hb dX7_isFrozen_21 rfl (lv_at hl 1 rfl) ?_
    obtain ⟨v5, e4, hf⟩ := sr_obd hf
    refine s_callV1 (ci := 2) hX hV hl.1 (c_X2_covers (ch_1_1 (ch_7_0 (h0))) e4) cv_X2_covers lk_581 ⟨rfl, rfl, Nat.le_of_ble_eq_true rfl, Nat.le_of_ble_eq_true rfl⟩ rfl (by decide) (ch_1_1 (ch_7_0 (h0))) rfl rfl (Nat.le_of_ble_eq_true rfl) dX7_isFrozen_22 ⟨Nat.le_of_ble_eq_true rfl, Nat.le_of_ble_eq_true rfl⟩ (fun H locs hV => ?_)
    refine lv_if_eq (tgt := 32) hx hb dX7_isFrozen_25 (by decide) (fun c6 => ?_) (fun c6 => ?_)
    · have hf := sr_f hf (sr_b0 c6)
      refine lv_iconst (v := 0) hx hb dX7_isFrozen_32 (by decide) ?_
      cases hf
      exact s_iret hX hV dX7_isFrozen_33
    · have hf := sr_t hf (sr_b1 c6)
      refine lv_iconst (v := 1) hx hb dX7_isFrozen_28 (by decide) ?_
      refine lv_goto (tgt := 33) hx hb dX7_isFrozen_29 (by decide) ?_
      cases hf
      exact s_iret hX hV dX7_isFrozen_33
  · have hf := sr_f hf (sr_b0 c3)
    refine lv_bipush (v := (-12)) hx hb dX7_isFrozen_11 (by decide) ?_
    cases hf
    exact s_iret hX hV dX7_isFrozen_13
abbrev rm_X7_forecast : Room := { frames := 6, cells := 0, slots := 0, locals := 133 }
theorem cv_X7_forecast : sr_Cv yX7_forecast cX7_forecast 4 (Option.some FieldType.int) RX7 1 := ⟨lk_585, lk_583, lk_584, lk_1, rfl, by decide +kernel, by decide +kernel, by decide +kernel⟩
set_option maxHeartbeats 4000000 in
set_option maxRecDepth 100000 in
theorem k_X7_forecast_L47 {p : Program} {l : Launch} {e : Env} {s : State} {m : MethodId} {args : Array Value} {below : List Frame} {meth : Method} {c : Code} {D : va_G} {aC : Nat → ClassId} {n0 : Nat} {r : Int32} {σ' : St} {q0 : Nat} {x1 : Int32} (hX : sr_X p s m args meth c cX7_forecast 4 (Option.some FieldType.int) RX7 D aC) (h0 : shC q0 = 8) (rec47 : Int32 → St → Option (Int32 × St)) (hrec47 : ∀ (x3 : Int32) (σ : St) (H : Heap) (locs : List Loc) (ls : Array Slot) , lv_has ls 4 [(0, .ref (n0 + q0)), (1, .int x1), (3, .int x3)] → sr_V D aC shC n0 σ s.heap H locs → rec47 x3 σ = some (r, σ') → W p l e rm_X7_forecast s m args below meth c H locs 0 0 (MQ below (sr_Qc D aC shC n0 σ' (some (.int r))) args s 0 0 (sr_A shC n0)) (F0 m 47 ls [])) : ∀ (x3 : Int32) (σ : St) (H : Heap) (locs : List Loc) (ls : Array Slot) , lv_has ls 4 [(0, .ref (n0 + q0)), (1, .int x1), (3, .int x3)] → sr_V D aC shC n0 σ s.heap H locs → f_X7_forecast_L47 q0 x1 rec47 x3 σ = some (r, σ') → W p l e rm_X7_forecast s m args below meth c H locs 0 0 (MQ below (sr_Qc D aC shC n0 σ' (some (.int r))) args s 0 0 (sr_A shC n0)) (F0 m 47 ls []) := by
  intro x3 σ H locs ls  hl hV hf
  have hx := hX.1.1
  have hb := hX.1.2.1
  unfold f_X7_forecast_L47 at hf
  refine lv_iload_n hx hb dX7_forecast_47 rfl (lv_at hl 2 rfl) ?_
  refine lv_sipush (v := 400) hx hb dX7_forecast_48 (by decide) ?_
  refine lv_icmp_gt (tgt := 80) hx hb dX7_forecast_51 (by decide) (fun c1 => ?_) (fun c1 => ?_)
  · have hf := sr_t hf c1
    refine lv_bipush (v := (-15)) hx hb dX7_forecast_80 (by decide) ?_
    cases hf
    exact s_iret hX hV dX7_forecast_82
  · have hf := sr_f hf c1
    refine lv_aload_n hx hb dX7_forecast_54 rfl (lv_at hl 0 rfl) ?_
    refine fg_7_1 hX hV lk_217 (h0) dX7_forecast_55 ?_
    refine lv_iload_n hx hb dX7_forecast_58 rfl (lv_at hl 1 rfl) ?_
    obtain ⟨v3, e2, hf⟩ := sr_obd hf
    refine s_callV1 (ci := 1) hX hV hl.1 (c_X1_isOver (ch_7_1 (h0)) e2) cv_X1_isOver lk_610 ⟨rfl, rfl, Nat.le_of_ble_eq_true rfl, Nat.le_of_ble_eq_true rfl⟩ rfl (by decide) (ch_7_1 (h0)) rfl rfl (Nat.le_of_ble_eq_true rfl) dX7_forecast_59 ⟨Nat.le_of_ble_eq_true rfl, Nat.le_of_ble_eq_true rfl⟩ (fun H locs hV => ?_)
    refine lv_if_eq (tgt := 67) hx hb dX7_forecast_62 (by decide) (fun c4 => ?_) (fun c4 => ?_)
    · have hf := sr_f hf (sr_b0 c4)
      refine lv_aload_n hx hb dX7_forecast_67 rfl (lv_at hl 0 rfl) ?_
      refine fg_7_1 hX hV lk_217 (h0) dX7_forecast_68 ?_
      obtain ⟨σ6, e5, hf⟩ := sr_obd hf
      refine s_callV0 (ci := 1) hX hV hl.1 (c_X1_passHour (ch_7_1 (h0)) e5) cv_X1_passHour lk_474 ⟨rfl, rfl, Nat.le_of_ble_eq_true rfl, Nat.le_of_ble_eq_true rfl⟩ rfl (by decide) (ch_7_1 (h0)) rfl rfl (Nat.le_of_ble_eq_true rfl) dX7_forecast_71 ⟨Nat.le_of_ble_eq_true rfl, Nat.le_of_ble_eq_true rfl⟩ (fun H locs hV => ?_)
      obtain ⟨v7, e8, hf⟩ := sr_bnd hf
      refine lv_iinc (v := v7) (lv' := [(3, .int v7), (0, .ref (n0 + q0)), (1, .int x1)]) hx hb dX7_forecast_74 hl (k := 2) rfl (by rw [← e8]; rfl) (by decide) rfl (fun ls hl => ?_)
      refine lv_goto (tgt := 47) hx hb dX7_forecast_77 (by decide) ?_
      exact hrec47 _ _ _ _ _  (lv_sub hl [1, 2, 0] rfl) hV hf
    · have hf := sr_t hf (sr_b1 c4)
      refine lv_iload_n hx hb dX7_forecast_65 rfl (lv_at hl 2 rfl) ?_
      cases hf
      exact s_iret hX hV dX7_forecast_66
set_option maxHeartbeats 4000000 in
set_option maxRecDepth 100000 in
theorem k_X7_forecast_L47w {p : Program} {l : Launch} {e : Env} {s : State} {m : MethodId} {args : Array Value} {below : List Frame} {meth : Method} {c : Code} {D : va_G} {aC : Nat → ClassId} {n0 : Nat} {r : Int32} {σ' : St} {q0 : Nat} {x1 : Int32} (hX : sr_X p s m args meth c cX7_forecast 4 (Option.some FieldType.int) RX7 D aC) (h0 : shC q0 = 8) (n : Nat) : ∀ (x3 : Int32) (σ : St) (H : Heap) (locs : List Loc) (ls : Array Slot) , lv_has ls 4 [(0, .ref (n0 + q0)), (1, .int x1), (3, .int x3)] → sr_V D aC shC n0 σ s.heap H locs → it2 (f_X7_forecast_L47 q0 x1) n x3 σ = some (r, σ') → W p l e rm_X7_forecast s m args below meth c H locs 0 0 (MQ below (sr_Qc D aC shC n0 σ' (some (.int r))) args s 0 0 (sr_A shC n0)) (F0 m 47 ls []) :=
  it2_ind (fun rec47 => ∀ (x3 : Int32) (σ : St) (H : Heap) (locs : List Loc) (ls : Array Slot) , lv_has ls 4 [(0, .ref (n0 + q0)), (1, .int x1), (3, .int x3)] → sr_V D aC shC n0 σ s.heap H locs → rec47 x3 σ = some (r, σ') → W p l e rm_X7_forecast s m args below meth c H locs 0 0 (MQ below (sr_Qc D aC shC n0 σ' (some (.int r))) args s 0 0 (sr_A shC n0)) (F0 m 47 ls [])) (by intros; rename_i hf; exact absurd hf (by simp)) (fun rec hrec => k_X7_forecast_L47 hX h0  rec hrec) n
set_option maxHeartbeats 4000000 in
set_option maxRecDepth 100000 in
theorem c_X7_forecast {l : Launch} {D : va_G} {aC : Nat → ClassId} {n0 : Nat} {r : Int32} {σ' : St}  {σ : St} {q0 : Nat} {x1 : Int32} (h0 : shC q0 = 8) (hf : f_X7_forecast q0 x1 σ = some (r, σ')) : sr_Met l D aC shC n0 yX7_forecast cX7_forecast 4 (Option.some FieldType.int) rm_X7_forecast [.ref (n0 + q0), .int x1] σ (some (.int r)) σ' := by
  refine s_met (own := RX7) (by decide) (Nat.le_of_ble_eq_true rfl) rfl ?_
  intro p e s m below meth c ls hX hV hl
  have hl : lv_has ls 4 [(0, .ref (n0 + q0)), (1, .int x1)] := hl
  have hx := hX.1.1
  have hb := hX.1.2.1
  unfold f_X7_forecast at hf
  refine lv_aload_n hx hb dX7_forecast_0 rfl (lv_at hl 0 rfl) ?_
  refine fg_7_0 hX hV lk_216 (h0) dX7_forecast_1 ?_
  refine lv_iload_n hx hb dX7_forecast_4 rfl (lv_at hl 1 rfl) ?_
  obtain ⟨v10, e9, hf⟩ := sr_obd hf
  refine s_callV1 (ci := 1) hX hV hl.1 (c_X1_find (ch_7_0 (h0)) e9) cv_X1_find lk_283 ⟨rfl, rfl, Nat.le_of_ble_eq_true rfl, Nat.le_of_ble_eq_true rfl⟩ rfl (by decide) (ch_7_0 (h0)) rfl rfl (Nat.le_of_ble_eq_true rfl) dX7_forecast_5 ⟨Nat.le_of_ble_eq_true rfl, Nat.le_of_ble_eq_true rfl⟩ (fun H locs hV => ?_)
  rcases v10 with _ | q11
  · have hf := sr_on hf
    refine lv_astore_nN (lv' := [(2, .null), (0, .ref (n0 + q0)), (1, .int x1)]) hx hb dX7_forecast_8 rfl hl (by decide) rfl (fun ls hl => ?_)
    refine lv_aload_nN hx hb dX7_forecast_9 rfl (lv_at hl 0 rfl) ?_
    refine lv_ifnonnullN hx hb dX7_forecast_10 ?_
    refine lv_bipush (v := (-11)) hx hb dX7_forecast_13 (by decide) ?_
    cases hf
    exact s_iret hX hV dX7_forecast_15
  · have hf := sr_os hf
    obtain ⟨g12, hf⟩ := sr_gd hf
    refine lv_astore_n (lv' := [(2, .ref (n0 + q11)), (0, .ref (n0 + q0)), (1, .int x1)]) hx hb dX7_forecast_8 rfl hl (by decide) rfl (fun ls hl => ?_)
    refine lv_aload_n hx hb dX7_forecast_9 rfl (lv_at hl 0 rfl) ?_
    refine lv_ifnonnull (tgt := 16) hx hb dX7_forecast_10 (by decide) ?_
    refine lv_aload_n hx hb dX7_forecast_16 rfl (lv_at hl 0 rfl) ?_
    refine fg_0_5 hX hV lk_94 (g12) dX7_forecast_17 ?_
    refine lv_if_eq (tgt := 31) hx hb dX7_forecast_20 (by decide) (fun c13 => ?_) (fun c13 => ?_)
    · have hf := sr_t hf c13
      refine lv_bipush (v := (-15)) hx hb dX7_forecast_31 (by decide) ?_
      cases hf
      exact s_iret hX hV dX7_forecast_33
    · have hf := sr_f hf c13
      refine lv_aload_n hx hb dX7_forecast_23 rfl (lv_at hl 0 rfl) ?_
      refine fg_0_5 hX hV lk_94 (g12) dX7_forecast_24 ?_
      refine lv_iconst (v := 2) hx hb dX7_forecast_27 (by decide) ?_
      refine lv_icmp_ne (tgt := 34) hx hb dX7_forecast_28 (by decide) (fun c14 => ?_) (fun c14 => ?_)
      · have hf := sr_f hf c14
        refine lv_aload_n hx hb dX7_forecast_34 rfl (lv_at hl 1 rfl) ?_
        refine fg_7_1 hX hV lk_217 (h0) dX7_forecast_35 ?_
        refine lv_aload_n hx hb dX7_forecast_38 rfl (lv_at hl 1 rfl) ?_
        refine fg_7_0 hX hV lk_216 (h0) dX7_forecast_39 ?_
        obtain ⟨σ16, e15, hf⟩ := sr_obd hf
        refine s_callV0 (ci := 1) hX hV hl.1 (c_X1_copyFrom (ch_7_1 (h0)) (ch_7_0 (h0)) e15) cv_X1_copyFrom lk_586 ⟨rfl, rfl, Nat.le_of_ble_eq_true rfl, Nat.le_of_ble_eq_true rfl⟩ rfl (by decide) (ch_7_1 (h0)) rfl rfl (Nat.le_of_ble_eq_true rfl) dX7_forecast_42 ⟨Nat.le_of_ble_eq_true rfl, Nat.le_of_ble_eq_true rfl⟩ (fun H locs hV => ?_)
        refine lv_iconst (v := 0) hx hb dX7_forecast_45 (by decide) ?_
        refine lv_istore_n (lv' := [(3, .int 0), (2, .ref (n0 + q11)), (0, .ref (n0 + q0)), (1, .int x1)]) hx hb dX7_forecast_46 rfl hl (by decide) rfl (fun ls hl => ?_)
        exact k_X7_forecast_L47w hX h0  sr_fuel _ _ _ _ _  (lv_sub hl [2, 3, 0] rfl) hV hf
      · have hf := sr_t hf c14
        refine lv_bipush (v := (-15)) hx hb dX7_forecast_31 (by decide) ?_
        cases hf
        exact s_iret hX hV dX7_forecast_33
abbrev rm_X7_entries : Room := { frames := 0, cells := 0, slots := 0, locals := 0 }
theorem cv_X7_entries : sr_Cv yX7_entries cX7_entries 1 (Option.some FieldType.int) RX7 0 := ⟨lk_618, lk_616, lk_617, lk_1, rfl, by decide +kernel, by decide +kernel, by decide +kernel⟩
set_option maxHeartbeats 4000000 in
set_option maxRecDepth 100000 in
theorem c_X7_entries {l : Launch} {D : va_G} {aC : Nat → ClassId} {n0 : Nat} {r : Int32} {σ : St}  {q0 : Nat} (h0 : shC q0 = 8) (hf : f_X7_entries q0 σ = r) : sr_Met l D aC shC n0 yX7_entries cX7_entries 1 (Option.some FieldType.int) rm_X7_entries [.ref (n0 + q0)] σ (some (.int r)) σ := by
  refine s_met (own := RX7) (by decide) (Nat.le_of_ble_eq_true rfl) rfl ?_
  intro p e s m below meth c ls hX hV hl
  have hl : lv_has ls 1 [(0, .ref (n0 + q0))] := hl
  have hx := hX.1.1
  have hb := hX.1.2.1
  unfold f_X7_entries at hf
  refine lv_aload_n hx hb dX7_entries_0 rfl (lv_at hl 0 rfl) ?_
  refine fg_7_0 hX hV lk_216 (h0) dX7_entries_1 ?_
  refine fg_1_2 hX hV lk_162 (ch_7_0 (h0)) dX7_entries_4 ?_
  refine fg_3_2 hX hV lk_146 (ch_1_2 (ch_7_0 (h0))) dX7_entries_7 ?_
  cases hf
  exact s_iret hX hV dX7_entries_10
abbrev rm_X7_entry : Room := { frames := 2, cells := 0, slots := 0, locals := 45 }
theorem cv_X7_entry : sr_Cv yX7_entry cX7_entry 3 (Option.some FieldType.int) RX7 2 := ⟨lk_622, lk_620, lk_621, lk_1, rfl, by decide +kernel, by decide +kernel, by decide +kernel⟩
set_option maxHeartbeats 4000000 in
set_option maxRecDepth 100000 in
theorem c_X7_entry {l : Launch} {D : va_G} {aC : Nat → ClassId} {n0 : Nat} {r : Int32} {σ : St}  {q0 : Nat} {x1 : Int32} {x2 : Int32} (h0 : shC q0 = 8) (hf : f_X7_entry q0 x1 x2 σ = some r) : sr_Met l D aC shC n0 yX7_entry cX7_entry 3 (Option.some FieldType.int) rm_X7_entry [.ref (n0 + q0), .int x1, .int x2] σ (some (.int r)) σ := by
  refine s_met (own := RX7) (by decide) (Nat.le_of_ble_eq_true rfl) rfl ?_
  intro p e s m below meth c ls hX hV hl
  have hl : lv_has ls 3 [(0, .ref (n0 + q0)), (1, .int x1), (2, .int x2)] := hl
  have hx := hX.1.1
  have hb := hX.1.2.1
  unfold f_X7_entry at hf
  refine lv_iload_n hx hb dX7_entry_0 rfl (lv_at hl 1 rfl) ?_
  refine lv_iconst (v := 0) hx hb dX7_entry_1 (by decide) ?_
  refine lv_aload_n hx hb dX7_entry_2 rfl (lv_at hl 0 rfl) ?_
  refine fg_7_0 hX hV lk_216 (h0) dX7_entry_3 ?_
  refine fg_1_2 hX hV lk_162 (ch_7_0 (h0)) dX7_entry_6 ?_
  refine fg_3_2 hX hV lk_146 (ch_1_2 (ch_7_0 (h0))) dX7_entry_9 ?_
  refine lv_iconst (v := 1) hx hb dX7_entry_12 (by decide) ?_
  refine lv_isub hx hb dX7_entry_13 ?_
  obtain ⟨v2, e1, hf⟩ := sr_bnd hf
  refine s_callS1 hX hV hl.1 (c_X7_isWithin  e1) cs_X7_isWithin lk_236 ⟨rfl, rfl, Nat.le_of_ble_eq_true rfl, Nat.le_of_ble_eq_true rfl⟩ rfl rfl (Nat.le_of_ble_eq_true rfl) dX7_entry_14 ⟨Nat.le_of_ble_eq_true rfl, Nat.le_of_ble_eq_true rfl⟩ (fun H locs hV => ?_)
  refine lv_if_ne (tgt := 23) hx hb dX7_entry_17 (by decide) (fun c3 => ?_) (fun c3 => ?_)
  · have hf := sr_t hf (sr_b1 c3)
    refine lv_iload_n hx hb dX7_entry_23 rfl (lv_at hl 2 rfl) ?_
    refine lv_iconst (v := 0) hx hb dX7_entry_24 (by decide) ?_
    refine lv_iconst (v := 3) hx hb dX7_entry_25 (by decide) ?_
    obtain ⟨v5, e4, hf⟩ := sr_bnd hf
    refine s_callS1 hX hV hl.1 (c_X7_isWithin  e4) cs_X7_isWithin lk_236 ⟨rfl, rfl, Nat.le_of_ble_eq_true rfl, Nat.le_of_ble_eq_true rfl⟩ rfl rfl (Nat.le_of_ble_eq_true rfl) dX7_entry_26 ⟨Nat.le_of_ble_eq_true rfl, Nat.le_of_ble_eq_true rfl⟩ (fun H locs hV => ?_)
    refine lv_if_ne (tgt := 35) hx hb dX7_entry_29 (by decide) (fun c6 => ?_) (fun c6 => ?_)
    · have hf := sr_t hf (sr_b1 c6)
      refine lv_aload_n hx hb dX7_entry_35 rfl (lv_at hl 0 rfl) ?_
      refine fg_7_0 hX hV lk_216 (h0) dX7_entry_36 ?_
      refine fg_1_2 hX hV lk_162 (ch_7_0 (h0)) dX7_entry_39 ?_
      refine lv_iload_n hx hb dX7_entry_42 rfl (lv_at hl 1 rfl) ?_
      refine lv_iload_n hx hb dX7_entry_43 rfl (lv_at hl 2 rfl) ?_
      obtain ⟨v8, e7, hf⟩ := sr_obd hf
      refine s_callV1 (ci := 3) hX hV hl.1 (c_X3_number (ch_1_2 (ch_7_0 (h0))) e7) cv_X3_number lk_623 ⟨rfl, rfl, Nat.le_of_ble_eq_true rfl, Nat.le_of_ble_eq_true rfl⟩ rfl (by decide) (ch_1_2 (ch_7_0 (h0))) rfl rfl (Nat.le_of_ble_eq_true rfl) dX7_entry_44 ⟨Nat.le_of_ble_eq_true rfl, Nat.le_of_ble_eq_true rfl⟩ (fun H locs hV => ?_)
      cases hf
      exact s_iret hX hV dX7_entry_47
    · have hf := sr_f hf (sr_b0 c6)
      refine lv_bipush (v := (-12)) hx hb dX7_entry_32 (by decide) ?_
      cases hf
      exact s_iret hX hV dX7_entry_34
  · have hf := sr_f hf (sr_b0 c3)
    refine lv_bipush (v := (-11)) hx hb dX7_entry_20 (by decide) ?_
    cases hf
    exact s_iret hX hV dX7_entry_22
abbrev rm_X7_count : Room := { frames := 3, cells := 0, slots := 0, locals := 70 }
theorem cv_X7_count : sr_Cv yX7_count cX7_count 3 (Option.some FieldType.int) RX7 2 := ⟨lk_630, lk_628, lk_629, lk_1, rfl, by decide +kernel, by decide +kernel, by decide +kernel⟩
set_option maxHeartbeats 4000000 in
set_option maxRecDepth 100000 in
theorem c_X7_count {l : Launch} {D : va_G} {aC : Nat → ClassId} {n0 : Nat} {r : Int32} {σ : St}  {q0 : Nat} {x1 : Int32} {x2 : Int32} (h0 : shC q0 = 8) (hf : f_X7_count q0 x1 x2 σ = some r) : sr_Met l D aC shC n0 yX7_count cX7_count 3 (Option.some FieldType.int) rm_X7_count [.ref (n0 + q0), .int x1, .int x2] σ (some (.int r)) σ := by
  refine s_met (own := RX7) (by decide) (Nat.le_of_ble_eq_true rfl) rfl ?_
  intro p e s m below meth c ls hX hV hl
  have hl : lv_has ls 3 [(0, .ref (n0 + q0)), (1, .int x1), (2, .int x2)] := hl
  have hx := hX.1.1
  have hb := hX.1.2.1
  unfold f_X7_count at hf
  refine lv_iload_n hx hb dX7_count_0 rfl (lv_at hl 1 rfl) ?_
  refine lv_iconst (v := 1) hx hb dX7_count_1 (by decide) ?_
  refine lv_bipush (v := 7) hx hb dX7_count_2 (by decide) ?_
  obtain ⟨v2, e1, hf⟩ := sr_bnd hf
  refine s_callS1 hX hV hl.1 (c_X7_isWithin  e1) cs_X7_isWithin lk_236 ⟨rfl, rfl, Nat.le_of_ble_eq_true rfl, Nat.le_of_ble_eq_true rfl⟩ rfl rfl (Nat.le_of_ble_eq_true rfl) dX7_count_4 ⟨Nat.le_of_ble_eq_true rfl, Nat.le_of_ble_eq_true rfl⟩ (fun H locs hV => ?_)
  refine lv_if_ne (tgt := 13) hx hb dX7_count_7 (by decide) (fun c3 => ?_) (fun c3 => ?_)
  · have hf := sr_t hf (sr_b1 c3)
    refine lv_iload_n hx hb dX7_count_13 rfl (lv_at hl 2 rfl) ?_
    refine lv_iconst (v := (-1)) hx hb dX7_count_14 (by decide) ?_
    refine lv_aload_n hx hb dX7_count_15 rfl (lv_at hl 0 rfl) ?_
    refine fg_7_0 hX hV lk_216 (h0) dX7_count_16 ?_
    refine fg_1_4 hX hV lk_165 (ch_7_0 (h0)) dX7_count_19 ?_
    refine lv_iconst (v := 1) hx hb dX7_count_22 (by decide) ?_
    refine lv_isub hx hb dX7_count_23 ?_
    obtain ⟨v5, e4, hf⟩ := sr_bnd hf
    refine s_callS1 hX hV hl.1 (c_X7_isWithin  e4) cs_X7_isWithin lk_236 ⟨rfl, rfl, Nat.le_of_ble_eq_true rfl, Nat.le_of_ble_eq_true rfl⟩ rfl rfl (Nat.le_of_ble_eq_true rfl) dX7_count_24 ⟨Nat.le_of_ble_eq_true rfl, Nat.le_of_ble_eq_true rfl⟩ (fun H locs hV => ?_)
    refine lv_if_ne (tgt := 33) hx hb dX7_count_27 (by decide) (fun c6 => ?_) (fun c6 => ?_)
    · have hf := sr_t hf (sr_b1 c6)
      refine lv_aload_n hx hb dX7_count_33 rfl (lv_at hl 0 rfl) ?_
      refine fg_7_0 hX hV lk_216 (h0) dX7_count_34 ?_
      refine fg_1_2 hX hV lk_162 (ch_7_0 (h0)) dX7_count_37 ?_
      refine lv_iload_n hx hb dX7_count_40 rfl (lv_at hl 1 rfl) ?_
      refine lv_iload_n hx hb dX7_count_41 rfl (lv_at hl 2 rfl) ?_
      obtain ⟨v8, e7, hf⟩ := sr_obd hf
      refine s_callV1 (ci := 3) hX hV hl.1 (c_X3_countOf (ch_1_2 (ch_7_0 (h0))) e7) cv_X3_countOf lk_631 ⟨rfl, rfl, Nat.le_of_ble_eq_true rfl, Nat.le_of_ble_eq_true rfl⟩ rfl (by decide) (ch_1_2 (ch_7_0 (h0))) rfl rfl (Nat.le_of_ble_eq_true rfl) dX7_count_42 ⟨Nat.le_of_ble_eq_true rfl, Nat.le_of_ble_eq_true rfl⟩ (fun H locs hV => ?_)
      cases hf
      exact s_iret hX hV dX7_count_45
    · have hf := sr_f hf (sr_b0 c6)
      refine lv_bipush (v := (-11)) hx hb dX7_count_30 (by decide) ?_
      cases hf
      exact s_iret hX hV dX7_count_32
  · have hf := sr_f hf (sr_b0 c3)
    refine lv_bipush (v := (-12)) hx hb dX7_count_10 (by decide) ?_
    cases hf
    exact s_iret hX hV dX7_count_12
abbrev rm_X7_save : Room := { frames := 4, cells := 0, slots := 0, locals := 94 }
theorem cv_X7_save : sr_Cv yX7_save cX7_save 2 (Option.some FieldType.int) RX7 1 := ⟨lk_639, lk_637, lk_638, lk_1, rfl, by decide +kernel, by decide +kernel, by decide +kernel⟩
set_option maxHeartbeats 4000000 in
set_option maxRecDepth 100000 in
theorem c_X7_save {l : Launch} {D : va_G} {aC : Nat → ClassId} {n0 : Nat} {r : Int32} {σ' : St}  {σ : St} {q0 : Nat} {x1 : Int32} (h0 : shC q0 = 8) (hf : f_X7_save q0 x1 σ = some (r, σ')) : sr_Met l D aC shC n0 yX7_save cX7_save 2 (Option.some FieldType.int) rm_X7_save [.ref (n0 + q0), .int x1] σ (some (.int r)) σ' := by
  refine s_met (own := RX7) (by decide) (Nat.le_of_ble_eq_true rfl) rfl ?_
  intro p e s m below meth c ls hX hV hl
  have hl : lv_has ls 2 [(0, .ref (n0 + q0)), (1, .int x1)] := hl
  have hx := hX.1.1
  have hb := hX.1.2.1
  unfold f_X7_save at hf
  refine lv_iload_n hx hb dX7_save_0 rfl (lv_at hl 1 rfl) ?_
  refine lv_iconst (v := 0) hx hb dX7_save_1 (by decide) ?_
  refine lv_iconst (v := 1) hx hb dX7_save_2 (by decide) ?_
  obtain ⟨v2, e1, hf⟩ := sr_bnd hf
  refine s_callS1 hX hV hl.1 (c_X7_isWithin  e1) cs_X7_isWithin lk_236 ⟨rfl, rfl, Nat.le_of_ble_eq_true rfl, Nat.le_of_ble_eq_true rfl⟩ rfl rfl (Nat.le_of_ble_eq_true rfl) dX7_save_3 ⟨Nat.le_of_ble_eq_true rfl, Nat.le_of_ble_eq_true rfl⟩ (fun H locs hV => ?_)
  refine lv_if_ne (tgt := 12) hx hb dX7_save_6 (by decide) (fun c3 => ?_) (fun c3 => ?_)
  · have hf := sr_t hf (sr_b1 c3)
    refine lv_aload_n hx hb dX7_save_12 rfl (lv_at hl 0 rfl) ?_
    refine fg_7_2 hX hV lk_218 (h0) dX7_save_13 ?_
    refine lv_iload_n hx hb dX7_save_16 rfl (lv_at hl 1 rfl) ?_
    obtain ⟨g4, hf⟩ := sr_gd hf
    refine s_fald hX hV (n := 2) (ch_7_2 (h0)) (by decide) (inb_in g4) dX7_save_17 ?_
    refine lv_aload_n hx hb dX7_save_18 rfl (lv_at hl 0 rfl) ?_
    refine fg_7_0 hX hV lk_216 (h0) dX7_save_19 ?_
    obtain ⟨σ6, e5, hf⟩ := sr_obd hf
    refine s_callV0 (ci := 1) hX hV hl.1 (c_X1_copyFrom (ch_slots (ch_7_2 (h0)) (vp_lt (inb_in g4))) (ch_7_0 (h0)) e5) cv_X1_copyFrom lk_586 ⟨rfl, rfl, Nat.le_of_ble_eq_true rfl, Nat.le_of_ble_eq_true rfl⟩ rfl (by decide) (ch_slots (ch_7_2 (h0)) (vp_lt (inb_in g4))) rfl rfl (Nat.le_of_ble_eq_true rfl) dX7_save_22 ⟨Nat.le_of_ble_eq_true rfl, Nat.le_of_ble_eq_true rfl⟩ (fun H locs hV => ?_)
    refine lv_aload_n hx hb dX7_save_25 rfl (lv_at hl 0 rfl) ?_
    refine fg_7_3 hX hV lk_219 (h0) dX7_save_26 ?_
    refine lv_iload_n hx hb dX7_save_29 rfl (lv_at hl 1 rfl) ?_
    refine lv_iconst (v := 1) hx hb dX7_save_30 (by decide) ?_
    obtain ⟨g7, hf⟩ := sr_gd hf
    obtain ⟨σ8, e9, hf⟩ := sr_bnd hf
    refine s_zast hX hV (n := 2) (b := true) (ch_7_3 (h0)) (by decide) (inb_in g7) dX7_save_31 (fun H locs hV => ?_)
    rw [e9] at hV
    refine lv_aload_n hx hb dX7_save_32 rfl (lv_at hl 0 rfl) ?_
    refine fg_7_0 hX hV lk_216 (h0) dX7_save_33 ?_
    refine fg_1_6 hX hV lk_169 (ch_7_0 (h0)) dX7_save_36 ?_
    cases hf
    exact s_iret hX hV dX7_save_39
  · have hf := sr_f hf (sr_b0 c3)
    refine lv_bipush (v := (-11)) hx hb dX7_save_9 (by decide) ?_
    cases hf
    exact s_iret hX hV dX7_save_11
