abbrev rm_X8_changes : Room := { frames := 0, cells := 0, slots := 0, locals := 0 }
theorem cv_X8_changes : sr_Cv yX8_changes cX8_changes 1 (Option.some FieldType.int) RX8 0 := ⟨lk_772, lk_770, lk_771, lk_9, rfl, by decide +kernel, by decide +kernel, by decide +kernel⟩
set_option maxHeartbeats 4000000 in
set_option maxRecDepth 100000 in
theorem c_X8_changes {l : Launch} {D : va_G} {aC : Nat → ClassId} {n0 : Nat} {r : Int32} {σ : St}  {q0 : Nat} (h0 : shM q0 = 9) (hf : f_X8_changes q0 σ = r) : sr_Met l D aC shM n0 yX8_changes cX8_changes 1 (Option.some FieldType.int) rm_X8_changes [.ref (n0 + q0)] σ (some (.int r)) σ := by
  refine s_met (own := RX8) (by decide) (Nat.le_of_ble_eq_true rfl) rfl ?_
  intro p e s m below meth c ls hX hV hl
  have hl : lv_has ls 1 [(0, .ref (n0 + q0))] := hl
  have hx := hX.1.1
  have hb := hX.1.2.1
  unfold f_X8_changes at hf
  refine lv_aload_n hx hb dX8_changes_0 rfl (lv_at hl 0 rfl) ?_
  refine fg_8_0 hX hV lk_666 (h0) dX8_changes_1 ?_
  refine lv_bipush (v := 10) hx hb dX8_changes_4 (by decide) ?_
  refine s_iald hX hV (n := 257) (ch_8_0 (h0)) (by decide) (by unfold vp_in; decide) dX8_changes_6 ?_
  cases hf
  exact s_iret hX hV dX8_changes_7
abbrev rm_X8_stage : Room := { frames := 2, cells := 0, slots := 0, locals := 43 }
theorem cv_X8_stage : sr_Cv yX8_stage cX8_stage 4 (Option.some FieldType.int) RX8 3 := ⟨lk_776, lk_774, lk_775, lk_9, rfl, by decide +kernel, by decide +kernel, by decide +kernel⟩
set_option maxHeartbeats 4000000 in
set_option maxRecDepth 100000 in
theorem c_X8_stage {l : Launch} {D : va_G} {aC : Nat → ClassId} {n0 : Nat} {r : Int32} {σ : St}  {q0 : Nat} {x1 : Int32} {x2 : Int32} {x3 : Int32} (h0 : shM q0 = 9) (hf : f_X8_stage q0 x1 x2 x3 σ = some r) : sr_Met l D aC shM n0 yX8_stage cX8_stage 4 (Option.some FieldType.int) rm_X8_stage [.ref (n0 + q0), .int x1, .int x2, .int x3] σ (some (.int r)) σ := by
  refine s_met (own := RX8) (by decide) (Nat.le_of_ble_eq_true rfl) rfl ?_
  intro p e s m below meth c ls hX hV hl
  have hl : lv_has ls 4 [(0, .ref (n0 + q0)), (1, .int x1), (2, .int x2), (3, .int x3)] := hl
  have hx := hX.1.1
  have hb := hX.1.2.1
  unfold f_X8_stage at hf
  refine lv_aload_n hx hb dX8_stage_0 rfl (lv_at hl 0 rfl) ?_
  refine lv_iload_n hx hb dX8_stage_1 rfl (lv_at hl 1 rfl) ?_
  obtain ⟨v2, e1, hf⟩ := sr_bnd hf
  refine s_callV1 (ci := 8) hX hV hl.1 (c_X8_isChange (h0) e1) cv_X8_isChange lk_747 ⟨rfl, rfl, Nat.le_of_ble_eq_true rfl, Nat.le_of_ble_eq_true rfl⟩ rfl (by decide) (h0) rfl rfl (Nat.le_of_ble_eq_true rfl) dX8_stage_2 ⟨Nat.le_of_ble_eq_true rfl, Nat.le_of_ble_eq_true rfl⟩ (fun H locs hV => ?_)
  refine lv_if_eq (tgt := 28) hx hb dX8_stage_5 (by decide) (fun c3 => ?_) (fun c3 => ?_)
  · have hf := sr_f hf (sr_b0 c3)
    refine lv_bipush (v := (-11)) hx hb dX8_stage_28 (by decide) ?_
    cases hf
    exact s_iret hX hV dX8_stage_30
  · have hf := sr_t hf (sr_b1 c3)
    refine lv_iload_n hx hb dX8_stage_8 rfl (lv_at hl 2 rfl) ?_
    refine lv_iconst (v := 0) hx hb dX8_stage_9 (by decide) ?_
    refine lv_aload_n hx hb dX8_stage_10 rfl (lv_at hl 0 rfl) ?_
    refine fg_8_0 hX hV lk_666 (h0) dX8_stage_11 ?_
    refine lv_iload_n hx hb dX8_stage_14 rfl (lv_at hl 1 rfl) ?_
    refine lv_iconst (v := 2) hx hb dX8_stage_15 (by decide) ?_
    obtain ⟨v5, e4, hf⟩ := sr_bnd hf
    refine s_callS1 hX hV hl.1 (c_X8_at  e4) cs_X8_at lk_740 ⟨rfl, rfl, Nat.le_of_ble_eq_true rfl, Nat.le_of_ble_eq_true rfl⟩ rfl rfl (Nat.le_of_ble_eq_true rfl) dX8_stage_16 ⟨Nat.le_of_ble_eq_true rfl, Nat.le_of_ble_eq_true rfl⟩ (fun H locs hV => ?_)
    obtain ⟨g6, hf⟩ := sr_gd hf
    refine s_iald hX hV (n := 257) (ch_8_0 (h0)) (by decide) (inb_in g6) dX8_stage_19 ?_
    refine lv_iconst (v := 1) hx hb dX8_stage_20 (by decide) ?_
    refine lv_isub hx hb dX8_stage_21 ?_
    obtain ⟨v8, e7, hf⟩ := sr_bnd hf
    refine s_callS1 hX hV hl.1 (c_X8_in  e7) cs_X8_in lk_717 ⟨rfl, rfl, Nat.le_of_ble_eq_true rfl, Nat.le_of_ble_eq_true rfl⟩ rfl rfl (Nat.le_of_ble_eq_true rfl) dX8_stage_22 ⟨Nat.le_of_ble_eq_true rfl, Nat.le_of_ble_eq_true rfl⟩ (fun H locs hV => ?_)
    refine lv_if_ne (tgt := 31) hx hb dX8_stage_25 (by decide) (fun c9 => ?_) (fun c9 => ?_)
    · have hf := sr_t hf (sr_b1 c9)
      refine lv_iload_n hx hb dX8_stage_31 rfl (lv_at hl 3 rfl) ?_
      refine lv_iconst (v := 0) hx hb dX8_stage_32 (by decide) ?_
      refine lv_iconst (v := 2) hx hb dX8_stage_33 (by decide) ?_
      obtain ⟨v11, e10, hf⟩ := sr_bnd hf
      refine s_callS1 hX hV hl.1 (c_X8_in  e10) cs_X8_in lk_717 ⟨rfl, rfl, Nat.le_of_ble_eq_true rfl, Nat.le_of_ble_eq_true rfl⟩ rfl rfl (Nat.le_of_ble_eq_true rfl) dX8_stage_34 ⟨Nat.le_of_ble_eq_true rfl, Nat.le_of_ble_eq_true rfl⟩ (fun H locs hV => ?_)
      refine lv_if_eq (tgt := 54) hx hb dX8_stage_37 (by decide) (fun c12 => ?_) (fun c12 => ?_)
      · have hf := sr_f hf (sr_b0 c12)
        refine lv_bipush (v := (-12)) hx hb dX8_stage_54 (by decide) ?_
        cases hf
        exact s_iret hX hV dX8_stage_56
      · have hf := sr_t hf (sr_b1 c12)
        refine lv_aload_n hx hb dX8_stage_40 rfl (lv_at hl 0 rfl) ?_
        refine fg_8_0 hX hV lk_666 (h0) dX8_stage_41 ?_
        refine lv_iload_n hx hb dX8_stage_44 rfl (lv_at hl 1 rfl) ?_
        refine lv_iload_n hx hb dX8_stage_45 rfl (lv_at hl 2 rfl) ?_
        refine lv_iload_n hx hb dX8_stage_46 rfl (lv_at hl 3 rfl) ?_
        obtain ⟨v14, e13, hf⟩ := sr_bnd hf
        refine s_callS1 hX hV hl.1 (c_X8_stageAt  e13) cs_X8_stageAt lk_755 ⟨rfl, rfl, Nat.le_of_ble_eq_true rfl, Nat.le_of_ble_eq_true rfl⟩ rfl rfl (Nat.le_of_ble_eq_true rfl) dX8_stage_47 ⟨Nat.le_of_ble_eq_true rfl, Nat.le_of_ble_eq_true rfl⟩ (fun H locs hV => ?_)
        obtain ⟨g15, hf⟩ := sr_gd hf
        refine s_iald hX hV (n := 257) (ch_8_0 (h0)) (by decide) (inb_in g15) dX8_stage_50 ?_
        refine lv_goto (tgt := 56) hx hb dX8_stage_51 (by decide) ?_
        cases hf
        exact s_iret hX hV dX8_stage_56
    · have hf := sr_f hf (sr_b0 c9)
      refine lv_bipush (v := (-11)) hx hb dX8_stage_28 (by decide) ?_
      cases hf
      exact s_iret hX hV dX8_stage_30
abbrev rm_X8_append : Room := { frames := 1, cells := 0, slots := 0, locals := 22 }
theorem cv_X8_append : sr_Cv yX8_append cX8_append 2 (Option.some FieldType.int) RX8 1 := ⟨lk_780, lk_778, lk_779, lk_9, rfl, by decide +kernel, by decide +kernel, by decide +kernel⟩
set_option maxHeartbeats 4000000 in
set_option maxRecDepth 100000 in
theorem c_X8_append {l : Launch} {D : va_G} {aC : Nat → ClassId} {n0 : Nat} {r : Int32} {σ' : St}  {σ : St} {q0 : Nat} {x1 : Int32} (h0 : shM q0 = 9) (hf : f_X8_append q0 x1 σ = some (r, σ')) : sr_Met l D aC shM n0 yX8_append cX8_append 2 (Option.some FieldType.int) rm_X8_append [.ref (n0 + q0), .int x1] σ (some (.int r)) σ' := by
  refine s_met (own := RX8) (by decide) (Nat.le_of_ble_eq_true rfl) rfl ?_
  intro p e s m below meth c ls hX hV hl
  have hl : lv_has ls 2 [(0, .ref (n0 + q0)), (1, .int x1)] := hl
  have hx := hX.1.1
  have hb := hX.1.2.1
  unfold f_X8_append at hf
  refine lv_iload_n hx hb dX8_append_0 rfl (lv_at hl 1 rfl) ?_
  refine lv_iconst (v := 0) hx hb dX8_append_1 (by decide) ?_
  refine lv_bipush (v := 127) hx hb dX8_append_2 (by decide) ?_
  obtain ⟨v2, e1, hf⟩ := sr_bnd hf
  refine s_callS1 hX hV hl.1 (c_X8_in  e1) cs_X8_in lk_717 ⟨rfl, rfl, Nat.le_of_ble_eq_true rfl, Nat.le_of_ble_eq_true rfl⟩ rfl rfl (Nat.le_of_ble_eq_true rfl) dX8_append_4 ⟨Nat.le_of_ble_eq_true rfl, Nat.le_of_ble_eq_true rfl⟩ (fun H locs hV => ?_)
  refine lv_if_ne (tgt := 13) hx hb dX8_append_7 (by decide) (fun c3 => ?_) (fun c3 => ?_)
  · have hf := sr_t hf (sr_b1 c3)
    refine lv_aload_n hx hb dX8_append_13 rfl (lv_at hl 0 rfl) ?_
    refine fg_8_5 hX hV lk_671 (h0) dX8_append_14 ?_
    refine lv_bipush (v := 60) hx hb dX8_append_17 (by decide) ?_
    refine lv_icmp_ne (tgt := 25) hx hb dX8_append_19 (by decide) (fun c4 => ?_) (fun c4 => ?_)
    · have hf := sr_f hf c4
      refine lv_aload_n hx hb dX8_append_25 rfl (lv_at hl 0 rfl) ?_
      refine fg_8_4 hX hV lk_670 (h0) dX8_append_26 ?_
      refine lv_aload_n hx hb dX8_append_29 rfl (lv_at hl 0 rfl) ?_
      refine fg_8_5 hX hV lk_671 (h0) dX8_append_30 ?_
      refine lv_iload_n hx hb dX8_append_33 rfl (lv_at hl 1 rfl) ?_
      obtain ⟨v5, e6, hf⟩ := sr_bnd hf
      rw [e6]
      obtain ⟨g7, hf⟩ := sr_gd hf
      obtain ⟨σ8, e9, hf⟩ := sr_bnd hf
      refine s_iast hX hV (n := 60) (ch_8_4 (h0)) (by decide) (inb_in g7) dX8_append_34 (fun H locs hV => ?_)
      rw [e9] at hV
      refine lv_aload_n hx hb dX8_append_35 rfl (lv_at hl 0 rfl) ?_
      refine lv_dup hx hb dX8_append_36 rfl ?_
      refine fg_8_5 hX hV lk_671 (h0) dX8_append_37 ?_
      refine lv_iconst (v := 1) hx hb dX8_append_40 (by decide) ?_
      refine lv_iadd hx hb dX8_append_41 ?_
      obtain ⟨σ10, e11, hf⟩ := sr_bnd hf
      refine fp_8_5 (x := ((gI σ8 q0 5) + 1)) hX hV lk_671 (h0) dX8_append_42 (fun H locs hV => ?_)
      rw [e11] at hV
      refine lv_aload_n hx hb dX8_append_45 rfl (lv_at hl 0 rfl) ?_
      refine fg_8_5 hX hV lk_671 (h0) dX8_append_46 ?_
      cases hf
      exact s_iret hX hV dX8_append_49
    · have hf := sr_t hf c4
      refine lv_bipush (v := (-14)) hx hb dX8_append_22 (by decide) ?_
      cases hf
      exact s_iret hX hV dX8_append_24
  · have hf := sr_f hf (sr_b0 c3)
    refine lv_bipush (v := (-12)) hx hb dX8_append_10 (by decide) ?_
    cases hf
    exact s_iret hX hV dX8_append_12
abbrev rm_X8_clearText : Room := { frames := 0, cells := 0, slots := 0, locals := 0 }
theorem cv_X8_clearText : sr_Cv yX8_clearText cX8_clearText 2 (Option.some FieldType.int) RX8 0 := ⟨lk_784, lk_782, lk_783, lk_9, rfl, by decide +kernel, by decide +kernel, by decide +kernel⟩
set_option maxHeartbeats 4000000 in
set_option maxRecDepth 100000 in
theorem c_X8_clearText {l : Launch} {D : va_G} {aC : Nat → ClassId} {n0 : Nat} {r : Int32} {σ' : St}  {σ : St} {q0 : Nat} (h0 : shM q0 = 9) (hf : f_X8_clearText q0 σ = (r, σ')) : sr_Met l D aC shM n0 yX8_clearText cX8_clearText 2 (Option.some FieldType.int) rm_X8_clearText [.ref (n0 + q0)] σ (some (.int r)) σ' := by
  refine s_met (own := RX8) (by decide) (Nat.le_of_ble_eq_true rfl) rfl ?_
  intro p e s m below meth c ls hX hV hl
  have hl : lv_has ls 2 [(0, .ref (n0 + q0))] := hl
  have hx := hX.1.1
  have hb := hX.1.2.1
  unfold f_X8_clearText at hf
  refine lv_aload_n hx hb dX8_clearText_0 rfl (lv_at hl 0 rfl) ?_
  refine fg_8_5 hX hV lk_671 (h0) dX8_clearText_1 ?_
  obtain ⟨v1, e2, hf⟩ := sr_bnd hf
  rw [e2]
  refine lv_istore_n (lv' := [(1, .int v1), (0, .ref (n0 + q0))]) hx hb dX8_clearText_4 rfl hl (by decide) rfl (fun ls hl => ?_)
  refine lv_aload_n hx hb dX8_clearText_5 rfl (lv_at hl 1 rfl) ?_
  refine lv_iconst (v := 0) hx hb dX8_clearText_6 (by decide) ?_
  obtain ⟨σ3, e4, hf⟩ := sr_bnd hf
  refine fp_8_5 (x := 0) hX hV lk_671 (h0) dX8_clearText_7 (fun H locs hV => ?_)
  rw [e4] at hV
  refine lv_iload_n hx hb dX8_clearText_10 rfl (lv_at hl 0 rfl) ?_
  cases hf
  exact s_iret hX hV dX8_clearText_11
abbrev rm_X8_here : Room := { frames := 0, cells := 0, slots := 0, locals := 0 }
theorem cv_X8_here : sr_Cv yX8_here cX8_here 1 (Option.some FieldType.int) RX8 0 := ⟨lk_808, lk_807, lp_25, lk_9, rfl, by decide +kernel, by decide +kernel, by decide +kernel⟩
set_option maxHeartbeats 4000000 in
set_option maxRecDepth 100000 in
theorem c_X8_here {l : Launch} {D : va_G} {aC : Nat → ClassId} {n0 : Nat} {r : Int32} {σ : St}  {q0 : Nat} (h0 : shM q0 = 9) (hf : f_X8_here q0 σ = some r) : sr_Met l D aC shM n0 yX8_here cX8_here 1 (Option.some FieldType.int) rm_X8_here [.ref (n0 + q0)] σ (some (.int r)) σ := by
  refine s_met (own := RX8) (by decide) (Nat.le_of_ble_eq_true rfl) rfl ?_
  intro p e s m below meth c ls hX hV hl
  have hl : lv_has ls 1 [(0, .ref (n0 + q0))] := hl
  have hx := hX.1.1
  have hb := hX.1.2.1
  unfold f_X8_here at hf
  refine lv_aload_n hx hb dX8_here_0 rfl (lv_at hl 0 rfl) ?_
  refine fg_8_8 hX hV lk_674 (h0) dX8_here_1 ?_
  refine lv_aload_n hx hb dX8_here_4 rfl (lv_at hl 0 rfl) ?_
  refine fg_8_5 hX hV lk_671 (h0) dX8_here_5 ?_
  refine lv_icmp_ge (tgt := 23) hx hb dX8_here_8 (by decide) (fun c1 => ?_) (fun c1 => ?_)
  · have hf := sr_t hf c1
    refine lv_iconst (v := (-1)) hx hb dX8_here_23 (by decide) ?_
    cases hf
    exact s_iret hX hV dX8_here_24
  · have hf := sr_f hf c1
    refine lv_aload_n hx hb dX8_here_11 rfl (lv_at hl 0 rfl) ?_
    refine fg_8_4 hX hV lk_670 (h0) dX8_here_12 ?_
    refine lv_aload_n hx hb dX8_here_15 rfl (lv_at hl 0 rfl) ?_
    refine fg_8_8 hX hV lk_674 (h0) dX8_here_16 ?_
    obtain ⟨v2, e3, hf⟩ := sr_bnd hf
    rw [e3]
    obtain ⟨g4, hf⟩ := sr_gd hf
    refine s_iald hX hV (n := 60) (ch_8_4 (h0)) (by decide) (inb_in g4) dX8_here_19 ?_
    refine lv_goto (tgt := 24) hx hb dX8_here_20 (by decide) ?_
    cases hf
    exact s_iret hX hV dX8_here_24
abbrev rm_X8_takes : Room := { frames := 1, cells := 0, slots := 0, locals := 20 }
theorem cv_X8_takes : sr_Cv yX8_takes cX8_takes 3 (Option.some FieldType.boolean) RX8 1 := ⟨lk_816, lk_815, lp_27, lk_9, rfl, by decide +kernel, by decide +kernel, by decide +kernel⟩
set_option maxHeartbeats 4000000 in
set_option maxRecDepth 100000 in
theorem k_X8_takes_B13 {p : Program} {l : Launch} {e : Env} {s : State} {m : MethodId} {args : Array Value} {below : List Frame} {meth : Method} {c : Code} {D : va_G} {aC : Nat → ClassId} {n0 : Nat} {r : Bool} {σ' : St} {q0 : Nat} {x1 : Int32} {σ : St} (hX : sr_X p s m args meth c cX8_takes 3 (Option.some FieldType.boolean) RX8 D aC) (h0 : shM q0 = 9) {sb0 : Bool}  {H : Heap} {locs : List Loc} {ls : Array Slot} (hl : lv_has ls 3 [(0, .ref (n0 + q0))]) (hV : sr_V D aC shM n0 σ s.heap H locs) (hf : f_X8_takes_B13 q0 x1 sb0 σ = some (r, σ')) : W p l e rm_X8_takes s m args below meth c H locs 0 0 (MQ below (sr_Qc D aC shM n0 σ' (some (.int (bI r)))) args s 0 0 (sr_A shM n0)) (F0 m 13 ls [.int (bI sb0)]) := by
  have hx := hX.1.1
  have hb := hX.1.2.1
  unfold f_X8_takes_B13 at hf
  refine lv_istore_n (lv' := [(2, .int (bI sb0)), (0, .ref (n0 + q0))]) hx hb dX8_takes_13 rfl hl (by decide) rfl (fun ls hl => ?_)
  refine lv_aload_n hx hb dX8_takes_14 rfl (lv_at hl 1 rfl) ?_
  refine lv_dup hx hb dX8_takes_15 rfl ?_
  refine fg_8_8 hX hV lk_674 (h0) dX8_takes_16 ?_
  refine lv_iload_n hx hb dX8_takes_19 rfl (lv_at hl 0 rfl) ?_
  refine lv_if_eq (tgt := 27) hx hb dX8_takes_20 (by decide) (fun c1 => ?_) (fun c1 => ?_)
  · have hf := sr_f hf (sr_b0 c1)
    refine lv_iconst (v := 0) hx hb dX8_takes_27 (by decide) ?_
    refine lv_iadd hx hb dX8_takes_28 ?_
    obtain ⟨σ2, e3, hf⟩ := sr_bnd hf
    refine fp_8_8 (x := ((gI σ q0 8) + 0)) hX hV lk_674 (h0) dX8_takes_29 (fun H locs hV => ?_)
    rw [e3] at hV
    refine lv_iload_n hx hb dX8_takes_32 rfl (lv_at hl 0 rfl) ?_
    cases hf
    exact s_zret hX hV dX8_takes_33
  · have hf := sr_t hf (sr_b1 c1)
    refine lv_iconst (v := 1) hx hb dX8_takes_23 (by decide) ?_
    refine lv_goto (tgt := 28) hx hb dX8_takes_24 (by decide) ?_
    refine lv_iadd hx hb dX8_takes_28 ?_
    obtain ⟨σ4, e5, hf⟩ := sr_bnd hf
    refine fp_8_8 (x := ((gI σ q0 8) + 1)) hX hV lk_674 (h0) dX8_takes_29 (fun H locs hV => ?_)
    rw [e5] at hV
    refine lv_iload_n hx hb dX8_takes_32 rfl (lv_at hl 0 rfl) ?_
    cases hf
    exact s_zret hX hV dX8_takes_33
set_option maxHeartbeats 4000000 in
set_option maxRecDepth 100000 in
theorem c_X8_takes {l : Launch} {D : va_G} {aC : Nat → ClassId} {n0 : Nat} {r : Bool} {σ' : St}  {σ : St} {q0 : Nat} {x1 : Int32} (h0 : shM q0 = 9) (hf : f_X8_takes q0 x1 σ = some (r, σ')) : sr_Met l D aC shM n0 yX8_takes cX8_takes 3 (Option.some FieldType.boolean) rm_X8_takes [.ref (n0 + q0), .int x1] σ (some (.int (bI r))) σ' := by
  refine s_met (own := RX8) (by decide) (Nat.le_of_ble_eq_true rfl) rfl ?_
  intro p e s m below meth c ls hX hV hl
  have hl : lv_has ls 3 [(0, .ref (n0 + q0)), (1, .int x1)] := hl
  have hx := hX.1.1
  have hb := hX.1.2.1
  unfold f_X8_takes at hf
  refine lv_aload_n hx hb dX8_takes_0 rfl (lv_at hl 0 rfl) ?_
  obtain ⟨v7, e6, hf⟩ := sr_obd hf
  refine s_callV1 (ci := 8) hX hV hl.1 (c_X8_here (h0) e6) cv_X8_here lk_805 ⟨rfl, rfl, Nat.le_of_ble_eq_true rfl, Nat.le_of_ble_eq_true rfl⟩ rfl (by decide) (h0) rfl rfl (Nat.le_of_ble_eq_true rfl) dX8_takes_1 ⟨Nat.le_of_ble_eq_true rfl, Nat.le_of_ble_eq_true rfl⟩ (fun H locs hV => ?_)
  refine lv_iload_n hx hb dX8_takes_4 rfl (lv_at hl 1 rfl) ?_
  refine lv_icmp_ne (tgt := 12) hx hb dX8_takes_5 (by decide) (fun c8 => ?_) (fun c8 => ?_)
  · have hf := sr_f hf c8
    refine lv_iconst (v := 0) hx hb dX8_takes_12 (by decide) ?_
    exact k_X8_takes_B13 hX h0   (lv_sub hl [0] rfl) hV hf
  · have hf := sr_t hf c8
    refine lv_iconst (v := 1) hx hb dX8_takes_8 (by decide) ?_
    refine lv_goto (tgt := 13) hx hb dX8_takes_9 (by decide) ?_
    exact k_X8_takes_B13 hX h0   (lv_sub hl [0] rfl) hV hf
abbrev rm_X8_digit : Room := { frames := 1, cells := 0, slots := 0, locals := 22 }
theorem cv_X8_digit : sr_Cv yX8_digit cX8_digit 1 (Option.some FieldType.int) RX8 0 := ⟨lk_804, lk_803, lp_24, lk_9, rfl, by decide +kernel, by decide +kernel, by decide +kernel⟩
set_option maxHeartbeats 4000000 in
set_option maxRecDepth 100000 in
theorem c_X8_digit {l : Launch} {D : va_G} {aC : Nat → ClassId} {n0 : Nat} {r : Int32} {σ : St}  {q0 : Nat} (h0 : shM q0 = 9) (hf : f_X8_digit q0 σ = some r) : sr_Met l D aC shM n0 yX8_digit cX8_digit 1 (Option.some FieldType.int) rm_X8_digit [.ref (n0 + q0)] σ (some (.int r)) σ := by
  refine s_met (own := RX8) (by decide) (Nat.le_of_ble_eq_true rfl) rfl ?_
  intro p e s m below meth c ls hX hV hl
  have hl : lv_has ls 1 [(0, .ref (n0 + q0))] := hl
  have hx := hX.1.1
  have hb := hX.1.2.1
  unfold f_X8_digit at hf
  refine lv_aload_n hx hb dX8_digit_0 rfl (lv_at hl 0 rfl) ?_
  obtain ⟨v2, e1, hf⟩ := sr_obd hf
  refine s_callV1 (ci := 8) hX hV hl.1 (c_X8_here (h0) e1) cv_X8_here lk_805 ⟨rfl, rfl, Nat.le_of_ble_eq_true rfl, Nat.le_of_ble_eq_true rfl⟩ rfl (by decide) (h0) rfl rfl (Nat.le_of_ble_eq_true rfl) dX8_digit_1 ⟨Nat.le_of_ble_eq_true rfl, Nat.le_of_ble_eq_true rfl⟩ (fun H locs hV => ?_)
  refine lv_bipush (v := 48) hx hb dX8_digit_4 (by decide) ?_
  refine lv_bipush (v := 57) hx hb dX8_digit_6 (by decide) ?_
  obtain ⟨v4, e3, hf⟩ := sr_bnd hf
  refine s_callS1 hX hV hl.1 (c_X8_in  e3) cs_X8_in lk_717 ⟨rfl, rfl, Nat.le_of_ble_eq_true rfl, Nat.le_of_ble_eq_true rfl⟩ rfl rfl (Nat.le_of_ble_eq_true rfl) dX8_digit_8 ⟨Nat.le_of_ble_eq_true rfl, Nat.le_of_ble_eq_true rfl⟩ (fun H locs hV => ?_)
  refine lv_if_eq (tgt := 24) hx hb dX8_digit_11 (by decide) (fun c5 => ?_) (fun c5 => ?_)
  · have hf := sr_f hf (sr_b0 c5)
    refine lv_iconst (v := (-1)) hx hb dX8_digit_24 (by decide) ?_
    cases hf
    exact s_iret hX hV dX8_digit_25
  · have hf := sr_t hf (sr_b1 c5)
    refine lv_aload_n hx hb dX8_digit_14 rfl (lv_at hl 0 rfl) ?_
    obtain ⟨v7, e6, hf⟩ := sr_obd hf
    refine s_callV1 (ci := 8) hX hV hl.1 (c_X8_here (h0) e6) cv_X8_here lk_805 ⟨rfl, rfl, Nat.le_of_ble_eq_true rfl, Nat.le_of_ble_eq_true rfl⟩ rfl (by decide) (h0) rfl rfl (Nat.le_of_ble_eq_true rfl) dX8_digit_15 ⟨Nat.le_of_ble_eq_true rfl, Nat.le_of_ble_eq_true rfl⟩ (fun H locs hV => ?_)
    refine lv_bipush (v := 48) hx hb dX8_digit_18 (by decide) ?_
    refine lv_isub hx hb dX8_digit_20 ?_
    refine lv_goto (tgt := 25) hx hb dX8_digit_21 (by decide) ?_
    cases hf
    exact s_iret hX hV dX8_digit_25
abbrev rm_X8_number : Room := { frames := 2, cells := 0, slots := 0, locals := 42 }
theorem cv_X8_number : sr_Cv yX8_number cX8_number 4 (Option.some FieldType.boolean) RX8 1 := ⟨lk_820, lk_819, lp_28, lk_9, rfl, by decide +kernel, by decide +kernel, by decide +kernel⟩
set_option maxHeartbeats 4000000 in
set_option maxRecDepth 100000 in
theorem k_X8_number_B85 {p : Program} {l : Launch} {e : Env} {s : State} {m : MethodId} {args : Array Value} {below : List Frame} {meth : Method} {c : Code} {D : va_G} {aC : Nat → ClassId} {n0 : Nat} {r : Bool} {σ' : St} {q0 : Nat} {x1 : Int32} {σ : St} (hX : sr_X p s m args meth c cX8_number 4 (Option.some FieldType.boolean) RX8 D aC) (h0 : shM q0 = 9) {x2 : Int32} {sb0 : Bool}  {H : Heap} {locs : List Loc} {ls : Array Slot} (hl : lv_has ls 4 [(0, .ref (n0 + q0)), (2, .int x2)]) (hV : sr_V D aC shM n0 σ s.heap H locs) (hf : f_X8_number_B85 q0 x1 x2 sb0 σ = some (r, σ')) : W p l e rm_X8_number s m args below meth c H locs 0 0 (MQ below (sr_Qc D aC shM n0 σ' (some (.int (bI r)))) args s 0 0 (sr_A shM n0)) (F0 m 85 ls [.int (bI sb0)]) := by
  have hx := hX.1.1
  have hb := hX.1.2.1
  unfold f_X8_number_B85 at hf
  refine lv_istore_n (lv' := [(3, .int (bI sb0)), (0, .ref (n0 + q0)), (2, .int x2)]) hx hb dX8_number_85 rfl hl (by decide) rfl (fun ls hl => ?_)
  refine lv_aload_n hx hb dX8_number_86 rfl (lv_at hl 1 rfl) ?_
  refine lv_iload_n hx hb dX8_number_87 rfl (lv_at hl 0 rfl) ?_
  refine lv_if_eq (tgt := 98) hx hb dX8_number_88 (by decide) (fun c1 => ?_) (fun c1 => ?_)
  · have hf := sr_f hf (sr_b0 c1)
    refine lv_iload_n hx hb dX8_number_98 rfl (lv_at hl 2 rfl) ?_
    obtain ⟨σ2, e3, hf⟩ := sr_bnd hf
    refine fp_8_8 (x := x2) hX hV lk_674 (h0) dX8_number_99 (fun H locs hV => ?_)
    rw [e3] at hV
    refine lv_iload_n hx hb dX8_number_102 rfl (lv_at hl 0 rfl) ?_
    cases hf
    exact s_zret hX hV dX8_number_103
  · have hf := sr_t hf (sr_b1 c1)
    refine lv_aload_n hx hb dX8_number_91 rfl (lv_at hl 1 rfl) ?_
    refine fg_8_8 hX hV lk_674 (h0) dX8_number_92 ?_
    refine lv_goto (tgt := 99) hx hb dX8_number_95 (by decide) ?_
    obtain ⟨σ4, e5, hf⟩ := sr_bnd hf
    refine fp_8_8 (x := (gI σ q0 8)) hX hV lk_674 (h0) dX8_number_99 (fun H locs hV => ?_)
    rw [e5] at hV
    refine lv_iload_n hx hb dX8_number_102 rfl (lv_at hl 0 rfl) ?_
    cases hf
    exact s_zret hX hV dX8_number_103
set_option maxHeartbeats 4000000 in
set_option maxRecDepth 100000 in
theorem k_X8_number_B72 {p : Program} {l : Launch} {e : Env} {s : State} {m : MethodId} {args : Array Value} {below : List Frame} {meth : Method} {c : Code} {D : va_G} {aC : Nat → ClassId} {n0 : Nat} {r : Bool} {σ' : St} {q0 : Nat} {x1 : Int32} {σ : St} (hX : sr_X p s m args meth c cX8_number 4 (Option.some FieldType.boolean) RX8 D aC) (h0 : shM q0 = 9) {x2 : Int32}  {H : Heap} {locs : List Loc} {ls : Array Slot} (hl : lv_has ls 4 [(0, .ref (n0 + q0)), (1, .int x1), (2, .int x2)]) (hV : sr_V D aC shM n0 σ s.heap H locs) (hf : f_X8_number_B72 q0 x1 x2 σ = some (r, σ')) : W p l e rm_X8_number s m args below meth c H locs 0 0 (MQ below (sr_Qc D aC shM n0 σ' (some (.int (bI r)))) args s 0 0 (sr_A shM n0)) (F0 m 72 ls []) := by
  have hx := hX.1.1
  have hb := hX.1.2.1
  unfold f_X8_number_B72 at hf
  refine lv_aload_n hx hb dX8_number_72 rfl (lv_at hl 0 rfl) ?_
  refine fg_8_11 hX hV lk_677 (h0) dX8_number_73 ?_
  refine lv_iload_n hx hb dX8_number_76 rfl (lv_at hl 1 rfl) ?_
  refine lv_icmp_gt (tgt := 84) hx hb dX8_number_77 (by decide) (fun c6 => ?_) (fun c6 => ?_)
  · have hf := sr_t hf c6
    refine lv_iconst (v := 0) hx hb dX8_number_84 (by decide) ?_
    exact k_X8_number_B85 hX h0   (lv_sub hl [0, 2] rfl) hV hf
  · have hf := sr_f hf c6
    refine lv_iconst (v := 1) hx hb dX8_number_80 (by decide) ?_
    refine lv_goto (tgt := 85) hx hb dX8_number_81 (by decide) ?_
    exact k_X8_number_B85 hX h0   (lv_sub hl [0, 2] rfl) hV hf
set_option maxHeartbeats 4000000 in
set_option maxRecDepth 100000 in
theorem c_X8_number {l : Launch} {D : va_G} {aC : Nat → ClassId} {n0 : Nat} {r : Bool} {σ' : St}  {σ : St} {q0 : Nat} {x1 : Int32} (h0 : shM q0 = 9) (hf : f_X8_number q0 x1 σ = some (r, σ')) : sr_Met l D aC shM n0 yX8_number cX8_number 4 (Option.some FieldType.boolean) rm_X8_number [.ref (n0 + q0), .int x1] σ (some (.int (bI r))) σ' := by
  refine s_met (own := RX8) (by decide) (Nat.le_of_ble_eq_true rfl) rfl ?_
  intro p e s m below meth c ls hX hV hl
  have hl : lv_has ls 4 [(0, .ref (n0 + q0)), (1, .int x1)] := hl
  have hx := hX.1.1
  have hb := hX.1.2.1
  unfold f_X8_number at hf
  refine lv_aload_n hx hb dX8_number_0 rfl (lv_at hl 0 rfl) ?_
  refine fg_8_8 hX hV lk_674 (h0) dX8_number_1 ?_
  obtain ⟨v7, e8, hf⟩ := sr_bnd hf
  rw [e8]
  refine lv_istore_n (lv' := [(2, .int v7), (0, .ref (n0 + q0)), (1, .int x1)]) hx hb dX8_number_4 rfl hl (by decide) rfl (fun ls hl => ?_)
  refine lv_aload_n hx hb dX8_number_5 rfl (lv_at hl 1 rfl) ?_
  obtain ⟨v10, e9, hf⟩ := sr_obd hf
  refine s_callV1 (ci := 8) hX hV hl.1 (c_X8_digit (h0) e9) cv_X8_digit lk_801 ⟨rfl, rfl, Nat.le_of_ble_eq_true rfl, Nat.le_of_ble_eq_true rfl⟩ rfl (by decide) (h0) rfl rfl (Nat.le_of_ble_eq_true rfl) dX8_number_6 ⟨Nat.le_of_ble_eq_true rfl, Nat.le_of_ble_eq_true rfl⟩ (fun H locs hV => ?_)
  refine lv_if_ge (tgt := 14) hx hb dX8_number_9 (by decide) (fun c11 => ?_) (fun c11 => ?_)
  · have hf := sr_t hf c11
    refine lv_aload_n hx hb dX8_number_14 rfl (lv_at hl 1 rfl) ?_
    refine lv_aload_n hx hb dX8_number_15 rfl (lv_at hl 1 rfl) ?_
    obtain ⟨v13, e12, hf⟩ := sr_obd hf
    refine s_callV1 (ci := 8) hX hV hl.1 (c_X8_digit (h0) e12) cv_X8_digit lk_801 ⟨rfl, rfl, Nat.le_of_ble_eq_true rfl, Nat.le_of_ble_eq_true rfl⟩ rfl (by decide) (h0) rfl rfl (Nat.le_of_ble_eq_true rfl) dX8_number_16 ⟨Nat.le_of_ble_eq_true rfl, Nat.le_of_ble_eq_true rfl⟩ (fun H locs hV => ?_)
    obtain ⟨σ14, e15, hf⟩ := sr_bnd hf
    refine fp_8_11 (x := v13) hX hV lk_677 (h0) dX8_number_19 (fun H locs hV => ?_)
    rw [e15] at hV
    refine lv_aload_n hx hb dX8_number_22 rfl (lv_at hl 1 rfl) ?_
    refine lv_dup hx hb dX8_number_23 rfl ?_
    refine fg_8_8 hX hV lk_674 (h0) dX8_number_24 ?_
    refine lv_iconst (v := 1) hx hb dX8_number_27 (by decide) ?_
    refine lv_iadd hx hb dX8_number_28 ?_
    obtain ⟨σ16, e17, hf⟩ := sr_bnd hf
    refine fp_8_8 (x := ((gI σ14 q0 8) + 1)) hX hV lk_674 (h0) dX8_number_29 (fun H locs hV => ?_)
    rw [e17] at hV
    refine lv_aload_n hx hb dX8_number_32 rfl (lv_at hl 1 rfl) ?_
    refine fg_8_11 hX hV lk_677 (h0) dX8_number_33 ?_
    refine lv_if_le (tgt := 72) hx hb dX8_number_36 (by decide) (fun c18 => ?_) (fun c18 => ?_)
    · have hf := sr_t hf c18
      exact k_X8_number_B72 hX h0   (lv_sub hl [1, 2, 0] rfl) hV hf
    · have hf := sr_f hf c18
      refine lv_aload_n hx hb dX8_number_39 rfl (lv_at hl 1 rfl) ?_
      obtain ⟨v20, e19, hf⟩ := sr_obd hf
      refine s_callV1 (ci := 8) hX hV hl.1 (c_X8_digit (h0) e19) cv_X8_digit lk_801 ⟨rfl, rfl, Nat.le_of_ble_eq_true rfl, Nat.le_of_ble_eq_true rfl⟩ rfl (by decide) (h0) rfl rfl (Nat.le_of_ble_eq_true rfl) dX8_number_40 ⟨Nat.le_of_ble_eq_true rfl, Nat.le_of_ble_eq_true rfl⟩ (fun H locs hV => ?_)
      refine lv_if_lt (tgt := 72) hx hb dX8_number_43 (by decide) (fun c21 => ?_) (fun c21 => ?_)
      · have hf := sr_t hf c21
        exact k_X8_number_B72 hX h0   (lv_sub hl [1, 2, 0] rfl) hV hf
      · have hf := sr_f hf c21
        refine lv_aload_n hx hb dX8_number_46 rfl (lv_at hl 1 rfl) ?_
        refine lv_bipush (v := 10) hx hb dX8_number_47 (by decide) ?_
        refine lv_aload_n hx hb dX8_number_49 rfl (lv_at hl 1 rfl) ?_
        refine fg_8_11 hX hV lk_677 (h0) dX8_number_50 ?_
        refine lv_imul hx hb dX8_number_53 ?_
        refine lv_aload_n hx hb dX8_number_54 rfl (lv_at hl 1 rfl) ?_
        obtain ⟨v23, e22, hf⟩ := sr_obd hf
        refine s_callV1 (ci := 8) hX hV hl.1 (c_X8_digit (h0) e22) cv_X8_digit lk_801 ⟨rfl, rfl, Nat.le_of_ble_eq_true rfl, Nat.le_of_ble_eq_true rfl⟩ rfl (by decide) (h0) rfl rfl (Nat.le_of_ble_eq_true rfl) dX8_number_55 ⟨Nat.le_of_ble_eq_true rfl, Nat.le_of_ble_eq_true rfl⟩ (fun H locs hV => ?_)
        refine lv_iadd hx hb dX8_number_58 ?_
        obtain ⟨σ24, e25, hf⟩ := sr_bnd hf
        refine fp_8_11 (x := ((10 * (gI σ16 q0 11)) + v23)) hX hV lk_677 (h0) dX8_number_59 (fun H locs hV => ?_)
        rw [e25] at hV
        refine lv_aload_n hx hb dX8_number_62 rfl (lv_at hl 1 rfl) ?_
        refine lv_dup hx hb dX8_number_63 rfl ?_
        refine fg_8_8 hX hV lk_674 (h0) dX8_number_64 ?_
        refine lv_iconst (v := 1) hx hb dX8_number_67 (by decide) ?_
        refine lv_iadd hx hb dX8_number_68 ?_
        obtain ⟨σ26, e27, hf⟩ := sr_bnd hf
        refine fp_8_8 (x := ((gI σ24 q0 8) + 1)) hX hV lk_674 (h0) dX8_number_69 (fun H locs hV => ?_)
        rw [e27] at hV
        exact k_X8_number_B72 hX h0   (lv_sub hl [1, 2, 0] rfl) hV hf
  · have hf := sr_f hf c11
    refine lv_iconst (v := 0) hx hb dX8_number_12 (by decide) ?_
    cases hf
    exact s_zret (b := false) hX hV dX8_number_13
abbrev rm_X8_cells : Room := { frames := 2, cells := 0, slots := 0, locals := 43 }
theorem cv_X8_cells : sr_Cv yX8_cells cX8_cells 5 (Option.some FieldType.boolean) RX8 1 := ⟨lk_800, lk_799, lp_23, lk_9, rfl, by decide +kernel, by decide +kernel, by decide +kernel⟩
set_option maxHeartbeats 4000000 in
set_option maxRecDepth 100000 in
theorem k_X8_cells_L4 {p : Program} {l : Launch} {e : Env} {s : State} {m : MethodId} {args : Array Value} {below : List Frame} {meth : Method} {c : Code} {D : va_G} {aC : Nat → ClassId} {n0 : Nat} {r : Bool} {σ' : St} {q0 : Nat} {x1 : Int32} (hX : sr_X p s m args meth c cX8_cells 5 (Option.some FieldType.boolean) RX8 D aC) (h0 : shM q0 = 9) (rec4 : Int32 → Int32 → St → Option (Bool × St)) (hrec4 : ∀ (x2 : Int32) (x3 : Int32) (σ : St) (H : Heap) (locs : List Loc) (ls : Array Slot) , lv_has ls 5 [(0, .ref (n0 + q0)), (1, .int x1), (2, .int x2), (3, .int x3)] → sr_V D aC shM n0 σ s.heap H locs → rec4 x2 x3 σ = some (r, σ') → W p l e rm_X8_cells s m args below meth c H locs 0 0 (MQ below (sr_Qc D aC shM n0 σ' (some (.int (bI r)))) args s 0 0 (sr_A shM n0)) (F0 m 4 ls [])) : ∀ (x2 : Int32) (x3 : Int32) (σ : St) (H : Heap) (locs : List Loc) (ls : Array Slot) , lv_has ls 5 [(0, .ref (n0 + q0)), (1, .int x1), (2, .int x2), (3, .int x3)] → sr_V D aC shM n0 σ s.heap H locs → f_X8_cells_L4 q0 x1 rec4 x2 x3 σ = some (r, σ') → W p l e rm_X8_cells s m args below meth c H locs 0 0 (MQ below (sr_Qc D aC shM n0 σ' (some (.int (bI r)))) args s 0 0 (sr_A shM n0)) (F0 m 4 ls []) := by
  intro x2 x3 σ H locs ls  hl hV hf
  have hx := hX.1.1
  have hb := hX.1.2.1
  unfold f_X8_cells_L4 at hf
  refine lv_aload_n hx hb dX8_cells_4 rfl (lv_at hl 0 rfl) ?_
  obtain ⟨v2, e1, hf⟩ := sr_obd hf
  refine s_callV1 (ci := 8) hX hV hl.1 (c_X8_digit (h0) e1) cv_X8_digit lk_801 ⟨rfl, rfl, Nat.le_of_ble_eq_true rfl, Nat.le_of_ble_eq_true rfl⟩ rfl (by decide) (h0) rfl rfl (Nat.le_of_ble_eq_true rfl) dX8_cells_5 ⟨Nat.le_of_ble_eq_true rfl, Nat.le_of_ble_eq_true rfl⟩ (fun H locs hV => ?_)
  refine lv_if_lt (tgt := 67) hx hb dX8_cells_8 (by decide) (fun c3 => ?_) (fun c3 => ?_)
  · have hf := sr_t hf c3
    refine lv_aload_n hx hb dX8_cells_67 rfl (lv_at hl 0 rfl) ?_
    refine lv_iload_n hx hb dX8_cells_68 rfl (lv_at hl 2 rfl) ?_
    obtain ⟨σ4, e5, hf⟩ := sr_bnd hf
    refine fp_8_11 (x := x2) hX hV lk_677 (h0) dX8_cells_69 (fun H locs hV => ?_)
    rw [e5] at hV
    refine lv_iload_n hx hb dX8_cells_72 rfl (lv_at hl 2 rfl) ?_
    refine lv_if_eq (tgt := 80) hx hb dX8_cells_73 (by decide) (fun c6 => ?_) (fun c6 => ?_)
    · have hf := sr_t hf c6
      refine lv_iconst (v := 0) hx hb dX8_cells_80 (by decide) ?_
      cases hf
      exact s_zret (b := false) hX hV dX8_cells_81
    · have hf := sr_f hf c6
      refine lv_iconst (v := 1) hx hb dX8_cells_76 (by decide) ?_
      refine lv_goto (tgt := 81) hx hb dX8_cells_77 (by decide) ?_
      cases hf
      exact s_zret (b := true) hX hV dX8_cells_81
  · have hf := sr_f hf c3
    refine lv_aload_n hx hb dX8_cells_11 rfl (lv_at hl 0 rfl) ?_
    obtain ⟨v8, e7, hf⟩ := sr_obd hf
    refine s_callV1 (ci := 8) hX hV hl.1 (c_X8_digit (h0) e7) cv_X8_digit lk_801 ⟨rfl, rfl, Nat.le_of_ble_eq_true rfl, Nat.le_of_ble_eq_true rfl⟩ rfl (by decide) (h0) rfl rfl (Nat.le_of_ble_eq_true rfl) dX8_cells_12 ⟨Nat.le_of_ble_eq_true rfl, Nat.le_of_ble_eq_true rfl⟩ (fun H locs hV => ?_)
    refine lv_istore (lv' := [(4, .int v8), (0, .ref (n0 + q0)), (1, .int x1), (2, .int x2), (3, .int x3)]) hx hb dX8_cells_15 hl (by decide) rfl (fun ls hl => ?_)
    refine lv_iload hx hb dX8_cells_17 (lv_at hl 0 rfl) ?_
    refine lv_iload_n hx hb dX8_cells_19 rfl (lv_at hl 4 rfl) ?_
    refine lv_icmp_le (tgt := 42) hx hb dX8_cells_20 (by decide) (fun c9 => ?_) (fun c9 => ?_)
    · have hf := sr_t hf c9
      refine lv_iconst (v := 0) hx hb dX8_cells_42 (by decide) ?_
      cases hf
      exact s_zret (b := false) hX hV dX8_cells_43
    · have hf := sr_f hf c9
      refine lv_aload_n hx hb dX8_cells_23 rfl (lv_at hl 1 rfl) ?_
      refine lv_iload hx hb dX8_cells_24 (lv_at hl 0 rfl) ?_
      obtain ⟨v11, e10, hf⟩ := sr_bnd hf
      refine s_callV1 (ci := 8) hX hV hl.1 (c_X8_isCell (h0) e10) cv_X8_isCell lk_809 ⟨rfl, rfl, Nat.le_of_ble_eq_true rfl, Nat.le_of_ble_eq_true rfl⟩ rfl (by decide) (h0) rfl rfl (Nat.le_of_ble_eq_true rfl) dX8_cells_26 ⟨Nat.le_of_ble_eq_true rfl, Nat.le_of_ble_eq_true rfl⟩ (fun H locs hV => ?_)
      refine lv_if_eq (tgt := 42) hx hb dX8_cells_29 (by decide) (fun c12 => ?_) (fun c12 => ?_)
      · have hf := sr_f hf (sr_b0 c12)
        refine lv_iconst (v := 0) hx hb dX8_cells_42 (by decide) ?_
        cases hf
        exact s_zret (b := false) hX hV dX8_cells_43
      · have hf := sr_t hf (sr_b1 c12)
        refine lv_iload_n hx hb dX8_cells_32 rfl (lv_at hl 2 rfl) ?_
        refine lv_iload hx hb dX8_cells_33 (lv_at hl 0 rfl) ?_
        refine lv_ishr hx hb dX8_cells_35 ?_
        refine lv_iconst (v := 1) hx hb dX8_cells_36 (by decide) ?_
        refine lv_iand hx hb dX8_cells_37 ?_
        refine lv_iconst (v := 1) hx hb dX8_cells_38 (by decide) ?_
        refine lv_icmp_ne (tgt := 44) hx hb dX8_cells_39 (by decide) (fun c13 => ?_) (fun c13 => ?_)
        · have hf := sr_f hf c13
          refine lv_iload_n hx hb dX8_cells_44 rfl (lv_at hl 3 rfl) ?_
          refine lv_iconst (v := 1) hx hb dX8_cells_45 (by decide) ?_
          refine lv_iload hx hb dX8_cells_46 (lv_at hl 0 rfl) ?_
          refine lv_ishl hx hb dX8_cells_48 ?_
          refine lv_ior hx hb dX8_cells_49 ?_
          obtain ⟨v14, e15, hf⟩ := sr_bnd hf
          rw [e15]
          refine lv_istore_n (lv' := [(2, .int v14), (4, .int v8), (0, .ref (n0 + q0)), (1, .int x1), (3, .int x3)]) hx hb dX8_cells_50 rfl hl (by decide) rfl (fun ls hl => ?_)
          refine lv_iload hx hb dX8_cells_51 (lv_at hl 1 rfl) ?_
          refine lv_istore_n (lv' := [(3, .int v8), (2, .int v14), (4, .int v8), (0, .ref (n0 + q0)), (1, .int x1)]) hx hb dX8_cells_53 rfl hl (by decide) rfl (fun ls hl => ?_)
          refine lv_aload_n hx hb dX8_cells_54 rfl (lv_at hl 3 rfl) ?_
          refine lv_dup hx hb dX8_cells_55 rfl ?_
          refine fg_8_8 hX hV lk_674 (h0) dX8_cells_56 ?_
          refine lv_iconst (v := 1) hx hb dX8_cells_59 (by decide) ?_
          refine lv_iadd hx hb dX8_cells_60 ?_
          obtain ⟨σ16, e17, hf⟩ := sr_bnd hf
          refine fp_8_8 (x := ((gI σ q0 8) + 1)) hX hV lk_674 (h0) dX8_cells_61 (fun H locs hV => ?_)
          rw [e17] at hV
          refine lv_goto (tgt := 4) hx hb dX8_cells_64 (by decide) ?_
          exact hrec4 _ _ _ _ _ _  (lv_sub hl [3, 4, 1, 0] rfl) hV hf
        · have hf := sr_t hf c13
          refine lv_iconst (v := 0) hx hb dX8_cells_42 (by decide) ?_
          cases hf
          exact s_zret (b := false) hX hV dX8_cells_43
set_option maxHeartbeats 4000000 in
set_option maxRecDepth 100000 in
theorem k_X8_cells_L4w {p : Program} {l : Launch} {e : Env} {s : State} {m : MethodId} {args : Array Value} {below : List Frame} {meth : Method} {c : Code} {D : va_G} {aC : Nat → ClassId} {n0 : Nat} {r : Bool} {σ' : St} {q0 : Nat} {x1 : Int32} (hX : sr_X p s m args meth c cX8_cells 5 (Option.some FieldType.boolean) RX8 D aC) (h0 : shM q0 = 9) (n : Nat) : ∀ (x2 : Int32) (x3 : Int32) (σ : St) (H : Heap) (locs : List Loc) (ls : Array Slot) , lv_has ls 5 [(0, .ref (n0 + q0)), (1, .int x1), (2, .int x2), (3, .int x3)] → sr_V D aC shM n0 σ s.heap H locs → it3 (f_X8_cells_L4 q0 x1) n x2 x3 σ = some (r, σ') → W p l e rm_X8_cells s m args below meth c H locs 0 0 (MQ below (sr_Qc D aC shM n0 σ' (some (.int (bI r)))) args s 0 0 (sr_A shM n0)) (F0 m 4 ls []) :=
  it3_ind (fun rec4 => ∀ (x2 : Int32) (x3 : Int32) (σ : St) (H : Heap) (locs : List Loc) (ls : Array Slot) , lv_has ls 5 [(0, .ref (n0 + q0)), (1, .int x1), (2, .int x2), (3, .int x3)] → sr_V D aC shM n0 σ s.heap H locs → rec4 x2 x3 σ = some (r, σ') → W p l e rm_X8_cells s m args below meth c H locs 0 0 (MQ below (sr_Qc D aC shM n0 σ' (some (.int (bI r)))) args s 0 0 (sr_A shM n0)) (F0 m 4 ls [])) (by intros; rename_i hf; exact absurd hf (by simp)) (fun rec hrec => k_X8_cells_L4 hX h0  rec hrec) n
set_option maxHeartbeats 4000000 in
set_option maxRecDepth 100000 in
theorem c_X8_cells {l : Launch} {D : va_G} {aC : Nat → ClassId} {n0 : Nat} {r : Bool} {σ' : St}  {σ : St} {q0 : Nat} {x1 : Int32} (h0 : shM q0 = 9) (hf : f_X8_cells q0 x1 σ = some (r, σ')) : sr_Met l D aC shM n0 yX8_cells cX8_cells 5 (Option.some FieldType.boolean) rm_X8_cells [.ref (n0 + q0), .int x1] σ (some (.int (bI r))) σ' := by
  refine s_met (own := RX8) (by decide) (Nat.le_of_ble_eq_true rfl) rfl ?_
  intro p e s m below meth c ls hX hV hl
  have hl : lv_has ls 5 [(0, .ref (n0 + q0)), (1, .int x1)] := hl
  have hx := hX.1.1
  have hb := hX.1.2.1
  unfold f_X8_cells at hf
  refine lv_iconst (v := 0) hx hb dX8_cells_0 (by decide) ?_
  refine lv_istore_n (lv' := [(2, .int 0), (0, .ref (n0 + q0)), (1, .int x1)]) hx hb dX8_cells_1 rfl hl (by decide) rfl (fun ls hl => ?_)
  refine lv_iconst (v := (-1)) hx hb dX8_cells_2 (by decide) ?_
  refine lv_istore_n (lv' := [(3, .int (-1)), (2, .int 0), (0, .ref (n0 + q0)), (1, .int x1)]) hx hb dX8_cells_3 rfl hl (by decide) rfl (fun ls hl => ?_)
  exact k_X8_cells_L4w hX h0  sr_fuel _ _ _ _ _ _  (lv_sub hl [2, 3, 1, 0] rfl) hV hf
abbrev rm_X8_isStage : Room := { frames := 3, cells := 0, slots := 0, locals := 67 }
theorem cv_X8_isStage : sr_Cv yX8_isStage cX8_isStage 3 (Option.some FieldType.boolean) RX8 1 := ⟨lk_796, lk_795, lp_22, lk_9, rfl, by decide +kernel, by decide +kernel, by decide +kernel⟩
set_option maxHeartbeats 4000000 in
set_option maxRecDepth 100000 in
theorem c_X8_isStage {l : Launch} {D : va_G} {aC : Nat → ClassId} {n0 : Nat} {r : Bool} {σ' : St}  {σ : St} {q0 : Nat} {x1 : Int32} (h0 : shM q0 = 9) (hf : f_X8_isStage q0 x1 σ = some (r, σ')) : sr_Met l D aC shM n0 yX8_isStage cX8_isStage 3 (Option.some FieldType.boolean) rm_X8_isStage [.ref (n0 + q0), .int x1] σ (some (.int (bI r))) σ' := by
  refine s_met (own := RX8) (by decide) (Nat.le_of_ble_eq_true rfl) rfl ?_
  intro p e s m below meth c ls hX hV hl
  have hl : lv_has ls 3 [(0, .ref (n0 + q0)), (1, .int x1)] := hl
  have hx := hX.1.1
  have hb := hX.1.2.1
  unfold f_X8_isStage at hf
  refine lv_iconst (v := 3) hx hb dX8_isStage_0 (by decide) ?_
  refine lv_aload_n hx hb dX8_isStage_1 rfl (lv_at hl 0 rfl) ?_
  refine fg_8_10 hX hV lk_676 (h0) dX8_isStage_2 ?_
  refine lv_imul hx hb dX8_isStage_5 ?_
  obtain ⟨v1, e2, hf⟩ := sr_bnd hf
  rw [e2]
  refine lv_istore_n (lv' := [(2, .int v1), (0, .ref (n0 + q0)), (1, .int x1)]) hx hb dX8_isStage_6 rfl hl (by decide) rfl (fun ls hl => ?_)
  refine lv_aload_n hx hb dX8_isStage_7 rfl (lv_at hl 1 rfl) ?_
  refine fg_8_10 hX hV lk_676 (h0) dX8_isStage_8 ?_
  refine lv_bipush (v := 6) hx hb dX8_isStage_11 (by decide) ?_
  refine lv_icmp_eq (tgt := 24) hx hb dX8_isStage_13 (by decide) (fun c3 => ?_) (fun c3 => ?_)
  · have hf := sr_t hf c3
    refine lv_iconst (v := 0) hx hb dX8_isStage_24 (by decide) ?_
    cases hf
    exact s_zret (b := false) hX hV dX8_isStage_25
  · have hf := sr_f hf c3
    refine lv_aload_n hx hb dX8_isStage_16 rfl (lv_at hl 1 rfl) ?_
    refine lv_iload_n hx hb dX8_isStage_17 rfl (lv_at hl 2 rfl) ?_
    obtain ⟨v5, σ6, e4, hf⟩ := sr_ob2 hf
    refine s_callV1 (ci := 8) hX hV hl.1 (c_X8_cells (h0) e4) cv_X8_cells lk_797 ⟨rfl, rfl, Nat.le_of_ble_eq_true rfl, Nat.le_of_ble_eq_true rfl⟩ rfl (by decide) (h0) rfl rfl (Nat.le_of_ble_eq_true rfl) dX8_isStage_18 ⟨Nat.le_of_ble_eq_true rfl, Nat.le_of_ble_eq_true rfl⟩ (fun H locs hV => ?_)
    refine lv_if_ne (tgt := 26) hx hb dX8_isStage_21 (by decide) (fun c7 => ?_) (fun c7 => ?_)
    · have hf := sr_t hf (sr_b1 c7)
      refine lv_aload_n hx hb dX8_isStage_26 rfl (lv_at hl 1 rfl) ?_
      refine fg_8_9 hX hV lk_675 (h0) dX8_isStage_27 ?_
      refine lv_iload_n hx hb dX8_isStage_30 rfl (lv_at hl 0 rfl) ?_
      refine lv_aload_n hx hb dX8_isStage_31 rfl (lv_at hl 1 rfl) ?_
      refine fg_8_11 hX hV lk_677 (h0) dX8_isStage_32 ?_
      obtain ⟨g8, hf⟩ := sr_gd hf
      obtain ⟨σ9, e10, hf⟩ := sr_bnd hf
      refine s_iast hX hV (n := 18) (ch_8_9 (h0)) (by decide) (inb_in g8) dX8_isStage_35 (fun H locs hV => ?_)
      rw [e10] at hV
      refine lv_aload_n hx hb dX8_isStage_36 rfl (lv_at hl 1 rfl) ?_
      refine lv_bipush (v := 58) hx hb dX8_isStage_37 (by decide) ?_
      obtain ⟨v12, σ13, e11, hf⟩ := sr_ob2 hf
      refine s_callV1 (ci := 8) hX hV hl.1 (c_X8_takes (h0) e11) cv_X8_takes lk_813 ⟨rfl, rfl, Nat.le_of_ble_eq_true rfl, Nat.le_of_ble_eq_true rfl⟩ rfl (by decide) (h0) rfl rfl (Nat.le_of_ble_eq_true rfl) dX8_isStage_39 ⟨Nat.le_of_ble_eq_true rfl, Nat.le_of_ble_eq_true rfl⟩ (fun H locs hV => ?_)
      refine lv_if_eq (tgt := 54) hx hb dX8_isStage_42 (by decide) (fun c14 => ?_) (fun c14 => ?_)
      · have hf := sr_f hf (sr_b0 c14)
        refine lv_iconst (v := 0) hx hb dX8_isStage_54 (by decide) ?_
        cases hf
        exact s_zret (b := false) hX hV dX8_isStage_55
      · have hf := sr_t hf (sr_b1 c14)
        refine lv_aload_n hx hb dX8_isStage_45 rfl (lv_at hl 1 rfl) ?_
        refine lv_bipush (v := 48) hx hb dX8_isStage_46 (by decide) ?_
        obtain ⟨v16, σ17, e15, hf⟩ := sr_ob2 hf
        refine s_callV1 (ci := 8) hX hV hl.1 (c_X8_number (h0) e15) cv_X8_number lk_817 ⟨rfl, rfl, Nat.le_of_ble_eq_true rfl, Nat.le_of_ble_eq_true rfl⟩ rfl (by decide) (h0) rfl rfl (Nat.le_of_ble_eq_true rfl) dX8_isStage_48 ⟨Nat.le_of_ble_eq_true rfl, Nat.le_of_ble_eq_true rfl⟩ (fun H locs hV => ?_)
        refine lv_if_ne (tgt := 56) hx hb dX8_isStage_51 (by decide) (fun c18 => ?_) (fun c18 => ?_)
        · have hf := sr_t hf (sr_b1 c18)
          refine lv_aload_n hx hb dX8_isStage_56 rfl (lv_at hl 1 rfl) ?_
          refine fg_8_9 hX hV lk_675 (h0) dX8_isStage_57 ?_
          refine lv_iload_n hx hb dX8_isStage_60 rfl (lv_at hl 0 rfl) ?_
          refine lv_iconst (v := 1) hx hb dX8_isStage_61 (by decide) ?_
          refine lv_iadd hx hb dX8_isStage_62 ?_
          refine lv_aload_n hx hb dX8_isStage_63 rfl (lv_at hl 1 rfl) ?_
          refine fg_8_11 hX hV lk_677 (h0) dX8_isStage_64 ?_
          obtain ⟨v19, e20, hf⟩ := sr_bnd hf
          rw [e20]
          obtain ⟨g21, hf⟩ := sr_gd hf
          obtain ⟨σ22, e23, hf⟩ := sr_bnd hf
          refine s_iast hX hV (n := 18) (ch_8_9 (h0)) (by decide) (inb_in g21) dX8_isStage_67 (fun H locs hV => ?_)
          rw [e23] at hV
          refine lv_aload_n hx hb dX8_isStage_68 rfl (lv_at hl 1 rfl) ?_
          refine lv_bipush (v := 47) hx hb dX8_isStage_69 (by decide) ?_
          obtain ⟨v25, σ26, e24, hf⟩ := sr_ob2 hf
          refine s_callV1 (ci := 8) hX hV hl.1 (c_X8_takes (h0) e24) cv_X8_takes lk_813 ⟨rfl, rfl, Nat.le_of_ble_eq_true rfl, Nat.le_of_ble_eq_true rfl⟩ rfl (by decide) (h0) rfl rfl (Nat.le_of_ble_eq_true rfl) dX8_isStage_71 ⟨Nat.le_of_ble_eq_true rfl, Nat.le_of_ble_eq_true rfl⟩ (fun H locs hV => ?_)
          refine lv_if_eq (tgt := 86) hx hb dX8_isStage_74 (by decide) (fun c27 => ?_) (fun c27 => ?_)
          · have hf := sr_f hf (sr_b0 c27)
            refine lv_iconst (v := 0) hx hb dX8_isStage_86 (by decide) ?_
            cases hf
            exact s_zret (b := false) hX hV dX8_isStage_87
          · have hf := sr_t hf (sr_b1 c27)
            refine lv_aload_n hx hb dX8_isStage_77 rfl (lv_at hl 1 rfl) ?_
            refine lv_bipush (v := 25) hx hb dX8_isStage_78 (by decide) ?_
            obtain ⟨v29, σ30, e28, hf⟩ := sr_ob2 hf
            refine s_callV1 (ci := 8) hX hV hl.1 (c_X8_number (h0) e28) cv_X8_number lk_817 ⟨rfl, rfl, Nat.le_of_ble_eq_true rfl, Nat.le_of_ble_eq_true rfl⟩ rfl (by decide) (h0) rfl rfl (Nat.le_of_ble_eq_true rfl) dX8_isStage_80 ⟨Nat.le_of_ble_eq_true rfl, Nat.le_of_ble_eq_true rfl⟩ (fun H locs hV => ?_)
            refine lv_if_ne (tgt := 88) hx hb dX8_isStage_83 (by decide) (fun c31 => ?_) (fun c31 => ?_)
            · have hf := sr_t hf (sr_b1 c31)
              refine lv_aload_n hx hb dX8_isStage_88 rfl (lv_at hl 1 rfl) ?_
              refine fg_8_9 hX hV lk_675 (h0) dX8_isStage_89 ?_
              refine lv_iload_n hx hb dX8_isStage_92 rfl (lv_at hl 0 rfl) ?_
              refine lv_iconst (v := 2) hx hb dX8_isStage_93 (by decide) ?_
              refine lv_iadd hx hb dX8_isStage_94 ?_
              refine lv_aload_n hx hb dX8_isStage_95 rfl (lv_at hl 1 rfl) ?_
              refine fg_8_11 hX hV lk_677 (h0) dX8_isStage_96 ?_
              obtain ⟨v32, e33, hf⟩ := sr_bnd hf
              rw [e33]
              obtain ⟨g34, hf⟩ := sr_gd hf
              obtain ⟨σ35, e36, hf⟩ := sr_bnd hf
              refine s_iast hX hV (n := 18) (ch_8_9 (h0)) (by decide) (inb_in g34) dX8_isStage_99 (fun H locs hV => ?_)
              rw [e36] at hV
              refine lv_aload_n hx hb dX8_isStage_100 rfl (lv_at hl 1 rfl) ?_
              refine lv_dup hx hb dX8_isStage_101 rfl ?_
              refine fg_8_10 hX hV lk_676 (h0) dX8_isStage_102 ?_
              refine lv_iconst (v := 1) hx hb dX8_isStage_105 (by decide) ?_
              refine lv_iadd hx hb dX8_isStage_106 ?_
              obtain ⟨σ37, e38, hf⟩ := sr_bnd hf
              refine fp_8_10 (x := ((gI σ35 q0 10) + 1)) hX hV lk_676 (h0) dX8_isStage_107 (fun H locs hV => ?_)
              rw [e38] at hV
              refine lv_aload_n hx hb dX8_isStage_110 rfl (lv_at hl 1 rfl) ?_
              refine lv_bipush (v := 59) hx hb dX8_isStage_111 (by decide) ?_
              obtain ⟨v40, σ41, e39, hf⟩ := sr_ob2 hf
              refine s_callV1 (ci := 8) hX hV hl.1 (c_X8_takes (h0) e39) cv_X8_takes lk_813 ⟨rfl, rfl, Nat.le_of_ble_eq_true rfl, Nat.le_of_ble_eq_true rfl⟩ rfl (by decide) (h0) rfl rfl (Nat.le_of_ble_eq_true rfl) dX8_isStage_113 ⟨Nat.le_of_ble_eq_true rfl, Nat.le_of_ble_eq_true rfl⟩ (fun H locs hV => ?_)
              cases hf
              exact s_zret hX hV dX8_isStage_116
            · have hf := sr_f hf (sr_b0 c31)
              refine lv_iconst (v := 0) hx hb dX8_isStage_86 (by decide) ?_
              cases hf
              exact s_zret (b := false) hX hV dX8_isStage_87
        · have hf := sr_f hf (sr_b0 c18)
          refine lv_iconst (v := 0) hx hb dX8_isStage_54 (by decide) ?_
          cases hf
          exact s_zret (b := false) hX hV dX8_isStage_55
    · have hf := sr_f hf (sr_b0 c7)
      refine lv_iconst (v := 0) hx hb dX8_isStage_24 (by decide) ?_
      cases hf
      exact s_zret (b := false) hX hV dX8_isStage_25
abbrev rm_X8_isText : Room := { frames := 4, cells := 0, slots := 0, locals := 89 }
theorem cv_X8_isText : sr_Cv yX8_isText cX8_isText 3 (Option.some FieldType.boolean) RX8 0 := ⟨lk_792, lk_791, lp_21, lk_9, rfl, by decide +kernel, by decide +kernel, by decide +kernel⟩
set_option maxHeartbeats 4000000 in
set_option maxRecDepth 100000 in
theorem k_X8_isText_L14 {p : Program} {l : Launch} {e : Env} {s : State} {m : MethodId} {args : Array Value} {below : List Frame} {meth : Method} {c : Code} {D : va_G} {aC : Nat → ClassId} {n0 : Nat} {r : Bool} {σ' : St} {q0 : Nat} (hX : sr_X p s m args meth c cX8_isText 3 (Option.some FieldType.boolean) RX8 D aC) (h0 : shM q0 = 9) (rec14 : Int32 → Bool → St → Option (Bool × St)) (hrec14 : ∀ (x1 : Int32) (b2 : Bool) (σ : St) (H : Heap) (locs : List Loc) (ls : Array Slot) , lv_has ls 3 [(0, .ref (n0 + q0)), (1, .int x1), (2, .int (bI b2))] → sr_V D aC shM n0 σ s.heap H locs → rec14 x1 b2 σ = some (r, σ') → W p l e rm_X8_isText s m args below meth c H locs 0 0 (MQ below (sr_Qc D aC shM n0 σ' (some (.int (bI r)))) args s 0 0 (sr_A shM n0)) (F0 m 14 ls [])) : ∀ (x1 : Int32) (b2 : Bool) (σ : St) (H : Heap) (locs : List Loc) (ls : Array Slot) , lv_has ls 3 [(0, .ref (n0 + q0)), (1, .int x1), (2, .int (bI b2))] → sr_V D aC shM n0 σ s.heap H locs → f_X8_isText_L14 q0 rec14 x1 b2 σ = some (r, σ') → W p l e rm_X8_isText s m args below meth c H locs 0 0 (MQ below (sr_Qc D aC shM n0 σ' (some (.int (bI r)))) args s 0 0 (sr_A shM n0)) (F0 m 14 ls []) := by
  intro x1 b2 σ H locs ls  hl hV hf
  have hx := hX.1.1
  have hb := hX.1.2.1
  unfold f_X8_isText_L14 at hf
  refine lv_iload_n hx hb dX8_isText_14 rfl (lv_at hl 2 rfl) ?_
  refine lv_if_eq (tgt := 62) hx hb dX8_isText_15 (by decide) (fun c1 => ?_) (fun c1 => ?_)
  · have hf := sr_f hf (sr_b0 c1)
    refine lv_iload_n hx hb dX8_isText_62 rfl (lv_at hl 2 rfl) ?_
    cases hf
    exact s_zret hX hV dX8_isText_63
  · have hf := sr_t hf (sr_b1 c1)
    refine lv_aload_n hx hb dX8_isText_18 rfl (lv_at hl 0 rfl) ?_
    refine fg_8_8 hX hV lk_674 (h0) dX8_isText_19 ?_
    refine lv_aload_n hx hb dX8_isText_22 rfl (lv_at hl 0 rfl) ?_
    refine fg_8_5 hX hV lk_671 (h0) dX8_isText_23 ?_
    refine lv_icmp_ge (tgt := 62) hx hb dX8_isText_26 (by decide) (fun c2 => ?_) (fun c2 => ?_)
    · have hf := sr_t hf c2
      refine lv_iload_n hx hb dX8_isText_62 rfl (lv_at hl 2 rfl) ?_
      cases hf
      exact s_zret hX hV dX8_isText_63
    · have hf := sr_f hf c2
      refine lv_aload_n hx hb dX8_isText_29 rfl (lv_at hl 0 rfl) ?_
      refine lv_iload_n hx hb dX8_isText_30 rfl (lv_at hl 1 rfl) ?_
      obtain ⟨v4, σ5, e3, hf⟩ := sr_ob2 hf
      refine s_callV1 (ci := 8) hX hV hl.1 (c_X8_isStage (h0) e3) cv_X8_isStage lk_793 ⟨rfl, rfl, Nat.le_of_ble_eq_true rfl, Nat.le_of_ble_eq_true rfl⟩ rfl (by decide) (h0) rfl rfl (Nat.le_of_ble_eq_true rfl) dX8_isText_31 ⟨Nat.le_of_ble_eq_true rfl, Nat.le_of_ble_eq_true rfl⟩ (fun H locs hV => ?_)
      refine lv_istore_n (lv' := [(2, .int (bI v4)), (0, .ref (n0 + q0)), (1, .int x1)]) hx hb dX8_isText_34 rfl hl (by decide) rfl (fun ls hl => ?_)
      refine lv_iload_n hx hb dX8_isText_35 rfl (lv_at hl 2 rfl) ?_
      refine lv_iload_n hx hb dX8_isText_36 rfl (lv_at hl 0 rfl) ?_
      refine lv_if_eq (tgt := 56) hx hb dX8_isText_37 (by decide) (fun c6 => ?_) (fun c6 => ?_)
      · have hf := sr_f hf (sr_b0 c6)
        refine lv_iconst (v := 0) hx hb dX8_isText_56 (by decide) ?_
        refine lv_ior hx hb dX8_isText_57 ?_
        obtain ⟨v7, e8, hf⟩ := sr_bnd hf
        rw [e8]
        refine lv_istore_n (lv' := [(1, .int v7), (2, .int (bI v4)), (0, .ref (n0 + q0))]) hx hb dX8_isText_58 rfl hl (by decide) rfl (fun ls hl => ?_)
        refine lv_goto (tgt := 14) hx hb dX8_isText_59 (by decide) ?_
        exact hrec14 _ _ _ _ _ _  (lv_sub hl [2, 0, 1] rfl) hV hf
      · have hf := sr_t hf (sr_b1 c6)
        refine lv_aload_n hx hb dX8_isText_40 rfl (lv_at hl 1 rfl) ?_
        refine fg_8_9 hX hV lk_675 (h0) dX8_isText_41 ?_
        refine lv_iconst (v := 3) hx hb dX8_isText_44 (by decide) ?_
        refine lv_aload_n hx hb dX8_isText_45 rfl (lv_at hl 1 rfl) ?_
        refine fg_8_10 hX hV lk_676 (h0) dX8_isText_46 ?_
        refine lv_imul hx hb dX8_isText_49 ?_
        refine lv_iconst (v := 3) hx hb dX8_isText_50 (by decide) ?_
        refine lv_isub hx hb dX8_isText_51 ?_
        obtain ⟨v9, e10, hf⟩ := sr_bnd hf
        rw [e10]
        obtain ⟨g11, hf⟩ := sr_gd hf
        refine s_iald hX hV (n := 18) (ch_8_9 (h0)) (by decide) (inb_in g11) dX8_isText_52 ?_
        refine lv_goto (tgt := 57) hx hb dX8_isText_53 (by decide) ?_
        refine lv_ior hx hb dX8_isText_57 ?_
        obtain ⟨v12, e13, hf⟩ := sr_bnd hf
        rw [e13]
        refine lv_istore_n (lv' := [(1, .int v12), (2, .int (bI v4)), (0, .ref (n0 + q0))]) hx hb dX8_isText_58 rfl hl (by decide) rfl (fun ls hl => ?_)
        refine lv_goto (tgt := 14) hx hb dX8_isText_59 (by decide) ?_
        exact hrec14 _ _ _ _ _ _  (lv_sub hl [2, 0, 1] rfl) hV hf
set_option maxHeartbeats 4000000 in
set_option maxRecDepth 100000 in
theorem k_X8_isText_L14w {p : Program} {l : Launch} {e : Env} {s : State} {m : MethodId} {args : Array Value} {below : List Frame} {meth : Method} {c : Code} {D : va_G} {aC : Nat → ClassId} {n0 : Nat} {r : Bool} {σ' : St} {q0 : Nat} (hX : sr_X p s m args meth c cX8_isText 3 (Option.some FieldType.boolean) RX8 D aC) (h0 : shM q0 = 9) (n : Nat) : ∀ (x1 : Int32) (b2 : Bool) (σ : St) (H : Heap) (locs : List Loc) (ls : Array Slot) , lv_has ls 3 [(0, .ref (n0 + q0)), (1, .int x1), (2, .int (bI b2))] → sr_V D aC shM n0 σ s.heap H locs → it3 (f_X8_isText_L14 q0) n x1 b2 σ = some (r, σ') → W p l e rm_X8_isText s m args below meth c H locs 0 0 (MQ below (sr_Qc D aC shM n0 σ' (some (.int (bI r)))) args s 0 0 (sr_A shM n0)) (F0 m 14 ls []) :=
  it3_ind (fun rec14 => ∀ (x1 : Int32) (b2 : Bool) (σ : St) (H : Heap) (locs : List Loc) (ls : Array Slot) , lv_has ls 3 [(0, .ref (n0 + q0)), (1, .int x1), (2, .int (bI b2))] → sr_V D aC shM n0 σ s.heap H locs → rec14 x1 b2 σ = some (r, σ') → W p l e rm_X8_isText s m args below meth c H locs 0 0 (MQ below (sr_Qc D aC shM n0 σ' (some (.int (bI r)))) args s 0 0 (sr_A shM n0)) (F0 m 14 ls [])) (by intros; rename_i hf; exact absurd hf (by simp)) (fun rec hrec => k_X8_isText_L14 hX h0  rec hrec) n
set_option maxHeartbeats 4000000 in
set_option maxRecDepth 100000 in
theorem c_X8_isText {l : Launch} {D : va_G} {aC : Nat → ClassId} {n0 : Nat} {r : Bool} {σ' : St}  {σ : St} {q0 : Nat} (h0 : shM q0 = 9) (hf : f_X8_isText q0 σ = some (r, σ')) : sr_Met l D aC shM n0 yX8_isText cX8_isText 3 (Option.some FieldType.boolean) rm_X8_isText [.ref (n0 + q0)] σ (some (.int (bI r))) σ' := by
  refine s_met (own := RX8) (by decide) (Nat.le_of_ble_eq_true rfl) rfl ?_
  intro p e s m below meth c ls hX hV hl
  have hl : lv_has ls 3 [(0, .ref (n0 + q0))] := hl
  have hx := hX.1.1
  have hb := hX.1.2.1
  unfold f_X8_isText at hf
  refine lv_aload_n hx hb dX8_isText_0 rfl (lv_at hl 0 rfl) ?_
  refine lv_iconst (v := 0) hx hb dX8_isText_1 (by decide) ?_
  obtain ⟨σ14, e15, hf⟩ := sr_bnd hf
  refine fp_8_8 (x := 0) hX hV lk_674 (h0) dX8_isText_2 (fun H locs hV => ?_)
  rw [e15] at hV
  refine lv_aload_n hx hb dX8_isText_5 rfl (lv_at hl 0 rfl) ?_
  refine lv_iconst (v := 0) hx hb dX8_isText_6 (by decide) ?_
  obtain ⟨σ16, e17, hf⟩ := sr_bnd hf
  refine fp_8_10 (x := 0) hX hV lk_676 (h0) dX8_isText_7 (fun H locs hV => ?_)
  rw [e17] at hV
  refine lv_iconst (v := 0) hx hb dX8_isText_10 (by decide) ?_
  refine lv_istore_n (lv' := [(1, .int 0), (0, .ref (n0 + q0))]) hx hb dX8_isText_11 rfl hl (by decide) rfl (fun ls hl => ?_)
  refine lv_iconst (v := 1) hx hb dX8_isText_12 (by decide) ?_
  refine lv_istore_n (lv' := [(2, .int 1), (1, .int 0), (0, .ref (n0 + q0))]) hx hb dX8_isText_13 rfl hl (by decide) rfl (fun ls hl => ?_)
  exact k_X8_isText_L14w hX h0  sr_fuel _ _ _ _ _ _  (lv_sub hl [2, 1, 0] rfl) hV hf
abbrev rm_X8_faultPosition : Room := { frames := 5, cells := 0, slots := 0, locals := 111 }
theorem cv_X8_faultPosition : sr_Cv yX8_faultPosition cX8_faultPosition 1 (Option.some FieldType.int) RX8 0 := ⟨lk_788, lk_786, lk_787, lk_9, rfl, by decide +kernel, by decide +kernel, by decide +kernel⟩
set_option maxHeartbeats 4000000 in
set_option maxRecDepth 100000 in
theorem c_X8_faultPosition {l : Launch} {D : va_G} {aC : Nat → ClassId} {n0 : Nat} {r : Int32} {σ' : St}  {σ : St} {q0 : Nat} (h0 : shM q0 = 9) (hf : f_X8_faultPosition q0 σ = some (r, σ')) : sr_Met l D aC shM n0 yX8_faultPosition cX8_faultPosition 1 (Option.some FieldType.int) rm_X8_faultPosition [.ref (n0 + q0)] σ (some (.int r)) σ' := by
  refine s_met (own := RX8) (by decide) (Nat.le_of_ble_eq_true rfl) rfl ?_
  intro p e s m below meth c ls hX hV hl
  have hl : lv_has ls 1 [(0, .ref (n0 + q0))] := hl
  have hx := hX.1.1
  have hb := hX.1.2.1
  unfold f_X8_faultPosition at hf
  refine lv_aload_n hx hb dX8_faultPosition_0 rfl (lv_at hl 0 rfl) ?_
  obtain ⟨v2, σ3, e1, hf⟩ := sr_ob2 hf
  refine s_callV1 (ci := 8) hX hV hl.1 (c_X8_isText (h0) e1) cv_X8_isText lk_789 ⟨rfl, rfl, Nat.le_of_ble_eq_true rfl, Nat.le_of_ble_eq_true rfl⟩ rfl (by decide) (h0) rfl rfl (Nat.le_of_ble_eq_true rfl) dX8_faultPosition_1 ⟨Nat.le_of_ble_eq_true rfl, Nat.le_of_ble_eq_true rfl⟩ (fun H locs hV => ?_)
  refine lv_if_eq (tgt := 12) hx hb dX8_faultPosition_4 (by decide) (fun c4 => ?_) (fun c4 => ?_)
  · have hf := sr_f hf (sr_b0 c4)
    refine lv_aload_n hx hb dX8_faultPosition_12 rfl (lv_at hl 0 rfl) ?_
    refine fg_8_8 hX hV lk_674 (h0) dX8_faultPosition_13 ?_
    cases hf
    exact s_iret hX hV dX8_faultPosition_16
  · have hf := sr_t hf (sr_b1 c4)
    refine lv_bipush (v := (-15)) hx hb dX8_faultPosition_7 (by decide) ?_
    refine lv_goto (tgt := 16) hx hb dX8_faultPosition_9 (by decide) ?_
    cases hf
    exact s_iret hX hV dX8_faultPosition_16
abbrev rm_X8_read : Room := { frames := 5, cells := 0, slots := 0, locals := 111 }
theorem cv_X8_read : sr_Cv yX8_read cX8_read 3 (Option.some FieldType.int) RX8 1 := ⟨lk_824, lk_822, lk_823, lk_9, rfl, by decide +kernel, by decide +kernel, by decide +kernel⟩
set_option maxHeartbeats 4000000 in
set_option maxRecDepth 100000 in
theorem k_X8_read_L47 {p : Program} {l : Launch} {e : Env} {s : State} {m : MethodId} {args : Array Value} {below : List Frame} {meth : Method} {c : Code} {D : va_G} {aC : Nat → ClassId} {n0 : Nat} {r : Int32} {σ' : St} {q0 : Nat} {x1 : Int32} (hX : sr_X p s m args meth c cX8_read 3 (Option.some FieldType.int) RX8 D aC) (h0 : shM q0 = 9) (rec47 : Int32 → St → Option (Int32 × St)) (hrec47 : ∀ (x2 : Int32) (σ : St) (H : Heap) (locs : List Loc) (ls : Array Slot) , lv_has ls 3 [(0, .ref (n0 + q0)), (1, .int x1), (2, .int x2)] → sr_V D aC shM n0 σ s.heap H locs → rec47 x2 σ = some (r, σ') → W p l e rm_X8_read s m args below meth c H locs 0 0 (MQ below (sr_Qc D aC shM n0 σ' (some (.int r))) args s 0 0 (sr_A shM n0)) (F0 m 47 ls [])) : ∀ (x2 : Int32) (σ : St) (H : Heap) (locs : List Loc) (ls : Array Slot) , lv_has ls 3 [(0, .ref (n0 + q0)), (1, .int x1), (2, .int x2)] → sr_V D aC shM n0 σ s.heap H locs → f_X8_read_L47 q0 x1 rec47 x2 σ = some (r, σ') → W p l e rm_X8_read s m args below meth c H locs 0 0 (MQ below (sr_Qc D aC shM n0 σ' (some (.int r))) args s 0 0 (sr_A shM n0)) (F0 m 47 ls []) := by
  intro x2 σ H locs ls  hl hV hf
  have hx := hX.1.1
  have hb := hX.1.2.1
  unfold f_X8_read_L47 at hf
  refine lv_iload_n hx hb dX8_read_47 rfl (lv_at hl 2 rfl) ?_
  refine lv_aload_n hx hb dX8_read_48 rfl (lv_at hl 0 rfl) ?_
  refine fg_8_10 hX hV lk_676 (h0) dX8_read_49 ?_
  refine lv_icmp_ge (tgt := 94) hx hb dX8_read_52 (by decide) (fun c1 => ?_) (fun c1 => ?_)
  · have hf := sr_t hf c1
    refine lv_aload_n hx hb dX8_read_94 rfl (lv_at hl 0 rfl) ?_
    refine fg_8_10 hX hV lk_676 (h0) dX8_read_95 ?_
    cases hf
    exact s_iret hX hV dX8_read_98
  · have hf := sr_f hf c1
    refine lv_aload_n hx hb dX8_read_55 rfl (lv_at hl 0 rfl) ?_
    refine lv_iload_n hx hb dX8_read_56 rfl (lv_at hl 1 rfl) ?_
    refine lv_aload_n hx hb dX8_read_57 rfl (lv_at hl 0 rfl) ?_
    refine fg_8_9 hX hV lk_675 (h0) dX8_read_58 ?_
    refine lv_iconst (v := 3) hx hb dX8_read_61 (by decide) ?_
    refine lv_iload_n hx hb dX8_read_62 rfl (lv_at hl 2 rfl) ?_
    refine lv_imul hx hb dX8_read_63 ?_
    obtain ⟨v2, e3, hf⟩ := sr_bnd hf
    rw [e3]
    obtain ⟨g4, hf⟩ := sr_gd hf
    refine s_iald hX hV (n := 18) (ch_8_9 (h0)) (by decide) (inb_in g4) dX8_read_64 ?_
    refine lv_aload_n hx hb dX8_read_65 rfl (lv_at hl 0 rfl) ?_
    refine fg_8_9 hX hV lk_675 (h0) dX8_read_66 ?_
    refine lv_iconst (v := 3) hx hb dX8_read_69 (by decide) ?_
    refine lv_iload_n hx hb dX8_read_70 rfl (lv_at hl 2 rfl) ?_
    refine lv_imul hx hb dX8_read_71 ?_
    refine lv_iconst (v := 1) hx hb dX8_read_72 (by decide) ?_
    refine lv_iadd hx hb dX8_read_73 ?_
    obtain ⟨v5, e6, hf⟩ := sr_bnd hf
    rw [e6]
    obtain ⟨g7, hf⟩ := sr_gd hf
    refine s_iald hX hV (n := 18) (ch_8_9 (h0)) (by decide) (inb_in g7) dX8_read_74 ?_
    refine lv_aload_n hx hb dX8_read_75 rfl (lv_at hl 0 rfl) ?_
    refine fg_8_9 hX hV lk_675 (h0) dX8_read_76 ?_
    refine lv_iconst (v := 3) hx hb dX8_read_79 (by decide) ?_
    refine lv_iload_n hx hb dX8_read_80 rfl (lv_at hl 2 rfl) ?_
    refine lv_imul hx hb dX8_read_81 ?_
    refine lv_iconst (v := 2) hx hb dX8_read_82 (by decide) ?_
    refine lv_iadd hx hb dX8_read_83 ?_
    obtain ⟨v8, e9, hf⟩ := sr_bnd hf
    rw [e9]
    obtain ⟨g10, hf⟩ := sr_gd hf
    refine s_iald hX hV (n := 18) (ch_8_9 (h0)) (by decide) (inb_in g10) dX8_read_84 ?_
    obtain ⟨σ12, e11, hf⟩ := sr_obd hf
    refine s_callV0 (ci := 8) hX hV hl.1 (c_X8_adds (h0) e11) cv_X8_adds lk_758 ⟨rfl, rfl, Nat.le_of_ble_eq_true rfl, Nat.le_of_ble_eq_true rfl⟩ rfl (by decide) (h0) rfl rfl (Nat.le_of_ble_eq_true rfl) dX8_read_85 ⟨Nat.le_of_ble_eq_true rfl, Nat.le_of_ble_eq_true rfl⟩ (fun H locs hV => ?_)
    obtain ⟨v13, e14, hf⟩ := sr_bnd hf
    refine lv_iinc (v := v13) (lv' := [(2, .int v13), (0, .ref (n0 + q0)), (1, .int x1)]) hx hb dX8_read_88 hl (k := 2) rfl (by rw [← e14]; rfl) (by decide) rfl (fun ls hl => ?_)
    refine lv_goto (tgt := 47) hx hb dX8_read_91 (by decide) ?_
    exact hrec47 _ _ _ _ _  (lv_sub hl [1, 2, 0] rfl) hV hf
set_option maxHeartbeats 4000000 in
set_option maxRecDepth 100000 in
theorem k_X8_read_L47w {p : Program} {l : Launch} {e : Env} {s : State} {m : MethodId} {args : Array Value} {below : List Frame} {meth : Method} {c : Code} {D : va_G} {aC : Nat → ClassId} {n0 : Nat} {r : Int32} {σ' : St} {q0 : Nat} {x1 : Int32} (hX : sr_X p s m args meth c cX8_read 3 (Option.some FieldType.int) RX8 D aC) (h0 : shM q0 = 9) (n : Nat) : ∀ (x2 : Int32) (σ : St) (H : Heap) (locs : List Loc) (ls : Array Slot) , lv_has ls 3 [(0, .ref (n0 + q0)), (1, .int x1), (2, .int x2)] → sr_V D aC shM n0 σ s.heap H locs → it2 (f_X8_read_L47 q0 x1) n x2 σ = some (r, σ') → W p l e rm_X8_read s m args below meth c H locs 0 0 (MQ below (sr_Qc D aC shM n0 σ' (some (.int r))) args s 0 0 (sr_A shM n0)) (F0 m 47 ls []) :=
  it2_ind (fun rec47 => ∀ (x2 : Int32) (σ : St) (H : Heap) (locs : List Loc) (ls : Array Slot) , lv_has ls 3 [(0, .ref (n0 + q0)), (1, .int x1), (2, .int x2)] → sr_V D aC shM n0 σ s.heap H locs → rec47 x2 σ = some (r, σ') → W p l e rm_X8_read s m args below meth c H locs 0 0 (MQ below (sr_Qc D aC shM n0 σ' (some (.int r))) args s 0 0 (sr_A shM n0)) (F0 m 47 ls [])) (by intros; rename_i hf; exact absurd hf (by simp)) (fun rec hrec => k_X8_read_L47 hX h0  rec hrec) n
set_option maxHeartbeats 4000000 in
set_option maxRecDepth 100000 in
theorem c_X8_read {l : Launch} {D : va_G} {aC : Nat → ClassId} {n0 : Nat} {r : Int32} {σ' : St}  {σ : St} {q0 : Nat} {x1 : Int32} (h0 : shM q0 = 9) (hf : f_X8_read q0 x1 σ = some (r, σ')) : sr_Met l D aC shM n0 yX8_read cX8_read 3 (Option.some FieldType.int) rm_X8_read [.ref (n0 + q0), .int x1] σ (some (.int r)) σ' := by
  refine s_met (own := RX8) (by decide) (Nat.le_of_ble_eq_true rfl) rfl ?_
  intro p e s m below meth c ls hX hV hl
  have hl : lv_has ls 3 [(0, .ref (n0 + q0)), (1, .int x1)] := hl
  have hx := hX.1.1
  have hb := hX.1.2.1
  unfold f_X8_read at hf
  refine lv_aload_n hx hb dX8_read_0 rfl (lv_at hl 0 rfl) ?_
  refine lv_iload_n hx hb dX8_read_1 rfl (lv_at hl 1 rfl) ?_
  obtain ⟨v16, e15, hf⟩ := sr_bnd hf
  refine s_callV1 (ci := 8) hX hV hl.1 (c_X8_isChange (h0) e15) cv_X8_isChange lk_747 ⟨rfl, rfl, Nat.le_of_ble_eq_true rfl, Nat.le_of_ble_eq_true rfl⟩ rfl (by decide) (h0) rfl rfl (Nat.le_of_ble_eq_true rfl) dX8_read_2 ⟨Nat.le_of_ble_eq_true rfl, Nat.le_of_ble_eq_true rfl⟩ (fun H locs hV => ?_)
  refine lv_if_ne (tgt := 11) hx hb dX8_read_5 (by decide) (fun c17 => ?_) (fun c17 => ?_)
  · have hf := sr_t hf (sr_b1 c17)
    refine lv_aload_n hx hb dX8_read_11 rfl (lv_at hl 0 rfl) ?_
    obtain ⟨v19, σ20, e18, hf⟩ := sr_ob2 hf
    refine s_callV1 (ci := 8) hX hV hl.1 (c_X8_isText (h0) e18) cv_X8_isText lk_789 ⟨rfl, rfl, Nat.le_of_ble_eq_true rfl, Nat.le_of_ble_eq_true rfl⟩ rfl (by decide) (h0) rfl rfl (Nat.le_of_ble_eq_true rfl) dX8_read_12 ⟨Nat.le_of_ble_eq_true rfl, Nat.le_of_ble_eq_true rfl⟩ (fun H locs hV => ?_)
    refine lv_if_eq (tgt := 31) hx hb dX8_read_15 (by decide) (fun c21 => ?_) (fun c21 => ?_)
    · have hf := sr_f hf (sr_b0 c21)
      refine lv_bipush (v := (-13)) hx hb dX8_read_31 (by decide) ?_
      cases hf
      exact s_iret hX hV dX8_read_33
    · have hf := sr_t hf (sr_b1 c21)
      refine lv_aload_n hx hb dX8_read_18 rfl (lv_at hl 0 rfl) ?_
      refine fg_8_0 hX hV lk_666 (h0) dX8_read_19 ?_
      refine lv_iload_n hx hb dX8_read_22 rfl (lv_at hl 1 rfl) ?_
      refine lv_iconst (v := 1) hx hb dX8_read_23 (by decide) ?_
      obtain ⟨v23, e22, hf⟩ := sr_bnd hf
      refine s_callS1 hX hV hl.1 (c_X8_at  e22) cs_X8_at lk_740 ⟨rfl, rfl, Nat.le_of_ble_eq_true rfl, Nat.le_of_ble_eq_true rfl⟩ rfl rfl (Nat.le_of_ble_eq_true rfl) dX8_read_24 ⟨Nat.le_of_ble_eq_true rfl, Nat.le_of_ble_eq_true rfl⟩ (fun H locs hV => ?_)
      obtain ⟨g24, hf⟩ := sr_gd hf
      refine s_iald hX hV (n := 257) (ch_8_0 (h0)) (by decide) (inb_in g24) dX8_read_27 ?_
      refine lv_if_eq (tgt := 34) hx hb dX8_read_28 (by decide) (fun c25 => ?_) (fun c25 => ?_)
      · have hf := sr_t hf c25
        refine lv_aload_n hx hb dX8_read_34 rfl (lv_at hl 0 rfl) ?_
        refine fg_8_0 hX hV lk_666 (h0) dX8_read_35 ?_
        refine lv_iload_n hx hb dX8_read_38 rfl (lv_at hl 1 rfl) ?_
        refine lv_iconst (v := 2) hx hb dX8_read_39 (by decide) ?_
        obtain ⟨v27, e26, hf⟩ := sr_bnd hf
        refine s_callS1 hX hV hl.1 (c_X8_at  e26) cs_X8_at lk_740 ⟨rfl, rfl, Nat.le_of_ble_eq_true rfl, Nat.le_of_ble_eq_true rfl⟩ rfl rfl (Nat.le_of_ble_eq_true rfl) dX8_read_40 ⟨Nat.le_of_ble_eq_true rfl, Nat.le_of_ble_eq_true rfl⟩ (fun H locs hV => ?_)
        refine lv_iconst (v := 0) hx hb dX8_read_43 (by decide) ?_
        obtain ⟨g28, hf⟩ := sr_gd hf
        obtain ⟨σ29, e30, hf⟩ := sr_bnd hf
        refine s_iast hX hV (n := 257) (ch_8_0 (h0)) (by decide) (inb_in g28) dX8_read_44 (fun H locs hV => ?_)
        rw [e30] at hV
        refine lv_iconst (v := 0) hx hb dX8_read_45 (by decide) ?_
        refine lv_istore_n (lv' := [(2, .int 0), (0, .ref (n0 + q0)), (1, .int x1)]) hx hb dX8_read_46 rfl hl (by decide) rfl (fun ls hl => ?_)
        exact k_X8_read_L47w hX h0  sr_fuel _ _ _ _ _  (lv_sub hl [1, 2, 0] rfl) hV hf
      · have hf := sr_f hf c25
        refine lv_bipush (v := (-13)) hx hb dX8_read_31 (by decide) ?_
        cases hf
        exact s_iret hX hV dX8_read_33
  · have hf := sr_f hf (sr_b0 c17)
    refine lv_bipush (v := (-11)) hx hb dX8_read_8 (by decide) ?_
    cases hf
    exact s_iret hX hV dX8_read_10
