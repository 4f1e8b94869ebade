abbrev rm_X0_takesProbes : Room := { frames := 4, cells := 0, slots := 0, locals := 111 }
theorem cv_X0_takesProbes : sr_Cv yX0_takesProbes cX0_takesProbes 4 (Option.some FieldType.boolean) RX0 3 := ⟨lk_428, lk_426, lk_427, lk_3, rfl, by decide +kernel, by decide +kernel, by decide +kernel⟩
set_option maxHeartbeats 4000000 in
set_option maxRecDepth 100000 in
theorem c_X0_takesProbes {l : Launch} {D : va_G} {aC : Nat → ClassId} {n0 : Nat} {r : Bool} {σ' : St}  {σ : St} {q0 : Nat} {x1 : Int32} {x2 : Int32} {x3 : Int32} (h0 : shC q0 = 1) (hf : f_X0_takesProbes q0 x1 x2 x3 σ = some (r, σ')) : sr_Met l D aC shC n0 yX0_takesProbes cX0_takesProbes 4 (Option.some FieldType.boolean) rm_X0_takesProbes [.ref (n0 + q0), .int x1, .int x2, .int x3] σ (some (.int (bI r))) σ' := by
  refine s_met (own := RX0) (by decide) (Nat.le_of_ble_eq_true rfl) rfl ?_
  intro p e s m below meth c ls hX hV hl
  have hl : lv_has ls 4 [(0, .ref (n0 + q0)), (1, .int x1), (2, .int x2), (3, .int x3)] := hl
  have hx := hX.1.1
  have hb := hX.1.2.1
  unfold f_X0_takesProbes at hf
  refine lv_aload_n hx hb dX0_takesProbes_0 rfl (lv_at hl 0 rfl) ?_
  obtain ⟨v2, e1, hf⟩ := sr_bnd hf
  refine s_callV1 (ci := 0) hX hV hl.1 (c_X0_isWatched (h0) e1) cv_X0_isWatched lk_429 ⟨rfl, rfl, Nat.le_of_ble_eq_true rfl, Nat.le_of_ble_eq_true rfl⟩ rfl (by decide) (h0) rfl rfl (Nat.le_of_ble_eq_true rfl) dX0_takesProbes_1 ⟨Nat.le_of_ble_eq_true rfl, Nat.le_of_ble_eq_true rfl⟩ (fun H locs hV => ?_)
  refine lv_if_eq (tgt := 14) hx hb dX0_takesProbes_4 (by decide) (fun c3 => ?_) (fun c3 => ?_)
  · have hf := sr_f hf (sr_b0 c3)
    refine lv_iconst (v := 0) hx hb dX0_takesProbes_14 (by decide) ?_
    cases hf
    exact s_zret (b := false) hX hV dX0_takesProbes_15
  · have hf := sr_t hf (sr_b1 c3)
    refine lv_aload_n hx hb dX0_takesProbes_7 rfl (lv_at hl 0 rfl) ?_
    refine fg_0_6 hX hV lk_96 (h0) dX0_takesProbes_8 ?_
    refine lv_if_ne (tgt := 16) hx hb dX0_takesProbes_11 (by decide) (fun c4 => ?_) (fun c4 => ?_)
    · have hf := sr_f hf c4
      refine lv_aload_n hx hb dX0_takesProbes_16 rfl (lv_at hl 0 rfl) ?_
      refine lv_iload_n hx hb dX0_takesProbes_17 rfl (lv_at hl 1 rfl) ?_
      obtain ⟨v6, e5, hf⟩ := sr_obd hf
      refine s_callV1 (ci := 0) hX hV hl.1 (c_X0_isAt (h0) e5) cv_X0_isAt lk_433 ⟨rfl, rfl, Nat.le_of_ble_eq_true rfl, Nat.le_of_ble_eq_true rfl⟩ rfl (by decide) (h0) rfl rfl (Nat.le_of_ble_eq_true rfl) dX0_takesProbes_18 ⟨Nat.le_of_ble_eq_true rfl, Nat.le_of_ble_eq_true rfl⟩ (fun H locs hV => ?_)
      refine lv_if_eq (tgt := 36) hx hb dX0_takesProbes_21 (by decide) (fun c7 => ?_) (fun c7 => ?_)
      · have hf := sr_f hf (sr_b0 c7)
        refine lv_aload_n hx hb dX0_takesProbes_36 rfl (lv_at hl 0 rfl) ?_
        refine fg_0_2 hX hV lk_86 (h0) dX0_takesProbes_37 ?_
        refine lv_iload_n hx hb dX0_takesProbes_40 rfl (lv_at hl 2 rfl) ?_
        refine lv_iload_n hx hb dX0_takesProbes_41 rfl (lv_at hl 3 rfl) ?_
        obtain ⟨v9, σ10, e8, hf⟩ := sr_ob2 hf
        refine s_callV1 (ci := 6) hX hV hl.1 (c_X6_takesControl (ch_0_2 (h0)) e8) cv_X6_takesControl lk_462 ⟨rfl, rfl, Nat.le_of_ble_eq_true rfl, Nat.le_of_ble_eq_true rfl⟩ rfl (by decide) (ch_0_2 (h0)) rfl rfl (Nat.le_of_ble_eq_true rfl) dX0_takesProbes_42 ⟨Nat.le_of_ble_eq_true rfl, Nat.le_of_ble_eq_true rfl⟩ (fun H locs hV => ?_)
        cases hf
        exact s_zret hX hV dX0_takesProbes_45
      · have hf := sr_t hf (sr_b1 c7)
        refine lv_aload_n hx hb dX0_takesProbes_24 rfl (lv_at hl 0 rfl) ?_
        refine fg_0_2 hX hV lk_86 (h0) dX0_takesProbes_25 ?_
        refine lv_iload_n hx hb dX0_takesProbes_28 rfl (lv_at hl 2 rfl) ?_
        refine lv_iload_n hx hb dX0_takesProbes_29 rfl (lv_at hl 3 rfl) ?_
        obtain ⟨v12, σ13, e11, hf⟩ := sr_ob2 hf
        refine s_callV1 (ci := 6) hX hV hl.1 (c_X6_takesTreated (ch_0_2 (h0)) e11) cv_X6_takesTreated lk_438 ⟨rfl, rfl, Nat.le_of_ble_eq_true rfl, Nat.le_of_ble_eq_true rfl⟩ rfl (by decide) (ch_0_2 (h0)) rfl rfl (Nat.le_of_ble_eq_true rfl) dX0_takesProbes_30 ⟨Nat.le_of_ble_eq_true rfl, Nat.le_of_ble_eq_true rfl⟩ (fun H locs hV => ?_)
        refine lv_goto (tgt := 45) hx hb dX0_takesProbes_33 (by decide) ?_
        cases hf
        exact s_zret hX hV dX0_takesProbes_45
    · have hf := sr_t hf c4
      refine lv_iconst (v := 0) hx hb dX0_takesProbes_14 (by decide) ?_
      cases hf
      exact s_zret (b := false) hX hV dX0_takesProbes_15
abbrev rm_X0_hoursSinceLatest : Room := { frames := 0, cells := 0, slots := 0, locals := 0 }
theorem cv_X0_hoursSinceLatest : sr_Cv yX0_hoursSinceLatest cX0_hoursSinceLatest 3 (Option.some FieldType.int) RX0 1 := ⟨lk_512, lk_510, lk_511, lk_3, rfl, by decide +kernel, by decide +kernel, by decide +kernel⟩
set_option maxHeartbeats 4000000 in
set_option maxRecDepth 100000 in
theorem c_X0_hoursSinceLatest {l : Launch} {D : va_G} {aC : Nat → ClassId} {n0 : Nat} {r : Int32} {σ : St}  {q0 : Nat} {x1 : Int32} (h0 : shC q0 = 1) (hf : f_X0_hoursSinceLatest q0 x1 σ = some r) : sr_Met l D aC shC n0 yX0_hoursSinceLatest cX0_hoursSinceLatest 3 (Option.some FieldType.int) rm_X0_hoursSinceLatest [.ref (n0 + q0), .int x1] σ (some (.int r)) σ := by
  refine s_met (own := RX0) (by decide) (Nat.le_of_ble_eq_true rfl) rfl ?_
  intro p e s m below meth c ls hX hV hl
  have hl : lv_has ls 3 [(0, .ref (n0 + q0)), (1, .int x1)] := hl
  have hx := hX.1.1
  have hb := hX.1.2.1
  unfold f_X0_hoursSinceLatest at hf
  refine lv_aload_n hx hb dX0_hoursSinceLatest_0 rfl (lv_at hl 0 rfl) ?_
  refine fg_0_6 hX hV lk_96 (h0) dX0_hoursSinceLatest_1 ?_
  refine lv_iconst (v := 1) hx hb dX0_hoursSinceLatest_4 (by decide) ?_
  refine lv_isub hx hb dX0_hoursSinceLatest_5 ?_
  obtain ⟨v1, e2, hf⟩ := sr_bnd hf
  rw [e2]
  refine lv_istore_n (lv' := [(2, .int v1), (0, .ref (n0 + q0)), (1, .int x1)]) hx hb dX0_hoursSinceLatest_6 rfl hl (by decide) rfl (fun ls hl => ?_)
  refine lv_iload_n hx hb dX0_hoursSinceLatest_7 rfl (lv_at hl 0 rfl) ?_
  refine lv_if_lt (tgt := 28) hx hb dX0_hoursSinceLatest_8 (by decide) (fun c3 => ?_) (fun c3 => ?_)
  · have hf := sr_t hf c3
    refine lv_iconst (v := 0) hx hb dX0_hoursSinceLatest_28 (by decide) ?_
    cases hf
    exact s_iret hX hV dX0_hoursSinceLatest_29
  · have hf := sr_f hf c3
    refine lv_iload_n hx hb dX0_hoursSinceLatest_11 rfl (lv_at hl 0 rfl) ?_
    refine lv_bipush (v := 6) hx hb dX0_hoursSinceLatest_12 (by decide) ?_
    refine lv_icmp_ge (tgt := 28) hx hb dX0_hoursSinceLatest_14 (by decide) (fun c4 => ?_) (fun c4 => ?_)
    · have hf := sr_t hf c4
      refine lv_iconst (v := 0) hx hb dX0_hoursSinceLatest_28 (by decide) ?_
      cases hf
      exact s_iret hX hV dX0_hoursSinceLatest_29
    · have hf := sr_f hf c4
      refine lv_iload_n hx hb dX0_hoursSinceLatest_17 rfl (lv_at hl 2 rfl) ?_
      refine lv_aload_n hx hb dX0_hoursSinceLatest_18 rfl (lv_at hl 1 rfl) ?_
      refine fg_0_3 hX hV lk_89 (h0) dX0_hoursSinceLatest_19 ?_
      refine lv_iload_n hx hb dX0_hoursSinceLatest_22 rfl (lv_at hl 0 rfl) ?_
      obtain ⟨g5, hf⟩ := sr_gd hf
      refine s_iald hX hV (n := 6) (ch_0_3 (h0)) (by decide) (inb_in g5) dX0_hoursSinceLatest_23 ?_
      refine lv_isub hx hb dX0_hoursSinceLatest_24 ?_
      refine lv_goto (tgt := 29) hx hb dX0_hoursSinceLatest_25 (by decide) ?_
      cases hf
      exact s_iret hX hV dX0_hoursSinceLatest_29
abbrev rm_X7_isWithin : Room := { frames := 0, cells := 0, slots := 0, locals := 0 }
theorem cs_X7_isWithin : sr_Cs yX7_isWithin cX7_isWithin 3 (Option.some FieldType.boolean) RX7 3 := ⟨lk_238, lk_237, lk_1, rfl, by decide +kernel, by decide +kernel, by decide +kernel⟩
set_option maxHeartbeats 4000000 in
set_option maxRecDepth 100000 in
theorem c_X7_isWithin {l : Launch} {D : va_G} {aC : Nat → ClassId} {n0 : Nat} {sh : Nat → Nat} {r : Bool} {σ : St}  {x0 : Int32} {x1 : Int32} {x2 : Int32}  (hf : f_X7_isWithin x0 x1 x2 = r) : sr_Met l D aC sh n0 yX7_isWithin cX7_isWithin 3 (Option.some FieldType.boolean) rm_X7_isWithin [.int x0, .int x1, .int x2] σ (some (.int (bI r))) σ := by
  refine s_met (own := RX7) (by decide) (Nat.le_of_ble_eq_true rfl) rfl ?_
  intro p e s m below meth c ls hX hV hl
  have hl : lv_has ls 3 [(0, .int x0), (1, .int x1), (2, .int x2)] := hl
  have hx := hX.1.1
  have hb := hX.1.2.1
  unfold f_X7_isWithin at hf
  refine lv_iload_n hx hb dX7_isWithin_0 rfl (lv_at hl 0 rfl) ?_
  refine lv_iload_n hx hb dX7_isWithin_1 rfl (lv_at hl 1 rfl) ?_
  refine lv_icmp_lt (tgt := 14) hx hb dX7_isWithin_2 (by decide) (fun c1 => ?_) (fun c1 => ?_)
  · have hf := sr_t hf c1
    refine lv_iconst (v := 0) hx hb dX7_isWithin_14 (by decide) ?_
    cases hf
    exact s_zret (b := false) hX hV dX7_isWithin_15
  · have hf := sr_f hf c1
    refine lv_iload_n hx hb dX7_isWithin_5 rfl (lv_at hl 0 rfl) ?_
    refine lv_iload_n hx hb dX7_isWithin_6 rfl (lv_at hl 2 rfl) ?_
    refine lv_icmp_gt (tgt := 14) hx hb dX7_isWithin_7 (by decide) (fun c2 => ?_) (fun c2 => ?_)
    · have hf := sr_t hf c2
      refine lv_iconst (v := 0) hx hb dX7_isWithin_14 (by decide) ?_
      cases hf
      exact s_zret (b := false) hX hV dX7_isWithin_15
    · have hf := sr_f hf c2
      refine lv_iconst (v := 1) hx hb dX7_isWithin_10 (by decide) ?_
      refine lv_goto (tgt := 15) hx hb dX7_isWithin_11 (by decide) ?_
      cases hf
      exact s_zret (b := true) hX hV dX7_isWithin_15
abbrev rm_X4_number : Room := { frames := 1, cells := 0, slots := 0, locals := 22 }
theorem cv_X4_number : sr_Cv yX4_number cX4_number 5 (Option.some FieldType.int) RX4 2 := ⟨lk_320, lk_318, lk_319, lk_4, rfl, by decide +kernel, by decide +kernel, by decide +kernel⟩
set_option maxHeartbeats 4000000 in
set_option maxRecDepth 100000 in
theorem k_X4_number_B28 {p : Program} {l : Launch} {e : Env} {s : State} {m : MethodId} {args : Array Value} {below : List Frame} {meth : Method} {c : Code} {D : va_G} {aC : Nat → ClassId} {n0 : Nat} {r : Int32} {σ : St} {q0 : Nat} {x1 : Int32} {x2 : Int32} (hX : sr_X p s m args meth c cX4_number 5 (Option.some FieldType.int) RX4 D aC) (h0 : shC q0 = 5) {sb0 : Bool}  {H : Heap} {locs : List Loc} {ls : Array Slot} (hl : lv_has ls 5 [(0, .ref (n0 + q0)), (1, .int x1), (2, .int x2)]) (hV : sr_V D aC shC n0 σ s.heap H locs) (hf : f_X4_number_B28 σ q0 x1 x2 sb0 = some r) : W p l e rm_X4_number s m args below meth c H locs 0 0 (MQ below (sr_Qc D aC shC n0 σ (some (.int r))) args s 0 0 (sr_A shC n0)) (F0 m 28 ls [.int (bI sb0)]) := by
  have hx := hX.1.1
  have hb := hX.1.2.1
  unfold f_X4_number_B28 at hf
  refine lv_istore_n (lv' := [(3, .int (bI sb0)), (0, .ref (n0 + q0)), (1, .int x1), (2, .int x2)]) hx hb dX4_number_28 rfl hl (by decide) rfl (fun ls hl => ?_)
  refine lv_iload_n hx hb dX4_number_29 rfl (lv_at hl 2 rfl) ?_
  refine lv_iconst (v := 3) hx hb dX4_number_30 (by decide) ?_
  refine lv_imul hx hb dX4_number_31 ?_
  refine lv_iload_n hx hb dX4_number_32 rfl (lv_at hl 3 rfl) ?_
  refine lv_iadd hx hb dX4_number_33 ?_
  obtain ⟨v1, e2, hf⟩ := sr_bnd hf
  rw [e2]
  refine lv_istore (lv' := [(4, .int v1), (3, .int (bI sb0)), (0, .ref (n0 + q0)), (1, .int x1), (2, .int x2)]) hx hb dX4_number_34 hl (by decide) rfl (fun ls hl => ?_)
  refine lv_iload_n hx hb dX4_number_36 rfl (lv_at hl 1 rfl) ?_
  refine lv_if_eq (tgt := 60) hx hb dX4_number_37 (by decide) (fun c3 => ?_) (fun c3 => ?_)
  · have hf := sr_f hf (sr_b0 c3)
    refine lv_iconst (v := 0) hx hb dX4_number_60 (by decide) ?_
    cases hf
    exact s_iret hX hV dX4_number_61
  · have hf := sr_t hf (sr_b1 c3)
    refine lv_iload hx hb dX4_number_40 (lv_at hl 0 rfl) ?_
    refine lv_aload_n hx hb dX4_number_42 rfl (lv_at hl 2 rfl) ?_
    refine fg_4_0 hX hV lk_40 (h0) dX4_number_43 ?_
    refine s_alen hX hV (n := 18) (v := 18) (ch_4_0 (h0)) (by decide) (by decide) dX4_number_46 ?_
    refine lv_icmp_ge (tgt := 60) hx hb dX4_number_47 (by decide) (fun c4 => ?_) (fun c4 => ?_)
    · have hf := sr_t hf c4
      refine lv_iconst (v := 0) hx hb dX4_number_60 (by decide) ?_
      cases hf
      exact s_iret hX hV dX4_number_61
    · have hf := sr_f hf c4
      refine lv_aload_n hx hb dX4_number_50 rfl (lv_at hl 2 rfl) ?_
      refine fg_4_0 hX hV lk_40 (h0) dX4_number_51 ?_
      refine lv_iload hx hb dX4_number_54 (lv_at hl 0 rfl) ?_
      obtain ⟨g5, hf⟩ := sr_gd hf
      refine s_iald hX hV (n := 18) (ch_4_0 (h0)) (by decide) (inb_in g5) dX4_number_56 ?_
      refine lv_goto (tgt := 61) hx hb dX4_number_57 (by decide) ?_
      cases hf
      exact s_iret hX hV dX4_number_61
set_option maxHeartbeats 4000000 in
set_option maxRecDepth 100000 in
theorem c_X4_number {l : Launch} {D : va_G} {aC : Nat → ClassId} {n0 : Nat} {r : Int32} {σ : St}  {q0 : Nat} {x1 : Int32} {x2 : Int32} (h0 : shC q0 = 5) (hf : f_X4_number q0 x1 x2 σ = some r) : sr_Met l D aC shC n0 yX4_number cX4_number 5 (Option.some FieldType.int) rm_X4_number [.ref (n0 + q0), .int x1, .int x2] σ (some (.int r)) σ := by
  refine s_met (own := RX4) (by decide) (Nat.le_of_ble_eq_true rfl) rfl ?_
  intro p e s m below meth c ls hX hV hl
  have hl : lv_has ls 5 [(0, .ref (n0 + q0)), (1, .int x1), (2, .int x2)] := hl
  have hx := hX.1.1
  have hb := hX.1.2.1
  unfold f_X4_number at hf
  refine lv_iload_n hx hb dX4_number_0 rfl (lv_at hl 1 rfl) ?_
  refine lv_iconst (v := 0) hx hb dX4_number_1 (by decide) ?_
  refine lv_aload_n hx hb dX4_number_2 rfl (lv_at hl 0 rfl) ?_
  refine fg_4_1 hX hV lk_41 (h0) dX4_number_3 ?_
  refine lv_iconst (v := 1) hx hb dX4_number_6 (by decide) ?_
  refine lv_isub hx hb dX4_number_7 ?_
  obtain ⟨v7, e6, hf⟩ := sr_bnd hf
  refine s_callN1 hX hV hl.1 (c_X7_isWithin  e6) cs_X7_isWithin hX.2.1.2.1 ⟨rfl, rfl, Nat.le_of_ble_eq_true rfl, Nat.le_of_ble_eq_true rfl⟩ rfl rfl (Nat.le_of_ble_eq_true rfl) dX4_number_8 ⟨Nat.le_of_ble_eq_true rfl, Nat.le_of_ble_eq_true rfl⟩ (fun H locs hV => ?_)
  refine lv_if_eq (tgt := 27) hx hb dX4_number_11 (by decide) (fun c8 => ?_) (fun c8 => ?_)
  · have hf := sr_f hf (sr_b0 c8)
    refine lv_iconst (v := 0) hx hb dX4_number_27 (by decide) ?_
    exact k_X4_number_B28 hX h0   (lv_sub hl [0, 1, 2] rfl) hV hf
  · have hf := sr_t hf (sr_b1 c8)
    refine lv_iload_n hx hb dX4_number_14 rfl (lv_at hl 2 rfl) ?_
    refine lv_iconst (v := 0) hx hb dX4_number_15 (by decide) ?_
    refine lv_iconst (v := 2) hx hb dX4_number_16 (by decide) ?_
    obtain ⟨v10, e9, hf⟩ := sr_bnd hf
    refine s_callN1 hX hV hl.1 (c_X7_isWithin  e9) cs_X7_isWithin hX.2.1.2.1 ⟨rfl, rfl, Nat.le_of_ble_eq_true rfl, Nat.le_of_ble_eq_true rfl⟩ rfl rfl (Nat.le_of_ble_eq_true rfl) dX4_number_17 ⟨Nat.le_of_ble_eq_true rfl, Nat.le_of_ble_eq_true rfl⟩ (fun H locs hV => ?_)
    refine lv_if_eq (tgt := 27) hx hb dX4_number_20 (by decide) (fun c11 => ?_) (fun c11 => ?_)
    · have hf := sr_f hf (sr_b0 c11)
      refine lv_iconst (v := 0) hx hb dX4_number_27 (by decide) ?_
      exact k_X4_number_B28 hX h0   (lv_sub hl [0, 1, 2] rfl) hV hf
    · have hf := sr_t hf (sr_b1 c11)
      refine lv_iconst (v := 1) hx hb dX4_number_23 (by decide) ?_
      refine lv_goto (tgt := 28) hx hb dX4_number_24 (by decide) ?_
      exact k_X4_number_B28 hX h0   (lv_sub hl [0, 1, 2] rfl) hV hf
abbrev rm_X0_waitsAt : Room := { frames := 2, cells := 0, slots := 0, locals := 46 }
theorem cv_X0_waitsAt : sr_Cv yX0_waitsAt cX0_waitsAt 2 (Option.some FieldType.boolean) RX0 1 := ⟨lk_508, lk_506, lk_507, lk_3, rfl, by decide +kernel, by decide +kernel, by decide +kernel⟩
set_option maxHeartbeats 4000000 in
set_option maxRecDepth 100000 in
theorem c_X0_waitsAt {l : Launch} {D : va_G} {aC : Nat → ClassId} {n0 : Nat} {r : Bool} {σ : St}  {q0 : Nat} {x1 : Int32} (h0 : shC q0 = 1) (hf : f_X0_waitsAt q0 x1 σ = some r) : sr_Met l D aC shC n0 yX0_waitsAt cX0_waitsAt 2 (Option.some FieldType.boolean) rm_X0_waitsAt [.ref (n0 + q0), .int x1] σ (some (.int (bI r))) σ := by
  refine s_met (own := RX0) (by decide) (Nat.le_of_ble_eq_true rfl) rfl ?_
  intro p e s m below meth c ls hX hV hl
  have hl : lv_has ls 2 [(0, .ref (n0 + q0)), (1, .int x1)] := hl
  have hx := hX.1.1
  have hb := hX.1.2.1
  unfold f_X0_waitsAt at hf
  refine lv_aload_n hx hb dX0_waitsAt_0 rfl (lv_at hl 0 rfl) ?_
  refine fg_0_6 hX hV lk_96 (h0) dX0_waitsAt_1 ?_
  refine lv_if_le (tgt := 33) hx hb dX0_waitsAt_4 (by decide) (fun c1 => ?_) (fun c1 => ?_)
  · have hf := sr_t hf c1
    refine lv_iconst (v := 0) hx hb dX0_waitsAt_33 (by decide) ?_
    cases hf
    exact s_zret (b := false) hX hV dX0_waitsAt_34
  · have hf := sr_f hf c1
    refine lv_aload_n hx hb dX0_waitsAt_7 rfl (lv_at hl 0 rfl) ?_
    refine lv_iload_n hx hb dX0_waitsAt_8 rfl (lv_at hl 1 rfl) ?_
    obtain ⟨v3, e2, hf⟩ := sr_obd hf
    refine s_callV1 (ci := 0) hX hV hl.1 (c_X0_hoursSinceLatest (h0) e2) cv_X0_hoursSinceLatest lk_509 ⟨rfl, rfl, Nat.le_of_ble_eq_true rfl, Nat.le_of_ble_eq_true rfl⟩ rfl (by decide) (h0) rfl rfl (Nat.le_of_ble_eq_true rfl) dX0_waitsAt_9 ⟨Nat.le_of_ble_eq_true rfl, Nat.le_of_ble_eq_true rfl⟩ (fun H locs hV => ?_)
    refine lv_aload_n hx hb dX0_waitsAt_12 rfl (lv_at hl 0 rfl) ?_
    refine fg_0_1 hX hV lk_84 (h0) dX0_waitsAt_13 ?_
    refine lv_aload_n hx hb dX0_waitsAt_16 rfl (lv_at hl 0 rfl) ?_
    refine fg_0_6 hX hV lk_96 (h0) dX0_waitsAt_17 ?_
    refine lv_iconst (v := 1) hx hb dX0_waitsAt_20 (by decide) ?_
    refine lv_isub hx hb dX0_waitsAt_21 ?_
    refine lv_iconst (v := 1) hx hb dX0_waitsAt_22 (by decide) ?_
    obtain ⟨v5, e4, hf⟩ := sr_obd hf
    refine s_callV1 (ci := 4) hX hV hl.1 (c_X4_number (ch_0_1 (h0)) e4) cv_X4_number lk_513 ⟨rfl, rfl, Nat.le_of_ble_eq_true rfl, Nat.le_of_ble_eq_true rfl⟩ rfl (by decide) (ch_0_1 (h0)) rfl rfl (Nat.le_of_ble_eq_true rfl) dX0_waitsAt_23 ⟨Nat.le_of_ble_eq_true rfl, Nat.le_of_ble_eq_true rfl⟩ (fun H locs hV => ?_)
    refine lv_icmp_ge (tgt := 33) hx hb dX0_waitsAt_26 (by decide) (fun c6 => ?_) (fun c6 => ?_)
    · have hf := sr_t hf c6
      refine lv_iconst (v := 0) hx hb dX0_waitsAt_33 (by decide) ?_
      cases hf
      exact s_zret (b := false) hX hV dX0_waitsAt_34
    · have hf := sr_f hf c6
      refine lv_iconst (v := 1) hx hb dX0_waitsAt_29 (by decide) ?_
      refine lv_goto (tgt := 34) hx hb dX0_waitsAt_30 (by decide) ?_
      cases hf
      exact s_zret (b := true) hX hV dX0_waitsAt_34
abbrev rm_X0_lacksSamples : Room := { frames := 2, cells := 0, slots := 0, locals := 46 }
theorem cv_X0_lacksSamples : sr_Cv yX0_lacksSamples cX0_lacksSamples 4 (Option.some FieldType.boolean) RX0 1 := ⟨lk_518, lk_516, lk_517, lk_3, rfl, by decide +kernel, by decide +kernel, by decide +kernel⟩
set_option maxHeartbeats 4000000 in
set_option maxRecDepth 100000 in
theorem k_X0_lacksSamples_B44 {p : Program} {l : Launch} {e : Env} {s : State} {m : MethodId} {args : Array Value} {below : List Frame} {meth : Method} {c : Code} {D : va_G} {aC : Nat → ClassId} {n0 : Nat} {r : Bool} {σ : St} {q0 : Nat} {x1 : Int32} (hX : sr_X p s m args meth c cX0_lacksSamples 4 (Option.some FieldType.boolean) RX0 D aC) (h0 : shC q0 = 1) {x2 : Int32} {sb0 : Bool}  {H : Heap} {locs : List Loc} {ls : Array Slot} (hl : lv_has ls 4 [(0, .ref (n0 + q0)), (2, .int x2)]) (hV : sr_V D aC shC n0 σ s.heap H locs) (hf : f_X0_lacksSamples_B44 σ q0 x1 x2 sb0 = some r) : W p l e rm_X0_lacksSamples s m args below meth c H locs 0 0 (MQ below (sr_Qc D aC shC n0 σ (some (.int (bI r)))) args s 0 0 (sr_A shC n0)) (F0 m 44 ls [.int (bI sb0)]) := by
  have hx := hX.1.1
  have hb := hX.1.2.1
  unfold f_X0_lacksSamples_B44 at hf
  refine lv_istore_n (lv' := [(3, .int (bI sb0)), (0, .ref (n0 + q0)), (2, .int x2)]) hx hb dX0_lacksSamples_44 rfl hl (by decide) rfl (fun ls hl => ?_)
  refine lv_aload_n hx hb dX0_lacksSamples_45 rfl (lv_at hl 1 rfl) ?_
  refine fg_0_2 hX hV lk_86 (h0) dX0_lacksSamples_46 ?_
  obtain ⟨v2, e1, hf⟩ := sr_bnd hf
  refine s_callV1 (ci := 6) hX hV hl.1 (c_X6_treated (ch_0_2 (h0)) e1) cv_X6_treated lk_519 ⟨rfl, rfl, Nat.le_of_ble_eq_true rfl, Nat.le_of_ble_eq_true rfl⟩ rfl (by decide) (ch_0_2 (h0)) rfl rfl (Nat.le_of_ble_eq_true rfl) dX0_lacksSamples_49 ⟨Nat.le_of_ble_eq_true rfl, Nat.le_of_ble_eq_true rfl⟩ (fun H locs hV => ?_)
  refine lv_iload_n hx hb dX0_lacksSamples_52 rfl (lv_at hl 2 rfl) ?_
  refine lv_icmp_lt (tgt := 71) hx hb dX0_lacksSamples_53 (by decide) (fun c3 => ?_) (fun c3 => ?_)
  · have hf := sr_t hf c3
    refine lv_iconst (v := 1) hx hb dX0_lacksSamples_71 (by decide) ?_
    refine lv_goto (tgt := 76) hx hb dX0_lacksSamples_72 (by decide) ?_
    cases hf
    exact s_zret (b := true) hX hV dX0_lacksSamples_76
  · have hf := sr_f hf c3
    refine lv_iload_n hx hb dX0_lacksSamples_56 rfl (lv_at hl 0 rfl) ?_
    refine lv_if_eq (tgt := 75) hx hb dX0_lacksSamples_57 (by decide) (fun c4 => ?_) (fun c4 => ?_)
    · have hf := sr_f hf (sr_b0 c4)
      refine lv_iconst (v := 0) hx hb dX0_lacksSamples_75 (by decide) ?_
      cases hf
      exact s_zret (b := false) hX hV dX0_lacksSamples_76
    · have hf := sr_t hf (sr_b1 c4)
      refine lv_aload_n hx hb dX0_lacksSamples_60 rfl (lv_at hl 1 rfl) ?_
      refine fg_0_2 hX hV lk_86 (h0) dX0_lacksSamples_61 ?_
      obtain ⟨v6, e5, hf⟩ := sr_bnd hf
      refine s_callV1 (ci := 6) hX hV hl.1 (c_X6_control (ch_0_2 (h0)) e5) cv_X6_control lk_520 ⟨rfl, rfl, Nat.le_of_ble_eq_true rfl, Nat.le_of_ble_eq_true rfl⟩ rfl (by decide) (ch_0_2 (h0)) rfl rfl (Nat.le_of_ble_eq_true rfl) dX0_lacksSamples_64 ⟨Nat.le_of_ble_eq_true rfl, Nat.le_of_ble_eq_true rfl⟩ (fun H locs hV => ?_)
      refine lv_iload_n hx hb dX0_lacksSamples_67 rfl (lv_at hl 2 rfl) ?_
      refine lv_icmp_ge (tgt := 75) hx hb dX0_lacksSamples_68 (by decide) (fun c7 => ?_) (fun c7 => ?_)
      · have hf := sr_t hf c7
        refine lv_iconst (v := 0) hx hb dX0_lacksSamples_75 (by decide) ?_
        cases hf
        exact s_zret (b := false) hX hV dX0_lacksSamples_76
      · have hf := sr_f hf c7
        refine lv_iconst (v := 1) hx hb dX0_lacksSamples_71 (by decide) ?_
        refine lv_goto (tgt := 76) hx hb dX0_lacksSamples_72 (by decide) ?_
        cases hf
        exact s_zret (b := true) hX hV dX0_lacksSamples_76
set_option maxHeartbeats 4000000 in
set_option maxRecDepth 100000 in
theorem c_X0_lacksSamples {l : Launch} {D : va_G} {aC : Nat → ClassId} {n0 : Nat} {r : Bool} {σ : St}  {q0 : Nat} {x1 : Int32} (h0 : shC q0 = 1) (hf : f_X0_lacksSamples q0 x1 σ = some r) : sr_Met l D aC shC n0 yX0_lacksSamples cX0_lacksSamples 4 (Option.some FieldType.boolean) rm_X0_lacksSamples [.ref (n0 + q0), .int x1] σ (some (.int (bI r))) σ := by
  refine s_met (own := RX0) (by decide) (Nat.le_of_ble_eq_true rfl) rfl ?_
  intro p e s m below meth c ls hX hV hl
  have hl : lv_has ls 4 [(0, .ref (n0 + q0)), (1, .int x1)] := hl
  have hx := hX.1.1
  have hb := hX.1.2.1
  unfold f_X0_lacksSamples at hf
  refine lv_aload_n hx hb dX0_lacksSamples_0 rfl (lv_at hl 0 rfl) ?_
  refine fg_0_6 hX hV lk_96 (h0) dX0_lacksSamples_1 ?_
  refine lv_if_ne (tgt := 9) hx hb dX0_lacksSamples_4 (by decide) (fun c8 => ?_) (fun c8 => ?_)
  · have hf := sr_f hf c8
    refine lv_aload_n hx hb dX0_lacksSamples_9 rfl (lv_at hl 0 rfl) ?_
    refine fg_0_1 hX hV lk_84 (h0) dX0_lacksSamples_10 ?_
    refine lv_aload_n hx hb dX0_lacksSamples_13 rfl (lv_at hl 0 rfl) ?_
    refine fg_0_6 hX hV lk_96 (h0) dX0_lacksSamples_14 ?_
    refine lv_iconst (v := 1) hx hb dX0_lacksSamples_17 (by decide) ?_
    refine lv_isub hx hb dX0_lacksSamples_18 ?_
    refine lv_iconst (v := 2) hx hb dX0_lacksSamples_19 (by decide) ?_
    obtain ⟨v10, e9, hf⟩ := sr_obd hf
    refine s_callV1 (ci := 4) hX hV hl.1 (c_X4_number (ch_0_1 (h0)) e9) cv_X4_number lk_513 ⟨rfl, rfl, Nat.le_of_ble_eq_true rfl, Nat.le_of_ble_eq_true rfl⟩ rfl (by decide) (ch_0_1 (h0)) rfl rfl (Nat.le_of_ble_eq_true rfl) dX0_lacksSamples_20 ⟨Nat.le_of_ble_eq_true rfl, Nat.le_of_ble_eq_true rfl⟩ (fun H locs hV => ?_)
    refine lv_istore_n (lv' := [(2, .int v10), (0, .ref (n0 + q0)), (1, .int x1)]) hx hb dX0_lacksSamples_23 rfl hl (by decide) rfl (fun ls hl => ?_)
    refine lv_aload_n hx hb dX0_lacksSamples_24 rfl (lv_at hl 1 rfl) ?_
    refine fg_0_1 hX hV lk_84 (h0) dX0_lacksSamples_25 ?_
    refine lv_aload_n hx hb dX0_lacksSamples_28 rfl (lv_at hl 1 rfl) ?_
    refine fg_0_6 hX hV lk_96 (h0) dX0_lacksSamples_29 ?_
    obtain ⟨v12, e11, hf⟩ := sr_obd hf
    refine s_callV1 (ci := 4) hX hV hl.1 (c_X4_cellsOfFirst (ch_0_1 (h0)) e11) cv_X4_cellsOfFirst lk_437 ⟨rfl, rfl, Nat.le_of_ble_eq_true rfl, Nat.le_of_ble_eq_true rfl⟩ rfl (by decide) (ch_0_1 (h0)) rfl rfl (Nat.le_of_ble_eq_true rfl) dX0_lacksSamples_32 ⟨Nat.le_of_ble_eq_true rfl, Nat.le_of_ble_eq_true rfl⟩ (fun H locs hV => ?_)
    refine lv_iload_n hx hb dX0_lacksSamples_35 rfl (lv_at hl 2 rfl) ?_
    refine lv_icmp_eq (tgt := 43) hx hb dX0_lacksSamples_36 (by decide) (fun c13 => ?_) (fun c13 => ?_)
    · have hf := sr_t hf c13
      refine lv_iconst (v := 0) hx hb dX0_lacksSamples_43 (by decide) ?_
      exact k_X0_lacksSamples_B44 hX h0   (lv_sub hl [1, 0] rfl) hV hf
    · have hf := sr_f hf c13
      refine lv_iconst (v := 1) hx hb dX0_lacksSamples_39 (by decide) ?_
      refine lv_goto (tgt := 44) hx hb dX0_lacksSamples_40 (by decide) ?_
      exact k_X0_lacksSamples_B44 hX h0   (lv_sub hl [1, 0] rfl) hV hf
  · have hf := sr_t hf c8
    refine lv_iconst (v := 0) hx hb dX0_lacksSamples_7 (by decide) ?_
    cases hf
    exact s_zret (b := false) hX hV dX0_lacksSamples_8
abbrev rm_X0_beginStage : Room := { frames := 1, cells := 0, slots := 0, locals := 20 }
theorem cv_X0_beginStage : sr_Cv yX0_beginStage cX0_beginStage 2 (none) RX0 1 := ⟨lk_548, lk_546, lk_547, lk_3, rfl, by decide +kernel, by decide +kernel, by decide +kernel⟩
set_option maxHeartbeats 4000000 in
set_option maxRecDepth 100000 in
theorem c_X0_beginStage {l : Launch} {D : va_G} {aC : Nat → ClassId} {n0 : Nat} {σ' : St}  {σ : St} {q0 : Nat} {x1 : Int32} (h0 : shC q0 = 1) (hf : f_X0_beginStage q0 x1 σ = some σ') : sr_Met l D aC shC n0 yX0_beginStage cX0_beginStage 2 (none) rm_X0_beginStage [.ref (n0 + q0), .int x1] σ none σ' := by
  refine s_met (own := RX0) (by decide) (Nat.le_of_ble_eq_true rfl) rfl ?_
  intro p e s m below meth c ls hX hV hl
  have hl : lv_has ls 2 [(0, .ref (n0 + q0)), (1, .int x1)] := hl
  have hx := hX.1.1
  have hb := hX.1.2.1
  unfold f_X0_beginStage at hf
  refine lv_aload_n hx hb dX0_beginStage_0 rfl (lv_at hl 0 rfl) ?_
  refine fg_0_6 hX hV lk_96 (h0) dX0_beginStage_1 ?_
  refine lv_if_lt (tgt := 43) hx hb dX0_beginStage_4 (by decide) (fun c1 => ?_) (fun c1 => ?_)
  · have hf := sr_t hf c1
    cases hf
    exact s_vret hX hV dX0_beginStage_43
  · have hf := sr_f hf c1
    refine lv_aload_n hx hb dX0_beginStage_7 rfl (lv_at hl 0 rfl) ?_
    refine fg_0_6 hX hV lk_96 (h0) dX0_beginStage_8 ?_
    refine lv_bipush (v := 6) hx hb dX0_beginStage_11 (by decide) ?_
    refine lv_icmp_ge (tgt := 43) hx hb dX0_beginStage_13 (by decide) (fun c2 => ?_) (fun c2 => ?_)
    · have hf := sr_t hf c2
      cases hf
      exact s_vret hX hV dX0_beginStage_43
    · have hf := sr_f hf c2
      refine lv_aload_n hx hb dX0_beginStage_16 rfl (lv_at hl 0 rfl) ?_
      refine fg_0_3 hX hV lk_89 (h0) dX0_beginStage_17 ?_
      refine lv_aload_n hx hb dX0_beginStage_20 rfl (lv_at hl 0 rfl) ?_
      refine fg_0_6 hX hV lk_96 (h0) dX0_beginStage_21 ?_
      refine lv_iload_n hx hb dX0_beginStage_24 rfl (lv_at hl 1 rfl) ?_
      obtain ⟨v3, e4, hf⟩ := sr_bnd hf
      rw [e4]
      obtain ⟨g5, hf⟩ := sr_gd hf
      obtain ⟨σ6, e7, hf⟩ := sr_bnd hf
      refine s_iast hX hV (n := 6) (ch_0_3 (h0)) (by decide) (inb_in g5) dX0_beginStage_25 (fun H locs hV => ?_)
      rw [e7] at hV
      refine lv_aload_n hx hb dX0_beginStage_26 rfl (lv_at hl 0 rfl) ?_
      refine lv_dup hx hb dX0_beginStage_27 rfl ?_
      refine fg_0_6 hX hV lk_96 (h0) dX0_beginStage_28 ?_
      refine lv_iconst (v := 1) hx hb dX0_beginStage_31 (by decide) ?_
      refine lv_iadd hx hb dX0_beginStage_32 ?_
      obtain ⟨σ8, e9, hf⟩ := sr_bnd hf
      refine fp_0_6 (x := ((gI σ6 q0 6) + 1)) hX hV lk_96 (h0) dX0_beginStage_33 (fun H locs hV => ?_)
      rw [e9] at hV
      refine lv_aload_n hx hb dX0_beginStage_36 rfl (lv_at hl 0 rfl) ?_
      refine fg_0_2 hX hV lk_86 (h0) dX0_beginStage_37 ?_
      obtain ⟨σ11, e10, hf⟩ := sr_bnd hf
      refine s_callV0 (ci := 6) hX hV hl.1 (c_X6_empty (ch_0_2 (h0)) e10) cv_X6_empty lk_275 ⟨rfl, rfl, Nat.le_of_ble_eq_true rfl, Nat.le_of_ble_eq_true rfl⟩ rfl (by decide) (ch_0_2 (h0)) rfl rfl (Nat.le_of_ble_eq_true rfl) dX0_beginStage_40 ⟨Nat.le_of_ble_eq_true rfl, Nat.le_of_ble_eq_true rfl⟩ (fun H locs hV => ?_)
      cases hf
      exact s_vret hX hV dX0_beginStage_43
abbrev rm_X3_empty : Room := { frames := 0, cells := 0, slots := 0, locals := 0 }
theorem cv_X3_empty : sr_Cv yX3_empty cX3_empty 1 (none) RX3 0 := ⟨lk_246, lk_244, lk_245, lk_7, rfl, by decide +kernel, by decide +kernel, by decide +kernel⟩
set_option maxHeartbeats 4000000 in
set_option maxRecDepth 100000 in
theorem c_X3_empty {l : Launch} {D : va_G} {aC : Nat → ClassId} {n0 : Nat} {σ' : St}  {σ : St} {q0 : Nat} (h0 : shC q0 = 4) (hf : f_X3_empty q0 σ = σ') : sr_Met l D aC shC n0 yX3_empty cX3_empty 1 (none) rm_X3_empty [.ref (n0 + q0)] σ none σ' := by
  refine s_met (own := RX3) (by decide) (Nat.le_of_ble_eq_true rfl) rfl ?_
  intro p e s m below meth c ls hX hV hl
  have hl : lv_has ls 1 [(0, .ref (n0 + q0))] := hl
  have hx := hX.1.1
  have hb := hX.1.2.1
  unfold f_X3_empty at hf
  refine lv_aload_n hx hb dX3_empty_0 rfl (lv_at hl 0 rfl) ?_
  refine lv_iconst (v := 0) hx hb dX3_empty_1 (by decide) ?_
  obtain ⟨σ1, e2, hf⟩ := sr_bnd hf
  refine fp_3_1 (x := 0) hX hV lk_144 (h0) dX3_empty_2 (fun H locs hV => ?_)
  rw [e2] at hV
  refine lv_aload_n hx hb dX3_empty_5 rfl (lv_at hl 0 rfl) ?_
  refine lv_iconst (v := 0) hx hb dX3_empty_6 (by decide) ?_
  obtain ⟨σ3, e4, hf⟩ := sr_bnd hf
  refine fp_3_2 (x := 0) hX hV lk_145 (h0) dX3_empty_7 (fun H locs hV => ?_)
  rw [e4] at hV
  cases hf
  exact s_vret hX hV dX3_empty_10
abbrev rm_X1_beginAnew : Room := { frames := 1, cells := 0, slots := 0, locals := 20 }
theorem cv_X1_beginAnew : sr_Cv yX1_beginAnew cX1_beginAnew 2 (none) RX1 1 := ⟨lk_242, lk_240, lk_241, lk_2, rfl, by decide +kernel, by decide +kernel, by decide +kernel⟩
set_option maxHeartbeats 4000000 in
set_option maxRecDepth 100000 in
theorem c_X1_beginAnew {l : Launch} {D : va_G} {aC : Nat → ClassId} {n0 : Nat} {σ' : St}  {σ : St} {q0 : Nat} {x1 : Int32} (h0 : shC q0 = 2) (hf : f_X1_beginAnew q0 x1 σ = σ') : sr_Met l D aC shC n0 yX1_beginAnew cX1_beginAnew 2 (none) rm_X1_beginAnew [.ref (n0 + q0), .int x1] σ none σ' := by
  refine s_met (own := RX1) (by decide) (Nat.le_of_ble_eq_true rfl) rfl ?_
  intro p e s m below meth c ls hX hV hl
  have hl : lv_has ls 2 [(0, .ref (n0 + q0)), (1, .int x1)] := hl
  have hx := hX.1.1
  have hb := hX.1.2.1
  unfold f_X1_beginAnew at hf
  refine lv_aload_n hx hb dX1_beginAnew_0 rfl (lv_at hl 0 rfl) ?_
  refine lv_iload_n hx hb dX1_beginAnew_1 rfl (lv_at hl 1 rfl) ?_
  obtain ⟨σ1, e2, hf⟩ := sr_bnd hf
  refine fp_1_5 (x := x1) hX hV lk_166 (h0) dX1_beginAnew_2 (fun H locs hV => ?_)
  rw [e2] at hV
  refine lv_aload_n hx hb dX1_beginAnew_5 rfl (lv_at hl 0 rfl) ?_
  refine lv_iconst (v := 0) hx hb dX1_beginAnew_6 (by decide) ?_
  obtain ⟨σ3, e4, hf⟩ := sr_bnd hf
  refine fp_1_4 (x := 0) hX hV lk_164 (h0) dX1_beginAnew_7 (fun H locs hV => ?_)
  rw [e4] at hV
  refine lv_aload_n hx hb dX1_beginAnew_10 rfl (lv_at hl 0 rfl) ?_
  refine lv_iconst (v := 0) hx hb dX1_beginAnew_11 (by decide) ?_
  obtain ⟨σ5, e6, hf⟩ := sr_bnd hf
  refine fp_1_6 (x := 0) hX hV lk_168 (h0) dX1_beginAnew_12 (fun H locs hV => ?_)
  rw [e6] at hV
  refine lv_aload_n hx hb dX1_beginAnew_15 rfl (lv_at hl 0 rfl) ?_
  refine fg_1_1 hX hV lk_159 (h0) dX1_beginAnew_16 ?_
  refine lv_iconst (v := 0) hx hb dX1_beginAnew_19 (by decide) ?_
  obtain ⟨σ7, e8, hf⟩ := sr_bnd hf
  refine fp_2_2 (x := 0) hX hV lk_128 (ch_1_1 (h0)) dX1_beginAnew_20 (fun H locs hV => ?_)
  rw [e8] at hV
  refine lv_aload_n hx hb dX1_beginAnew_23 rfl (lv_at hl 0 rfl) ?_
  refine fg_1_2 hX hV lk_161 (h0) dX1_beginAnew_24 ?_
  obtain ⟨σ10, e9, hf⟩ := sr_bnd hf
  refine s_callV0 (ci := 3) hX hV hl.1 (c_X3_empty (ch_1_2 (h0)) e9) cv_X3_empty lk_243 ⟨rfl, rfl, Nat.le_of_ble_eq_true rfl, Nat.le_of_ble_eq_true rfl⟩ rfl (by decide) (ch_1_2 (h0)) rfl rfl (Nat.le_of_ble_eq_true rfl) dX1_beginAnew_27 ⟨Nat.le_of_ble_eq_true rfl, Nat.le_of_ble_eq_true rfl⟩ (fun H locs hV => ?_)
  cases hf
  exact s_vret hX hV dX1_beginAnew_30
abbrev rm_X2_copyFrom : Room := { frames := 1, cells := 0, slots := 0, locals := 30 }
theorem cv_X2_copyFrom : sr_Cv yX2_copyFrom cX2_copyFrom 2 (none) RX2 1 := ⟨lk_593, lk_591, lk_592, lk_6, rfl, by decide +kernel, by decide +kernel, by decide +kernel⟩
set_option maxHeartbeats 4000000 in
set_option maxRecDepth 100000 in
theorem c_X2_copyFrom {l : Launch} {D : va_G} {aC : Nat → ClassId} {n0 : Nat} {σ' : St}  {σ : St} {q0 : Nat} {q1 : Nat} (h0 : shC q0 = 3) (h1 : shC q1 = 3) (hf : f_X2_copyFrom q0 q1 σ = σ') : sr_Met l D aC shC n0 yX2_copyFrom cX2_copyFrom 2 (none) rm_X2_copyFrom [.ref (n0 + q0), .ref (n0 + q1)] σ none σ' := by
  refine s_met (own := RX2) (by decide) (Nat.le_of_ble_eq_true rfl) rfl ?_
  intro p e s m below meth c ls hX hV hl
  have hl : lv_has ls 2 [(0, .ref (n0 + q0)), (1, .ref (n0 + q1))] := hl
  have hx := hX.1.1
  have hb := hX.1.2.1
  unfold f_X2_copyFrom at hf
  refine lv_aload_n hx hb dX2_copyFrom_0 rfl (lv_at hl 0 rfl) ?_
  refine lv_aload_n hx hb dX2_copyFrom_1 rfl (lv_at hl 1 rfl) ?_
  refine fg_2_2 hX hV lk_127 (h1) dX2_copyFrom_2 ?_
  obtain ⟨σ1, e2, hf⟩ := sr_bnd hf
  refine fp_2_2 (x := (gI σ q1 2)) hX hV lk_127 (h0) dX2_copyFrom_5 (fun H locs hV => ?_)
  rw [e2] at hV
  refine lv_aload_n hx hb dX2_copyFrom_8 rfl (lv_at hl 1 rfl) ?_
  refine fg_2_0 hX hV lk_125 (h1) dX2_copyFrom_9 ?_
  refine lv_iconst (v := 0) hx hb dX2_copyFrom_12 (by decide) ?_
  refine lv_aload_n hx hb dX2_copyFrom_13 rfl (lv_at hl 0 rfl) ?_
  refine fg_2_0 hX hV lk_125 (h0) dX2_copyFrom_14 ?_
  refine lv_iconst (v := 0) hx hb dX2_copyFrom_17 (by decide) ?_
  refine lv_iconst (v := 3) hx hb dX2_copyFrom_18 (by decide) ?_
  obtain ⟨σ3, e4, hf⟩ := sr_bnd hf
  refine s_copy (nn := 3) (n1 := 3) (n2 := 3) hX hV hl.1 lk_594 (ch_2_0 (h1)) (ch_2_0 (h0)) (by decide) (by decide) (by decide) (by decide) (by decide) (by decide) (Nat.le_of_ble_eq_true rfl) (Nat.le_of_ble_eq_true rfl) dX2_copyFrom_19 (fun H locs hV => ?_)
  rw [e4] at hV
  refine lv_aload_n hx hb dX2_copyFrom_22 rfl (lv_at hl 1 rfl) ?_
  refine fg_2_1 hX hV lk_126 (h1) dX2_copyFrom_23 ?_
  refine lv_iconst (v := 0) hx hb dX2_copyFrom_26 (by decide) ?_
  refine lv_aload_n hx hb dX2_copyFrom_27 rfl (lv_at hl 0 rfl) ?_
  refine fg_2_1 hX hV lk_126 (h0) dX2_copyFrom_28 ?_
  refine lv_iconst (v := 0) hx hb dX2_copyFrom_31 (by decide) ?_
  refine lv_iconst (v := 3) hx hb dX2_copyFrom_32 (by decide) ?_
  obtain ⟨σ5, e6, hf⟩ := sr_bnd hf
  refine s_copy (nn := 3) (n1 := 3) (n2 := 3) hX hV hl.1 lk_594 (ch_2_1 (h1)) (ch_2_1 (h0)) (by decide) (by decide) (by decide) (by decide) (by decide) (by decide) (Nat.le_of_ble_eq_true rfl) (Nat.le_of_ble_eq_true rfl) dX2_copyFrom_33 (fun H locs hV => ?_)
  rw [e6] at hV
  cases hf
  exact s_vret hX hV dX2_copyFrom_36
abbrev rm_X3_copyFrom : Room := { frames := 1, cells := 0, slots := 0, locals := 30 }
theorem cv_X3_copyFrom : sr_Cv yX3_copyFrom cX3_copyFrom 2 (none) RX3 1 := ⟨lk_598, lk_596, lk_597, lk_7, rfl, by decide +kernel, by decide +kernel, by decide +kernel⟩
set_option maxHeartbeats 4000000 in
set_option maxRecDepth 100000 in
theorem c_X3_copyFrom {l : Launch} {D : va_G} {aC : Nat → ClassId} {n0 : Nat} {σ' : St}  {σ : St} {q0 : Nat} {q1 : Nat} (h0 : shC q0 = 4) (h1 : shC q1 = 4) (hf : f_X3_copyFrom q0 q1 σ = σ') : sr_Met l D aC shC n0 yX3_copyFrom cX3_copyFrom 2 (none) rm_X3_copyFrom [.ref (n0 + q0), .ref (n0 + q1)] σ none σ' := by
  refine s_met (own := RX3) (by decide) (Nat.le_of_ble_eq_true rfl) rfl ?_
  intro p e s m below meth c ls hX hV hl
  have hl : lv_has ls 2 [(0, .ref (n0 + q0)), (1, .ref (n0 + q1))] := hl
  have hx := hX.1.1
  have hb := hX.1.2.1
  unfold f_X3_copyFrom at hf
  refine lv_aload_n hx hb dX3_copyFrom_0 rfl (lv_at hl 0 rfl) ?_
  refine lv_aload_n hx hb dX3_copyFrom_1 rfl (lv_at hl 1 rfl) ?_
  refine fg_3_1 hX hV lk_144 (h1) dX3_copyFrom_2 ?_
  obtain ⟨σ1, e2, hf⟩ := sr_bnd hf
  refine fp_3_1 (x := (gI σ q1 1)) hX hV lk_144 (h0) dX3_copyFrom_5 (fun H locs hV => ?_)
  rw [e2] at hV
  refine lv_aload_n hx hb dX3_copyFrom_8 rfl (lv_at hl 0 rfl) ?_
  refine lv_aload_n hx hb dX3_copyFrom_9 rfl (lv_at hl 1 rfl) ?_
  refine fg_3_2 hX hV lk_145 (h1) dX3_copyFrom_10 ?_
  obtain ⟨σ3, e4, hf⟩ := sr_bnd hf
  refine fp_3_2 (x := (gI σ1 q1 2)) hX hV lk_145 (h0) dX3_copyFrom_13 (fun H locs hV => ?_)
  rw [e4] at hV
  refine lv_aload_n hx hb dX3_copyFrom_16 rfl (lv_at hl 1 rfl) ?_
  refine fg_3_0 hX hV lk_143 (h1) dX3_copyFrom_17 ?_
  refine lv_iconst (v := 0) hx hb dX3_copyFrom_20 (by decide) ?_
  refine lv_aload_n hx hb dX3_copyFrom_21 rfl (lv_at hl 0 rfl) ?_
  refine fg_3_0 hX hV lk_143 (h0) dX3_copyFrom_22 ?_
  refine lv_iconst (v := 0) hx hb dX3_copyFrom_25 (by decide) ?_
  refine lv_bipush (v := 80) hx hb dX3_copyFrom_26 (by decide) ?_
  obtain ⟨σ5, e6, hf⟩ := sr_bnd hf
  refine s_copy (nn := 80) (n1 := 80) (n2 := 80) hX hV hl.1 lk_599 (ch_3_0 (h1)) (ch_3_0 (h0)) (by decide) (by decide) (by decide) (by decide) (by decide) (by decide) (Nat.le_of_ble_eq_true rfl) (Nat.le_of_ble_eq_true rfl) dX3_copyFrom_28 (fun H locs hV => ?_)
  rw [e6] at hV
  cases hf
  exact s_vret hX hV dX3_copyFrom_31
abbrev rm_X1_copyFrom : Room := { frames := 3, cells := 0, slots := 0, locals := 72 }
theorem cv_X1_copyFrom : sr_Cv yX1_copyFrom cX1_copyFrom 3 (none) RX1 1 := ⟨lk_589, lk_587, lk_588, lk_2, rfl, by decide +kernel, by decide +kernel, by decide +kernel⟩
set_option maxHeartbeats 4000000 in
set_option maxRecDepth 100000 in
theorem k_X1_copyFrom_L56 {p : Program} {l : Launch} {e : Env} {s : State} {m : MethodId} {args : Array Value} {below : List Frame} {meth : Method} {c : Code} {D : va_G} {aC : Nat → ClassId} {n0 : Nat} {σ' : St} {q0 : Nat} {q1 : Nat} (hX : sr_X p s m args meth c cX1_copyFrom 3 (none) RX1 D aC) (h0 : shC q0 = 2) (h1 : shC q1 = 2) (rec56 : Int32 → St → Option St) (hrec56 : ∀ (x2 : Int32) (σ : St) (H : Heap) (locs : List Loc) (ls : Array Slot) , lv_has ls 3 [(0, .ref (n0 + q0)), (1, .ref (n0 + q1)), (2, .int x2)] → sr_V D aC shC n0 σ s.heap H locs → rec56 x2 σ = some σ' → W p l e rm_X1_copyFrom s m args below meth c H locs 0 0 (MQ below (sr_Qc D aC shC n0 σ' none) args s 0 0 (sr_A shC n0)) (F0 m 56 ls [])) : ∀ (x2 : Int32) (σ : St) (H : Heap) (locs : List Loc) (ls : Array Slot) , lv_has ls 3 [(0, .ref (n0 + q0)), (1, .ref (n0 + q1)), (2, .int x2)] → sr_V D aC shC n0 σ s.heap H locs → f_X1_copyFrom_L56 q0 q1 rec56 x2 σ = some σ' → W p l e rm_X1_copyFrom s m args below meth c H locs 0 0 (MQ below (sr_Qc D aC shC n0 σ' none) args s 0 0 (sr_A shC n0)) (F0 m 56 ls []) := by
  intro x2 σ H locs ls  hl hV hf
  have hx := hX.1.1
  have hb := hX.1.2.1
  unfold f_X1_copyFrom_L56 at hf
  refine lv_iload_n hx hb dX1_copyFrom_56 rfl (lv_at hl 2 rfl) ?_
  refine lv_aload_n hx hb dX1_copyFrom_57 rfl (lv_at hl 0 rfl) ?_
  refine fg_1_4 hX hV lk_164 (h0) dX1_copyFrom_58 ?_
  refine lv_icmp_ge (tgt := 90) hx hb dX1_copyFrom_61 (by decide) (fun c1 => ?_) (fun c1 => ?_)
  · have hf := sr_t hf c1
    cases hf
    exact s_vret hX hV dX1_copyFrom_90
  · have hf := sr_f hf c1
    refine lv_iload_n hx hb dX1_copyFrom_64 rfl (lv_at hl 2 rfl) ?_
    refine lv_iconst (v := 5) hx hb dX1_copyFrom_65 (by decide) ?_
    refine lv_icmp_ge (tgt := 90) hx hb dX1_copyFrom_66 (by decide) (fun c2 => ?_) (fun c2 => ?_)
    · have hf := sr_t hf c2
      cases hf
      exact s_vret hX hV dX1_copyFrom_90
    · have hf := sr_f hf c2
      refine lv_aload_n hx hb dX1_copyFrom_69 rfl (lv_at hl 0 rfl) ?_
      refine fg_1_0 hX hV lk_158 (h0) dX1_copyFrom_70 ?_
      refine lv_iload_n hx hb dX1_copyFrom_73 rfl (lv_at hl 2 rfl) ?_
      obtain ⟨g3, hf⟩ := sr_gd hf
      refine s_cald hX hV (n := 5) (ch_1_0 (h0)) (by decide) (inb_in g3) dX1_copyFrom_74 ?_
      refine lv_aload_n hx hb dX1_copyFrom_75 rfl (lv_at hl 1 rfl) ?_
      refine fg_1_0 hX hV lk_158 (h1) dX1_copyFrom_76 ?_
      refine lv_iload_n hx hb dX1_copyFrom_79 rfl (lv_at hl 2 rfl) ?_
      obtain ⟨g4, hf⟩ := sr_gd hf
      refine s_cald hX hV (n := 5) (ch_1_0 (h1)) (by decide) (inb_in g4) dX1_copyFrom_80 ?_
      obtain ⟨σ6, e5, hf⟩ := sr_bnd hf
      refine s_callV0 (ci := 0) hX hV hl.1 (c_X0_copyFrom (ch_list (ch_1_0 (h0)) (vp_lt (inb_in g3))) (ch_list (ch_1_0 (h1)) (vp_lt (inb_in g4))) e5) cv_X0_copyFrom lk_600 ⟨rfl, rfl, Nat.le_of_ble_eq_true rfl, Nat.le_of_ble_eq_true rfl⟩ rfl (by decide) (ch_list (ch_1_0 (h0)) (vp_lt (inb_in g3))) rfl rfl (Nat.le_of_ble_eq_true rfl) dX1_copyFrom_81 ⟨Nat.le_of_ble_eq_true rfl, Nat.le_of_ble_eq_true rfl⟩ (fun H locs hV => ?_)
      obtain ⟨v7, e8, hf⟩ := sr_bnd hf
      refine lv_iinc (v := v7) (lv' := [(2, .int v7), (0, .ref (n0 + q0)), (1, .ref (n0 + q1))]) hx hb dX1_copyFrom_84 hl (k := 2) rfl (by rw [← e8]; rfl) (by decide) rfl (fun ls hl => ?_)
      refine lv_goto (tgt := 56) hx hb dX1_copyFrom_87 (by decide) ?_
      exact hrec56 _ _ _ _ _  (lv_sub hl [1, 2, 0] rfl) hV hf
set_option maxHeartbeats 4000000 in
set_option maxRecDepth 100000 in
theorem k_X1_copyFrom_L56w {p : Program} {l : Launch} {e : Env} {s : State} {m : MethodId} {args : Array Value} {below : List Frame} {meth : Method} {c : Code} {D : va_G} {aC : Nat → ClassId} {n0 : Nat} {σ' : St} {q0 : Nat} {q1 : Nat} (hX : sr_X p s m args meth c cX1_copyFrom 3 (none) RX1 D aC) (h0 : shC q0 = 2) (h1 : shC q1 = 2) (n : Nat) : ∀ (x2 : Int32) (σ : St) (H : Heap) (locs : List Loc) (ls : Array Slot) , lv_has ls 3 [(0, .ref (n0 + q0)), (1, .ref (n0 + q1)), (2, .int x2)] → sr_V D aC shC n0 σ s.heap H locs → it2 (f_X1_copyFrom_L56 q0 q1) n x2 σ = some σ' → W p l e rm_X1_copyFrom s m args below meth c H locs 0 0 (MQ below (sr_Qc D aC shC n0 σ' none) args s 0 0 (sr_A shC n0)) (F0 m 56 ls []) :=
  it2_ind (fun rec56 => ∀ (x2 : Int32) (σ : St) (H : Heap) (locs : List Loc) (ls : Array Slot) , lv_has ls 3 [(0, .ref (n0 + q0)), (1, .ref (n0 + q1)), (2, .int x2)] → sr_V D aC shC n0 σ s.heap H locs → rec56 x2 σ = some σ' → W p l e rm_X1_copyFrom s m args below meth c H locs 0 0 (MQ below (sr_Qc D aC shC n0 σ' none) args s 0 0 (sr_A shC n0)) (F0 m 56 ls [])) (by intros; rename_i hf; exact absurd hf (by simp)) (fun rec hrec => k_X1_copyFrom_L56 hX h0 h1  rec hrec) n
set_option maxHeartbeats 4000000 in
set_option maxRecDepth 100000 in
theorem c_X1_copyFrom {l : Launch} {D : va_G} {aC : Nat → ClassId} {n0 : Nat} {σ' : St}  {σ : St} {q0 : Nat} {q1 : Nat} (h0 : shC q0 = 2) (h1 : shC q1 = 2) (hf : f_X1_copyFrom q0 q1 σ = some σ') : sr_Met l D aC shC n0 yX1_copyFrom cX1_copyFrom 3 (none) rm_X1_copyFrom [.ref (n0 + q0), .ref (n0 + q1)] σ none σ' := by
  refine s_met (own := RX1) (by decide) (Nat.le_of_ble_eq_true rfl) rfl ?_
  intro p e s m below meth c ls hX hV hl
  have hl : lv_has ls 3 [(0, .ref (n0 + q0)), (1, .ref (n0 + q1))] := hl
  have hx := hX.1.1
  have hb := hX.1.2.1
  unfold f_X1_copyFrom at hf
  refine lv_aload_n hx hb dX1_copyFrom_0 rfl (lv_at hl 0 rfl) ?_
  refine lv_aload_n hx hb dX1_copyFrom_1 rfl (lv_at hl 1 rfl) ?_
  refine fg_1_4 hX hV lk_164 (h1) dX1_copyFrom_2 ?_
  obtain ⟨σ9, e10, hf⟩ := sr_bnd hf
  refine fp_1_4 (x := (gI σ q1 4)) hX hV lk_164 (h0) dX1_copyFrom_5 (fun H locs hV => ?_)
  rw [e10] at hV
  refine lv_aload_n hx hb dX1_copyFrom_8 rfl (lv_at hl 0 rfl) ?_
  refine lv_aload_n hx hb dX1_copyFrom_9 rfl (lv_at hl 1 rfl) ?_
  refine fg_1_5 hX hV lk_166 (h1) dX1_copyFrom_10 ?_
  obtain ⟨σ11, e12, hf⟩ := sr_bnd hf
  refine fp_1_5 (x := (gI σ9 q1 5)) hX hV lk_166 (h0) dX1_copyFrom_13 (fun H locs hV => ?_)
  rw [e12] at hV
  refine lv_aload_n hx hb dX1_copyFrom_16 rfl (lv_at hl 0 rfl) ?_
  refine lv_aload_n hx hb dX1_copyFrom_17 rfl (lv_at hl 1 rfl) ?_
  refine fg_1_6 hX hV lk_168 (h1) dX1_copyFrom_18 ?_
  obtain ⟨σ13, e14, hf⟩ := sr_bnd hf
  refine fp_1_6 (x := (gI σ11 q1 6)) hX hV lk_168 (h0) dX1_copyFrom_21 (fun H locs hV => ?_)
  rw [e14] at hV
  refine lv_aload_n hx hb dX1_copyFrom_24 rfl (lv_at hl 0 rfl) ?_
  refine lv_aload_n hx hb dX1_copyFrom_25 rfl (lv_at hl 1 rfl) ?_
  refine fg_1_7 hX hV lk_170 (h1) dX1_copyFrom_26 ?_
  obtain ⟨σ15, e16, hf⟩ := sr_bnd hf
  refine fp_1_7 (x := (gI σ13 q1 7)) hX hV lk_170 (h0) dX1_copyFrom_29 (fun H locs hV => ?_)
  rw [e16] at hV
  refine lv_aload_n hx hb dX1_copyFrom_32 rfl (lv_at hl 0 rfl) ?_
  refine fg_1_1 hX hV lk_159 (h0) dX1_copyFrom_33 ?_
  refine lv_aload_n hx hb dX1_copyFrom_36 rfl (lv_at hl 1 rfl) ?_
  refine fg_1_1 hX hV lk_159 (h1) dX1_copyFrom_37 ?_
  obtain ⟨σ18, e17, hf⟩ := sr_bnd hf
  refine s_callV0 (ci := 2) hX hV hl.1 (c_X2_copyFrom (ch_1_1 (h0)) (ch_1_1 (h1)) e17) cv_X2_copyFrom lk_590 ⟨rfl, rfl, Nat.le_of_ble_eq_true rfl, Nat.le_of_ble_eq_true rfl⟩ rfl (by decide) (ch_1_1 (h0)) rfl rfl (Nat.le_of_ble_eq_true rfl) dX1_copyFrom_40 ⟨Nat.le_of_ble_eq_true rfl, Nat.le_of_ble_eq_true rfl⟩ (fun H locs hV => ?_)
  refine lv_aload_n hx hb dX1_copyFrom_43 rfl (lv_at hl 0 rfl) ?_
  refine fg_1_2 hX hV lk_161 (h0) dX1_copyFrom_44 ?_
  refine lv_aload_n hx hb dX1_copyFrom_47 rfl (lv_at hl 1 rfl) ?_
  refine fg_1_2 hX hV lk_161 (h1) dX1_copyFrom_48 ?_
  obtain ⟨σ20, e19, hf⟩ := sr_bnd hf
  refine s_callV0 (ci := 3) hX hV hl.1 (c_X3_copyFrom (ch_1_2 (h0)) (ch_1_2 (h1)) e19) cv_X3_copyFrom lk_595 ⟨rfl, rfl, Nat.le_of_ble_eq_true rfl, Nat.le_of_ble_eq_true rfl⟩ rfl (by decide) (ch_1_2 (h0)) rfl rfl (Nat.le_of_ble_eq_true rfl) dX1_copyFrom_51 ⟨Nat.le_of_ble_eq_true rfl, Nat.le_of_ble_eq_true rfl⟩ (fun H locs hV => ?_)
  refine lv_iconst (v := 0) hx hb dX1_copyFrom_54 (by decide) ?_
  refine lv_istore_n (lv' := [(2, .int 0), (0, .ref (n0 + q0)), (1, .ref (n0 + q1))]) hx hb dX1_copyFrom_55 rfl hl (by decide) rfl (fun ls hl => ?_)
  exact k_X1_copyFrom_L56w hX h0 h1  sr_fuel _ _ _ _ _  (lv_sub hl [1, 2, 0] rfl) hV hf
abbrev rm_X1_find : Room := { frames := 0, cells := 0, slots := 0, locals := 0 }
theorem cv_X1_find : sr_Cv yX1_find cX1_find 2 (Option.some (FieldType.object "StagedRollout$Change")) RX1 1 := ⟨lk_286, lk_284, lk_285, lk_2, rfl, by decide +kernel, by decide +kernel, by decide +kernel⟩
set_option maxHeartbeats 4000000 in
set_option maxRecDepth 100000 in
theorem c_X1_find {l : Launch} {D : va_G} {aC : Nat → ClassId} {n0 : Nat} {r : Option Nat} {σ : St}  {q0 : Nat} {x1 : Int32} (h0 : shC q0 = 2) (hf : f_X1_find q0 x1 σ = some r) : sr_Met l D aC shC n0 yX1_find cX1_find 2 (Option.some (FieldType.object "StagedRollout$Change")) rm_X1_find [.ref (n0 + q0), .int x1] σ (some (sr_rf n0 r)) σ := by
  refine s_met (own := RX1) (by decide) (Nat.le_of_ble_eq_true rfl) rfl ?_
  intro p e s m below meth c ls hX hV hl
  have hl : lv_has ls 2 [(0, .ref (n0 + q0)), (1, .int x1)] := hl
  have hx := hX.1.1
  have hb := hX.1.2.1
  unfold f_X1_find at hf
  refine lv_iload_n hx hb dX1_find_0 rfl (lv_at hl 1 rfl) ?_
  refine lv_if_lt (tgt := 26) hx hb dX1_find_1 (by decide) (fun c1 => ?_) (fun c1 => ?_)
  · have hf := sr_t hf c1
    refine lv_null hx hb dX1_find_26 ?_
    cases hf
    exact s_aret (o := none) hX hV dX1_find_27
  · have hf := sr_f hf c1
    refine lv_iload_n hx hb dX1_find_4 rfl (lv_at hl 1 rfl) ?_
    refine lv_aload_n hx hb dX1_find_5 rfl (lv_at hl 0 rfl) ?_
    refine fg_1_4 hX hV lk_164 (h0) dX1_find_6 ?_
    refine lv_icmp_ge (tgt := 26) hx hb dX1_find_9 (by decide) (fun c2 => ?_) (fun c2 => ?_)
    · have hf := sr_t hf c2
      refine lv_null hx hb dX1_find_26 ?_
      cases hf
      exact s_aret (o := none) hX hV dX1_find_27
    · have hf := sr_f hf c2
      refine lv_iload_n hx hb dX1_find_12 rfl (lv_at hl 1 rfl) ?_
      refine lv_iconst (v := 5) hx hb dX1_find_13 (by decide) ?_
      refine lv_icmp_ge (tgt := 26) hx hb dX1_find_14 (by decide) (fun c3 => ?_) (fun c3 => ?_)
      · have hf := sr_t hf c3
        refine lv_null hx hb dX1_find_26 ?_
        cases hf
        exact s_aret (o := none) hX hV dX1_find_27
      · have hf := sr_f hf c3
        refine lv_aload_n hx hb dX1_find_17 rfl (lv_at hl 0 rfl) ?_
        refine fg_1_0 hX hV lk_158 (h0) dX1_find_18 ?_
        refine lv_iload_n hx hb dX1_find_21 rfl (lv_at hl 1 rfl) ?_
        obtain ⟨g4, hf⟩ := sr_gd hf
        refine s_cald hX hV (n := 5) (ch_1_0 (h0)) (by decide) (inb_in g4) dX1_find_22 ?_
        refine lv_goto (tgt := 27) hx hb dX1_find_23 (by decide) ?_
        cases hf
        exact s_aret (o := some ((q0 + 1) + 1 + 5 * (Int32.toNatClampNeg x1))) hX hV dX1_find_27
abbrev rm_X1_putChange : Room := { frames := 2, cells := 0, slots := 0, locals := 41 }
theorem cv_X1_putChange : sr_Cv yX1_putChange cX1_putChange 2 (Option.some FieldType.boolean) RX1 1 := ⟨lk_270, lk_268, lk_269, lk_2, rfl, by decide +kernel, by decide +kernel, by decide +kernel⟩
set_option maxHeartbeats 4000000 in
set_option maxRecDepth 100000 in
theorem c_X1_putChange {l : Launch} {D : va_G} {aC : Nat → ClassId} {n0 : Nat} {r : Bool} {σ' : St}  {σ : St} {q0 : Nat} {b1 : Bool} (h0 : shC q0 = 2) (hf : f_X1_putChange q0 b1 σ = some (r, σ')) : sr_Met l D aC shC n0 yX1_putChange cX1_putChange 2 (Option.some FieldType.boolean) rm_X1_putChange [.ref (n0 + q0), .int (bI b1)] σ (some (.int (bI r))) σ' := by
  refine s_met (own := RX1) (by decide) (Nat.le_of_ble_eq_true rfl) rfl ?_
  intro p e s m below meth c ls hX hV hl
  have hl : lv_has ls 2 [(0, .ref (n0 + q0)), (1, .int (bI b1))] := hl
  have hx := hX.1.1
  have hb := hX.1.2.1
  unfold f_X1_putChange at hf
  refine lv_aload_n hx hb dX1_putChange_0 rfl (lv_at hl 0 rfl) ?_
  refine fg_1_4 hX hV lk_164 (h0) dX1_putChange_1 ?_
  refine lv_if_lt (tgt := 15) hx hb dX1_putChange_4 (by decide) (fun c1 => ?_) (fun c1 => ?_)
  · have hf := sr_t hf c1
    refine lv_iconst (v := 0) hx hb dX1_putChange_15 (by decide) ?_
    cases hf
    exact s_zret (b := false) hX hV dX1_putChange_16
  · have hf := sr_f hf c1
    refine lv_aload_n hx hb dX1_putChange_7 rfl (lv_at hl 0 rfl) ?_
    refine fg_1_4 hX hV lk_164 (h0) dX1_putChange_8 ?_
    refine lv_iconst (v := 5) hx hb dX1_putChange_11 (by decide) ?_
    refine lv_icmp_lt (tgt := 17) hx hb dX1_putChange_12 (by decide) (fun c2 => ?_) (fun c2 => ?_)
    · have hf := sr_t hf c2
      refine lv_aload_n hx hb dX1_putChange_17 rfl (lv_at hl 0 rfl) ?_
      refine fg_1_0 hX hV lk_158 (h0) dX1_putChange_18 ?_
      refine lv_aload_n hx hb dX1_putChange_21 rfl (lv_at hl 0 rfl) ?_
      refine fg_1_4 hX hV lk_164 (h0) dX1_putChange_22 ?_
      obtain ⟨v3, e4, hf⟩ := sr_bnd hf
      rw [e4]
      obtain ⟨g5, hf⟩ := sr_gd hf
      refine s_cald hX hV (n := 5) (ch_1_0 (h0)) (by decide) (inb_in g5) dX1_putChange_25 ?_
      refine lv_iload_n hx hb dX1_putChange_26 rfl (lv_at hl 1 rfl) ?_
      obtain ⟨σ7, e6, hf⟩ := sr_bnd hf
      refine s_callV0 (ci := 0) hX hV hl.1 (c_X0_makeNew (ch_list (ch_1_0 (h0)) (vp_lt (inb_in g5))) e6) cv_X0_makeNew lk_271 ⟨rfl, rfl, Nat.le_of_ble_eq_true rfl, Nat.le_of_ble_eq_true rfl⟩ rfl (by decide) (ch_list (ch_1_0 (h0)) (vp_lt (inb_in g5))) rfl rfl (Nat.le_of_ble_eq_true rfl) dX1_putChange_27 ⟨Nat.le_of_ble_eq_true rfl, Nat.le_of_ble_eq_true rfl⟩ (fun H locs hV => ?_)
      refine lv_aload_n hx hb dX1_putChange_30 rfl (lv_at hl 0 rfl) ?_
      refine lv_dup hx hb dX1_putChange_31 rfl ?_
      refine fg_1_4 hX hV lk_164 (h0) dX1_putChange_32 ?_
      refine lv_iconst (v := 1) hx hb dX1_putChange_35 (by decide) ?_
      refine lv_iadd hx hb dX1_putChange_36 ?_
      obtain ⟨σ8, e9, hf⟩ := sr_bnd hf
      refine fp_1_4 (x := ((gI σ7 q0 4) + 1)) hX hV lk_164 (h0) dX1_putChange_37 (fun H locs hV => ?_)
      rw [e9] at hV
      refine lv_iconst (v := 1) hx hb dX1_putChange_40 (by decide) ?_
      cases hf
      exact s_zret (b := true) hX hV dX1_putChange_41
    · have hf := sr_f hf c2
      refine lv_iconst (v := 0) hx hb dX1_putChange_15 (by decide) ?_
      cases hf
      exact s_zret (b := false) hX hV dX1_putChange_16
abbrev rm_X1_isCell : Room := { frames := 0, cells := 0, slots := 0, locals := 0 }
theorem cv_X1_isCell : sr_Cv yX1_isCell cX1_isCell 2 (Option.some FieldType.boolean) RX1 1 := ⟨lk_420, lk_418, lk_419, lk_2, rfl, by decide +kernel, by decide +kernel, by decide +kernel⟩
set_option maxHeartbeats 4000000 in
set_option maxRecDepth 100000 in
theorem c_X1_isCell {l : Launch} {D : va_G} {aC : Nat → ClassId} {n0 : Nat} {r : Bool} {σ : St}  {q0 : Nat} {x1 : Int32} (h0 : shC q0 = 2) (hf : f_X1_isCell q0 x1 σ = r) : sr_Met l D aC shC n0 yX1_isCell cX1_isCell 2 (Option.some FieldType.boolean) rm_X1_isCell [.ref (n0 + q0), .int x1] σ (some (.int (bI r))) σ := by
  refine s_met (own := RX1) (by decide) (Nat.le_of_ble_eq_true rfl) rfl ?_
  intro p e s m below meth c ls hX hV hl
  have hl : lv_has ls 2 [(0, .ref (n0 + q0)), (1, .int x1)] := hl
  have hx := hX.1.1
  have hb := hX.1.2.1
  unfold f_X1_isCell at hf
  refine lv_iload_n hx hb dX1_isCell_0 rfl (lv_at hl 1 rfl) ?_
  refine lv_if_lt (tgt := 16) hx hb dX1_isCell_1 (by decide) (fun c1 => ?_) (fun c1 => ?_)
  · have hf := sr_t hf c1
    refine lv_iconst (v := 0) hx hb dX1_isCell_16 (by decide) ?_
    cases hf
    exact s_zret (b := false) hX hV dX1_isCell_17
  · have hf := sr_f hf c1
    refine lv_iload_n hx hb dX1_isCell_4 rfl (lv_at hl 1 rfl) ?_
    refine lv_aload_n hx hb dX1_isCell_5 rfl (lv_at hl 0 rfl) ?_
    refine fg_1_5 hX hV lk_166 (h0) dX1_isCell_6 ?_
    refine lv_icmp_ge (tgt := 16) hx hb dX1_isCell_9 (by decide) (fun c2 => ?_) (fun c2 => ?_)
    · have hf := sr_t hf c2
      refine lv_iconst (v := 0) hx hb dX1_isCell_16 (by decide) ?_
      cases hf
      exact s_zret (b := false) hX hV dX1_isCell_17
    · have hf := sr_f hf c2
      refine lv_iconst (v := 1) hx hb dX1_isCell_12 (by decide) ?_
      refine lv_goto (tgt := 17) hx hb dX1_isCell_13 (by decide) ?_
      cases hf
      exact s_zret (b := true) hX hV dX1_isCell_17
abbrev rm_X1_allCells : Room := { frames := 0, cells := 0, slots := 0, locals := 0 }
theorem cv_X1_allCells : sr_Cv yX1_allCells cX1_allCells 1 (Option.some FieldType.int) RX1 0 := ⟨lk_290, lk_288, lk_289, lk_2, rfl, by decide +kernel, by decide +kernel, by decide +kernel⟩
set_option maxHeartbeats 4000000 in
set_option maxRecDepth 100000 in
theorem c_X1_allCells {l : Launch} {D : va_G} {aC : Nat → ClassId} {n0 : Nat} {r : Int32} {σ : St}  {q0 : Nat} (h0 : shC q0 = 2) (hf : f_X1_allCells q0 σ = r) : sr_Met l D aC shC n0 yX1_allCells cX1_allCells 1 (Option.some FieldType.int) rm_X1_allCells [.ref (n0 + q0)] σ (some (.int r)) σ := by
  refine s_met (own := RX1) (by decide) (Nat.le_of_ble_eq_true rfl) rfl ?_
  intro p e s m below meth c ls hX hV hl
  have hl : lv_has ls 1 [(0, .ref (n0 + q0))] := hl
  have hx := hX.1.1
  have hb := hX.1.2.1
  unfold f_X1_allCells at hf
  refine lv_iconst (v := 1) hx hb dX1_allCells_0 (by decide) ?_
  refine lv_aload_n hx hb dX1_allCells_1 rfl (lv_at hl 0 rfl) ?_
  refine fg_1_5 hX hV lk_166 (h0) dX1_allCells_2 ?_
  refine lv_ishl hx hb dX1_allCells_5 ?_
  refine lv_iconst (v := 1) hx hb dX1_allCells_6 (by decide) ?_
  refine lv_isub hx hb dX1_allCells_7 ?_
  cases hf
  exact s_iret hX hV dX1_allCells_8
abbrev rm_X1_changesOf : Room := { frames := 2, cells := 0, slots := 0, locals := 44 }
theorem cv_X1_changesOf : sr_Cv yX1_changesOf cX1_changesOf 4 (Option.some FieldType.int) RX1 1 := ⟨lk_575, lk_573, lk_574, lk_2, rfl, by decide +kernel, by decide +kernel, by decide +kernel⟩
set_option maxHeartbeats 4000000 in
set_option maxRecDepth 100000 in
theorem k_X1_changesOf_L4 {p : Program} {l : Launch} {e : Env} {s : State} {m : MethodId} {args : Array Value} {below : List Frame} {meth : Method} {c : Code} {D : va_G} {aC : Nat → ClassId} {n0 : Nat} {r : Int32} {σ : St} {q0 : Nat} {x1 : Int32} (hX : sr_X p s m args meth c cX1_changesOf 4 (Option.some FieldType.int) RX1 D aC) (h0 : shC q0 = 2) (rec4 : Int32 → Int32 → Option Int32) (hrec4 : ∀ (x2 : Int32) (x3 : Int32) (H : Heap) (locs : List Loc) (ls : Array Slot) , lv_has ls 4 [(0, .ref (n0 + q0)), (1, .int x1), (2, .int x2), (3, .int x3)] → sr_V D aC shC n0 σ s.heap H locs → rec4 x2 x3 = some r → W p l e rm_X1_changesOf s m args below meth c H locs 0 0 (MQ below (sr_Qc D aC shC n0 σ (some (.int r))) args s 0 0 (sr_A shC n0)) (F0 m 4 ls [])) : ∀ (x2 : Int32) (x3 : Int32) (H : Heap) (locs : List Loc) (ls : Array Slot) , lv_has ls 4 [(0, .ref (n0 + q0)), (1, .int x1), (2, .int x2), (3, .int x3)] → sr_V D aC shC n0 σ s.heap H locs → f_X1_changesOf_L4 σ q0 x1 rec4 x2 x3 = some r → W p l e rm_X1_changesOf s m args below meth c H locs 0 0 (MQ below (sr_Qc D aC shC n0 σ (some (.int r))) args s 0 0 (sr_A shC n0)) (F0 m 4 ls []) := by
  intro x2 x3 H locs ls  hl hV hf
  have hx := hX.1.1
  have hb := hX.1.2.1
  unfold f_X1_changesOf_L4 at hf
  refine lv_iload_n hx hb dX1_changesOf_4 rfl (lv_at hl 3 rfl) ?_
  refine lv_aload_n hx hb dX1_changesOf_5 rfl (lv_at hl 0 rfl) ?_
  refine fg_1_4 hX hV lk_164 (h0) dX1_changesOf_6 ?_
  refine lv_icmp_ge (tgt := 42) hx hb dX1_changesOf_9 (by decide) (fun c1 => ?_) (fun c1 => ?_)
  · have hf := sr_t hf c1
    refine lv_iload_n hx hb dX1_changesOf_42 rfl (lv_at hl 2 rfl) ?_
    cases hf
    exact s_iret hX hV dX1_changesOf_43
  · have hf := sr_f hf c1
    refine lv_iload_n hx hb dX1_changesOf_12 rfl (lv_at hl 3 rfl) ?_
    refine lv_iconst (v := 5) hx hb dX1_changesOf_13 (by decide) ?_
    refine lv_icmp_ge (tgt := 42) hx hb dX1_changesOf_14 (by decide) (fun c2 => ?_) (fun c2 => ?_)
    · have hf := sr_t hf c2
      refine lv_iload_n hx hb dX1_changesOf_42 rfl (lv_at hl 2 rfl) ?_
      cases hf
      exact s_iret hX hV dX1_changesOf_43
    · have hf := sr_f hf c2
      refine lv_aload_n hx hb dX1_changesOf_17 rfl (lv_at hl 0 rfl) ?_
      refine fg_1_0 hX hV lk_158 (h0) dX1_changesOf_18 ?_
      refine lv_iload_n hx hb dX1_changesOf_21 rfl (lv_at hl 3 rfl) ?_
      obtain ⟨g3, hf⟩ := sr_gd hf
      refine s_cald hX hV (n := 5) (ch_1_0 (h0)) (by decide) (inb_in g3) dX1_changesOf_22 ?_
      refine lv_iload_n hx hb dX1_changesOf_23 rfl (lv_at hl 1 rfl) ?_
      obtain ⟨v5, e4, hf⟩ := sr_obd hf
      refine s_callV1 (ci := 0) hX hV hl.1 (c_X0_isAt (ch_list (ch_1_0 (h0)) (vp_lt (inb_in g3))) e4) cv_X0_isAt lk_576 ⟨rfl, rfl, Nat.le_of_ble_eq_true rfl, Nat.le_of_ble_eq_true rfl⟩ rfl (by decide) (ch_list (ch_1_0 (h0)) (vp_lt (inb_in g3))) rfl rfl (Nat.le_of_ble_eq_true rfl) dX1_changesOf_24 ⟨Nat.le_of_ble_eq_true rfl, Nat.le_of_ble_eq_true rfl⟩ (fun H locs hV => ?_)
      refine lv_if_eq (tgt := 36) hx hb dX1_changesOf_27 (by decide) (fun c6 => ?_) (fun c6 => ?_)
      · have hf := sr_f hf (sr_b0 c6)
        obtain ⟨v7, e8, hf⟩ := sr_bnd hf
        refine lv_iinc (v := v7) (lv' := [(3, .int v7), (0, .ref (n0 + q0)), (1, .int x1), (2, .int x2)]) hx hb dX1_changesOf_36 hl (k := 3) rfl (by rw [← e8]; rfl) (by decide) rfl (fun ls hl => ?_)
        refine lv_goto (tgt := 4) hx hb dX1_changesOf_39 (by decide) ?_
        exact hrec4 _ _ _ _ _  (lv_sub hl [1, 2, 3, 0] rfl) hV hf
      · have hf := sr_t hf (sr_b1 c6)
        refine lv_iload_n hx hb dX1_changesOf_30 rfl (lv_at hl 2 rfl) ?_
        refine lv_iconst (v := 1) hx hb dX1_changesOf_31 (by decide) ?_
        refine lv_iload_n hx hb dX1_changesOf_32 rfl (lv_at hl 3 rfl) ?_
        refine lv_ishl hx hb dX1_changesOf_33 ?_
        refine lv_ior hx hb dX1_changesOf_34 ?_
        obtain ⟨v9, e10, hf⟩ := sr_bnd hf
        rw [e10]
        refine lv_istore_n (lv' := [(2, .int v9), (0, .ref (n0 + q0)), (1, .int x1), (3, .int x3)]) hx hb dX1_changesOf_35 rfl hl (by decide) rfl (fun ls hl => ?_)
        obtain ⟨v11, e12, hf⟩ := sr_bnd hf
        refine lv_iinc (v := v11) (lv' := [(3, .int v11), (2, .int v9), (0, .ref (n0 + q0)), (1, .int x1)]) hx hb dX1_changesOf_36 hl (k := 3) rfl (by rw [← e12]; rfl) (by decide) rfl (fun ls hl => ?_)
        refine lv_goto (tgt := 4) hx hb dX1_changesOf_39 (by decide) ?_
        exact hrec4 _ _ _ _ _  (lv_sub hl [2, 3, 1, 0] rfl) hV hf
set_option maxHeartbeats 4000000 in
set_option maxRecDepth 100000 in
theorem k_X1_changesOf_L4w {p : Program} {l : Launch} {e : Env} {s : State} {m : MethodId} {args : Array Value} {below : List Frame} {meth : Method} {c : Code} {D : va_G} {aC : Nat → ClassId} {n0 : Nat} {r : Int32} {σ : St} {q0 : Nat} {x1 : Int32} (hX : sr_X p s m args meth c cX1_changesOf 4 (Option.some FieldType.int) RX1 D aC) (h0 : shC q0 = 2) (n : Nat) : ∀ (x2 : Int32) (x3 : Int32) (H : Heap) (locs : List Loc) (ls : Array Slot) , lv_has ls 4 [(0, .ref (n0 + q0)), (1, .int x1), (2, .int x2), (3, .int x3)] → sr_V D aC shC n0 σ s.heap H locs → it2 (f_X1_changesOf_L4 σ q0 x1) n x2 x3 = some r → W p l e rm_X1_changesOf s m args below meth c H locs 0 0 (MQ below (sr_Qc D aC shC n0 σ (some (.int r))) args s 0 0 (sr_A shC n0)) (F0 m 4 ls []) :=
  it2_ind (fun rec4 => ∀ (x2 : Int32) (x3 : Int32) (H : Heap) (locs : List Loc) (ls : Array Slot) , lv_has ls 4 [(0, .ref (n0 + q0)), (1, .int x1), (2, .int x2), (3, .int x3)] → sr_V D aC shC n0 σ s.heap H locs → rec4 x2 x3 = some r → W p l e rm_X1_changesOf s m args below meth c H locs 0 0 (MQ below (sr_Qc D aC shC n0 σ (some (.int r))) args s 0 0 (sr_A shC n0)) (F0 m 4 ls [])) (by intros; rename_i hf; exact absurd hf (by simp)) (fun rec hrec => k_X1_changesOf_L4 hX h0  rec hrec) n
set_option maxHeartbeats 4000000 in
set_option maxRecDepth 100000 in
theorem c_X1_changesOf {l : Launch} {D : va_G} {aC : Nat → ClassId} {n0 : Nat} {r : Int32} {σ : St}  {q0 : Nat} {x1 : Int32} (h0 : shC q0 = 2) (hf : f_X1_changesOf q0 x1 σ = some r) : sr_Met l D aC shC n0 yX1_changesOf cX1_changesOf 4 (Option.some FieldType.int) rm_X1_changesOf [.ref (n0 + q0), .int x1] σ (some (.int r)) σ := by
  refine s_met (own := RX1) (by decide) (Nat.le_of_ble_eq_true rfl) rfl ?_
  intro p e s m below meth c ls hX hV hl
  have hl : lv_has ls 4 [(0, .ref (n0 + q0)), (1, .int x1)] := hl
  have hx := hX.1.1
  have hb := hX.1.2.1
  unfold f_X1_changesOf at hf
  refine lv_iconst (v := 0) hx hb dX1_changesOf_0 (by decide) ?_
  refine lv_istore_n (lv' := [(2, .int 0), (0, .ref (n0 + q0)), (1, .int x1)]) hx hb dX1_changesOf_1 rfl hl (by decide) rfl (fun ls hl => ?_)
  refine lv_iconst (v := 0) hx hb dX1_changesOf_2 (by decide) ?_
  refine lv_istore_n (lv' := [(3, .int 0), (2, .int 0), (0, .ref (n0 + q0)), (1, .int x1)]) hx hb dX1_changesOf_3 rfl hl (by decide) rfl (fun ls hl => ?_)
  exact k_X1_changesOf_L4w hX h0  sr_fuel _ _ _ _ _  (lv_sub hl [2, 3, 1, 0] rfl) hV hf
