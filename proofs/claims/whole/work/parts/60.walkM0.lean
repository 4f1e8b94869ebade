abbrev rm_X8_in : Room := { frames := 0, cells := 0, slots := 0, locals := 0 }
theorem cs_X8_in : sr_Cs yX8_in cX8_in 3 (Option.some FieldType.boolean) RX8 3 := ⟨lk_719, lk_718, lk_9, rfl, by decide +kernel, by decide +kernel, by decide +kernel⟩
set_option maxHeartbeats 4000000 in
set_option maxRecDepth 100000 in
theorem c_X8_in {l : Launch} {D : va_G} {aC : Nat → ClassId} {n0 : Nat} {sh : Nat → Nat} {r : Bool} {σ : St}  {x0 : Int32} {x1 : Int32} {x2 : Int32}  (hf : f_X8_in x0 x1 x2 = r) : sr_Met l D aC sh n0 yX8_in cX8_in 3 (Option.some FieldType.boolean) rm_X8_in [.int x0, .int x1, .int x2] σ (some (.int (bI r))) σ := by
  refine s_met (own := RX8) (by decide) (Nat.le_of_ble_eq_true rfl) rfl ?_
  intro p e s m below meth c ls hX hV hl
  have hl : lv_has ls 3 [(0, .int x0), (1, .int x1), (2, .int x2)] := hl
  have hx := hX.1.1
  have hb := hX.1.2.1
  unfold f_X8_in at hf
  refine lv_iload_n hx hb dX8_in_0 rfl (lv_at hl 0 rfl) ?_
  refine lv_iload_n hx hb dX8_in_1 rfl (lv_at hl 1 rfl) ?_
  refine lv_icmp_lt (tgt := 14) hx hb dX8_in_2 (by decide) (fun c1 => ?_) (fun c1 => ?_)
  · have hf := sr_t hf c1
    refine lv_iconst (v := 0) hx hb dX8_in_14 (by decide) ?_
    cases hf
    exact s_zret (b := false) hX hV dX8_in_15
  · have hf := sr_f hf c1
    refine lv_iload_n hx hb dX8_in_5 rfl (lv_at hl 0 rfl) ?_
    refine lv_iload_n hx hb dX8_in_6 rfl (lv_at hl 2 rfl) ?_
    refine lv_icmp_gt (tgt := 14) hx hb dX8_in_7 (by decide) (fun c2 => ?_) (fun c2 => ?_)
    · have hf := sr_t hf c2
      refine lv_iconst (v := 0) hx hb dX8_in_14 (by decide) ?_
      cases hf
      exact s_zret (b := false) hX hV dX8_in_15
    · have hf := sr_f hf c2
      refine lv_iconst (v := 1) hx hb dX8_in_10 (by decide) ?_
      refine lv_goto (tgt := 15) hx hb dX8_in_11 (by decide) ?_
      cases hf
      exact s_zret (b := true) hX hV dX8_in_15
abbrev rm_X8_at : Room := { frames := 0, cells := 0, slots := 0, locals := 0 }
theorem cs_X8_at : sr_Cs yX8_at cX8_at 2 (Option.some FieldType.int) RX8 2 := ⟨lk_742, lk_741, lk_9, rfl, by decide +kernel, by decide +kernel, by decide +kernel⟩
set_option maxHeartbeats 4000000 in
set_option maxRecDepth 100000 in
theorem c_X8_at {l : Launch} {D : va_G} {aC : Nat → ClassId} {n0 : Nat} {sh : Nat → Nat} {r : Int32} {σ : St}  {x0 : Int32} {x1 : Int32}  (hf : f_X8_at x0 x1 = r) : sr_Met l D aC sh n0 yX8_at cX8_at 2 (Option.some FieldType.int) rm_X8_at [.int x0, .int x1] σ (some (.int r)) σ := by
  refine s_met (own := RX8) (by decide) (Nat.le_of_ble_eq_true rfl) rfl ?_
  intro p e s m below meth c ls hX hV hl
  have hl : lv_has ls 2 [(0, .int x0), (1, .int x1)] := hl
  have hx := hX.1.1
  have hb := hX.1.2.1
  unfold f_X8_at at hf
  refine lv_bipush (v := 92) hx hb dX8_at_0 (by decide) ?_
  refine lv_bipush (v := 33) hx hb dX8_at_2 (by decide) ?_
  refine lv_iload_n hx hb dX8_at_4 rfl (lv_at hl 0 rfl) ?_
  refine lv_imul hx hb dX8_at_5 ?_
  refine lv_iadd hx hb dX8_at_6 ?_
  refine lv_iload_n hx hb dX8_at_7 rfl (lv_at hl 1 rfl) ?_
  refine lv_iadd hx hb dX8_at_8 ?_
  cases hf
  exact s_iret hX hV dX8_at_9
abbrev rm_X8_stageAt : Room := { frames := 1, cells := 0, slots := 0, locals := 21 }
theorem cs_X8_stageAt : sr_Cs yX8_stageAt cX8_stageAt 3 (Option.some FieldType.int) RX8 3 := ⟨lk_757, lk_756, lk_9, rfl, by decide +kernel, by decide +kernel, by decide +kernel⟩
set_option maxHeartbeats 4000000 in
set_option maxRecDepth 100000 in
theorem c_X8_stageAt {l : Launch} {D : va_G} {aC : Nat → ClassId} {n0 : Nat} {sh : Nat → Nat} {r : Int32} {σ : St}  {x0 : Int32} {x1 : Int32} {x2 : Int32}  (hf : f_X8_stageAt x0 x1 x2 = r) : sr_Met l D aC sh n0 yX8_stageAt cX8_stageAt 3 (Option.some FieldType.int) rm_X8_stageAt [.int x0, .int x1, .int x2] σ (some (.int r)) σ := by
  refine s_met (own := RX8) (by decide) (Nat.le_of_ble_eq_true rfl) rfl ?_
  intro p e s m below meth c ls hX hV hl
  have hl : lv_has ls 3 [(0, .int x0), (1, .int x1), (2, .int x2)] := hl
  have hx := hX.1.1
  have hb := hX.1.2.1
  unfold f_X8_stageAt at hf
  refine lv_iload_n hx hb dX8_stageAt_0 rfl (lv_at hl 0 rfl) ?_
  refine lv_bipush (v := 9) hx hb dX8_stageAt_1 (by decide) ?_
  refine lv_iconst (v := 4) hx hb dX8_stageAt_3 (by decide) ?_
  refine lv_iload_n hx hb dX8_stageAt_4 rfl (lv_at hl 1 rfl) ?_
  refine lv_imul hx hb dX8_stageAt_5 ?_
  refine lv_iadd hx hb dX8_stageAt_6 ?_
  refine lv_iload_n hx hb dX8_stageAt_7 rfl (lv_at hl 2 rfl) ?_
  refine lv_iadd hx hb dX8_stageAt_8 ?_
  obtain ⟨v2, e1, hf⟩ := sr_bnd hf
  refine s_callS1 hX hV hl.1 (c_X8_at  e1) cs_X8_at lk_740 ⟨rfl, rfl, Nat.le_of_ble_eq_true rfl, Nat.le_of_ble_eq_true rfl⟩ rfl rfl (Nat.le_of_ble_eq_true rfl) dX8_stageAt_9 ⟨Nat.le_of_ble_eq_true rfl, Nat.le_of_ble_eq_true rfl⟩ (fun H locs hV => ?_)
  cases hf
  exact s_iret hX hV dX8_stageAt_12
abbrev rm_X8_isChange : Room := { frames := 1, cells := 0, slots := 0, locals := 22 }
theorem cv_X8_isChange : sr_Cv yX8_isChange cX8_isChange 2 (Option.some FieldType.boolean) RX8 1 := ⟨lk_750, lk_749, lp_18, lk_9, rfl, by decide +kernel, by decide +kernel, by decide +kernel⟩
set_option maxHeartbeats 4000000 in
set_option maxRecDepth 100000 in
theorem c_X8_isChange {l : Launch} {D : va_G} {aC : Nat → ClassId} {n0 : Nat} {r : Bool} {σ : St}  {q0 : Nat} {x1 : Int32} (h0 : shM q0 = 9) (hf : f_X8_isChange q0 x1 σ = r) : sr_Met l D aC shM n0 yX8_isChange cX8_isChange 2 (Option.some FieldType.boolean) rm_X8_isChange [.ref (n0 + q0), .int x1] σ (some (.int (bI r))) σ := by
  refine s_met (own := RX8) (by decide) (Nat.le_of_ble_eq_true rfl) rfl ?_
  intro p e s m below meth c ls hX hV hl
  have hl : lv_has ls 2 [(0, .ref (n0 + q0)), (1, .int x1)] := hl
  have hx := hX.1.1
  have hb := hX.1.2.1
  unfold f_X8_isChange at hf
  refine lv_iload_n hx hb dX8_isChange_0 rfl (lv_at hl 1 rfl) ?_
  refine lv_iconst (v := 0) hx hb dX8_isChange_1 (by decide) ?_
  refine lv_aload_n hx hb dX8_isChange_2 rfl (lv_at hl 0 rfl) ?_
  refine fg_8_0 hX hV lk_666 (h0) dX8_isChange_3 ?_
  refine lv_bipush (v := 10) hx hb dX8_isChange_6 (by decide) ?_
  refine s_iald hX hV (n := 257) (ch_8_0 (h0)) (by decide) (by unfold vp_in; decide) dX8_isChange_8 ?_
  refine lv_iconst (v := 1) hx hb dX8_isChange_9 (by decide) ?_
  refine lv_isub hx hb dX8_isChange_10 ?_
  obtain ⟨v2, e1, hf⟩ := sr_bnd hf
  refine s_callS1 hX hV hl.1 (c_X8_in  e1) cs_X8_in lk_717 ⟨rfl, rfl, Nat.le_of_ble_eq_true rfl, Nat.le_of_ble_eq_true rfl⟩ rfl rfl (Nat.le_of_ble_eq_true rfl) dX8_isChange_11 ⟨Nat.le_of_ble_eq_true rfl, Nat.le_of_ble_eq_true rfl⟩ (fun H locs hV => ?_)
  cases hf
  exact s_zret hX hV dX8_isChange_14
abbrev rm_X8_isCell : Room := { frames := 1, cells := 0, slots := 0, locals := 22 }
theorem cv_X8_isCell : sr_Cv yX8_isCell cX8_isCell 2 (Option.some FieldType.boolean) RX8 1 := ⟨lk_812, lk_811, lp_26, lk_9, rfl, by decide +kernel, by decide +kernel, by decide +kernel⟩
set_option maxHeartbeats 4000000 in
set_option maxRecDepth 100000 in
theorem c_X8_isCell {l : Launch} {D : va_G} {aC : Nat → ClassId} {n0 : Nat} {r : Bool} {σ : St}  {q0 : Nat} {x1 : Int32} (h0 : shM q0 = 9) (hf : f_X8_isCell q0 x1 σ = r) : sr_Met l D aC shM n0 yX8_isCell cX8_isCell 2 (Option.some FieldType.boolean) rm_X8_isCell [.ref (n0 + q0), .int x1] σ (some (.int (bI r))) σ := by
  refine s_met (own := RX8) (by decide) (Nat.le_of_ble_eq_true rfl) rfl ?_
  intro p e s m below meth c ls hX hV hl
  have hl : lv_has ls 2 [(0, .ref (n0 + q0)), (1, .int x1)] := hl
  have hx := hX.1.1
  have hb := hX.1.2.1
  unfold f_X8_isCell at hf
  refine lv_iload_n hx hb dX8_isCell_0 rfl (lv_at hl 1 rfl) ?_
  refine lv_iconst (v := 0) hx hb dX8_isCell_1 (by decide) ?_
  refine lv_aload_n hx hb dX8_isCell_2 rfl (lv_at hl 0 rfl) ?_
  refine fg_8_0 hX hV lk_666 (h0) dX8_isCell_3 ?_
  refine lv_iconst (v := 0) hx hb dX8_isCell_6 (by decide) ?_
  refine s_iald hX hV (n := 257) (ch_8_0 (h0)) (by decide) (by unfold vp_in; decide) dX8_isCell_7 ?_
  refine lv_iconst (v := 1) hx hb dX8_isCell_8 (by decide) ?_
  refine lv_isub hx hb dX8_isCell_9 ?_
  obtain ⟨v2, e1, hf⟩ := sr_bnd hf
  refine s_callS1 hX hV hl.1 (c_X8_in  e1) cs_X8_in lk_717 ⟨rfl, rfl, Nat.le_of_ble_eq_true rfl, Nat.le_of_ble_eq_true rfl⟩ rfl rfl (Nat.le_of_ble_eq_true rfl) dX8_isCell_10 ⟨Nat.le_of_ble_eq_true rfl, Nat.le_of_ble_eq_true rfl⟩ (fun H locs hV => ?_)
  cases hf
  exact s_zret hX hV dX8_isCell_13
abbrev rm_X8_puts : Room := { frames := 0, cells := 0, slots := 0, locals := 0 }
theorem cv_X8_puts : sr_Cv yX8_puts cX8_puts 4 (Option.some FieldType.int) RX8 2 := ⟨lk_727, lk_726, lp_17, lk_9, rfl, by decide +kernel, by decide +kernel, by decide +kernel⟩
set_option maxHeartbeats 4000000 in
set_option maxRecDepth 100000 in
theorem c_X8_puts {l : Launch} {D : va_G} {aC : Nat → ClassId} {n0 : Nat} {r : Int32} {σ' : St}  {σ : St} {q0 : Nat} {x1 : Int32} {x2 : Int32} (h0 : shM q0 = 9) (hf : f_X8_puts q0 x1 x2 σ = some (r, σ')) : sr_Met l D aC shM n0 yX8_puts cX8_puts 4 (Option.some FieldType.int) rm_X8_puts [.ref (n0 + q0), .int x1, .int x2] σ (some (.int r)) σ' := by
  refine s_met (own := RX8) (by decide) (Nat.le_of_ble_eq_true rfl) rfl ?_
  intro p e s m below meth c ls hX hV hl
  have hl : lv_has ls 4 [(0, .ref (n0 + q0)), (1, .int x1), (2, .int x2)] := hl
  have hx := hX.1.1
  have hb := hX.1.2.1
  unfold f_X8_puts at hf
  refine lv_aload_n hx hb dX8_puts_0 rfl (lv_at hl 0 rfl) ?_
  refine fg_8_0 hX hV lk_666 (h0) dX8_puts_1 ?_
  refine lv_iload_n hx hb dX8_puts_4 rfl (lv_at hl 1 rfl) ?_
  obtain ⟨g1, hf⟩ := sr_gd hf
  refine s_iald hX hV (n := 257) (ch_8_0 (h0)) (by decide) (inb_in g1) dX8_puts_5 ?_
  obtain ⟨v2, e3, hf⟩ := sr_bnd hf
  rw [e3]
  refine lv_istore_n (lv' := [(3, .int v2), (0, .ref (n0 + q0)), (1, .int x1), (2, .int x2)]) hx hb dX8_puts_6 rfl hl (by decide) rfl (fun ls hl => ?_)
  refine lv_aload_n hx hb dX8_puts_7 rfl (lv_at hl 1 rfl) ?_
  refine fg_8_0 hX hV lk_666 (h0) dX8_puts_8 ?_
  refine lv_iload_n hx hb dX8_puts_11 rfl (lv_at hl 2 rfl) ?_
  refine lv_iload_n hx hb dX8_puts_12 rfl (lv_at hl 3 rfl) ?_
  obtain ⟨g4, hf⟩ := sr_gd hf
  obtain ⟨σ5, e6, hf⟩ := sr_bnd hf
  refine s_iast hX hV (n := 257) (ch_8_0 (h0)) (by decide) (inb_in g4) dX8_puts_13 (fun H locs hV => ?_)
  rw [e6] at hV
  refine lv_iload_n hx hb dX8_puts_14 rfl (lv_at hl 0 rfl) ?_
  cases hf
  exact s_iret hX hV dX8_puts_15
abbrev rm_X8_begin : Room := { frames := 1, cells := 0, slots := 0, locals := 22 }
theorem cv_X8_begin : sr_Cv yX8_begin cX8_begin 5 (Option.some FieldType.int) RX8 1 := ⟨lk_716, lk_714, lk_715, lk_9, rfl, by decide +kernel, by decide +kernel, by decide +kernel⟩
set_option maxHeartbeats 4000000 in
set_option maxRecDepth 100000 in
theorem k_X8_begin_L30 {p : Program} {l : Launch} {e : Env} {s : State} {m : MethodId} {args : Array Value} {below : List Frame} {meth : Method} {c : Code} {D : va_G} {aC : Nat → ClassId} {n0 : Nat} {r : Int32} {σ' : St} {q0 : Nat} {x1 : Int32} (hX : sr_X p s m args meth c cX8_begin 5 (Option.some FieldType.int) RX8 D aC) (h0 : shM q0 = 9) (rec30 : Int32 → Int32 → Int32 → St → Option (Int32 × St)) (hrec30 : ∀ (x2 : Int32) (x3 : Int32) (x4 : Int32) (σ : St) (H : Heap) (locs : List Loc) (ls : Array Slot) , lv_has ls 5 [(0, .ref (n0 + q0)), (1, .int x1), (2, .int x2), (3, .int x3), (4, .int x4)] → sr_V D aC shM n0 σ s.heap H locs → rec30 x2 x3 x4 σ = some (r, σ') → W p l e rm_X8_begin s m args below meth c H locs 0 0 (MQ below (sr_Qc D aC shM n0 σ' (some (.int r))) args s 0 0 (sr_A shM n0)) (F0 m 30 ls [])) : ∀ (x2 : Int32) (x3 : Int32) (x4 : Int32) (σ : St) (H : Heap) (locs : List Loc) (ls : Array Slot) , lv_has ls 5 [(0, .ref (n0 + q0)), (1, .int x1), (2, .int x2), (3, .int x3), (4, .int x4)] → sr_V D aC shM n0 σ s.heap H locs → f_X8_begin_L30 q0 x1 rec30 x2 x3 x4 σ = some (r, σ') → W p l e rm_X8_begin s m args below meth c H locs 0 0 (MQ below (sr_Qc D aC shM n0 σ' (some (.int r))) args s 0 0 (sr_A shM n0)) (F0 m 30 ls []) := by
  intro x2 x3 x4 σ H locs ls  hl hV hf
  have hx := hX.1.1
  have hb := hX.1.2.1
  unfold f_X8_begin_L30 at hf
  refine lv_iload hx hb dX8_begin_30 (lv_at hl 4 rfl) ?_
  refine lv_sipush (v := 257) hx hb dX8_begin_32 (by decide) ?_
  refine lv_icmp_ge (tgt := 52) hx hb dX8_begin_35 (by decide) (fun c1 => ?_) (fun c1 => ?_)
  · have hf := sr_t hf c1
    refine lv_aload_n hx hb dX8_begin_52 rfl (lv_at hl 0 rfl) ?_
    refine fg_8_0 hX hV lk_666 (h0) dX8_begin_53 ?_
    refine lv_iconst (v := 0) hx hb dX8_begin_56 (by decide) ?_
    refine lv_iload_n hx hb dX8_begin_57 rfl (lv_at hl 1 rfl) ?_
    obtain ⟨σ2, e3, hf⟩ := sr_bnd hf
    refine s_iast hX hV (n := 257) (ch_8_0 (h0)) (by decide) (by unfold vp_in; decide) dX8_begin_58 (fun H locs hV => ?_)
    rw [e3] at hV
    refine lv_aload_n hx hb dX8_begin_59 rfl (lv_at hl 0 rfl) ?_
    refine fg_8_0 hX hV lk_666 (h0) dX8_begin_60 ?_
    refine lv_iconst (v := 2) hx hb dX8_begin_63 (by decide) ?_
    refine lv_iload_n hx hb dX8_begin_64 rfl (lv_at hl 2 rfl) ?_
    obtain ⟨σ4, e5, hf⟩ := sr_bnd hf
    refine s_iast hX hV (n := 257) (ch_8_0 (h0)) (by decide) (by unfold vp_in; decide) dX8_begin_65 (fun H locs hV => ?_)
    rw [e5] at hV
    refine lv_iload_n hx hb dX8_begin_66 rfl (lv_at hl 3 rfl) ?_
    cases hf
    exact s_iret hX hV dX8_begin_67
  · have hf := sr_f hf c1
    refine lv_aload_n hx hb dX8_begin_38 rfl (lv_at hl 0 rfl) ?_
    refine fg_8_0 hX hV lk_666 (h0) dX8_begin_39 ?_
    refine lv_iload hx hb dX8_begin_42 (lv_at hl 4 rfl) ?_
    refine lv_iconst (v := 0) hx hb dX8_begin_44 (by decide) ?_
    obtain ⟨g6, hf⟩ := sr_gd hf
    obtain ⟨σ7, e8, hf⟩ := sr_bnd hf
    refine s_iast hX hV (n := 257) (ch_8_0 (h0)) (by decide) (inb_in g6) dX8_begin_45 (fun H locs hV => ?_)
    rw [e8] at hV
    obtain ⟨v9, e10, hf⟩ := sr_bnd hf
    refine lv_iinc (v := v9) (lv' := [(4, .int v9), (0, .ref (n0 + q0)), (1, .int x1), (2, .int x2), (3, .int x3)]) hx hb dX8_begin_46 hl (k := 4) rfl (by rw [← e10]; rfl) (by decide) rfl (fun ls hl => ?_)
    refine lv_goto (tgt := 30) hx hb dX8_begin_49 (by decide) ?_
    exact hrec30 _ _ _ _ _ _ _  (lv_sub hl [1, 2, 3, 4, 0] rfl) hV hf
set_option maxHeartbeats 4000000 in
set_option maxRecDepth 100000 in
theorem k_X8_begin_L30w {p : Program} {l : Launch} {e : Env} {s : State} {m : MethodId} {args : Array Value} {below : List Frame} {meth : Method} {c : Code} {D : va_G} {aC : Nat → ClassId} {n0 : Nat} {r : Int32} {σ' : St} {q0 : Nat} {x1 : Int32} (hX : sr_X p s m args meth c cX8_begin 5 (Option.some FieldType.int) RX8 D aC) (h0 : shM q0 = 9) (n : Nat) : ∀ (x2 : Int32) (x3 : Int32) (x4 : Int32) (σ : St) (H : Heap) (locs : List Loc) (ls : Array Slot) , lv_has ls 5 [(0, .ref (n0 + q0)), (1, .int x1), (2, .int x2), (3, .int x3), (4, .int x4)] → sr_V D aC shM n0 σ s.heap H locs → it4 (f_X8_begin_L30 q0 x1) n x2 x3 x4 σ = some (r, σ') → W p l e rm_X8_begin s m args below meth c H locs 0 0 (MQ below (sr_Qc D aC shM n0 σ' (some (.int r))) args s 0 0 (sr_A shM n0)) (F0 m 30 ls []) :=
  it4_ind (fun rec30 => ∀ (x2 : Int32) (x3 : Int32) (x4 : Int32) (σ : St) (H : Heap) (locs : List Loc) (ls : Array Slot) , lv_has ls 5 [(0, .ref (n0 + q0)), (1, .int x1), (2, .int x2), (3, .int x3), (4, .int x4)] → sr_V D aC shM n0 σ s.heap H locs → rec30 x2 x3 x4 σ = some (r, σ') → W p l e rm_X8_begin s m args below meth c H locs 0 0 (MQ below (sr_Qc D aC shM n0 σ' (some (.int r))) args s 0 0 (sr_A shM n0)) (F0 m 30 ls [])) (by intros; rename_i hf; exact absurd hf (by simp)) (fun rec hrec => k_X8_begin_L30 hX h0  rec hrec) n
set_option maxHeartbeats 4000000 in
set_option maxRecDepth 100000 in
theorem c_X8_begin {l : Launch} {D : va_G} {aC : Nat → ClassId} {n0 : Nat} {r : Int32} {σ' : St}  {σ : St} {q0 : Nat} {x1 : Int32} (h0 : shM q0 = 9) (hf : f_X8_begin q0 x1 σ = some (r, σ')) : sr_Met l D aC shM n0 yX8_begin cX8_begin 5 (Option.some FieldType.int) rm_X8_begin [.ref (n0 + q0), .int x1] σ (some (.int r)) σ' := by
  refine s_met (own := RX8) (by decide) (Nat.le_of_ble_eq_true rfl) rfl ?_
  intro p e s m below meth c ls hX hV hl
  have hl : lv_has ls 5 [(0, .ref (n0 + q0)), (1, .int x1)] := hl
  have hx := hX.1.1
  have hb := hX.1.2.1
  unfold f_X8_begin at hf
  refine lv_iload_n hx hb dX8_begin_0 rfl (lv_at hl 1 rfl) ?_
  refine lv_iconst (v := 1) hx hb dX8_begin_1 (by decide) ?_
  refine lv_bipush (v := 8) hx hb dX8_begin_2 (by decide) ?_
  obtain ⟨v12, e11, hf⟩ := sr_bnd hf
  refine s_callS1 hX hV hl.1 (c_X8_in  e11) cs_X8_in lk_717 ⟨rfl, rfl, Nat.le_of_ble_eq_true rfl, Nat.le_of_ble_eq_true rfl⟩ rfl rfl (Nat.le_of_ble_eq_true rfl) dX8_begin_4 ⟨Nat.le_of_ble_eq_true rfl, Nat.le_of_ble_eq_true rfl⟩ (fun H locs hV => ?_)
  refine lv_if_ne (tgt := 13) hx hb dX8_begin_7 (by decide) (fun c13 => ?_) (fun c13 => ?_)
  · have hf := sr_t hf (sr_b1 c13)
    refine lv_aload_n hx hb dX8_begin_13 rfl (lv_at hl 0 rfl) ?_
    refine fg_8_0 hX hV lk_666 (h0) dX8_begin_14 ?_
    refine lv_iconst (v := 2) hx hb dX8_begin_17 (by decide) ?_
    refine s_iald hX hV (n := 257) (ch_8_0 (h0)) (by decide) (by unfold vp_in; decide) dX8_begin_18 ?_
    obtain ⟨v14, e15, hf⟩ := sr_bnd hf
    rw [e15]
    refine lv_istore_n (lv' := [(2, .int v14), (0, .ref (n0 + q0)), (1, .int x1)]) hx hb dX8_begin_19 rfl hl (by decide) rfl (fun ls hl => ?_)
    refine lv_aload_n hx hb dX8_begin_20 rfl (lv_at hl 1 rfl) ?_
    refine fg_8_0 hX hV lk_666 (h0) dX8_begin_21 ?_
    refine lv_iconst (v := 0) hx hb dX8_begin_24 (by decide) ?_
    refine s_iald hX hV (n := 257) (ch_8_0 (h0)) (by decide) (by unfold vp_in; decide) dX8_begin_25 ?_
    obtain ⟨v16, e17, hf⟩ := sr_bnd hf
    rw [e17]
    refine lv_istore_n (lv' := [(3, .int v16), (2, .int v14), (0, .ref (n0 + q0)), (1, .int x1)]) hx hb dX8_begin_26 rfl hl (by decide) rfl (fun ls hl => ?_)
    refine lv_iconst (v := 0) hx hb dX8_begin_27 (by decide) ?_
    refine lv_istore (lv' := [(4, .int 0), (3, .int v16), (2, .int v14), (0, .ref (n0 + q0)), (1, .int x1)]) hx hb dX8_begin_28 hl (by decide) rfl (fun ls hl => ?_)
    exact k_X8_begin_L30w hX h0  sr_fuel _ _ _ _ _ _ _  (lv_sub hl [3, 4, 2, 1, 0] rfl) hV hf
  · have hf := sr_f hf (sr_b0 c13)
    refine lv_bipush (v := (-12)) hx hb dX8_begin_10 (by decide) ?_
    cases hf
    exact s_iret hX hV dX8_begin_12
abbrev rm_X8_setLimit : Room := { frames := 1, cells := 0, slots := 0, locals := 23 }
theorem cv_X8_setLimit : sr_Cv yX8_setLimit cX8_setLimit 2 (Option.some FieldType.int) RX8 1 := ⟨lk_723, lk_721, lk_722, lk_9, rfl, by decide +kernel, by decide +kernel, by decide +kernel⟩
set_option maxHeartbeats 4000000 in
set_option maxRecDepth 100000 in
theorem c_X8_setLimit {l : Launch} {D : va_G} {aC : Nat → ClassId} {n0 : Nat} {r : Int32} {σ' : St}  {σ : St} {q0 : Nat} {x1 : Int32} (h0 : shM q0 = 9) (hf : f_X8_setLimit q0 x1 σ = some (r, σ')) : sr_Met l D aC shM n0 yX8_setLimit cX8_setLimit 2 (Option.some FieldType.int) rm_X8_setLimit [.ref (n0 + q0), .int x1] σ (some (.int r)) σ' := by
  refine s_met (own := RX8) (by decide) (Nat.le_of_ble_eq_true rfl) rfl ?_
  intro p e s m below meth c ls hX hV hl
  have hl : lv_has ls 2 [(0, .ref (n0 + q0)), (1, .int x1)] := hl
  have hx := hX.1.1
  have hb := hX.1.2.1
  unfold f_X8_setLimit at hf
  refine lv_iload_n hx hb dX8_setLimit_0 rfl (lv_at hl 1 rfl) ?_
  refine lv_iconst (v := 0) hx hb dX8_setLimit_1 (by decide) ?_
  refine lv_sipush (v := 1000) hx hb dX8_setLimit_2 (by decide) ?_
  obtain ⟨v2, e1, hf⟩ := sr_bnd hf
  refine s_callS1 hX hV hl.1 (c_X8_in  e1) cs_X8_in lk_717 ⟨rfl, rfl, Nat.le_of_ble_eq_true rfl, Nat.le_of_ble_eq_true rfl⟩ rfl rfl (Nat.le_of_ble_eq_true rfl) dX8_setLimit_5 ⟨Nat.le_of_ble_eq_true rfl, Nat.le_of_ble_eq_true rfl⟩ (fun H locs hV => ?_)
  refine lv_if_eq (tgt := 20) hx hb dX8_setLimit_8 (by decide) (fun c3 => ?_) (fun c3 => ?_)
  · have hf := sr_f hf (sr_b0 c3)
    refine lv_bipush (v := (-12)) hx hb dX8_setLimit_20 (by decide) ?_
    cases hf
    exact s_iret hX hV dX8_setLimit_22
  · have hf := sr_t hf (sr_b1 c3)
    refine lv_aload_n hx hb dX8_setLimit_11 rfl (lv_at hl 0 rfl) ?_
    refine lv_iconst (v := 2) hx hb dX8_setLimit_12 (by decide) ?_
    refine lv_iload_n hx hb dX8_setLimit_13 rfl (lv_at hl 1 rfl) ?_
    obtain ⟨v5, σ6, e4, hf⟩ := sr_ob2 hf
    refine s_callV1 (ci := 8) hX hV hl.1 (c_X8_puts (h0) e4) cv_X8_puts lk_724 ⟨rfl, rfl, Nat.le_of_ble_eq_true rfl, Nat.le_of_ble_eq_true rfl⟩ rfl (by decide) (h0) rfl rfl (Nat.le_of_ble_eq_true rfl) dX8_setLimit_14 ⟨Nat.le_of_ble_eq_true rfl, Nat.le_of_ble_eq_true rfl⟩ (fun H locs hV => ?_)
    refine lv_goto (tgt := 22) hx hb dX8_setLimit_17 (by decide) ?_
    cases hf
    exact s_iret hX hV dX8_setLimit_22
abbrev rm_X8_freeze : Room := { frames := 1, cells := 0, slots := 0, locals := 22 }
theorem cv_X8_freeze : sr_Cv yX8_freeze cX8_freeze 3 (Option.some FieldType.int) RX8 2 := ⟨lk_731, lk_729, lk_730, lk_9, rfl, by decide +kernel, by decide +kernel, by decide +kernel⟩
set_option maxHeartbeats 4000000 in
set_option maxRecDepth 100000 in
theorem c_X8_freeze {l : Launch} {D : va_G} {aC : Nat → ClassId} {n0 : Nat} {r : Int32} {σ' : St}  {σ : St} {q0 : Nat} {x1 : Int32} {x2 : Int32} (h0 : shM q0 = 9) (hf : f_X8_freeze q0 x1 x2 σ = some (r, σ')) : sr_Met l D aC shM n0 yX8_freeze cX8_freeze 3 (Option.some FieldType.int) rm_X8_freeze [.ref (n0 + q0), .int x1, .int x2] σ (some (.int r)) σ' := by
  refine s_met (own := RX8) (by decide) (Nat.le_of_ble_eq_true rfl) rfl ?_
  intro p e s m below meth c ls hX hV hl
  have hl : lv_has ls 3 [(0, .ref (n0 + q0)), (1, .int x1), (2, .int x2)] := hl
  have hx := hX.1.1
  have hb := hX.1.2.1
  unfold f_X8_freeze at hf
  refine lv_iload_n hx hb dX8_freeze_0 rfl (lv_at hl 1 rfl) ?_
  refine lv_iconst (v := 0) hx hb dX8_freeze_1 (by decide) ?_
  refine lv_sipush (v := 167) hx hb dX8_freeze_2 (by decide) ?_
  obtain ⟨v2, e1, hf⟩ := sr_bnd hf
  refine s_callS1 hX hV hl.1 (c_X8_in  e1) cs_X8_in lk_717 ⟨rfl, rfl, Nat.le_of_ble_eq_true rfl, Nat.le_of_ble_eq_true rfl⟩ rfl rfl (Nat.le_of_ble_eq_true rfl) dX8_freeze_5 ⟨Nat.le_of_ble_eq_true rfl, Nat.le_of_ble_eq_true rfl⟩ (fun H locs hV => ?_)
  refine lv_if_eq (tgt := 24) hx hb dX8_freeze_8 (by decide) (fun c3 => ?_) (fun c3 => ?_)
  · have hf := sr_f hf (sr_b0 c3)
    refine lv_bipush (v := (-12)) hx hb dX8_freeze_24 (by decide) ?_
    cases hf
    exact s_iret hX hV dX8_freeze_26
  · have hf := sr_t hf (sr_b1 c3)
    refine lv_iload_n hx hb dX8_freeze_11 rfl (lv_at hl 2 rfl) ?_
    refine lv_iload_n hx hb dX8_freeze_12 rfl (lv_at hl 1 rfl) ?_
    refine lv_iconst (v := 1) hx hb dX8_freeze_13 (by decide) ?_
    refine lv_iadd hx hb dX8_freeze_14 ?_
    refine lv_sipush (v := 168) hx hb dX8_freeze_15 (by decide) ?_
    obtain ⟨v5, e4, hf⟩ := sr_bnd hf
    refine s_callS1 hX hV hl.1 (c_X8_in  e4) cs_X8_in lk_717 ⟨rfl, rfl, Nat.le_of_ble_eq_true rfl, Nat.le_of_ble_eq_true rfl⟩ rfl rfl (Nat.le_of_ble_eq_true rfl) dX8_freeze_18 ⟨Nat.le_of_ble_eq_true rfl, Nat.le_of_ble_eq_true rfl⟩ (fun H locs hV => ?_)
    refine lv_if_ne (tgt := 27) hx hb dX8_freeze_21 (by decide) (fun c6 => ?_) (fun c6 => ?_)
    · have hf := sr_t hf (sr_b1 c6)
      refine lv_aload_n hx hb dX8_freeze_27 rfl (lv_at hl 0 rfl) ?_
      refine fg_8_0 hX hV lk_666 (h0) dX8_freeze_28 ?_
      refine lv_iconst (v := 3) hx hb dX8_freeze_31 (by decide) ?_
      refine s_iald hX hV (n := 257) (ch_8_0 (h0)) (by decide) (by unfold vp_in; decide) dX8_freeze_32 ?_
      refine lv_iconst (v := 3) hx hb dX8_freeze_33 (by decide) ?_
      refine lv_icmp_ne (tgt := 40) hx hb dX8_freeze_34 (by decide) (fun c7 => ?_) (fun c7 => ?_)
      · have hf := sr_f hf c7
        refine lv_aload_n hx hb dX8_freeze_40 rfl (lv_at hl 0 rfl) ?_
        refine fg_8_0 hX hV lk_666 (h0) dX8_freeze_41 ?_
        refine lv_iconst (v := 4) hx hb dX8_freeze_44 (by decide) ?_
        refine lv_iconst (v := 2) hx hb dX8_freeze_45 (by decide) ?_
        refine lv_aload_n hx hb dX8_freeze_46 rfl (lv_at hl 0 rfl) ?_
        refine fg_8_0 hX hV lk_666 (h0) dX8_freeze_47 ?_
        refine lv_iconst (v := 3) hx hb dX8_freeze_50 (by decide) ?_
        refine s_iald hX hV (n := 257) (ch_8_0 (h0)) (by decide) (by unfold vp_in; decide) dX8_freeze_51 ?_
        refine lv_imul hx hb dX8_freeze_52 ?_
        refine lv_iadd hx hb dX8_freeze_53 ?_
        refine lv_iload_n hx hb dX8_freeze_54 rfl (lv_at hl 1 rfl) ?_
        obtain ⟨v8, e9, hf⟩ := sr_bnd hf
        rw [e9]
        obtain ⟨g10, hf⟩ := sr_gd hf
        obtain ⟨σ11, e12, hf⟩ := sr_bnd hf
        refine s_iast hX hV (n := 257) (ch_8_0 (h0)) (by decide) (inb_in g10) dX8_freeze_55 (fun H locs hV => ?_)
        rw [e12] at hV
        refine lv_aload_n hx hb dX8_freeze_56 rfl (lv_at hl 0 rfl) ?_
        refine fg_8_0 hX hV lk_666 (h0) dX8_freeze_57 ?_
        refine lv_iconst (v := 4) hx hb dX8_freeze_60 (by decide) ?_
        refine lv_iconst (v := 2) hx hb dX8_freeze_61 (by decide) ?_
        refine lv_aload_n hx hb dX8_freeze_62 rfl (lv_at hl 0 rfl) ?_
        refine fg_8_0 hX hV lk_666 (h0) dX8_freeze_63 ?_
        refine lv_iconst (v := 3) hx hb dX8_freeze_66 (by decide) ?_
        refine s_iald hX hV (n := 257) (ch_8_0 (h0)) (by decide) (by unfold vp_in; decide) dX8_freeze_67 ?_
        refine lv_imul hx hb dX8_freeze_68 ?_
        refine lv_iadd hx hb dX8_freeze_69 ?_
        refine lv_iconst (v := 1) hx hb dX8_freeze_70 (by decide) ?_
        refine lv_iadd hx hb dX8_freeze_71 ?_
        refine lv_iload_n hx hb dX8_freeze_72 rfl (lv_at hl 2 rfl) ?_
        obtain ⟨v13, e14, hf⟩ := sr_bnd hf
        rw [e14]
        obtain ⟨g15, hf⟩ := sr_gd hf
        obtain ⟨σ16, e17, hf⟩ := sr_bnd hf
        refine s_iast hX hV (n := 257) (ch_8_0 (h0)) (by decide) (inb_in g15) dX8_freeze_73 (fun H locs hV => ?_)
        rw [e17] at hV
        refine lv_aload_n hx hb dX8_freeze_74 rfl (lv_at hl 0 rfl) ?_
        refine fg_8_0 hX hV lk_666 (h0) dX8_freeze_75 ?_
        refine lv_iconst (v := 3) hx hb dX8_freeze_78 (by decide) ?_
        refine lv_dup2_11 hx hb dX8_freeze_79 rfl rfl ?_
        refine s_iald hX hV (n := 257) (ch_8_0 (h0)) (by decide) (by unfold vp_in; decide) dX8_freeze_80 ?_
        refine lv_iconst (v := 1) hx hb dX8_freeze_81 (by decide) ?_
        refine lv_iadd hx hb dX8_freeze_82 ?_
        obtain ⟨σ18, e19, hf⟩ := sr_bnd hf
        refine s_iast hX hV (n := 257) (ch_8_0 (h0)) (by decide) (by unfold vp_in; decide) dX8_freeze_83 (fun H locs hV => ?_)
        rw [e19] at hV
        refine lv_aload_n hx hb dX8_freeze_84 rfl (lv_at hl 0 rfl) ?_
        refine fg_8_0 hX hV lk_666 (h0) dX8_freeze_85 ?_
        refine lv_iconst (v := 3) hx hb dX8_freeze_88 (by decide) ?_
        refine s_iald hX hV (n := 257) (ch_8_0 (h0)) (by decide) (by unfold vp_in; decide) dX8_freeze_89 ?_
        cases hf
        exact s_iret hX hV dX8_freeze_90
      · have hf := sr_t hf c7
        refine lv_bipush (v := (-14)) hx hb dX8_freeze_37 (by decide) ?_
        cases hf
        exact s_iret hX hV dX8_freeze_39
    · have hf := sr_f hf (sr_b0 c6)
      refine lv_bipush (v := (-12)) hx hb dX8_freeze_24 (by decide) ?_
      cases hf
      exact s_iret hX hV dX8_freeze_26
abbrev rm_X8_thaw : Room := { frames := 1, cells := 0, slots := 0, locals := 23 }
theorem cv_X8_thaw : sr_Cv yX8_thaw cX8_thaw 1 (Option.some FieldType.int) RX8 0 := ⟨lk_735, lk_733, lk_734, lk_9, rfl, by decide +kernel, by decide +kernel, by decide +kernel⟩
set_option maxHeartbeats 4000000 in
set_option maxRecDepth 100000 in
theorem c_X8_thaw {l : Launch} {D : va_G} {aC : Nat → ClassId} {n0 : Nat} {r : Int32} {σ' : St}  {σ : St} {q0 : Nat} (h0 : shM q0 = 9) (hf : f_X8_thaw q0 σ = some (r, σ')) : sr_Met l D aC shM n0 yX8_thaw cX8_thaw 1 (Option.some FieldType.int) rm_X8_thaw [.ref (n0 + q0)] σ (some (.int r)) σ' := by
  refine s_met (own := RX8) (by decide) (Nat.le_of_ble_eq_true rfl) rfl ?_
  intro p e s m below meth c ls hX hV hl
  have hl : lv_has ls 1 [(0, .ref (n0 + q0))] := hl
  have hx := hX.1.1
  have hb := hX.1.2.1
  unfold f_X8_thaw at hf
  refine lv_aload_n hx hb dX8_thaw_0 rfl (lv_at hl 0 rfl) ?_
  refine lv_iconst (v := 3) hx hb dX8_thaw_1 (by decide) ?_
  refine lv_iconst (v := 0) hx hb dX8_thaw_2 (by decide) ?_
  obtain ⟨v2, σ3, e1, hf⟩ := sr_ob2 hf
  refine s_callV1 (ci := 8) hX hV hl.1 (c_X8_puts (h0) e1) cv_X8_puts lk_724 ⟨rfl, rfl, Nat.le_of_ble_eq_true rfl, Nat.le_of_ble_eq_true rfl⟩ rfl (by decide) (h0) rfl rfl (Nat.le_of_ble_eq_true rfl) dX8_thaw_3 ⟨Nat.le_of_ble_eq_true rfl, Nat.le_of_ble_eq_true rfl⟩ (fun H locs hV => ?_)
  cases hf
  exact s_iret hX hV dX8_thaw_6
abbrev rm_X8_addChange : Room := { frames := 1, cells := 0, slots := 0, locals := 21 }
theorem cv_X8_addChange : sr_Cv yX8_addChange cX8_addChange 4 (Option.some FieldType.int) RX8 1 := ⟨lk_739, lk_737, lk_738, lk_9, rfl, by decide +kernel, by decide +kernel, by decide +kernel⟩
set_option maxHeartbeats 4000000 in
set_option maxRecDepth 100000 in
theorem k_X8_addChange_B65 {p : Program} {l : Launch} {e : Env} {s : State} {m : MethodId} {args : Array Value} {below : List Frame} {meth : Method} {c : Code} {D : va_G} {aC : Nat → ClassId} {n0 : Nat} {r : Int32} {σ' : St} {q0 : Nat} {b1 : Bool} {σ : St} (hX : sr_X p s m args meth c cX8_addChange 4 (Option.some FieldType.int) RX8 D aC) (h0 : shM q0 = 9) {x2 : Int32} {sq0 : Nat} {sx1 : Int32} {sb2 : Bool} (hs0 : shM sq0 = 10257) {H : Heap} {locs : List Loc} {ls : Array Slot} (hl : lv_has ls 4 [(0, .ref (n0 + q0)), (2, .int x2)]) (hV : sr_V D aC shM n0 σ s.heap H locs) (hf : f_X8_addChange_B65 q0 b1 x2 sq0 sx1 sb2 σ = some (r, σ')) : W p l e rm_X8_addChange s m args below meth c H locs 0 0 (MQ below (sr_Qc D aC shM n0 σ' (some (.int r))) args s 0 0 (sr_A shM n0)) (F0 m 65 ls [.int (bI sb2), .int sx1, .ref (n0 + sq0)]) := by
  have hx := hX.1.1
  have hb := hX.1.2.1
  unfold f_X8_addChange_B65 at hf
  obtain ⟨g1, hf⟩ := sr_gd hf
  obtain ⟨σ2, e3, hf⟩ := sr_bnd hf
  refine s_iast hX hV (n := 257) (hs0) (by decide) (inb_in g1) dX8_addChange_65 (fun H locs hV => ?_)
  rw [e3] at hV
  refine lv_aload_n hx hb dX8_addChange_66 rfl (lv_at hl 0 rfl) ?_
  refine fg_8_0 hX hV lk_666 (h0) dX8_addChange_67 ?_
  refine lv_bipush (v := 10) hx hb dX8_addChange_70 (by decide) ?_
  refine lv_dup2_11 hx hb dX8_addChange_72 rfl rfl ?_
  refine s_iald hX hV (n := 257) (ch_8_0 (h0)) (by decide) (by unfold vp_in; decide) dX8_addChange_73 ?_
  refine lv_iconst (v := 1) hx hb dX8_addChange_74 (by decide) ?_
  refine lv_iadd hx hb dX8_addChange_75 ?_
  obtain ⟨σ4, e5, hf⟩ := sr_bnd hf
  refine s_iast hX hV (n := 257) (ch_8_0 (h0)) (by decide) (by unfold vp_in; decide) dX8_addChange_76 (fun H locs hV => ?_)
  rw [e5] at hV
  refine lv_iload_n hx hb dX8_addChange_77 rfl (lv_at hl 1 rfl) ?_
  cases hf
  exact s_iret hX hV dX8_addChange_78
set_option maxHeartbeats 4000000 in
set_option maxRecDepth 100000 in
theorem k_X8_addChange_L24 {p : Program} {l : Launch} {e : Env} {s : State} {m : MethodId} {args : Array Value} {below : List Frame} {meth : Method} {c : Code} {D : va_G} {aC : Nat → ClassId} {n0 : Nat} {r : Int32} {σ' : St} {q0 : Nat} {b1 : Bool} (hX : sr_X p s m args meth c cX8_addChange 4 (Option.some FieldType.int) RX8 D aC) (h0 : shM q0 = 9) (rec24 : Int32 → Int32 → St → Option (Int32 × St)) (hrec24 : ∀ (x2 : Int32) (x3 : Int32) (σ : St) (H : Heap) (locs : List Loc) (ls : Array Slot) , lv_has ls 4 [(0, .ref (n0 + q0)), (1, .int (bI b1)), (2, .int x2), (3, .int x3)] → sr_V D aC shM n0 σ s.heap H locs → rec24 x2 x3 σ = some (r, σ') → W p l e rm_X8_addChange s m args below meth c H locs 0 0 (MQ below (sr_Qc D aC shM n0 σ' (some (.int r))) args s 0 0 (sr_A shM n0)) (F0 m 24 ls [])) : ∀ (x2 : Int32) (x3 : Int32) (σ : St) (H : Heap) (locs : List Loc) (ls : Array Slot) , lv_has ls 4 [(0, .ref (n0 + q0)), (1, .int (bI b1)), (2, .int x2), (3, .int x3)] → sr_V D aC shM n0 σ s.heap H locs → f_X8_addChange_L24 q0 b1 rec24 x2 x3 σ = some (r, σ') → W p l e rm_X8_addChange s m args below meth c H locs 0 0 (MQ below (sr_Qc D aC shM n0 σ' (some (.int r))) args s 0 0 (sr_A shM n0)) (F0 m 24 ls []) := by
  intro x2 x3 σ H locs ls  hl hV hf
  have hx := hX.1.1
  have hb := hX.1.2.1
  unfold f_X8_addChange_L24 at hf
  refine lv_iload_n hx hb dX8_addChange_24 rfl (lv_at hl 3 rfl) ?_
  refine lv_bipush (v := 33) hx hb dX8_addChange_25 (by decide) ?_
  refine lv_icmp_ge (tgt := 47) hx hb dX8_addChange_27 (by decide) (fun c6 => ?_) (fun c6 => ?_)
  · have hf := sr_t hf c6
    refine lv_aload_n hx hb dX8_addChange_47 rfl (lv_at hl 0 rfl) ?_
    refine fg_8_0 hX hV lk_666 (h0) dX8_addChange_48 ?_
    refine lv_iload_n hx hb dX8_addChange_51 rfl (lv_at hl 2 rfl) ?_
    refine lv_iconst (v := 0) hx hb dX8_addChange_52 (by decide) ?_
    obtain ⟨v8, e7, hf⟩ := sr_bnd hf
    refine s_callS1 hX hV hl.1 (c_X8_at  e7) cs_X8_at lk_740 ⟨rfl, rfl, Nat.le_of_ble_eq_true rfl, Nat.le_of_ble_eq_true rfl⟩ rfl rfl (Nat.le_of_ble_eq_true rfl) dX8_addChange_53 ⟨Nat.le_of_ble_eq_true rfl, Nat.le_of_ble_eq_true rfl⟩ (fun H locs hV => ?_)
    refine lv_iload_n hx hb dX8_addChange_56 rfl (lv_at hl 1 rfl) ?_
    refine lv_if_eq (tgt := 64) hx hb dX8_addChange_57 (by decide) (fun c9 => ?_) (fun c9 => ?_)
    · have hf := sr_f hf (sr_b0 c9)
      refine lv_iconst (v := 0) hx hb dX8_addChange_64 (by decide) ?_
      exact k_X8_addChange_B65 hX h0  (ch_8_0 (h0)) (lv_sub hl [0, 2] rfl) hV hf
    · have hf := sr_t hf (sr_b1 c9)
      refine lv_iconst (v := 1) hx hb dX8_addChange_60 (by decide) ?_
      refine lv_goto (tgt := 65) hx hb dX8_addChange_61 (by decide) ?_
      exact k_X8_addChange_B65 hX h0  (ch_8_0 (h0)) (lv_sub hl [0, 2] rfl) hV hf
  · have hf := sr_f hf c6
    refine lv_aload_n hx hb dX8_addChange_30 rfl (lv_at hl 0 rfl) ?_
    refine fg_8_0 hX hV lk_666 (h0) dX8_addChange_31 ?_
    refine lv_iload_n hx hb dX8_addChange_34 rfl (lv_at hl 2 rfl) ?_
    refine lv_iload_n hx hb dX8_addChange_35 rfl (lv_at hl 3 rfl) ?_
    obtain ⟨v11, e10, hf⟩ := sr_bnd hf
    refine s_callS1 hX hV hl.1 (c_X8_at  e10) cs_X8_at lk_740 ⟨rfl, rfl, Nat.le_of_ble_eq_true rfl, Nat.le_of_ble_eq_true rfl⟩ rfl rfl (Nat.le_of_ble_eq_true rfl) dX8_addChange_36 ⟨Nat.le_of_ble_eq_true rfl, Nat.le_of_ble_eq_true rfl⟩ (fun H locs hV => ?_)
    refine lv_iconst (v := 0) hx hb dX8_addChange_39 (by decide) ?_
    obtain ⟨g12, hf⟩ := sr_gd hf
    obtain ⟨σ13, e14, hf⟩ := sr_bnd hf
    refine s_iast hX hV (n := 257) (ch_8_0 (h0)) (by decide) (inb_in g12) dX8_addChange_40 (fun H locs hV => ?_)
    rw [e14] at hV
    obtain ⟨v15, e16, hf⟩ := sr_bnd hf
    refine lv_iinc (v := v15) (lv' := [(3, .int v15), (0, .ref (n0 + q0)), (1, .int (bI b1)), (2, .int x2)]) hx hb dX8_addChange_41 hl (k := 3) rfl (by rw [← e16]; rfl) (by decide) rfl (fun ls hl => ?_)
    refine lv_goto (tgt := 24) hx hb dX8_addChange_44 (by decide) ?_
    exact hrec24 _ _ _ _ _ _  (lv_sub hl [1, 2, 3, 0] rfl) hV hf
set_option maxHeartbeats 4000000 in
set_option maxRecDepth 100000 in
theorem k_X8_addChange_L24w {p : Program} {l : Launch} {e : Env} {s : State} {m : MethodId} {args : Array Value} {below : List Frame} {meth : Method} {c : Code} {D : va_G} {aC : Nat → ClassId} {n0 : Nat} {r : Int32} {σ' : St} {q0 : Nat} {b1 : Bool} (hX : sr_X p s m args meth c cX8_addChange 4 (Option.some FieldType.int) RX8 D aC) (h0 : shM q0 = 9) (n : Nat) : ∀ (x2 : Int32) (x3 : Int32) (σ : St) (H : Heap) (locs : List Loc) (ls : Array Slot) , lv_has ls 4 [(0, .ref (n0 + q0)), (1, .int (bI b1)), (2, .int x2), (3, .int x3)] → sr_V D aC shM n0 σ s.heap H locs → it3 (f_X8_addChange_L24 q0 b1) n x2 x3 σ = some (r, σ') → W p l e rm_X8_addChange s m args below meth c H locs 0 0 (MQ below (sr_Qc D aC shM n0 σ' (some (.int r))) args s 0 0 (sr_A shM n0)) (F0 m 24 ls []) :=
  it3_ind (fun rec24 => ∀ (x2 : Int32) (x3 : Int32) (σ : St) (H : Heap) (locs : List Loc) (ls : Array Slot) , lv_has ls 4 [(0, .ref (n0 + q0)), (1, .int (bI b1)), (2, .int x2), (3, .int x3)] → sr_V D aC shM n0 σ s.heap H locs → rec24 x2 x3 σ = some (r, σ') → W p l e rm_X8_addChange s m args below meth c H locs 0 0 (MQ below (sr_Qc D aC shM n0 σ' (some (.int r))) args s 0 0 (sr_A shM n0)) (F0 m 24 ls [])) (by intros; rename_i hf; exact absurd hf (by simp)) (fun rec hrec => k_X8_addChange_L24 hX h0  rec hrec) n
set_option maxHeartbeats 4000000 in
set_option maxRecDepth 100000 in
theorem c_X8_addChange {l : Launch} {D : va_G} {aC : Nat → ClassId} {n0 : Nat} {r : Int32} {σ' : St}  {σ : St} {q0 : Nat} {b1 : Bool} (h0 : shM q0 = 9) (hf : f_X8_addChange q0 b1 σ = some (r, σ')) : sr_Met l D aC shM n0 yX8_addChange cX8_addChange 4 (Option.some FieldType.int) rm_X8_addChange [.ref (n0 + q0), .int (bI b1)] σ (some (.int r)) σ' := by
  refine s_met (own := RX8) (by decide) (Nat.le_of_ble_eq_true rfl) rfl ?_
  intro p e s m below meth c ls hX hV hl
  have hl : lv_has ls 4 [(0, .ref (n0 + q0)), (1, .int (bI b1))] := hl
  have hx := hX.1.1
  have hb := hX.1.2.1
  unfold f_X8_addChange at hf
  refine lv_aload_n hx hb dX8_addChange_0 rfl (lv_at hl 0 rfl) ?_
  refine fg_8_0 hX hV lk_666 (h0) dX8_addChange_1 ?_
  refine lv_bipush (v := 10) hx hb dX8_addChange_4 (by decide) ?_
  refine s_iald hX hV (n := 257) (ch_8_0 (h0)) (by decide) (by unfold vp_in; decide) dX8_addChange_6 ?_
  refine lv_iconst (v := 5) hx hb dX8_addChange_7 (by decide) ?_
  refine lv_icmp_ne (tgt := 14) hx hb dX8_addChange_8 (by decide) (fun c17 => ?_) (fun c17 => ?_)
  · have hf := sr_f hf c17
    refine lv_aload_n hx hb dX8_addChange_14 rfl (lv_at hl 0 rfl) ?_
    refine fg_8_0 hX hV lk_666 (h0) dX8_addChange_15 ?_
    refine lv_bipush (v := 10) hx hb dX8_addChange_18 (by decide) ?_
    refine s_iald hX hV (n := 257) (ch_8_0 (h0)) (by decide) (by unfold vp_in; decide) dX8_addChange_20 ?_
    obtain ⟨v18, e19, hf⟩ := sr_bnd hf
    rw [e19]
    refine lv_istore_n (lv' := [(2, .int v18), (0, .ref (n0 + q0)), (1, .int (bI b1))]) hx hb dX8_addChange_21 rfl hl (by decide) rfl (fun ls hl => ?_)
    refine lv_iconst (v := 0) hx hb dX8_addChange_22 (by decide) ?_
    refine lv_istore_n (lv' := [(3, .int 0), (2, .int v18), (0, .ref (n0 + q0)), (1, .int (bI b1))]) hx hb dX8_addChange_23 rfl hl (by decide) rfl (fun ls hl => ?_)
    exact k_X8_addChange_L24w hX h0  sr_fuel _ _ _ _ _ _  (lv_sub hl [2, 3, 1, 0] rfl) hV hf
  · have hf := sr_t hf c17
    refine lv_bipush (v := (-14)) hx hb dX8_addChange_11 (by decide) ?_
    cases hf
    exact s_iret hX hV dX8_addChange_13
abbrev rm_X8_cellsOf : Room := { frames := 2, cells := 0, slots := 0, locals := 43 }
theorem cv_X8_cellsOf : sr_Cv yX8_cellsOf cX8_cellsOf 5 (Option.some FieldType.int) RX8 2 := ⟨lk_754, lk_753, lp_19, lk_9, rfl, by decide +kernel, by decide +kernel, by decide +kernel⟩
set_option maxHeartbeats 4000000 in
set_option maxRecDepth 100000 in
theorem k_X8_cellsOf_L5 {p : Program} {l : Launch} {e : Env} {s : State} {m : MethodId} {args : Array Value} {below : List Frame} {meth : Method} {c : Code} {D : va_G} {aC : Nat → ClassId} {n0 : Nat} {r : Int32} {σ : St} {q0 : Nat} {x1 : Int32} {x2 : Int32} (hX : sr_X p s m args meth c cX8_cellsOf 5 (Option.some FieldType.int) RX8 D aC) (h0 : shM q0 = 9) (rec5 : Int32 → Int32 → Option Int32) (hrec5 : ∀ (x3 : Int32) (x4 : Int32) (H : Heap) (locs : List Loc) (ls : Array Slot) , lv_has ls 5 [(0, .ref (n0 + q0)), (1, .int x1), (2, .int x2), (3, .int x3), (4, .int x4)] → sr_V D aC shM n0 σ s.heap H locs → rec5 x3 x4 = some r → W p l e rm_X8_cellsOf s m args below meth c H locs 0 0 (MQ below (sr_Qc D aC shM n0 σ (some (.int r))) args s 0 0 (sr_A shM n0)) (F0 m 5 ls [])) : ∀ (x3 : Int32) (x4 : Int32) (H : Heap) (locs : List Loc) (ls : Array Slot) , lv_has ls 5 [(0, .ref (n0 + q0)), (1, .int x1), (2, .int x2), (3, .int x3), (4, .int x4)] → sr_V D aC shM n0 σ s.heap H locs → f_X8_cellsOf_L5 σ q0 x1 x2 rec5 x3 x4 = some r → W p l e rm_X8_cellsOf s m args below meth c H locs 0 0 (MQ below (sr_Qc D aC shM n0 σ (some (.int r))) args s 0 0 (sr_A shM n0)) (F0 m 5 ls []) := by
  intro x3 x4 H locs ls  hl hV hf
  have hx := hX.1.1
  have hb := hX.1.2.1
  unfold f_X8_cellsOf_L5 at hf
  refine lv_iload hx hb dX8_cellsOf_5 (lv_at hl 4 rfl) ?_
  refine lv_iload_n hx hb dX8_cellsOf_7 rfl (lv_at hl 2 rfl) ?_
  refine lv_icmp_ge (tgt := 32) hx hb dX8_cellsOf_8 (by decide) (fun c1 => ?_) (fun c1 => ?_)
  · have hf := sr_t hf c1
    refine lv_iload_n hx hb dX8_cellsOf_32 rfl (lv_at hl 3 rfl) ?_
    cases hf
    exact s_iret hX hV dX8_cellsOf_33
  · have hf := sr_f hf c1
    refine lv_iload_n hx hb dX8_cellsOf_11 rfl (lv_at hl 3 rfl) ?_
    refine lv_aload_n hx hb dX8_cellsOf_12 rfl (lv_at hl 0 rfl) ?_
    refine fg_8_0 hX hV lk_666 (h0) dX8_cellsOf_13 ?_
    refine lv_iload_n hx hb dX8_cellsOf_16 rfl (lv_at hl 1 rfl) ?_
    refine lv_iload hx hb dX8_cellsOf_17 (lv_at hl 4 rfl) ?_
    refine lv_iconst (v := 0) hx hb dX8_cellsOf_19 (by decide) ?_
    obtain ⟨v3, e2, hf⟩ := sr_bnd hf
    refine s_callS1 hX hV hl.1 (c_X8_stageAt  e2) cs_X8_stageAt lk_755 ⟨rfl, rfl, Nat.le_of_ble_eq_true rfl, Nat.le_of_ble_eq_true rfl⟩ rfl rfl (Nat.le_of_ble_eq_true rfl) dX8_cellsOf_20 ⟨Nat.le_of_ble_eq_true rfl, Nat.le_of_ble_eq_true rfl⟩ (fun H locs hV => ?_)
    obtain ⟨g4, hf⟩ := sr_gd hf
    refine s_iald hX hV (n := 257) (ch_8_0 (h0)) (by decide) (inb_in g4) dX8_cellsOf_23 ?_
    refine lv_ior hx hb dX8_cellsOf_24 ?_
    obtain ⟨v5, e6, hf⟩ := sr_bnd hf
    rw [e6]
    refine lv_istore_n (lv' := [(3, .int v5), (0, .ref (n0 + q0)), (1, .int x1), (2, .int x2), (4, .int x4)]) hx hb dX8_cellsOf_25 rfl hl (by decide) rfl (fun ls hl => ?_)
    obtain ⟨v7, e8, hf⟩ := sr_bnd hf
    refine lv_iinc (v := v7) (lv' := [(4, .int v7), (3, .int v5), (0, .ref (n0 + q0)), (1, .int x1), (2, .int x2)]) hx hb dX8_cellsOf_26 hl (k := 4) rfl (by rw [← e8]; rfl) (by decide) rfl (fun ls hl => ?_)
    refine lv_goto (tgt := 5) hx hb dX8_cellsOf_29 (by decide) ?_
    exact hrec5 _ _ _ _ _  (lv_sub hl [2, 3, 4, 1, 0] rfl) hV hf
set_option maxHeartbeats 4000000 in
set_option maxRecDepth 100000 in
theorem k_X8_cellsOf_L5w {p : Program} {l : Launch} {e : Env} {s : State} {m : MethodId} {args : Array Value} {below : List Frame} {meth : Method} {c : Code} {D : va_G} {aC : Nat → ClassId} {n0 : Nat} {r : Int32} {σ : St} {q0 : Nat} {x1 : Int32} {x2 : Int32} (hX : sr_X p s m args meth c cX8_cellsOf 5 (Option.some FieldType.int) RX8 D aC) (h0 : shM q0 = 9) (n : Nat) : ∀ (x3 : Int32) (x4 : Int32) (H : Heap) (locs : List Loc) (ls : Array Slot) , lv_has ls 5 [(0, .ref (n0 + q0)), (1, .int x1), (2, .int x2), (3, .int x3), (4, .int x4)] → sr_V D aC shM n0 σ s.heap H locs → it2 (f_X8_cellsOf_L5 σ q0 x1 x2) n x3 x4 = some r → W p l e rm_X8_cellsOf s m args below meth c H locs 0 0 (MQ below (sr_Qc D aC shM n0 σ (some (.int r))) args s 0 0 (sr_A shM n0)) (F0 m 5 ls []) :=
  it2_ind (fun rec5 => ∀ (x3 : Int32) (x4 : Int32) (H : Heap) (locs : List Loc) (ls : Array Slot) , lv_has ls 5 [(0, .ref (n0 + q0)), (1, .int x1), (2, .int x2), (3, .int x3), (4, .int x4)] → sr_V D aC shM n0 σ s.heap H locs → rec5 x3 x4 = some r → W p l e rm_X8_cellsOf s m args below meth c H locs 0 0 (MQ below (sr_Qc D aC shM n0 σ (some (.int r))) args s 0 0 (sr_A shM n0)) (F0 m 5 ls [])) (by intros; rename_i hf; exact absurd hf (by simp)) (fun rec hrec => k_X8_cellsOf_L5 hX h0  rec hrec) n
set_option maxHeartbeats 4000000 in
set_option maxRecDepth 100000 in
theorem c_X8_cellsOf {l : Launch} {D : va_G} {aC : Nat → ClassId} {n0 : Nat} {r : Int32} {σ : St}  {q0 : Nat} {x1 : Int32} {x2 : Int32} (h0 : shM q0 = 9) (hf : f_X8_cellsOf q0 x1 x2 σ = some r) : sr_Met l D aC shM n0 yX8_cellsOf cX8_cellsOf 5 (Option.some FieldType.int) rm_X8_cellsOf [.ref (n0 + q0), .int x1, .int x2] σ (some (.int r)) σ := by
  refine s_met (own := RX8) (by decide) (Nat.le_of_ble_eq_true rfl) rfl ?_
  intro p e s m below meth c ls hX hV hl
  have hl : lv_has ls 5 [(0, .ref (n0 + q0)), (1, .int x1), (2, .int x2)] := hl
  have hx := hX.1.1
  have hb := hX.1.2.1
  unfold f_X8_cellsOf at hf
  refine lv_iconst (v := 0) hx hb dX8_cellsOf_0 (by decide) ?_
  refine lv_istore_n (lv' := [(3, .int 0), (0, .ref (n0 + q0)), (1, .int x1), (2, .int x2)]) hx hb dX8_cellsOf_1 rfl hl (by decide) rfl (fun ls hl => ?_)
  refine lv_iconst (v := 0) hx hb dX8_cellsOf_2 (by decide) ?_
  refine lv_istore (lv' := [(4, .int 0), (3, .int 0), (0, .ref (n0 + q0)), (1, .int x1), (2, .int x2)]) hx hb dX8_cellsOf_3 hl (by decide) rfl (fun ls hl => ?_)
  exact k_X8_cellsOf_L5w hX h0  sr_fuel _ _ _ _ _  (lv_sub hl [2, 3, 4, 1, 0] rfl) hV hf
abbrev rm_X8_adds : Room := { frames := 2, cells := 0, slots := 0, locals := 43 }
theorem cv_X8_adds : sr_Cv yX8_adds cX8_adds 6 (none) RX8 4 := ⟨lk_761, lk_760, lp_20, lk_9, rfl, by decide +kernel, by decide +kernel, by decide +kernel⟩
set_option maxHeartbeats 4000000 in
set_option maxRecDepth 100000 in
theorem c_X8_adds {l : Launch} {D : va_G} {aC : Nat → ClassId} {n0 : Nat} {σ' : St}  {σ : St} {q0 : Nat} {x1 : Int32} {x2 : Int32} {x3 : Int32} {x4 : Int32} (h0 : shM q0 = 9) (hf : f_X8_adds q0 x1 x2 x3 x4 σ = some σ') : sr_Met l D aC shM n0 yX8_adds cX8_adds 6 (none) rm_X8_adds [.ref (n0 + q0), .int x1, .int x2, .int x3, .int x4] σ none σ' := by
  refine s_met (own := RX8) (by decide) (Nat.le_of_ble_eq_true rfl) rfl ?_
  intro p e s m below meth c ls hX hV hl
  have hl : lv_has ls 6 [(0, .ref (n0 + q0)), (1, .int x1), (2, .int x2), (3, .int x3), (4, .int x4)] := hl
  have hx := hX.1.1
  have hb := hX.1.2.1
  unfold f_X8_adds at hf
  refine lv_aload_n hx hb dX8_adds_0 rfl (lv_at hl 0 rfl) ?_
  refine fg_8_0 hX hV lk_666 (h0) dX8_adds_1 ?_
  refine lv_iload_n hx hb dX8_adds_4 rfl (lv_at hl 1 rfl) ?_
  refine lv_iconst (v := 2) hx hb dX8_adds_5 (by decide) ?_
  obtain ⟨v2, e1, hf⟩ := sr_bnd hf
  refine s_callS1 hX hV hl.1 (c_X8_at  e1) cs_X8_at lk_740 ⟨rfl, rfl, Nat.le_of_ble_eq_true rfl, Nat.le_of_ble_eq_true rfl⟩ rfl rfl (Nat.le_of_ble_eq_true rfl) dX8_adds_6 ⟨Nat.le_of_ble_eq_true rfl, Nat.le_of_ble_eq_true rfl⟩ (fun H locs hV => ?_)
  obtain ⟨g3, hf⟩ := sr_gd hf
  refine s_iald hX hV (n := 257) (ch_8_0 (h0)) (by decide) (inb_in g3) dX8_adds_9 ?_
  obtain ⟨v4, e5, hf⟩ := sr_bnd hf
  rw [e5]
  refine lv_istore (lv' := [(5, .int v4), (0, .ref (n0 + q0)), (1, .int x1), (2, .int x2), (3, .int x3), (4, .int x4)]) hx hb dX8_adds_10 hl (by decide) rfl (fun ls hl => ?_)
  refine lv_aload_n hx hb dX8_adds_12 rfl (lv_at hl 1 rfl) ?_
  refine fg_8_0 hX hV lk_666 (h0) dX8_adds_13 ?_
  refine lv_iload_n hx hb dX8_adds_16 rfl (lv_at hl 2 rfl) ?_
  refine lv_iload hx hb dX8_adds_17 (lv_at hl 0 rfl) ?_
  refine lv_iconst (v := 0) hx hb dX8_adds_19 (by decide) ?_
  obtain ⟨v7, e6, hf⟩ := sr_bnd hf
  refine s_callS1 hX hV hl.1 (c_X8_stageAt  e6) cs_X8_stageAt lk_755 ⟨rfl, rfl, Nat.le_of_ble_eq_true rfl, Nat.le_of_ble_eq_true rfl⟩ rfl rfl (Nat.le_of_ble_eq_true rfl) dX8_adds_20 ⟨Nat.le_of_ble_eq_true rfl, Nat.le_of_ble_eq_true rfl⟩ (fun H locs hV => ?_)
  refine lv_iload_n hx hb dX8_adds_23 rfl (lv_at hl 3 rfl) ?_
  obtain ⟨g8, hf⟩ := sr_gd hf
  obtain ⟨σ9, e10, hf⟩ := sr_bnd hf
  refine s_iast hX hV (n := 257) (ch_8_0 (h0)) (by decide) (inb_in g8) dX8_adds_24 (fun H locs hV => ?_)
  rw [e10] at hV
  refine lv_aload_n hx hb dX8_adds_25 rfl (lv_at hl 1 rfl) ?_
  refine fg_8_0 hX hV lk_666 (h0) dX8_adds_26 ?_
  refine lv_iload_n hx hb dX8_adds_29 rfl (lv_at hl 2 rfl) ?_
  refine lv_iload hx hb dX8_adds_30 (lv_at hl 0 rfl) ?_
  refine lv_iconst (v := 1) hx hb dX8_adds_32 (by decide) ?_
  obtain ⟨v12, e11, hf⟩ := sr_bnd hf
  refine s_callS1 hX hV hl.1 (c_X8_stageAt  e11) cs_X8_stageAt lk_755 ⟨rfl, rfl, Nat.le_of_ble_eq_true rfl, Nat.le_of_ble_eq_true rfl⟩ rfl rfl (Nat.le_of_ble_eq_true rfl) dX8_adds_33 ⟨Nat.le_of_ble_eq_true rfl, Nat.le_of_ble_eq_true rfl⟩ (fun H locs hV => ?_)
  refine lv_iload_n hx hb dX8_adds_36 rfl (lv_at hl 4 rfl) ?_
  obtain ⟨g13, hf⟩ := sr_gd hf
  obtain ⟨σ14, e15, hf⟩ := sr_bnd hf
  refine s_iast hX hV (n := 257) (ch_8_0 (h0)) (by decide) (inb_in g13) dX8_adds_37 (fun H locs hV => ?_)
  rw [e15] at hV
  refine lv_aload_n hx hb dX8_adds_38 rfl (lv_at hl 1 rfl) ?_
  refine fg_8_0 hX hV lk_666 (h0) dX8_adds_39 ?_
  refine lv_iload_n hx hb dX8_adds_42 rfl (lv_at hl 2 rfl) ?_
  refine lv_iload hx hb dX8_adds_43 (lv_at hl 0 rfl) ?_
  refine lv_iconst (v := 2) hx hb dX8_adds_45 (by decide) ?_
  obtain ⟨v17, e16, hf⟩ := sr_bnd hf
  refine s_callS1 hX hV hl.1 (c_X8_stageAt  e16) cs_X8_stageAt lk_755 ⟨rfl, rfl, Nat.le_of_ble_eq_true rfl, Nat.le_of_ble_eq_true rfl⟩ rfl rfl (Nat.le_of_ble_eq_true rfl) dX8_adds_46 ⟨Nat.le_of_ble_eq_true rfl, Nat.le_of_ble_eq_true rfl⟩ (fun H locs hV => ?_)
  refine lv_iload hx hb dX8_adds_49 (lv_at hl 5 rfl) ?_
  obtain ⟨g18, hf⟩ := sr_gd hf
  obtain ⟨σ19, e20, hf⟩ := sr_bnd hf
  refine s_iast hX hV (n := 257) (ch_8_0 (h0)) (by decide) (inb_in g18) dX8_adds_51 (fun H locs hV => ?_)
  rw [e20] at hV
  refine lv_aload_n hx hb dX8_adds_52 rfl (lv_at hl 1 rfl) ?_
  refine fg_8_0 hX hV lk_666 (h0) dX8_adds_53 ?_
  refine lv_iload_n hx hb dX8_adds_56 rfl (lv_at hl 2 rfl) ?_
  refine lv_iload hx hb dX8_adds_57 (lv_at hl 0 rfl) ?_
  refine lv_iconst (v := 3) hx hb dX8_adds_59 (by decide) ?_
  obtain ⟨v22, e21, hf⟩ := sr_bnd hf
  refine s_callS1 hX hV hl.1 (c_X8_stageAt  e21) cs_X8_stageAt lk_755 ⟨rfl, rfl, Nat.le_of_ble_eq_true rfl, Nat.le_of_ble_eq_true rfl⟩ rfl rfl (Nat.le_of_ble_eq_true rfl) dX8_adds_60 ⟨Nat.le_of_ble_eq_true rfl, Nat.le_of_ble_eq_true rfl⟩ (fun H locs hV => ?_)
  refine lv_iconst (v := 0) hx hb dX8_adds_63 (by decide) ?_
  obtain ⟨g23, hf⟩ := sr_gd hf
  obtain ⟨σ24, e25, hf⟩ := sr_bnd hf
  refine s_iast hX hV (n := 257) (ch_8_0 (h0)) (by decide) (inb_in g23) dX8_adds_64 (fun H locs hV => ?_)
  rw [e25] at hV
  refine lv_aload_n hx hb dX8_adds_65 rfl (lv_at hl 1 rfl) ?_
  refine fg_8_0 hX hV lk_666 (h0) dX8_adds_66 ?_
  refine lv_iload_n hx hb dX8_adds_69 rfl (lv_at hl 2 rfl) ?_
  refine lv_iconst (v := 2) hx hb dX8_adds_70 (by decide) ?_
  obtain ⟨v27, e26, hf⟩ := sr_bnd hf
  refine s_callS1 hX hV hl.1 (c_X8_at  e26) cs_X8_at lk_740 ⟨rfl, rfl, Nat.le_of_ble_eq_true rfl, Nat.le_of_ble_eq_true rfl⟩ rfl rfl (Nat.le_of_ble_eq_true rfl) dX8_adds_71 ⟨Nat.le_of_ble_eq_true rfl, Nat.le_of_ble_eq_true rfl⟩ (fun H locs hV => ?_)
  refine lv_dup2_11 hx hb dX8_adds_74 rfl rfl ?_
  obtain ⟨g28, hf⟩ := sr_gd hf
  refine s_iald hX hV (n := 257) (ch_8_0 (h0)) (by decide) (inb_in g28) dX8_adds_75 ?_
  refine lv_iconst (v := 1) hx hb dX8_adds_76 (by decide) ?_
  refine lv_iadd hx hb dX8_adds_77 ?_
  obtain ⟨g29, hf⟩ := sr_gd hf
  obtain ⟨σ30, e31, hf⟩ := sr_bnd hf
  refine s_iast hX hV (n := 257) (ch_8_0 (h0)) (by decide) (inb_in g29) dX8_adds_78 (fun H locs hV => ?_)
  rw [e31] at hV
  cases hf
  exact s_vret hX hV dX8_adds_79
abbrev rm_X8_addStage : Room := { frames := 3, cells := 0, slots := 0, locals := 68 }
theorem cv_X8_addStage : sr_Cv yX8_addStage cX8_addStage 6 (Option.some FieldType.int) RX8 4 := ⟨lk_746, lk_744, lk_745, lk_9, rfl, by decide +kernel, by decide +kernel, by decide +kernel⟩
set_option maxHeartbeats 4000000 in
set_option maxRecDepth 100000 in
theorem c_X8_addStage {l : Launch} {D : va_G} {aC : Nat → ClassId} {n0 : Nat} {r : Int32} {σ' : St}  {σ : St} {q0 : Nat} {x1 : Int32} {x2 : Int32} {x3 : Int32} {x4 : Int32} (h0 : shM q0 = 9) (hf : f_X8_addStage q0 x1 x2 x3 x4 σ = some (r, σ')) : sr_Met l D aC shM n0 yX8_addStage cX8_addStage 6 (Option.some FieldType.int) rm_X8_addStage [.ref (n0 + q0), .int x1, .int x2, .int x3, .int x4] σ (some (.int r)) σ' := by
  refine s_met (own := RX8) (by decide) (Nat.le_of_ble_eq_true rfl) rfl ?_
  intro p e s m below meth c ls hX hV hl
  have hl : lv_has ls 6 [(0, .ref (n0 + q0)), (1, .int x1), (2, .int x2), (3, .int x3), (4, .int x4)] := hl
  have hx := hX.1.1
  have hb := hX.1.2.1
  unfold f_X8_addStage at hf
  refine lv_aload_n hx hb dX8_addStage_0 rfl (lv_at hl 0 rfl) ?_
  refine lv_iload_n hx hb dX8_addStage_1 rfl (lv_at hl 1 rfl) ?_
  obtain ⟨v2, e1, hf⟩ := sr_bnd hf
  refine s_callV1 (ci := 8) hX hV hl.1 (c_X8_isChange (h0) e1) cv_X8_isChange lk_747 ⟨rfl, rfl, Nat.le_of_ble_eq_true rfl, Nat.le_of_ble_eq_true rfl⟩ rfl (by decide) (h0) rfl rfl (Nat.le_of_ble_eq_true rfl) dX8_addStage_2 ⟨Nat.le_of_ble_eq_true rfl, Nat.le_of_ble_eq_true rfl⟩ (fun H locs hV => ?_)
  refine lv_if_ne (tgt := 11) hx hb dX8_addStage_5 (by decide) (fun c3 => ?_) (fun c3 => ?_)
  · have hf := sr_t hf (sr_b1 c3)
    refine lv_iload_n hx hb dX8_addStage_11 rfl (lv_at hl 2 rfl) ?_
    refine lv_iconst (v := 1) hx hb dX8_addStage_12 (by decide) ?_
    refine lv_iconst (v := 1) hx hb dX8_addStage_13 (by decide) ?_
    refine lv_aload_n hx hb dX8_addStage_14 rfl (lv_at hl 0 rfl) ?_
    refine fg_8_0 hX hV lk_666 (h0) dX8_addStage_15 ?_
    refine lv_iconst (v := 0) hx hb dX8_addStage_18 (by decide) ?_
    refine s_iald hX hV (n := 257) (ch_8_0 (h0)) (by decide) (by unfold vp_in; decide) dX8_addStage_19 ?_
    refine lv_ishl hx hb dX8_addStage_20 ?_
    refine lv_iconst (v := 1) hx hb dX8_addStage_21 (by decide) ?_
    refine lv_isub hx hb dX8_addStage_22 ?_
    obtain ⟨v5, e4, hf⟩ := sr_bnd hf
    refine s_callS1 hX hV hl.1 (c_X8_in  e4) cs_X8_in lk_717 ⟨rfl, rfl, Nat.le_of_ble_eq_true rfl, Nat.le_of_ble_eq_true rfl⟩ rfl rfl (Nat.le_of_ble_eq_true rfl) dX8_addStage_23 ⟨Nat.le_of_ble_eq_true rfl, Nat.le_of_ble_eq_true rfl⟩ (fun H locs hV => ?_)
    refine lv_if_eq (tgt := 50) hx hb dX8_addStage_26 (by decide) (fun c6 => ?_) (fun c6 => ?_)
    · have hf := sr_f hf (sr_b0 c6)
      refine lv_bipush (v := (-12)) hx hb dX8_addStage_50 (by decide) ?_
      cases hf
      exact s_iret hX hV dX8_addStage_52
    · have hf := sr_t hf (sr_b1 c6)
      refine lv_iload_n hx hb dX8_addStage_29 rfl (lv_at hl 3 rfl) ?_
      refine lv_iconst (v := 0) hx hb dX8_addStage_30 (by decide) ?_
      refine lv_bipush (v := 48) hx hb dX8_addStage_31 (by decide) ?_
      obtain ⟨v8, e7, hf⟩ := sr_bnd hf
      refine s_callS1 hX hV hl.1 (c_X8_in  e7) cs_X8_in lk_717 ⟨rfl, rfl, Nat.le_of_ble_eq_true rfl, Nat.le_of_ble_eq_true rfl⟩ rfl rfl (Nat.le_of_ble_eq_true rfl) dX8_addStage_33 ⟨Nat.le_of_ble_eq_true rfl, Nat.le_of_ble_eq_true rfl⟩ (fun H locs hV => ?_)
      refine lv_if_eq (tgt := 50) hx hb dX8_addStage_36 (by decide) (fun c9 => ?_) (fun c9 => ?_)
      · have hf := sr_f hf (sr_b0 c9)
        refine lv_bipush (v := (-12)) hx hb dX8_addStage_50 (by decide) ?_
        cases hf
        exact s_iret hX hV dX8_addStage_52
      · have hf := sr_t hf (sr_b1 c9)
        refine lv_iload hx hb dX8_addStage_39 (lv_at hl 4 rfl) ?_
        refine lv_iconst (v := 0) hx hb dX8_addStage_41 (by decide) ?_
        refine lv_bipush (v := 25) hx hb dX8_addStage_42 (by decide) ?_
        obtain ⟨v11, e10, hf⟩ := sr_bnd hf
        refine s_callS1 hX hV hl.1 (c_X8_in  e10) cs_X8_in lk_717 ⟨rfl, rfl, Nat.le_of_ble_eq_true rfl, Nat.le_of_ble_eq_true rfl⟩ rfl rfl (Nat.le_of_ble_eq_true rfl) dX8_addStage_44 ⟨Nat.le_of_ble_eq_true rfl, Nat.le_of_ble_eq_true rfl⟩ (fun H locs hV => ?_)
        refine lv_if_ne (tgt := 53) hx hb dX8_addStage_47 (by decide) (fun c12 => ?_) (fun c12 => ?_)
        · have hf := sr_t hf (sr_b1 c12)
          refine lv_aload_n hx hb dX8_addStage_53 rfl (lv_at hl 0 rfl) ?_
          refine fg_8_0 hX hV lk_666 (h0) dX8_addStage_54 ?_
          refine lv_iload_n hx hb dX8_addStage_57 rfl (lv_at hl 1 rfl) ?_
          refine lv_iconst (v := 2) hx hb dX8_addStage_58 (by decide) ?_
          obtain ⟨v14, e13, hf⟩ := sr_bnd hf
          refine s_callS1 hX hV hl.1 (c_X8_at  e13) cs_X8_at lk_740 ⟨rfl, rfl, Nat.le_of_ble_eq_true rfl, Nat.le_of_ble_eq_true rfl⟩ rfl rfl (Nat.le_of_ble_eq_true rfl) dX8_addStage_59 ⟨Nat.le_of_ble_eq_true rfl, Nat.le_of_ble_eq_true rfl⟩ (fun H locs hV => ?_)
          obtain ⟨g15, hf⟩ := sr_gd hf
          refine s_iald hX hV (n := 257) (ch_8_0 (h0)) (by decide) (inb_in g15) dX8_addStage_62 ?_
          obtain ⟨v16, e17, hf⟩ := sr_bnd hf
          rw [e17]
          refine lv_istore (lv' := [(5, .int v16), (0, .ref (n0 + q0)), (1, .int x1), (2, .int x2), (3, .int x3), (4, .int x4)]) hx hb dX8_addStage_63 hl (by decide) rfl (fun ls hl => ?_)
          refine lv_aload_n hx hb dX8_addStage_65 rfl (lv_at hl 1 rfl) ?_
          refine fg_8_0 hX hV lk_666 (h0) dX8_addStage_66 ?_
          refine lv_iload_n hx hb dX8_addStage_69 rfl (lv_at hl 2 rfl) ?_
          refine lv_iconst (v := 1) hx hb dX8_addStage_70 (by decide) ?_
          obtain ⟨v19, e18, hf⟩ := sr_bnd hf
          refine s_callS1 hX hV hl.1 (c_X8_at  e18) cs_X8_at lk_740 ⟨rfl, rfl, Nat.le_of_ble_eq_true rfl, Nat.le_of_ble_eq_true rfl⟩ rfl rfl (Nat.le_of_ble_eq_true rfl) dX8_addStage_71 ⟨Nat.le_of_ble_eq_true rfl, Nat.le_of_ble_eq_true rfl⟩ (fun H locs hV => ?_)
          obtain ⟨g20, hf⟩ := sr_gd hf
          refine s_iald hX hV (n := 257) (ch_8_0 (h0)) (by decide) (inb_in g20) dX8_addStage_74 ?_
          refine lv_if_ne (tgt := 90) hx hb dX8_addStage_75 (by decide) (fun c21 => ?_) (fun c21 => ?_)
          · have hf := sr_f hf c21
            refine lv_bipush (v := (-13)) hx hb dX8_addStage_90 (by decide) ?_
            cases hf
            exact s_iret hX hV dX8_addStage_92
          · have hf := sr_t hf c21
            refine lv_aload_n hx hb dX8_addStage_78 rfl (lv_at hl 1 rfl) ?_
            refine lv_iload_n hx hb dX8_addStage_79 rfl (lv_at hl 2 rfl) ?_
            refine lv_iload hx hb dX8_addStage_80 (lv_at hl 0 rfl) ?_
            obtain ⟨v23, e22, hf⟩ := sr_obd hf
            refine s_callV1 (ci := 8) hX hV hl.1 (c_X8_cellsOf (h0) e22) cv_X8_cellsOf lk_751 ⟨rfl, rfl, Nat.le_of_ble_eq_true rfl, Nat.le_of_ble_eq_true rfl⟩ rfl (by decide) (h0) rfl rfl (Nat.le_of_ble_eq_true rfl) dX8_addStage_82 ⟨Nat.le_of_ble_eq_true rfl, Nat.le_of_ble_eq_true rfl⟩ (fun H locs hV => ?_)
            refine lv_iload_n hx hb dX8_addStage_85 rfl (lv_at hl 3 rfl) ?_
            refine lv_iand hx hb dX8_addStage_86 ?_
            refine lv_if_eq (tgt := 93) hx hb dX8_addStage_87 (by decide) (fun c24 => ?_) (fun c24 => ?_)
            · have hf := sr_t hf c24
              refine lv_iload hx hb dX8_addStage_93 (lv_at hl 0 rfl) ?_
              refine lv_bipush (v := 6) hx hb dX8_addStage_95 (by decide) ?_
              refine lv_icmp_ne (tgt := 103) hx hb dX8_addStage_97 (by decide) (fun c25 => ?_) (fun c25 => ?_)
              · have hf := sr_f hf c25
                refine lv_aload_n hx hb dX8_addStage_103 rfl (lv_at hl 1 rfl) ?_
                refine lv_iload_n hx hb dX8_addStage_104 rfl (lv_at hl 2 rfl) ?_
                refine lv_iload_n hx hb dX8_addStage_105 rfl (lv_at hl 3 rfl) ?_
                refine lv_iload_n hx hb dX8_addStage_106 rfl (lv_at hl 4 rfl) ?_
                refine lv_iload hx hb dX8_addStage_107 (lv_at hl 5 rfl) ?_
                obtain ⟨σ27, e26, hf⟩ := sr_obd hf
                refine s_callV0 (ci := 8) hX hV hl.1 (c_X8_adds (h0) e26) cv_X8_adds lk_758 ⟨rfl, rfl, Nat.le_of_ble_eq_true rfl, Nat.le_of_ble_eq_true rfl⟩ rfl (by decide) (h0) rfl rfl (Nat.le_of_ble_eq_true rfl) dX8_addStage_109 ⟨Nat.le_of_ble_eq_true rfl, Nat.le_of_ble_eq_true rfl⟩ (fun H locs hV => ?_)
                refine lv_iload hx hb dX8_addStage_112 (lv_at hl 0 rfl) ?_
                refine lv_iconst (v := 1) hx hb dX8_addStage_114 (by decide) ?_
                refine lv_iadd hx hb dX8_addStage_115 ?_
                cases hf
                exact s_iret hX hV dX8_addStage_116
              · have hf := sr_t hf c25
                refine lv_bipush (v := (-14)) hx hb dX8_addStage_100 (by decide) ?_
                cases hf
                exact s_iret hX hV dX8_addStage_102
            · have hf := sr_f hf c24
              refine lv_bipush (v := (-13)) hx hb dX8_addStage_90 (by decide) ?_
              cases hf
              exact s_iret hX hV dX8_addStage_92
        · have hf := sr_f hf (sr_b0 c12)
          refine lv_bipush (v := (-12)) hx hb dX8_addStage_50 (by decide) ?_
          cases hf
          exact s_iret hX hV dX8_addStage_52
  · have hf := sr_f hf (sr_b0 c3)
    refine lv_bipush (v := (-11)) hx hb dX8_addStage_8 (by decide) ?_
    cases hf
    exact s_iret hX hV dX8_addStage_10
abbrev rm_X8_size : Room := { frames := 0, cells := 0, slots := 0, locals := 0 }
theorem cs_X8_size : sr_Cs yX8_size cX8_size 3 (Option.some FieldType.int) RX8 1 := ⟨lk_768, lk_767, lk_9, rfl, by decide +kernel, by decide +kernel, by decide +kernel⟩
set_option maxHeartbeats 4000000 in
set_option maxRecDepth 100000 in
theorem k_X8_size_L4 {p : Program} {l : Launch} {e : Env} {s : State} {m : MethodId} {args : Array Value} {below : List Frame} {meth : Method} {c : Code} {D : va_G} {aC : Nat → ClassId} {n0 : Nat} {sh : Nat → Nat} {r : Int32} {σ : St} {x0 : Int32} (hX : sr_X p s m args meth c cX8_size 3 (Option.some FieldType.int) RX8 D aC)  (rec4 : Int32 → Int32 → Option Int32) (hrec4 : ∀ (x1 : Int32) (x2 : Int32) (H : Heap) (locs : List Loc) (ls : Array Slot) , lv_has ls 3 [(1, .int x1), (2, .int x2)] → sr_V D aC sh n0 σ s.heap H locs → rec4 x1 x2 = some r → W p l e rm_X8_size s m args below meth c H locs 0 0 (MQ below (sr_Qc D aC sh n0 σ (some (.int r))) args s 0 0 (sr_A sh n0)) (F0 m 4 ls [])) : ∀ (x1 : Int32) (x2 : Int32) (H : Heap) (locs : List Loc) (ls : Array Slot) , lv_has ls 3 [(1, .int x1), (2, .int x2)] → sr_V D aC sh n0 σ s.heap H locs → f_X8_size_L4 x0 rec4 x1 x2 = some r → W p l e rm_X8_size s m args below meth c H locs 0 0 (MQ below (sr_Qc D aC sh n0 σ (some (.int r))) args s 0 0 (sr_A sh n0)) (F0 m 4 ls []) := by
  intro x1 x2 H locs ls  hl hV hf
  have hx := hX.1.1
  have hb := hX.1.2.1
  unfold f_X8_size_L4 at hf
  refine lv_iload_n hx hb dX8_size_4 rfl (lv_at hl 1 rfl) ?_
  refine lv_if_eq (tgt := 20) hx hb dX8_size_5 (by decide) (fun c1 => ?_) (fun c1 => ?_)
  · have hf := sr_t hf c1
    refine lv_iload_n hx hb dX8_size_20 rfl (lv_at hl 0 rfl) ?_
    cases hf
    exact s_iret hX hV dX8_size_21
  · have hf := sr_f hf c1
    obtain ⟨v2, e3, hf⟩ := sr_bnd hf
    refine lv_iinc (v := v2) (lv' := [(1, .int v2), (2, .int x2)]) hx hb dX8_size_8 hl (k := 0) rfl (by rw [← e3]; rfl) (by decide) rfl (fun ls hl => ?_)
    refine lv_iload_n hx hb dX8_size_11 rfl (lv_at hl 1 rfl) ?_
    refine lv_iload_n hx hb dX8_size_12 rfl (lv_at hl 1 rfl) ?_
    refine lv_iconst (v := 1) hx hb dX8_size_13 (by decide) ?_
    refine lv_isub hx hb dX8_size_14 ?_
    refine lv_iand hx hb dX8_size_15 ?_
    obtain ⟨v4, e5, hf⟩ := sr_bnd hf
    rw [e5]
    refine lv_istore_n (lv' := [(2, .int v4), (1, .int v2)]) hx hb dX8_size_16 rfl hl (by decide) rfl (fun ls hl => ?_)
    refine lv_goto (tgt := 4) hx hb dX8_size_17 (by decide) ?_
    exact hrec4 _ _ _ _ _  (lv_sub hl [1, 0] rfl) hV hf
set_option maxHeartbeats 4000000 in
set_option maxRecDepth 100000 in
theorem k_X8_size_L4w {p : Program} {l : Launch} {e : Env} {s : State} {m : MethodId} {args : Array Value} {below : List Frame} {meth : Method} {c : Code} {D : va_G} {aC : Nat → ClassId} {n0 : Nat} {sh : Nat → Nat} {r : Int32} {σ : St} {x0 : Int32} (hX : sr_X p s m args meth c cX8_size 3 (Option.some FieldType.int) RX8 D aC)  (n : Nat) : ∀ (x1 : Int32) (x2 : Int32) (H : Heap) (locs : List Loc) (ls : Array Slot) , lv_has ls 3 [(1, .int x1), (2, .int x2)] → sr_V D aC sh n0 σ s.heap H locs → it2 (f_X8_size_L4 x0) n x1 x2 = some r → W p l e rm_X8_size s m args below meth c H locs 0 0 (MQ below (sr_Qc D aC sh n0 σ (some (.int r))) args s 0 0 (sr_A sh n0)) (F0 m 4 ls []) :=
  it2_ind (fun rec4 => ∀ (x1 : Int32) (x2 : Int32) (H : Heap) (locs : List Loc) (ls : Array Slot) , lv_has ls 3 [(1, .int x1), (2, .int x2)] → sr_V D aC sh n0 σ s.heap H locs → rec4 x1 x2 = some r → W p l e rm_X8_size s m args below meth c H locs 0 0 (MQ below (sr_Qc D aC sh n0 σ (some (.int r))) args s 0 0 (sr_A sh n0)) (F0 m 4 ls [])) (by intros; rename_i hf; exact absurd hf (by simp)) (fun rec hrec => k_X8_size_L4 hX   rec hrec) n
set_option maxHeartbeats 4000000 in
set_option maxRecDepth 100000 in
theorem c_X8_size {l : Launch} {D : va_G} {aC : Nat → ClassId} {n0 : Nat} {sh : Nat → Nat} {r : Int32} {σ : St}  {x0 : Int32}  (hf : f_X8_size x0 = some r) : sr_Met l D aC sh n0 yX8_size cX8_size 3 (Option.some FieldType.int) rm_X8_size [.int x0] σ (some (.int r)) σ := by
  refine s_met (own := RX8) (by decide) (Nat.le_of_ble_eq_true rfl) rfl ?_
  intro p e s m below meth c ls hX hV hl
  have hl : lv_has ls 3 [(0, .int x0)] := hl
  have hx := hX.1.1
  have hb := hX.1.2.1
  unfold f_X8_size at hf
  refine lv_iconst (v := 0) hx hb dX8_size_0 (by decide) ?_
  refine lv_istore_n (lv' := [(1, .int 0), (0, .int x0)]) hx hb dX8_size_1 rfl hl (by decide) rfl (fun ls hl => ?_)
  refine lv_iload_n hx hb dX8_size_2 rfl (lv_at hl 1 rfl) ?_
  refine lv_istore_n (lv' := [(2, .int x0), (1, .int 0), (0, .int x0)]) hx hb dX8_size_3 rfl hl (by decide) rfl (fun ls hl => ?_)
  exact k_X8_size_L4w hX   sr_fuel _ _ _ _ _  (lv_sub hl [1, 0] rfl) hV hf
abbrev rm_X8_putAfter : Room := { frames := 2, cells := 0, slots := 0, locals := 43 }
theorem cv_X8_putAfter : sr_Cv yX8_putAfter cX8_putAfter 3 (Option.some FieldType.int) RX8 2 := ⟨lk_765, lk_763, lk_764, lk_9, rfl, by decide +kernel, by decide +kernel, by decide +kernel⟩
set_option maxHeartbeats 4000000 in
set_option maxRecDepth 100000 in
theorem c_X8_putAfter {l : Launch} {D : va_G} {aC : Nat → ClassId} {n0 : Nat} {r : Int32} {σ' : St}  {σ : St} {q0 : Nat} {x1 : Int32} {x2 : Int32} (h0 : shM q0 = 9) (hf : f_X8_putAfter q0 x1 x2 σ = some (r, σ')) : sr_Met l D aC shM n0 yX8_putAfter cX8_putAfter 3 (Option.some FieldType.int) rm_X8_putAfter [.ref (n0 + q0), .int x1, .int x2] σ (some (.int r)) σ' := by
  refine s_met (own := RX8) (by decide) (Nat.le_of_ble_eq_true rfl) rfl ?_
  intro p e s m below meth c ls hX hV hl
  have hl : lv_has ls 3 [(0, .ref (n0 + q0)), (1, .int x1), (2, .int x2)] := hl
  have hx := hX.1.1
  have hb := hX.1.2.1
  unfold f_X8_putAfter at hf
  refine lv_aload_n hx hb dX8_putAfter_0 rfl (lv_at hl 0 rfl) ?_
  refine lv_iload_n hx hb dX8_putAfter_1 rfl (lv_at hl 1 rfl) ?_
  obtain ⟨v2, e1, hf⟩ := sr_bnd hf
  refine s_callV1 (ci := 8) hX hV hl.1 (c_X8_isChange (h0) e1) cv_X8_isChange lk_747 ⟨rfl, rfl, Nat.le_of_ble_eq_true rfl, Nat.le_of_ble_eq_true rfl⟩ rfl (by decide) (h0) rfl rfl (Nat.le_of_ble_eq_true rfl) dX8_putAfter_2 ⟨Nat.le_of_ble_eq_true rfl, Nat.le_of_ble_eq_true rfl⟩ (fun H locs hV => ?_)
  refine lv_if_eq (tgt := 19) hx hb dX8_putAfter_5 (by decide) (fun c3 => ?_) (fun c3 => ?_)
  · have hf := sr_f hf (sr_b0 c3)
    refine lv_bipush (v := (-11)) hx hb dX8_putAfter_19 (by decide) ?_
    cases hf
    exact s_iret hX hV dX8_putAfter_21
  · have hf := sr_t hf (sr_b1 c3)
    refine lv_iload_n hx hb dX8_putAfter_8 rfl (lv_at hl 2 rfl) ?_
    refine lv_iconst (v := 0) hx hb dX8_putAfter_9 (by decide) ?_
    refine lv_iload_n hx hb dX8_putAfter_10 rfl (lv_at hl 1 rfl) ?_
    refine lv_iconst (v := 1) hx hb dX8_putAfter_11 (by decide) ?_
    refine lv_isub hx hb dX8_putAfter_12 ?_
    obtain ⟨v5, e4, hf⟩ := sr_bnd hf
    refine s_callS1 hX hV hl.1 (c_X8_in  e4) cs_X8_in lk_717 ⟨rfl, rfl, Nat.le_of_ble_eq_true rfl, Nat.le_of_ble_eq_true rfl⟩ rfl rfl (Nat.le_of_ble_eq_true rfl) dX8_putAfter_13 ⟨Nat.le_of_ble_eq_true rfl, Nat.le_of_ble_eq_true rfl⟩ (fun H locs hV => ?_)
    refine lv_if_ne (tgt := 22) hx hb dX8_putAfter_16 (by decide) (fun c6 => ?_) (fun c6 => ?_)
    · have hf := sr_t hf (sr_b1 c6)
      refine lv_aload_n hx hb dX8_putAfter_22 rfl (lv_at hl 0 rfl) ?_
      refine fg_8_0 hX hV lk_666 (h0) dX8_putAfter_23 ?_
      refine lv_iload_n hx hb dX8_putAfter_26 rfl (lv_at hl 1 rfl) ?_
      refine lv_iconst (v := 1) hx hb dX8_putAfter_27 (by decide) ?_
      obtain ⟨v8, e7, hf⟩ := sr_bnd hf
      refine s_callS1 hX hV hl.1 (c_X8_at  e7) cs_X8_at lk_740 ⟨rfl, rfl, Nat.le_of_ble_eq_true rfl, Nat.le_of_ble_eq_true rfl⟩ rfl rfl (Nat.le_of_ble_eq_true rfl) dX8_putAfter_28 ⟨Nat.le_of_ble_eq_true rfl, Nat.le_of_ble_eq_true rfl⟩ (fun H locs hV => ?_)
      obtain ⟨g9, hf⟩ := sr_gd hf
      refine s_iald hX hV (n := 257) (ch_8_0 (h0)) (by decide) (inb_in g9) dX8_putAfter_31 ?_
      refine lv_if_eq (tgt := 38) hx hb dX8_putAfter_32 (by decide) (fun c10 => ?_) (fun c10 => ?_)
      · have hf := sr_t hf c10
        refine lv_aload_n hx hb dX8_putAfter_38 rfl (lv_at hl 0 rfl) ?_
        refine fg_8_0 hX hV lk_666 (h0) dX8_putAfter_39 ?_
        refine lv_iload_n hx hb dX8_putAfter_42 rfl (lv_at hl 1 rfl) ?_
        refine lv_iconst (v := 4) hx hb dX8_putAfter_43 (by decide) ?_
        obtain ⟨v12, e11, hf⟩ := sr_bnd hf
        refine s_callS1 hX hV hl.1 (c_X8_at  e11) cs_X8_at lk_740 ⟨rfl, rfl, Nat.le_of_ble_eq_true rfl, Nat.le_of_ble_eq_true rfl⟩ rfl rfl (Nat.le_of_ble_eq_true rfl) dX8_putAfter_44 ⟨Nat.le_of_ble_eq_true rfl, Nat.le_of_ble_eq_true rfl⟩ (fun H locs hV => ?_)
        refine lv_dup2_11 hx hb dX8_putAfter_47 rfl rfl ?_
        obtain ⟨g13, hf⟩ := sr_gd hf
        refine s_iald hX hV (n := 257) (ch_8_0 (h0)) (by decide) (inb_in g13) dX8_putAfter_48 ?_
        refine lv_iconst (v := 1) hx hb dX8_putAfter_49 (by decide) ?_
        refine lv_iload_n hx hb dX8_putAfter_50 rfl (lv_at hl 2 rfl) ?_
        refine lv_ishl hx hb dX8_putAfter_51 ?_
        refine lv_ior hx hb dX8_putAfter_52 ?_
        obtain ⟨g14, hf⟩ := sr_gd hf
        obtain ⟨σ15, e16, hf⟩ := sr_bnd hf
        refine s_iast hX hV (n := 257) (ch_8_0 (h0)) (by decide) (inb_in g14) dX8_putAfter_53 (fun H locs hV => ?_)
        rw [e16] at hV
        refine lv_aload_n hx hb dX8_putAfter_54 rfl (lv_at hl 0 rfl) ?_
        refine fg_8_0 hX hV lk_666 (h0) dX8_putAfter_55 ?_
        refine lv_iload_n hx hb dX8_putAfter_58 rfl (lv_at hl 1 rfl) ?_
        refine lv_iconst (v := 4) hx hb dX8_putAfter_59 (by decide) ?_
        obtain ⟨v18, e17, hf⟩ := sr_bnd hf
        refine s_callS1 hX hV hl.1 (c_X8_at  e17) cs_X8_at lk_740 ⟨rfl, rfl, Nat.le_of_ble_eq_true rfl, Nat.le_of_ble_eq_true rfl⟩ rfl rfl (Nat.le_of_ble_eq_true rfl) dX8_putAfter_60 ⟨Nat.le_of_ble_eq_true rfl, Nat.le_of_ble_eq_true rfl⟩ (fun H locs hV => ?_)
        obtain ⟨g19, hf⟩ := sr_gd hf
        refine s_iald hX hV (n := 257) (ch_8_0 (h0)) (by decide) (inb_in g19) dX8_putAfter_63 ?_
        obtain ⟨v21, e20, hf⟩ := sr_obd hf
        refine s_callS1 hX hV hl.1 (c_X8_size  e20) cs_X8_size lk_766 ⟨rfl, rfl, Nat.le_of_ble_eq_true rfl, Nat.le_of_ble_eq_true rfl⟩ rfl rfl (Nat.le_of_ble_eq_true rfl) dX8_putAfter_64 ⟨Nat.le_of_ble_eq_true rfl, Nat.le_of_ble_eq_true rfl⟩ (fun H locs hV => ?_)
        cases hf
        exact s_iret hX hV dX8_putAfter_67
      · have hf := sr_f hf c10
        refine lv_bipush (v := (-13)) hx hb dX8_putAfter_35 (by decide) ?_
        cases hf
        exact s_iret hX hV dX8_putAfter_37
    · have hf := sr_f hf (sr_b0 c6)
      refine lv_bipush (v := (-11)) hx hb dX8_putAfter_19 (by decide) ?_
      cases hf
      exact s_iret hX hV dX8_putAfter_21
