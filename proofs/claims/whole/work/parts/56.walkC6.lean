abbrev rm_X7_restore : Room := { frames := 4, cells := 0, slots := 0, locals := 94 }
theorem cv_X7_restore : sr_Cv yX7_restore cX7_restore 2 (Option.some FieldType.int) RX7 1 := ⟨lk_643, lk_641, lk_642, lk_1, rfl, by decide +kernel, by decide +kernel, by decide +kernel⟩
set_option maxHeartbeats 4000000 in
set_option maxRecDepth 100000 in
theorem c_X7_restore {l : Launch} {D : va_G} {aC : Nat → ClassId} {n0 : Nat} {r : Int32} {σ' : St}  {σ : St} {q0 : Nat} {x1 : Int32} (h0 : shC q0 = 8) (hf : f_X7_restore q0 x1 σ = some (r, σ')) : sr_Met l D aC shC n0 yX7_restore cX7_restore 2 (Option.some FieldType.int) rm_X7_restore [.ref (n0 + q0), .int x1] σ (some (.int r)) σ' := by
  refine s_met (own := RX7) (by decide) (Nat.le_of_ble_eq_true rfl) rfl ?_
  intro p e s m below meth c ls hX hV hl
  have hl : lv_has ls 2 [(0, .ref (n0 + q0)), (1, .int x1)] := hl
  have hx := hX.1.1
  have hb := hX.1.2.1
  unfold f_X7_restore at hf
  refine lv_iload_n hx hb dX7_restore_0 rfl (lv_at hl 1 rfl) ?_
  refine lv_iconst (v := 0) hx hb dX7_restore_1 (by decide) ?_
  refine lv_iconst (v := 1) hx hb dX7_restore_2 (by decide) ?_
  obtain ⟨v2, e1, hf⟩ := sr_bnd hf
  refine s_callS1 hX hV hl.1 (c_X7_isWithin  e1) cs_X7_isWithin lk_236 ⟨rfl, rfl, Nat.le_of_ble_eq_true rfl, Nat.le_of_ble_eq_true rfl⟩ rfl rfl (Nat.le_of_ble_eq_true rfl) dX7_restore_3 ⟨Nat.le_of_ble_eq_true rfl, Nat.le_of_ble_eq_true rfl⟩ (fun H locs hV => ?_)
  refine lv_if_ne (tgt := 12) hx hb dX7_restore_6 (by decide) (fun c3 => ?_) (fun c3 => ?_)
  · have hf := sr_t hf (sr_b1 c3)
    refine lv_aload_n hx hb dX7_restore_12 rfl (lv_at hl 0 rfl) ?_
    refine fg_7_3 hX hV lk_219 (h0) dX7_restore_13 ?_
    refine lv_iload_n hx hb dX7_restore_16 rfl (lv_at hl 1 rfl) ?_
    obtain ⟨g4, hf⟩ := sr_gd hf
    refine s_zald hX hV (n := 2) (ch_7_3 (h0)) (by decide) (inb_in g4) dX7_restore_17 ?_
    refine lv_if_ne (tgt := 24) hx hb dX7_restore_18 (by decide) (fun c5 => ?_) (fun c5 => ?_)
    · have hf := sr_t hf (sr_b1 c5)
      refine lv_aload_n hx hb dX7_restore_24 rfl (lv_at hl 0 rfl) ?_
      refine fg_7_0 hX hV lk_216 (h0) dX7_restore_25 ?_
      refine lv_aload_n hx hb dX7_restore_28 rfl (lv_at hl 0 rfl) ?_
      refine fg_7_2 hX hV lk_218 (h0) dX7_restore_29 ?_
      refine lv_iload_n hx hb dX7_restore_32 rfl (lv_at hl 1 rfl) ?_
      obtain ⟨g6, hf⟩ := sr_gd hf
      refine s_fald hX hV (n := 2) (ch_7_2 (h0)) (by decide) (inb_in g6) dX7_restore_33 ?_
      obtain ⟨σ8, e7, hf⟩ := sr_obd hf
      refine s_callV0 (ci := 1) hX hV hl.1 (c_X1_copyFrom (ch_7_0 (h0)) (ch_slots (ch_7_2 (h0)) (vp_lt (inb_in g6))) e7) cv_X1_copyFrom lk_586 ⟨rfl, rfl, Nat.le_of_ble_eq_true rfl, Nat.le_of_ble_eq_true rfl⟩ rfl (by decide) (ch_7_0 (h0)) rfl rfl (Nat.le_of_ble_eq_true rfl) dX7_restore_34 ⟨Nat.le_of_ble_eq_true rfl, Nat.le_of_ble_eq_true rfl⟩ (fun H locs hV => ?_)
      refine lv_aload_n hx hb dX7_restore_37 rfl (lv_at hl 0 rfl) ?_
      refine fg_7_0 hX hV lk_216 (h0) dX7_restore_38 ?_
      refine fg_1_6 hX hV lk_169 (ch_7_0 (h0)) dX7_restore_41 ?_
      cases hf
      exact s_iret hX hV dX7_restore_44
    · have hf := sr_f hf (sr_b0 c5)
      refine lv_bipush (v := (-13)) hx hb dX7_restore_21 (by decide) ?_
      cases hf
      exact s_iret hX hV dX7_restore_23
  · have hf := sr_f hf (sr_b0 c3)
    refine lv_bipush (v := (-11)) hx hb dX7_restore_9 (by decide) ?_
    cases hf
    exact s_iret hX hV dX7_restore_11
abbrev rm_X7_mix : Room := { frames := 0, cells := 0, slots := 0, locals := 0 }
theorem cs_X7_mix : sr_Cs yX7_mix cX7_mix 4 (Option.some FieldType.long) RX7 2 := ⟨lk_651, lk_650, lk_1, rfl, by decide +kernel, by decide +kernel, by decide +kernel⟩
set_option maxHeartbeats 4000000 in
set_option maxRecDepth 100000 in
theorem c_X7_mix {l : Launch} {D : va_G} {aC : Nat → ClassId} {n0 : Nat} {sh : Nat → Nat} {r : Int64} {σ : St}  {w0 : Int64} {w2 : Int64}  (hf : f_X7_mix w0 w2 = r) : sr_Met l D aC sh n0 yX7_mix cX7_mix 4 (Option.some FieldType.long) rm_X7_mix [.long w0, .long w2] σ (some (.long r)) σ := by
  refine s_met (own := RX7) (by decide) (Nat.le_of_ble_eq_true rfl) rfl ?_
  intro p e s m below meth c ls hX hV hl
  have hl : lv_has ls 4 [(0, .long w0), (2, .long w2)] := hl
  have hx := hX.1.1
  have hb := hX.1.2.1
  unfold f_X7_mix at hf
  refine lv_ldc2 hx hb hX.1.2.2.2.1 (s_w hX lk_652) dX7_mix_0 ?_
  refine lv_lload_n hx hb dX7_mix_3 rfl (lv_at hl 0 rfl) ?_
  refine lv_lmul hx hb dX7_mix_4 ?_
  refine lv_lload_n hx hb dX7_mix_5 rfl (lv_at hl 1 rfl) ?_
  refine lv_ladd hx hb dX7_mix_6 ?_
  cases hf
  exact s_lret hX hV dX7_mix_7
abbrev rm_X7_mixChange : Room := { frames := 5, cells := 0, slots := 0, locals := 113 }
theorem cv_X7_mixChange : sr_Cv yX7_mixChange cX7_mixChange 7 (Option.some FieldType.long) RX7 2 := ⟨lk_656, lk_655, lp_16, lk_1, rfl, by decide +kernel, by decide +kernel, by decide +kernel⟩
set_option maxHeartbeats 4000000 in
set_option maxRecDepth 100000 in
theorem k_X7_mixChange_L37 {p : Program} {l : Launch} {e : Env} {s : State} {m : MethodId} {args : Array Value} {below : List Frame} {meth : Method} {c : Code} {D : va_G} {aC : Nat → ClassId} {n0 : Nat} {r : Int64} {σ : St} {q0 : Nat} {w1 : Int64} {x3 : Int32} (hX : sr_X p s m args meth c cX7_mixChange 7 (Option.some FieldType.long) RX7 D aC) (h0 : shC q0 = 8) (rec37 : Int64 → Int32 → Option Int64) (hrec37 : ∀ (w4 : Int64) (x6 : Int32) (H : Heap) (locs : List Loc) (ls : Array Slot) , lv_has ls 7 [(0, .ref (n0 + q0)), (3, .int x3), (4, .long w4), (6, .int x6)] → sr_V D aC shC n0 σ s.heap H locs → rec37 w4 x6 = some r → W p l e rm_X7_mixChange s m args below meth c H locs 0 0 (MQ below (sr_Qc D aC shC n0 σ (some (.long r))) args s 0 0 (sr_A shC n0)) (F0 m 37 ls [])) : ∀ (w4 : Int64) (x6 : Int32) (H : Heap) (locs : List Loc) (ls : Array Slot) , lv_has ls 7 [(0, .ref (n0 + q0)), (3, .int x3), (4, .long w4), (6, .int x6)] → sr_V D aC shC n0 σ s.heap H locs → f_X7_mixChange_L37 σ q0 w1 x3 rec37 w4 x6 = some r → W p l e rm_X7_mixChange s m args below meth c H locs 0 0 (MQ below (sr_Qc D aC shC n0 σ (some (.long r))) args s 0 0 (sr_A shC n0)) (F0 m 37 ls []) := by
  intro w4 x6 H locs ls  hl hV hf
  have hx := hX.1.1
  have hb := hX.1.2.1
  unfold f_X7_mixChange_L37 at hf
  refine lv_iload hx hb dX7_mixChange_37 (lv_at hl 3 rfl) ?_
  refine lv_iconst (v := 4) hx hb dX7_mixChange_39 (by decide) ?_
  refine lv_icmp_ge (tgt := 64) hx hb dX7_mixChange_40 (by decide) (fun c1 => ?_) (fun c1 => ?_)
  · have hf := sr_t hf c1
    refine lv_lload hx hb dX7_mixChange_64 (lv_at hl 2 rfl) ?_
    refine lv_aload_n hx hb dX7_mixChange_66 rfl (lv_at hl 0 rfl) ?_
    refine lv_iload_n hx hb dX7_mixChange_67 rfl (lv_at hl 1 rfl) ?_
    refine lv_iconst (v := 0) hx hb dX7_mixChange_68 (by decide) ?_
    obtain ⟨v3, e2, hf⟩ := sr_obd hf
    refine s_callV1 (ci := 7) hX hV hl.1 (c_X7_chance (h0) e2) cv_X7_chance lk_659 ⟨rfl, rfl, Nat.le_of_ble_eq_true rfl, Nat.le_of_ble_eq_true rfl⟩ rfl (by decide) (h0) rfl rfl (Nat.le_of_ble_eq_true rfl) dX7_mixChange_69 ⟨Nat.le_of_ble_eq_true rfl, Nat.le_of_ble_eq_true rfl⟩ (fun H locs hV => ?_)
    obtain ⟨v5, e4, hf⟩ := sr_bnd hf
    refine s_callS1 hX hV hl.1 (c_X7_mix  e4) cs_X7_mix lk_649 ⟨rfl, rfl, Nat.le_of_ble_eq_true rfl, Nat.le_of_ble_eq_true rfl⟩ rfl rfl (Nat.le_of_ble_eq_true rfl) dX7_mixChange_72 ⟨Nat.le_of_ble_eq_true rfl, Nat.le_of_ble_eq_true rfl⟩ (fun H locs hV => ?_)
    refine lv_lstore (lv' := [(4, .long v5), (0, .ref (n0 + q0)), (3, .int x3), (6, .int x6)]) hx hb dX7_mixChange_75 hl (by decide) rfl (fun ls hl => ?_)
    refine lv_lload hx hb dX7_mixChange_77 (lv_at hl 0 rfl) ?_
    refine lv_aload_n hx hb dX7_mixChange_79 rfl (lv_at hl 1 rfl) ?_
    refine lv_iload_n hx hb dX7_mixChange_80 rfl (lv_at hl 2 rfl) ?_
    refine lv_iconst (v := 1) hx hb dX7_mixChange_81 (by decide) ?_
    obtain ⟨v7, e6, hf⟩ := sr_obd hf
    refine s_callV1 (ci := 7) hX hV hl.1 (c_X7_chance (h0) e6) cv_X7_chance lk_659 ⟨rfl, rfl, Nat.le_of_ble_eq_true rfl, Nat.le_of_ble_eq_true rfl⟩ rfl (by decide) (h0) rfl rfl (Nat.le_of_ble_eq_true rfl) dX7_mixChange_82 ⟨Nat.le_of_ble_eq_true rfl, Nat.le_of_ble_eq_true rfl⟩ (fun H locs hV => ?_)
    obtain ⟨v9, e8, hf⟩ := sr_bnd hf
    refine s_callS1 hX hV hl.1 (c_X7_mix  e8) cs_X7_mix lk_649 ⟨rfl, rfl, Nat.le_of_ble_eq_true rfl, Nat.le_of_ble_eq_true rfl⟩ rfl rfl (Nat.le_of_ble_eq_true rfl) dX7_mixChange_85 ⟨Nat.le_of_ble_eq_true rfl, Nat.le_of_ble_eq_true rfl⟩ (fun H locs hV => ?_)
    cases hf
    exact s_lret hX hV dX7_mixChange_88
  · have hf := sr_f hf c1
    refine lv_lload hx hb dX7_mixChange_43 (lv_at hl 2 rfl) ?_
    refine lv_aload_n hx hb dX7_mixChange_45 rfl (lv_at hl 0 rfl) ?_
    refine lv_iload_n hx hb dX7_mixChange_46 rfl (lv_at hl 1 rfl) ?_
    refine lv_iload hx hb dX7_mixChange_47 (lv_at hl 3 rfl) ?_
    obtain ⟨v11, e10, hf⟩ := sr_obd hf
    refine s_callV1 (ci := 7) hX hV hl.1 (c_X7_probes (h0) e10) cv_X7_probes lk_658 ⟨rfl, rfl, Nat.le_of_ble_eq_true rfl, Nat.le_of_ble_eq_true rfl⟩ rfl (by decide) (h0) rfl rfl (Nat.le_of_ble_eq_true rfl) dX7_mixChange_49 ⟨Nat.le_of_ble_eq_true rfl, Nat.le_of_ble_eq_true rfl⟩ (fun H locs hV => ?_)
    refine lv_i2l hx hb dX7_mixChange_52 rfl ?_
    obtain ⟨v13, e12, hf⟩ := sr_bnd hf
    refine s_callS1 hX hV hl.1 (c_X7_mix  e12) cs_X7_mix lk_649 ⟨rfl, rfl, Nat.le_of_ble_eq_true rfl, Nat.le_of_ble_eq_true rfl⟩ rfl rfl (Nat.le_of_ble_eq_true rfl) dX7_mixChange_53 ⟨Nat.le_of_ble_eq_true rfl, Nat.le_of_ble_eq_true rfl⟩ (fun H locs hV => ?_)
    refine lv_lstore (lv' := [(4, .long v13), (0, .ref (n0 + q0)), (3, .int x3), (6, .int x6)]) hx hb dX7_mixChange_56 hl (by decide) rfl (fun ls hl => ?_)
    obtain ⟨v14, e15, hf⟩ := sr_bnd hf
    refine lv_iinc (v := v14) (lv' := [(6, .int v14), (4, .long v13), (0, .ref (n0 + q0)), (3, .int x3)]) hx hb dX7_mixChange_58 hl (k := 3) rfl (by rw [← e15]; rfl) (by decide) rfl (fun ls hl => ?_)
    refine lv_goto (tgt := 37) hx hb dX7_mixChange_61 (by decide) ?_
    exact hrec37 _ _ _ _ _  (lv_sub hl [2, 3, 1, 0] rfl) hV hf
set_option maxHeartbeats 4000000 in
set_option maxRecDepth 100000 in
theorem k_X7_mixChange_L37w {p : Program} {l : Launch} {e : Env} {s : State} {m : MethodId} {args : Array Value} {below : List Frame} {meth : Method} {c : Code} {D : va_G} {aC : Nat → ClassId} {n0 : Nat} {r : Int64} {σ : St} {q0 : Nat} {w1 : Int64} {x3 : Int32} (hX : sr_X p s m args meth c cX7_mixChange 7 (Option.some FieldType.long) RX7 D aC) (h0 : shC q0 = 8) (n : Nat) : ∀ (w4 : Int64) (x6 : Int32) (H : Heap) (locs : List Loc) (ls : Array Slot) , lv_has ls 7 [(0, .ref (n0 + q0)), (3, .int x3), (4, .long w4), (6, .int x6)] → sr_V D aC shC n0 σ s.heap H locs → it2 (f_X7_mixChange_L37 σ q0 w1 x3) n w4 x6 = some r → W p l e rm_X7_mixChange s m args below meth c H locs 0 0 (MQ below (sr_Qc D aC shC n0 σ (some (.long r))) args s 0 0 (sr_A shC n0)) (F0 m 37 ls []) :=
  it2_ind (fun rec37 => ∀ (w4 : Int64) (x6 : Int32) (H : Heap) (locs : List Loc) (ls : Array Slot) , lv_has ls 7 [(0, .ref (n0 + q0)), (3, .int x3), (4, .long w4), (6, .int x6)] → sr_V D aC shC n0 σ s.heap H locs → rec37 w4 x6 = some r → W p l e rm_X7_mixChange s m args below meth c H locs 0 0 (MQ below (sr_Qc D aC shC n0 σ (some (.long r))) args s 0 0 (sr_A shC n0)) (F0 m 37 ls [])) (by intros; rename_i hf; exact absurd hf (by simp)) (fun rec hrec => k_X7_mixChange_L37 hX h0  rec hrec) n
set_option maxHeartbeats 4000000 in
set_option maxRecDepth 100000 in
theorem k_X7_mixChange_L6 {p : Program} {l : Launch} {e : Env} {s : State} {m : MethodId} {args : Array Value} {below : List Frame} {meth : Method} {c : Code} {D : va_G} {aC : Nat → ClassId} {n0 : Nat} {r : Int64} {σ : St} {q0 : Nat} {w1 : Int64} {x3 : Int32} (hX : sr_X p s m args meth c cX7_mixChange 7 (Option.some FieldType.long) RX7 D aC) (h0 : shC q0 = 8) (rec6 : Int64 → Int32 → Option Int64) (hrec6 : ∀ (w4 : Int64) (x6 : Int32) (H : Heap) (locs : List Loc) (ls : Array Slot) , lv_has ls 7 [(0, .ref (n0 + q0)), (3, .int x3), (4, .long w4), (6, .int x6)] → sr_V D aC shC n0 σ s.heap H locs → rec6 w4 x6 = some r → W p l e rm_X7_mixChange s m args below meth c H locs 0 0 (MQ below (sr_Qc D aC shC n0 σ (some (.long r))) args s 0 0 (sr_A shC n0)) (F0 m 6 ls [])) : ∀ (w4 : Int64) (x6 : Int32) (H : Heap) (locs : List Loc) (ls : Array Slot) , lv_has ls 7 [(0, .ref (n0 + q0)), (3, .int x3), (4, .long w4), (6, .int x6)] → sr_V D aC shC n0 σ s.heap H locs → f_X7_mixChange_L6 σ q0 w1 x3 rec6 w4 x6 = some r → W p l e rm_X7_mixChange s m args below meth c H locs 0 0 (MQ below (sr_Qc D aC shC n0 σ (some (.long r))) args s 0 0 (sr_A shC n0)) (F0 m 6 ls []) := by
  intro w4 x6 H locs ls  hl hV hf
  have hx := hX.1.1
  have hb := hX.1.2.1
  unfold f_X7_mixChange_L6 at hf
  refine lv_iload hx hb dX7_mixChange_6 (lv_at hl 3 rfl) ?_
  refine lv_bipush (v := 7) hx hb dX7_mixChange_8 (by decide) ?_
  refine lv_icmp_ge (tgt := 34) hx hb dX7_mixChange_10 (by decide) (fun c16 => ?_) (fun c16 => ?_)
  · have hf := sr_t hf c16
    refine lv_iconst (v := 0) hx hb dX7_mixChange_34 (by decide) ?_
    refine lv_istore (lv' := [(6, .int 0), (0, .ref (n0 + q0)), (3, .int x3), (4, .long w4)]) hx hb dX7_mixChange_35 hl (by decide) rfl (fun ls hl => ?_)
    exact k_X7_mixChange_L37w hX h0  sr_fuel _ _ _ _ _  (lv_sub hl [1, 2, 3, 0] rfl) hV hf
  · have hf := sr_f hf c16
    refine lv_lload hx hb dX7_mixChange_13 (lv_at hl 2 rfl) ?_
    refine lv_aload_n hx hb dX7_mixChange_15 rfl (lv_at hl 0 rfl) ?_
    refine lv_iload_n hx hb dX7_mixChange_16 rfl (lv_at hl 1 rfl) ?_
    refine lv_iload hx hb dX7_mixChange_17 (lv_at hl 3 rfl) ?_
    obtain ⟨v18, e17, hf⟩ := sr_obd hf
    refine s_callV1 (ci := 7) hX hV hl.1 (c_X7_change (h0) e17) cv_X7_change lk_657 ⟨rfl, rfl, Nat.le_of_ble_eq_true rfl, Nat.le_of_ble_eq_true rfl⟩ rfl (by decide) (h0) rfl rfl (Nat.le_of_ble_eq_true rfl) dX7_mixChange_19 ⟨Nat.le_of_ble_eq_true rfl, Nat.le_of_ble_eq_true rfl⟩ (fun H locs hV => ?_)
    refine lv_i2l hx hb dX7_mixChange_22 rfl ?_
    obtain ⟨v20, e19, hf⟩ := sr_bnd hf
    refine s_callS1 hX hV hl.1 (c_X7_mix  e19) cs_X7_mix lk_649 ⟨rfl, rfl, Nat.le_of_ble_eq_true rfl, Nat.le_of_ble_eq_true rfl⟩ rfl rfl (Nat.le_of_ble_eq_true rfl) dX7_mixChange_23 ⟨Nat.le_of_ble_eq_true rfl, Nat.le_of_ble_eq_true rfl⟩ (fun H locs hV => ?_)
    refine lv_lstore (lv' := [(4, .long v20), (0, .ref (n0 + q0)), (3, .int x3), (6, .int x6)]) hx hb dX7_mixChange_26 hl (by decide) rfl (fun ls hl => ?_)
    obtain ⟨v21, e22, hf⟩ := sr_bnd hf
    refine lv_iinc (v := v21) (lv' := [(6, .int v21), (4, .long v20), (0, .ref (n0 + q0)), (3, .int x3)]) hx hb dX7_mixChange_28 hl (k := 3) rfl (by rw [← e22]; rfl) (by decide) rfl (fun ls hl => ?_)
    refine lv_goto (tgt := 6) hx hb dX7_mixChange_31 (by decide) ?_
    exact hrec6 _ _ _ _ _  (lv_sub hl [2, 3, 1, 0] rfl) hV hf
set_option maxHeartbeats 4000000 in
set_option maxRecDepth 100000 in
theorem k_X7_mixChange_L6w {p : Program} {l : Launch} {e : Env} {s : State} {m : MethodId} {args : Array Value} {below : List Frame} {meth : Method} {c : Code} {D : va_G} {aC : Nat → ClassId} {n0 : Nat} {r : Int64} {σ : St} {q0 : Nat} {w1 : Int64} {x3 : Int32} (hX : sr_X p s m args meth c cX7_mixChange 7 (Option.some FieldType.long) RX7 D aC) (h0 : shC q0 = 8) (n : Nat) : ∀ (w4 : Int64) (x6 : Int32) (H : Heap) (locs : List Loc) (ls : Array Slot) , lv_has ls 7 [(0, .ref (n0 + q0)), (3, .int x3), (4, .long w4), (6, .int x6)] → sr_V D aC shC n0 σ s.heap H locs → it2 (f_X7_mixChange_L6 σ q0 w1 x3) n w4 x6 = some r → W p l e rm_X7_mixChange s m args below meth c H locs 0 0 (MQ below (sr_Qc D aC shC n0 σ (some (.long r))) args s 0 0 (sr_A shC n0)) (F0 m 6 ls []) :=
  it2_ind (fun rec6 => ∀ (w4 : Int64) (x6 : Int32) (H : Heap) (locs : List Loc) (ls : Array Slot) , lv_has ls 7 [(0, .ref (n0 + q0)), (3, .int x3), (4, .long w4), (6, .int x6)] → sr_V D aC shC n0 σ s.heap H locs → rec6 w4 x6 = some r → W p l e rm_X7_mixChange s m args below meth c H locs 0 0 (MQ below (sr_Qc D aC shC n0 σ (some (.long r))) args s 0 0 (sr_A shC n0)) (F0 m 6 ls [])) (by intros; rename_i hf; exact absurd hf (by simp)) (fun rec hrec => k_X7_mixChange_L6 hX h0  rec hrec) n
set_option maxHeartbeats 4000000 in
set_option maxRecDepth 100000 in
theorem c_X7_mixChange {l : Launch} {D : va_G} {aC : Nat → ClassId} {n0 : Nat} {r : Int64} {σ : St}  {q0 : Nat} {w1 : Int64} {x3 : Int32} (h0 : shC q0 = 8) (hf : f_X7_mixChange q0 w1 x3 σ = some r) : sr_Met l D aC shC n0 yX7_mixChange cX7_mixChange 7 (Option.some FieldType.long) rm_X7_mixChange [.ref (n0 + q0), .long w1, .int x3] σ (some (.long r)) σ := by
  refine s_met (own := RX7) (by decide) (Nat.le_of_ble_eq_true rfl) rfl ?_
  intro p e s m below meth c ls hX hV hl
  have hl : lv_has ls 7 [(0, .ref (n0 + q0)), (1, .long w1), (3, .int x3)] := hl
  have hx := hX.1.1
  have hb := hX.1.2.1
  unfold f_X7_mixChange at hf
  refine lv_lload_n hx hb dX7_mixChange_0 rfl (lv_at hl 1 rfl) ?_
  refine lv_lstore (lv' := [(4, .long w1), (0, .ref (n0 + q0)), (1, .long w1), (3, .int x3)]) hx hb dX7_mixChange_1 hl (by decide) rfl (fun ls hl => ?_)
  refine lv_iconst (v := 0) hx hb dX7_mixChange_3 (by decide) ?_
  refine lv_istore (lv' := [(6, .int 0), (4, .long w1), (0, .ref (n0 + q0)), (1, .long w1), (3, .int x3)]) hx hb dX7_mixChange_4 hl (by decide) rfl (fun ls hl => ?_)
  exact k_X7_mixChange_L6w hX h0  sr_fuel _ _ _ _ _  (lv_sub hl [2, 4, 1, 0] rfl) hV hf
abbrev rm_X7_checksum : Room := { frames := 6, cells := 0, slots := 0, locals := 139 }
theorem cv_X7_checksum : sr_Cv yX7_checksum cX7_checksum 5 (Option.some FieldType.long) RX7 0 := ⟨lk_647, lk_645, lk_646, lk_1, rfl, by decide +kernel, by decide +kernel, by decide +kernel⟩
set_option maxHeartbeats 4000000 in
set_option maxRecDepth 100000 in
theorem k_X7_checksum_L124 {p : Program} {l : Launch} {e : Env} {s : State} {m : MethodId} {args : Array Value} {below : List Frame} {meth : Method} {c : Code} {D : va_G} {aC : Nat → ClassId} {n0 : Nat} {r : Int64} {σ : St} {q0 : Nat} (hX : sr_X p s m args meth c cX7_checksum 5 (Option.some FieldType.long) RX7 D aC) (h0 : shC q0 = 8) {rec107 : Int64 → Int32 → Option Int64} (hrec107 : ∀ (w1 : Int64) (x3 : Int32) (H : Heap) (locs : List Loc) (ls : Array Slot) , lv_has ls 5 [(0, .ref (n0 + q0)), (1, .long w1), (3, .int x3)] → sr_V D aC shC n0 σ s.heap H locs → rec107 w1 x3 = some r → W p l e rm_X7_checksum s m args below meth c H locs 0 0 (MQ below (sr_Qc D aC shC n0 σ (some (.long r))) args s 0 0 (sr_A shC n0)) (F0 m 107 ls [])) (rec124 : Int64 → Int32 → Int32 → Option Int64) (hrec124 : ∀ (w1 : Int64) (x3 : Int32) (x4 : Int32) (H : Heap) (locs : List Loc) (ls : Array Slot) , lv_has ls 5 [(0, .ref (n0 + q0)), (1, .long w1), (3, .int x3), (4, .int x4)] → sr_V D aC shC n0 σ s.heap H locs → rec124 w1 x3 x4 = some r → W p l e rm_X7_checksum s m args below meth c H locs 0 0 (MQ below (sr_Qc D aC shC n0 σ (some (.long r))) args s 0 0 (sr_A shC n0)) (F0 m 124 ls [])) : ∀ (w1 : Int64) (x3 : Int32) (x4 : Int32) (H : Heap) (locs : List Loc) (ls : Array Slot) , lv_has ls 5 [(0, .ref (n0 + q0)), (1, .long w1), (3, .int x3), (4, .int x4)] → sr_V D aC shC n0 σ s.heap H locs → f_X7_checksum_L124 σ q0 rec107 rec124 w1 x3 x4 = some r → W p l e rm_X7_checksum s m args below meth c H locs 0 0 (MQ below (sr_Qc D aC shC n0 σ (some (.long r))) args s 0 0 (sr_A shC n0)) (F0 m 124 ls []) := by
  intro w1 x3 x4 H locs ls  hl hV hf
  have hx := hX.1.1
  have hb := hX.1.2.1
  unfold f_X7_checksum_L124 at hf
  refine lv_iload hx hb dX7_checksum_124 (lv_at hl 3 rfl) ?_
  refine lv_iconst (v := 4) hx hb dX7_checksum_126 (by decide) ?_
  refine lv_icmp_ge (tgt := 155) hx hb dX7_checksum_127 (by decide) (fun c1 => ?_) (fun c1 => ?_)
  · have hf := sr_t hf c1
    obtain ⟨v2, e3, hf⟩ := sr_bnd hf
    refine lv_iinc (v := v2) (lv' := [(3, .int v2), (0, .ref (n0 + q0)), (1, .long w1), (4, .int x4)]) hx hb dX7_checksum_155 hl (k := 2) rfl (by rw [← e3]; rfl) (by decide) rfl (fun ls hl => ?_)
    refine lv_goto (tgt := 107) hx hb dX7_checksum_158 (by decide) ?_
    exact hrec107 _ _ _ _ _  (lv_sub hl [1, 2, 0] rfl) hV hf
  · have hf := sr_f hf c1
    refine lv_lload_n hx hb dX7_checksum_130 rfl (lv_at hl 1 rfl) ?_
    refine lv_aload_n hx hb dX7_checksum_131 rfl (lv_at hl 0 rfl) ?_
    refine fg_7_0 hX hV lk_216 (h0) dX7_checksum_132 ?_
    refine fg_1_2 hX hV lk_162 (ch_7_0 (h0)) dX7_checksum_135 ?_
    refine lv_iload_n hx hb dX7_checksum_138 rfl (lv_at hl 2 rfl) ?_
    refine lv_iload hx hb dX7_checksum_139 (lv_at hl 3 rfl) ?_
    obtain ⟨v5, e4, hf⟩ := sr_obd hf
    refine s_callV1 (ci := 3) hX hV hl.1 (c_X3_number (ch_1_2 (ch_7_0 (h0))) e4) cv_X3_number lk_623 ⟨rfl, rfl, Nat.le_of_ble_eq_true rfl, Nat.le_of_ble_eq_true rfl⟩ rfl (by decide) (ch_1_2 (ch_7_0 (h0))) rfl rfl (Nat.le_of_ble_eq_true rfl) dX7_checksum_141 ⟨Nat.le_of_ble_eq_true rfl, Nat.le_of_ble_eq_true rfl⟩ (fun H locs hV => ?_)
    refine lv_i2l hx hb dX7_checksum_144 rfl ?_
    obtain ⟨v7, e6, hf⟩ := sr_bnd hf
    refine s_callS1 hX hV hl.1 (c_X7_mix  e6) cs_X7_mix lk_649 ⟨rfl, rfl, Nat.le_of_ble_eq_true rfl, Nat.le_of_ble_eq_true rfl⟩ rfl rfl (Nat.le_of_ble_eq_true rfl) dX7_checksum_145 ⟨Nat.le_of_ble_eq_true rfl, Nat.le_of_ble_eq_true rfl⟩ (fun H locs hV => ?_)
    refine lv_lstore_n (lv' := [(1, .long v7), (0, .ref (n0 + q0)), (3, .int x3), (4, .int x4)]) hx hb dX7_checksum_148 rfl hl (by decide) rfl (fun ls hl => ?_)
    obtain ⟨v8, e9, hf⟩ := sr_bnd hf
    refine lv_iinc (v := v8) (lv' := [(4, .int v8), (1, .long v7), (0, .ref (n0 + q0)), (3, .int x3)]) hx hb dX7_checksum_149 hl (k := 3) rfl (by rw [← e9]; rfl) (by decide) rfl (fun ls hl => ?_)
    refine lv_goto (tgt := 124) hx hb dX7_checksum_152 (by decide) ?_
    exact hrec124 _ _ _ _ _ _  (lv_sub hl [2, 1, 3, 0] rfl) hV hf
set_option maxHeartbeats 4000000 in
set_option maxRecDepth 100000 in
theorem k_X7_checksum_L124w {p : Program} {l : Launch} {e : Env} {s : State} {m : MethodId} {args : Array Value} {below : List Frame} {meth : Method} {c : Code} {D : va_G} {aC : Nat → ClassId} {n0 : Nat} {r : Int64} {σ : St} {q0 : Nat} (hX : sr_X p s m args meth c cX7_checksum 5 (Option.some FieldType.long) RX7 D aC) (h0 : shC q0 = 8) {rec107 : Int64 → Int32 → Option Int64} (hrec107 : ∀ (w1 : Int64) (x3 : Int32) (H : Heap) (locs : List Loc) (ls : Array Slot) , lv_has ls 5 [(0, .ref (n0 + q0)), (1, .long w1), (3, .int x3)] → sr_V D aC shC n0 σ s.heap H locs → rec107 w1 x3 = some r → W p l e rm_X7_checksum s m args below meth c H locs 0 0 (MQ below (sr_Qc D aC shC n0 σ (some (.long r))) args s 0 0 (sr_A shC n0)) (F0 m 107 ls [])) (n : Nat) : ∀ (w1 : Int64) (x3 : Int32) (x4 : Int32) (H : Heap) (locs : List Loc) (ls : Array Slot) , lv_has ls 5 [(0, .ref (n0 + q0)), (1, .long w1), (3, .int x3), (4, .int x4)] → sr_V D aC shC n0 σ s.heap H locs → it3 (f_X7_checksum_L124 σ q0 rec107) n w1 x3 x4 = some r → W p l e rm_X7_checksum s m args below meth c H locs 0 0 (MQ below (sr_Qc D aC shC n0 σ (some (.long r))) args s 0 0 (sr_A shC n0)) (F0 m 124 ls []) :=
  it3_ind (fun rec124 => ∀ (w1 : Int64) (x3 : Int32) (x4 : Int32) (H : Heap) (locs : List Loc) (ls : Array Slot) , lv_has ls 5 [(0, .ref (n0 + q0)), (1, .long w1), (3, .int x3), (4, .int x4)] → sr_V D aC shC n0 σ s.heap H locs → rec124 w1 x3 x4 = some r → W p l e rm_X7_checksum s m args below meth c H locs 0 0 (MQ below (sr_Qc D aC shC n0 σ (some (.long r))) args s 0 0 (sr_A shC n0)) (F0 m 124 ls [])) (by intros; rename_i hf; exact absurd hf (by simp)) (fun rec hrec => k_X7_checksum_L124 hX h0 hrec107 rec hrec) n
set_option maxHeartbeats 4000000 in
set_option maxRecDepth 100000 in
theorem k_X7_checksum_L107 {p : Program} {l : Launch} {e : Env} {s : State} {m : MethodId} {args : Array Value} {below : List Frame} {meth : Method} {c : Code} {D : va_G} {aC : Nat → ClassId} {n0 : Nat} {r : Int64} {σ : St} {q0 : Nat} (hX : sr_X p s m args meth c cX7_checksum 5 (Option.some FieldType.long) RX7 D aC) (h0 : shC q0 = 8) (rec107 : Int64 → Int32 → Option Int64) (hrec107 : ∀ (w1 : Int64) (x3 : Int32) (H : Heap) (locs : List Loc) (ls : Array Slot) , lv_has ls 5 [(0, .ref (n0 + q0)), (1, .long w1), (3, .int x3)] → sr_V D aC shC n0 σ s.heap H locs → rec107 w1 x3 = some r → W p l e rm_X7_checksum s m args below meth c H locs 0 0 (MQ below (sr_Qc D aC shC n0 σ (some (.long r))) args s 0 0 (sr_A shC n0)) (F0 m 107 ls [])) : ∀ (w1 : Int64) (x3 : Int32) (H : Heap) (locs : List Loc) (ls : Array Slot) , lv_has ls 5 [(0, .ref (n0 + q0)), (1, .long w1), (3, .int x3)] → sr_V D aC shC n0 σ s.heap H locs → f_X7_checksum_L107 σ q0 rec107 w1 x3 = some r → W p l e rm_X7_checksum s m args below meth c H locs 0 0 (MQ below (sr_Qc D aC shC n0 σ (some (.long r))) args s 0 0 (sr_A shC n0)) (F0 m 107 ls []) := by
  intro w1 x3 H locs ls  hl hV hf
  have hx := hX.1.1
  have hb := hX.1.2.1
  unfold f_X7_checksum_L107 at hf
  refine lv_iload_n hx hb dX7_checksum_107 rfl (lv_at hl 2 rfl) ?_
  refine lv_aload_n hx hb dX7_checksum_108 rfl (lv_at hl 0 rfl) ?_
  refine fg_7_0 hX hV lk_216 (h0) dX7_checksum_109 ?_
  refine fg_1_2 hX hV lk_162 (ch_7_0 (h0)) dX7_checksum_112 ?_
  refine fg_3_2 hX hV lk_146 (ch_1_2 (ch_7_0 (h0))) dX7_checksum_115 ?_
  refine lv_icmp_ge (tgt := 161) hx hb dX7_checksum_118 (by decide) (fun c10 => ?_) (fun c10 => ?_)
  · have hf := sr_t hf c10
    refine lv_lload_n hx hb dX7_checksum_161 rfl (lv_at hl 1 rfl) ?_
    cases hf
    exact s_lret hX hV dX7_checksum_162
  · have hf := sr_f hf c10
    refine lv_iconst (v := 0) hx hb dX7_checksum_121 (by decide) ?_
    refine lv_istore (lv' := [(4, .int 0), (0, .ref (n0 + q0)), (1, .long w1), (3, .int x3)]) hx hb dX7_checksum_122 hl (by decide) rfl (fun ls hl => ?_)
    exact k_X7_checksum_L124w hX h0 hrec107 sr_fuel _ _ _ _ _ _  (lv_sub hl [1, 2, 3, 0] rfl) hV hf
set_option maxHeartbeats 4000000 in
set_option maxRecDepth 100000 in
theorem k_X7_checksum_L107w {p : Program} {l : Launch} {e : Env} {s : State} {m : MethodId} {args : Array Value} {below : List Frame} {meth : Method} {c : Code} {D : va_G} {aC : Nat → ClassId} {n0 : Nat} {r : Int64} {σ : St} {q0 : Nat} (hX : sr_X p s m args meth c cX7_checksum 5 (Option.some FieldType.long) RX7 D aC) (h0 : shC q0 = 8) (n : Nat) : ∀ (w1 : Int64) (x3 : Int32) (H : Heap) (locs : List Loc) (ls : Array Slot) , lv_has ls 5 [(0, .ref (n0 + q0)), (1, .long w1), (3, .int x3)] → sr_V D aC shC n0 σ s.heap H locs → it2 (f_X7_checksum_L107 σ q0) n w1 x3 = some r → W p l e rm_X7_checksum s m args below meth c H locs 0 0 (MQ below (sr_Qc D aC shC n0 σ (some (.long r))) args s 0 0 (sr_A shC n0)) (F0 m 107 ls []) :=
  it2_ind (fun rec107 => ∀ (w1 : Int64) (x3 : Int32) (H : Heap) (locs : List Loc) (ls : Array Slot) , lv_has ls 5 [(0, .ref (n0 + q0)), (1, .long w1), (3, .int x3)] → sr_V D aC shC n0 σ s.heap H locs → rec107 w1 x3 = some r → W p l e rm_X7_checksum s m args below meth c H locs 0 0 (MQ below (sr_Qc D aC shC n0 σ (some (.long r))) args s 0 0 (sr_A shC n0)) (F0 m 107 ls [])) (by intros; rename_i hf; exact absurd hf (by simp)) (fun rec hrec => k_X7_checksum_L107 hX h0  rec hrec) n
set_option maxHeartbeats 4000000 in
set_option maxRecDepth 100000 in
theorem k_X7_checksum_L58 {p : Program} {l : Launch} {e : Env} {s : State} {m : MethodId} {args : Array Value} {below : List Frame} {meth : Method} {c : Code} {D : va_G} {aC : Nat → ClassId} {n0 : Nat} {r : Int64} {σ : St} {q0 : Nat} (hX : sr_X p s m args meth c cX7_checksum 5 (Option.some FieldType.long) RX7 D aC) (h0 : shC q0 = 8) (rec58 : Int64 → Int32 → Option Int64) (hrec58 : ∀ (w1 : Int64) (x3 : Int32) (H : Heap) (locs : List Loc) (ls : Array Slot) , lv_has ls 5 [(0, .ref (n0 + q0)), (1, .long w1), (3, .int x3)] → sr_V D aC shC n0 σ s.heap H locs → rec58 w1 x3 = some r → W p l e rm_X7_checksum s m args below meth c H locs 0 0 (MQ below (sr_Qc D aC shC n0 σ (some (.long r))) args s 0 0 (sr_A shC n0)) (F0 m 58 ls [])) : ∀ (w1 : Int64) (x3 : Int32) (H : Heap) (locs : List Loc) (ls : Array Slot) , lv_has ls 5 [(0, .ref (n0 + q0)), (1, .long w1), (3, .int x3)] → sr_V D aC shC n0 σ s.heap H locs → f_X7_checksum_L58 σ q0 rec58 w1 x3 = some r → W p l e rm_X7_checksum s m args below meth c H locs 0 0 (MQ below (sr_Qc D aC shC n0 σ (some (.long r))) args s 0 0 (sr_A shC n0)) (F0 m 58 ls []) := by
  intro w1 x3 H locs ls  hl hV hf
  have hx := hX.1.1
  have hb := hX.1.2.1
  unfold f_X7_checksum_L58 at hf
  refine lv_iload_n hx hb dX7_checksum_58 rfl (lv_at hl 2 rfl) ?_
  refine lv_aload_n hx hb dX7_checksum_59 rfl (lv_at hl 0 rfl) ?_
  refine fg_7_0 hX hV lk_216 (h0) dX7_checksum_60 ?_
  refine fg_1_5 hX hV lk_167 (ch_7_0 (h0)) dX7_checksum_63 ?_
  refine lv_icmp_ge (tgt := 89) hx hb dX7_checksum_66 (by decide) (fun c11 => ?_) (fun c11 => ?_)
  · have hf := sr_t hf c11
    refine lv_lload_n hx hb dX7_checksum_89 rfl (lv_at hl 1 rfl) ?_
    refine lv_aload_n hx hb dX7_checksum_90 rfl (lv_at hl 0 rfl) ?_
    refine fg_7_0 hX hV lk_216 (h0) dX7_checksum_91 ?_
    refine fg_1_2 hX hV lk_162 (ch_7_0 (h0)) dX7_checksum_94 ?_
    refine fg_3_2 hX hV lk_146 (ch_1_2 (ch_7_0 (h0))) dX7_checksum_97 ?_
    refine lv_i2l hx hb dX7_checksum_100 rfl ?_
    obtain ⟨v13, e12, hf⟩ := sr_bnd hf
    refine s_callS1 hX hV hl.1 (c_X7_mix  e12) cs_X7_mix lk_649 ⟨rfl, rfl, Nat.le_of_ble_eq_true rfl, Nat.le_of_ble_eq_true rfl⟩ rfl rfl (Nat.le_of_ble_eq_true rfl) dX7_checksum_101 ⟨Nat.le_of_ble_eq_true rfl, Nat.le_of_ble_eq_true rfl⟩ (fun H locs hV => ?_)
    refine lv_lstore_n (lv' := [(1, .long v13), (0, .ref (n0 + q0)), (3, .int x3)]) hx hb dX7_checksum_104 rfl hl (by decide) rfl (fun ls hl => ?_)
    refine lv_iconst (v := 0) hx hb dX7_checksum_105 (by decide) ?_
    refine lv_istore_n (lv' := [(3, .int 0), (1, .long v13), (0, .ref (n0 + q0))]) hx hb dX7_checksum_106 rfl hl (by decide) rfl (fun ls hl => ?_)
    exact k_X7_checksum_L107w hX h0  sr_fuel _ _ _ _ _  (lv_sub hl [2, 1, 0] rfl) hV hf
  · have hf := sr_f hf c11
    refine lv_lload_n hx hb dX7_checksum_69 rfl (lv_at hl 1 rfl) ?_
    refine lv_aload_n hx hb dX7_checksum_70 rfl (lv_at hl 0 rfl) ?_
    refine fg_7_0 hX hV lk_216 (h0) dX7_checksum_71 ?_
    refine lv_iload_n hx hb dX7_checksum_74 rfl (lv_at hl 2 rfl) ?_
    obtain ⟨v15, e14, hf⟩ := sr_obd hf
    refine s_callV1 (ci := 1) hX hV hl.1 (c_X1_changesOf (ch_7_0 (h0)) e14) cv_X1_changesOf lk_572 ⟨rfl, rfl, Nat.le_of_ble_eq_true rfl, Nat.le_of_ble_eq_true rfl⟩ rfl (by decide) (ch_7_0 (h0)) rfl rfl (Nat.le_of_ble_eq_true rfl) dX7_checksum_75 ⟨Nat.le_of_ble_eq_true rfl, Nat.le_of_ble_eq_true rfl⟩ (fun H locs hV => ?_)
    refine lv_i2l hx hb dX7_checksum_78 rfl ?_
    obtain ⟨v17, e16, hf⟩ := sr_bnd hf
    refine s_callS1 hX hV hl.1 (c_X7_mix  e16) cs_X7_mix lk_649 ⟨rfl, rfl, Nat.le_of_ble_eq_true rfl, Nat.le_of_ble_eq_true rfl⟩ rfl rfl (Nat.le_of_ble_eq_true rfl) dX7_checksum_79 ⟨Nat.le_of_ble_eq_true rfl, Nat.le_of_ble_eq_true rfl⟩ (fun H locs hV => ?_)
    refine lv_lstore_n (lv' := [(1, .long v17), (0, .ref (n0 + q0)), (3, .int x3)]) hx hb dX7_checksum_82 rfl hl (by decide) rfl (fun ls hl => ?_)
    obtain ⟨v18, e19, hf⟩ := sr_bnd hf
    refine lv_iinc (v := v18) (lv' := [(3, .int v18), (1, .long v17), (0, .ref (n0 + q0))]) hx hb dX7_checksum_83 hl (k := 2) rfl (by rw [← e19]; rfl) (by decide) rfl (fun ls hl => ?_)
    refine lv_goto (tgt := 58) hx hb dX7_checksum_86 (by decide) ?_
    exact hrec58 _ _ _ _ _  (lv_sub hl [2, 1, 0] rfl) hV hf
set_option maxHeartbeats 4000000 in
set_option maxRecDepth 100000 in
theorem k_X7_checksum_L58w {p : Program} {l : Launch} {e : Env} {s : State} {m : MethodId} {args : Array Value} {below : List Frame} {meth : Method} {c : Code} {D : va_G} {aC : Nat → ClassId} {n0 : Nat} {r : Int64} {σ : St} {q0 : Nat} (hX : sr_X p s m args meth c cX7_checksum 5 (Option.some FieldType.long) RX7 D aC) (h0 : shC q0 = 8) (n : Nat) : ∀ (w1 : Int64) (x3 : Int32) (H : Heap) (locs : List Loc) (ls : Array Slot) , lv_has ls 5 [(0, .ref (n0 + q0)), (1, .long w1), (3, .int x3)] → sr_V D aC shC n0 σ s.heap H locs → it2 (f_X7_checksum_L58 σ q0) n w1 x3 = some r → W p l e rm_X7_checksum s m args below meth c H locs 0 0 (MQ below (sr_Qc D aC shC n0 σ (some (.long r))) args s 0 0 (sr_A shC n0)) (F0 m 58 ls []) :=
  it2_ind (fun rec58 => ∀ (w1 : Int64) (x3 : Int32) (H : Heap) (locs : List Loc) (ls : Array Slot) , lv_has ls 5 [(0, .ref (n0 + q0)), (1, .long w1), (3, .int x3)] → sr_V D aC shC n0 σ s.heap H locs → rec58 w1 x3 = some r → W p l e rm_X7_checksum s m args below meth c H locs 0 0 (MQ below (sr_Qc D aC shC n0 σ (some (.long r))) args s 0 0 (sr_A shC n0)) (F0 m 58 ls [])) (by intros; rename_i hf; exact absurd hf (by simp)) (fun rec hrec => k_X7_checksum_L58 hX h0  rec hrec) n
set_option maxHeartbeats 4000000 in
set_option maxRecDepth 100000 in
theorem k_X7_checksum_L32 {p : Program} {l : Launch} {e : Env} {s : State} {m : MethodId} {args : Array Value} {below : List Frame} {meth : Method} {c : Code} {D : va_G} {aC : Nat → ClassId} {n0 : Nat} {r : Int64} {σ : St} {q0 : Nat} (hX : sr_X p s m args meth c cX7_checksum 5 (Option.some FieldType.long) RX7 D aC) (h0 : shC q0 = 8) (rec32 : Int64 → Int32 → Option Int64) (hrec32 : ∀ (w1 : Int64) (x3 : Int32) (H : Heap) (locs : List Loc) (ls : Array Slot) , lv_has ls 5 [(0, .ref (n0 + q0)), (1, .long w1), (3, .int x3)] → sr_V D aC shC n0 σ s.heap H locs → rec32 w1 x3 = some r → W p l e rm_X7_checksum s m args below meth c H locs 0 0 (MQ below (sr_Qc D aC shC n0 σ (some (.long r))) args s 0 0 (sr_A shC n0)) (F0 m 32 ls [])) : ∀ (w1 : Int64) (x3 : Int32) (H : Heap) (locs : List Loc) (ls : Array Slot) , lv_has ls 5 [(0, .ref (n0 + q0)), (1, .long w1), (3, .int x3)] → sr_V D aC shC n0 σ s.heap H locs → f_X7_checksum_L32 σ q0 rec32 w1 x3 = some r → W p l e rm_X7_checksum s m args below meth c H locs 0 0 (MQ below (sr_Qc D aC shC n0 σ (some (.long r))) args s 0 0 (sr_A shC n0)) (F0 m 32 ls []) := by
  intro w1 x3 H locs ls  hl hV hf
  have hx := hX.1.1
  have hb := hX.1.2.1
  unfold f_X7_checksum_L32 at hf
  refine lv_iload_n hx hb dX7_checksum_32 rfl (lv_at hl 2 rfl) ?_
  refine lv_aload_n hx hb dX7_checksum_33 rfl (lv_at hl 0 rfl) ?_
  refine fg_7_0 hX hV lk_216 (h0) dX7_checksum_34 ?_
  refine fg_1_4 hX hV lk_165 (ch_7_0 (h0)) dX7_checksum_37 ?_
  refine lv_icmp_ge (tgt := 56) hx hb dX7_checksum_40 (by decide) (fun c20 => ?_) (fun c20 => ?_)
  · have hf := sr_t hf c20
    refine lv_iconst (v := 0) hx hb dX7_checksum_56 (by decide) ?_
    refine lv_istore_n (lv' := [(3, .int 0), (0, .ref (n0 + q0)), (1, .long w1)]) hx hb dX7_checksum_57 rfl hl (by decide) rfl (fun ls hl => ?_)
    exact k_X7_checksum_L58w hX h0  sr_fuel _ _ _ _ _  (lv_sub hl [1, 2, 0] rfl) hV hf
  · have hf := sr_f hf c20
    refine lv_aload_n hx hb dX7_checksum_43 rfl (lv_at hl 0 rfl) ?_
    refine lv_lload_n hx hb dX7_checksum_44 rfl (lv_at hl 1 rfl) ?_
    refine lv_iload_n hx hb dX7_checksum_45 rfl (lv_at hl 2 rfl) ?_
    obtain ⟨v22, e21, hf⟩ := sr_obd hf
    refine s_callV1 (ci := 7) hX hV hl.1 (c_X7_mixChange (h0) e21) cv_X7_mixChange lk_653 ⟨rfl, rfl, Nat.le_of_ble_eq_true rfl, Nat.le_of_ble_eq_true rfl⟩ rfl (by decide) (h0) rfl rfl (Nat.le_of_ble_eq_true rfl) dX7_checksum_46 ⟨Nat.le_of_ble_eq_true rfl, Nat.le_of_ble_eq_true rfl⟩ (fun H locs hV => ?_)
    refine lv_lstore_n (lv' := [(1, .long v22), (0, .ref (n0 + q0)), (3, .int x3)]) hx hb dX7_checksum_49 rfl hl (by decide) rfl (fun ls hl => ?_)
    obtain ⟨v23, e24, hf⟩ := sr_bnd hf
    refine lv_iinc (v := v23) (lv' := [(3, .int v23), (1, .long v22), (0, .ref (n0 + q0))]) hx hb dX7_checksum_50 hl (k := 2) rfl (by rw [← e24]; rfl) (by decide) rfl (fun ls hl => ?_)
    refine lv_goto (tgt := 32) hx hb dX7_checksum_53 (by decide) ?_
    exact hrec32 _ _ _ _ _  (lv_sub hl [2, 1, 0] rfl) hV hf
set_option maxHeartbeats 4000000 in
set_option maxRecDepth 100000 in
theorem k_X7_checksum_L32w {p : Program} {l : Launch} {e : Env} {s : State} {m : MethodId} {args : Array Value} {below : List Frame} {meth : Method} {c : Code} {D : va_G} {aC : Nat → ClassId} {n0 : Nat} {r : Int64} {σ : St} {q0 : Nat} (hX : sr_X p s m args meth c cX7_checksum 5 (Option.some FieldType.long) RX7 D aC) (h0 : shC q0 = 8) (n : Nat) : ∀ (w1 : Int64) (x3 : Int32) (H : Heap) (locs : List Loc) (ls : Array Slot) , lv_has ls 5 [(0, .ref (n0 + q0)), (1, .long w1), (3, .int x3)] → sr_V D aC shC n0 σ s.heap H locs → it2 (f_X7_checksum_L32 σ q0) n w1 x3 = some r → W p l e rm_X7_checksum s m args below meth c H locs 0 0 (MQ below (sr_Qc D aC shC n0 σ (some (.long r))) args s 0 0 (sr_A shC n0)) (F0 m 32 ls []) :=
  it2_ind (fun rec32 => ∀ (w1 : Int64) (x3 : Int32) (H : Heap) (locs : List Loc) (ls : Array Slot) , lv_has ls 5 [(0, .ref (n0 + q0)), (1, .long w1), (3, .int x3)] → sr_V D aC shC n0 σ s.heap H locs → rec32 w1 x3 = some r → W p l e rm_X7_checksum s m args below meth c H locs 0 0 (MQ below (sr_Qc D aC shC n0 σ (some (.long r))) args s 0 0 (sr_A shC n0)) (F0 m 32 ls [])) (by intros; rename_i hf; exact absurd hf (by simp)) (fun rec hrec => k_X7_checksum_L32 hX h0  rec hrec) n
set_option maxHeartbeats 4000000 in
set_option maxRecDepth 100000 in
theorem c_X7_checksum {l : Launch} {D : va_G} {aC : Nat → ClassId} {n0 : Nat} {r : Int64} {σ : St}  {q0 : Nat} (h0 : shC q0 = 8) (hf : f_X7_checksum q0 σ = some r) : sr_Met l D aC shC n0 yX7_checksum cX7_checksum 5 (Option.some FieldType.long) rm_X7_checksum [.ref (n0 + q0)] σ (some (.long r)) σ := by
  refine s_met (own := RX7) (by decide) (Nat.le_of_ble_eq_true rfl) rfl ?_
  intro p e s m below meth c ls hX hV hl
  have hl : lv_has ls 5 [(0, .ref (n0 + q0))] := hl
  have hx := hX.1.1
  have hb := hX.1.2.1
  unfold f_X7_checksum at hf
  refine lv_ldc2 hx hb hX.1.2.2.2.1 (s_w hX lk_648) dX7_checksum_0 ?_
  refine lv_lstore_n (lv' := [(1, .long 79), (0, .ref (n0 + q0))]) hx hb dX7_checksum_3 rfl hl (by decide) rfl (fun ls hl => ?_)
  refine lv_lload_n hx hb dX7_checksum_4 rfl (lv_at hl 0 rfl) ?_
  refine lv_aload_n hx hb dX7_checksum_5 rfl (lv_at hl 1 rfl) ?_
  refine fg_7_0 hX hV lk_216 (h0) dX7_checksum_6 ?_
  refine fg_1_6 hX hV lk_169 (ch_7_0 (h0)) dX7_checksum_9 ?_
  refine lv_i2l hx hb dX7_checksum_12 rfl ?_
  obtain ⟨v26, e25, hf⟩ := sr_bnd hf
  refine s_callS1 hX hV hl.1 (c_X7_mix  e25) cs_X7_mix lk_649 ⟨rfl, rfl, Nat.le_of_ble_eq_true rfl, Nat.le_of_ble_eq_true rfl⟩ rfl rfl (Nat.le_of_ble_eq_true rfl) dX7_checksum_13 ⟨Nat.le_of_ble_eq_true rfl, Nat.le_of_ble_eq_true rfl⟩ (fun H locs hV => ?_)
  refine lv_lstore_n (lv' := [(1, .long v26), (0, .ref (n0 + q0))]) hx hb dX7_checksum_16 rfl hl (by decide) rfl (fun ls hl => ?_)
  refine lv_lload_n hx hb dX7_checksum_17 rfl (lv_at hl 0 rfl) ?_
  refine lv_aload_n hx hb dX7_checksum_18 rfl (lv_at hl 1 rfl) ?_
  refine fg_7_0 hX hV lk_216 (h0) dX7_checksum_19 ?_
  refine fg_1_4 hX hV lk_165 (ch_7_0 (h0)) dX7_checksum_22 ?_
  refine lv_i2l hx hb dX7_checksum_25 rfl ?_
  obtain ⟨v28, e27, hf⟩ := sr_bnd hf
  refine s_callS1 hX hV hl.1 (c_X7_mix  e27) cs_X7_mix lk_649 ⟨rfl, rfl, Nat.le_of_ble_eq_true rfl, Nat.le_of_ble_eq_true rfl⟩ rfl rfl (Nat.le_of_ble_eq_true rfl) dX7_checksum_26 ⟨Nat.le_of_ble_eq_true rfl, Nat.le_of_ble_eq_true rfl⟩ (fun H locs hV => ?_)
  refine lv_lstore_n (lv' := [(1, .long v28), (0, .ref (n0 + q0))]) hx hb dX7_checksum_29 rfl hl (by decide) rfl (fun ls hl => ?_)
  refine lv_iconst (v := 0) hx hb dX7_checksum_30 (by decide) ?_
  refine lv_istore_n (lv' := [(3, .int 0), (1, .long v28), (0, .ref (n0 + q0))]) hx hb dX7_checksum_31 rfl hl (by decide) rfl (fun ls hl => ?_)
  exact k_X7_checksum_L32w hX h0  sr_fuel _ _ _ _ _  (lv_sub hl [2, 1, 0] rfl) hV hf
