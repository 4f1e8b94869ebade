abbrev rm_X8_forecast : Room := { frames := 7, cells := 0, slots := 0, locals := 157 }
theorem cv_X8_forecast : sr_Cv yX8_forecast cX8_forecast 5 (Option.some FieldType.int) RX8 1 := ⟨lk_953, lk_951, lk_952, lk_9, rfl, by decide +kernel, by decide +kernel, by decide +kernel⟩
set_option maxHeartbeats 4000000 in
set_option maxRecDepth 100000 in
theorem k_X8_forecast_L93 {p : Program} {l : Launch} {e : Env} {s : State} {m : MethodId} {args : Array Value} {below : List Frame} {meth : Method} {c : Code} {D : va_G} {aC : Nat → ClassId} {n0 : Nat} {r : Int32} {σ' : St} {q0 : Nat} {x1 : Int32} (hX : sr_X p s m args meth c cX8_forecast 5 (Option.some FieldType.int) RX8 D aC) (h0 : shM q0 = 9) (rec93 : Int32 → Int32 → St → Option (Int32 × St)) (hrec93 : ∀ (x3 : Int32) (x4 : Int32) (σ : St) (H : Heap) (locs : List Loc) (ls : Array Slot) , lv_has ls 5 [(0, .ref (n0 + q0)), (3, .int x3), (4, .int x4)] → sr_V D aC shM n0 σ s.heap H locs → rec93 x3 x4 σ = some (r, σ') → W p l e rm_X8_forecast s m args below meth c H locs 0 0 (MQ below (sr_Qc D aC shM n0 σ' (some (.int r))) args s 0 0 (sr_A shM n0)) (F0 m 93 ls [])) : ∀ (x3 : Int32) (x4 : Int32) (σ : St) (H : Heap) (locs : List Loc) (ls : Array Slot) , lv_has ls 5 [(0, .ref (n0 + q0)), (3, .int x3), (4, .int x4)] → sr_V D aC shM n0 σ s.heap H locs → f_X8_forecast_L93 q0 x1 rec93 x3 x4 σ = some (r, σ') → W p l e rm_X8_forecast s m args below meth c H locs 0 0 (MQ below (sr_Qc D aC shM n0 σ' (some (.int r))) args s 0 0 (sr_A shM n0)) (F0 m 93 ls []) := by
  intro x3 x4 σ H locs ls  hl hV hf
  have hx := hX.1.1
  have hb := hX.1.2.1
  unfold f_X8_forecast_L93 at hf
  refine lv_iload hx hb dX8_forecast_93 (lv_at hl 2 rfl) ?_
  refine lv_sipush (v := 257) hx hb dX8_forecast_95 (by decide) ?_
  refine lv_icmp_ge (tgt := 121) hx hb dX8_forecast_98 (by decide) (fun c1 => ?_) (fun c1 => ?_)
  · have hf := sr_t hf c1
    refine lv_iload_n hx hb dX8_forecast_121 rfl (lv_at hl 1 rfl) ?_
    cases hf
    exact s_iret hX hV dX8_forecast_122
  · have hf := sr_f hf c1
    refine lv_aload_n hx hb dX8_forecast_101 rfl (lv_at hl 0 rfl) ?_
    refine fg_8_0 hX hV lk_666 (h0) dX8_forecast_102 ?_
    refine lv_iload hx hb dX8_forecast_105 (lv_at hl 2 rfl) ?_
    refine lv_aload_n hx hb dX8_forecast_107 rfl (lv_at hl 0 rfl) ?_
    refine fg_8_1 hX hV lk_667 (h0) dX8_forecast_108 ?_
    refine lv_iload hx hb dX8_forecast_111 (lv_at hl 2 rfl) ?_
    obtain ⟨g2, hf⟩ := sr_gd hf
    refine s_iald hX hV (n := 257) (ch_8_1 (h0)) (by decide) (inb_in g2) dX8_forecast_113 ?_
    obtain ⟨g3, hf⟩ := sr_gd hf
    obtain ⟨σ4, e5, hf⟩ := sr_bnd hf
    refine s_iast hX hV (n := 257) (ch_8_0 (h0)) (by decide) (inb_in g3) dX8_forecast_114 (fun H locs hV => ?_)
    rw [e5] at hV
    obtain ⟨v6, e7, hf⟩ := sr_bnd hf
    refine lv_iinc (v := v6) (lv' := [(4, .int v6), (0, .ref (n0 + q0)), (3, .int x3)]) hx hb dX8_forecast_115 hl (k := 2) rfl (by rw [← e7]; rfl) (by decide) rfl (fun ls hl => ?_)
    refine lv_goto (tgt := 93) hx hb dX8_forecast_118 (by decide) ?_
    exact hrec93 _ _ _ _ _ _  (lv_sub hl [1, 2, 0] rfl) hV hf
set_option maxHeartbeats 4000000 in
set_option maxRecDepth 100000 in
theorem k_X8_forecast_L93w {p : Program} {l : Launch} {e : Env} {s : State} {m : MethodId} {args : Array Value} {below : List Frame} {meth : Method} {c : Code} {D : va_G} {aC : Nat → ClassId} {n0 : Nat} {r : Int32} {σ' : St} {q0 : Nat} {x1 : Int32} (hX : sr_X p s m args meth c cX8_forecast 5 (Option.some FieldType.int) RX8 D aC) (h0 : shM q0 = 9) (n : Nat) : ∀ (x3 : Int32) (x4 : Int32) (σ : St) (H : Heap) (locs : List Loc) (ls : Array Slot) , lv_has ls 5 [(0, .ref (n0 + q0)), (3, .int x3), (4, .int x4)] → sr_V D aC shM n0 σ s.heap H locs → it3 (f_X8_forecast_L93 q0 x1) n x3 x4 σ = some (r, σ') → W p l e rm_X8_forecast s m args below meth c H locs 0 0 (MQ below (sr_Qc D aC shM n0 σ' (some (.int r))) args s 0 0 (sr_A shM n0)) (F0 m 93 ls []) :=
  it3_ind (fun rec93 => ∀ (x3 : Int32) (x4 : Int32) (σ : St) (H : Heap) (locs : List Loc) (ls : Array Slot) , lv_has ls 5 [(0, .ref (n0 + q0)), (3, .int x3), (4, .int x4)] → sr_V D aC shM n0 σ s.heap H locs → rec93 x3 x4 σ = some (r, σ') → W p l e rm_X8_forecast s m args below meth c H locs 0 0 (MQ below (sr_Qc D aC shM n0 σ' (some (.int r))) args s 0 0 (sr_A shM n0)) (F0 m 93 ls [])) (by intros; rename_i hf; exact absurd hf (by simp)) (fun rec hrec => k_X8_forecast_L93 hX h0  rec hrec) n
set_option maxHeartbeats 4000000 in
set_option maxRecDepth 100000 in
theorem k_X8_forecast_B70 {p : Program} {l : Launch} {e : Env} {s : State} {m : MethodId} {args : Array Value} {below : List Frame} {meth : Method} {c : Code} {D : va_G} {aC : Nat → ClassId} {n0 : Nat} {r : Int32} {σ' : St} {q0 : Nat} {x1 : Int32} {σ : St} (hX : sr_X p s m args meth c cX8_forecast 5 (Option.some FieldType.int) RX8 D aC) (h0 : shM q0 = 9) {x2 : Int32}  {H : Heap} {locs : List Loc} {ls : Array Slot} (hl : lv_has ls 5 [(0, .ref (n0 + q0)), (1, .int x1), (2, .int x2)]) (hV : sr_V D aC shM n0 σ s.heap H locs) (hf : f_X8_forecast_B70 q0 x1 x2 σ = some (r, σ')) : W p l e rm_X8_forecast s m args below meth c H locs 0 0 (MQ below (sr_Qc D aC shM n0 σ' (some (.int r))) args s 0 0 (sr_A shM n0)) (F0 m 70 ls []) := by
  have hx := hX.1.1
  have hb := hX.1.2.1
  unfold f_X8_forecast_B70 at hf
  refine lv_aload_n hx hb dX8_forecast_70 rfl (lv_at hl 0 rfl) ?_
  refine lv_iload_n hx hb dX8_forecast_71 rfl (lv_at hl 1 rfl) ?_
  obtain ⟨v9, e8, hf⟩ := sr_obd hf
  refine s_callV1 (ci := 8) hX hV hl.1 (c_X8_isOver (h0) e8) cv_X8_isOver lk_954 ⟨rfl, rfl, Nat.le_of_ble_eq_true rfl, Nat.le_of_ble_eq_true rfl⟩ rfl (by decide) (h0) rfl rfl (Nat.le_of_ble_eq_true rfl) dX8_forecast_72 ⟨Nat.le_of_ble_eq_true rfl, Nat.le_of_ble_eq_true rfl⟩ (fun H locs hV => ?_)
  refine lv_if_eq (tgt := 82) hx hb dX8_forecast_75 (by decide) (fun c10 => ?_) (fun c10 => ?_)
  · have hf := sr_f hf (sr_b0 c10)
    refine lv_bipush (v := (-15)) hx hb dX8_forecast_82 (by decide) ?_
    refine lv_istore_n (lv' := [(3, .int (-15)), (0, .ref (n0 + q0)), (1, .int x1), (2, .int x2)]) hx hb dX8_forecast_84 rfl hl (by decide) rfl (fun ls hl => ?_)
    refine lv_aload_n hx hb dX8_forecast_85 rfl (lv_at hl 1 rfl) ?_
    refine lv_iconst (v := 0) hx hb dX8_forecast_86 (by decide) ?_
    obtain ⟨σ11, e12, hf⟩ := sr_bnd hf
    refine fp_8_6 (x := false) hX hV lk_672 (h0) dX8_forecast_87 (fun H locs hV => ?_)
    rw [e12] at hV
    refine lv_iconst (v := 0) hx hb dX8_forecast_90 (by decide) ?_
    refine lv_istore (lv' := [(4, .int 0), (3, .int (-15)), (0, .ref (n0 + q0)), (1, .int x1), (2, .int x2)]) hx hb dX8_forecast_91 hl (by decide) rfl (fun ls hl => ?_)
    exact k_X8_forecast_L93w hX h0  sr_fuel _ _ _ _ _ _  (lv_sub hl [2, 1, 0] rfl) hV hf
  · have hf := sr_t hf (sr_b1 c10)
    refine lv_iload_n hx hb dX8_forecast_78 rfl (lv_at hl 2 rfl) ?_
    refine lv_goto (tgt := 84) hx hb dX8_forecast_79 (by decide) ?_
    refine lv_istore_n (lv' := [(3, .int x2), (0, .ref (n0 + q0)), (1, .int x1), (2, .int x2)]) hx hb dX8_forecast_84 rfl hl (by decide) rfl (fun ls hl => ?_)
    refine lv_aload_n hx hb dX8_forecast_85 rfl (lv_at hl 1 rfl) ?_
    refine lv_iconst (v := 0) hx hb dX8_forecast_86 (by decide) ?_
    obtain ⟨σ13, e14, hf⟩ := sr_bnd hf
    refine fp_8_6 (x := false) hX hV lk_672 (h0) dX8_forecast_87 (fun H locs hV => ?_)
    rw [e14] at hV
    refine lv_iconst (v := 0) hx hb dX8_forecast_90 (by decide) ?_
    refine lv_istore (lv' := [(4, .int 0), (3, .int x2), (0, .ref (n0 + q0)), (1, .int x1), (2, .int x2)]) hx hb dX8_forecast_91 hl (by decide) rfl (fun ls hl => ?_)
    exact k_X8_forecast_L93w hX h0  sr_fuel _ _ _ _ _ _  (lv_sub hl [2, 1, 0] rfl) hV hf
set_option maxHeartbeats 4000000 in
set_option maxRecDepth 100000 in
theorem k_X8_forecast_L45 {p : Program} {l : Launch} {e : Env} {s : State} {m : MethodId} {args : Array Value} {below : List Frame} {meth : Method} {c : Code} {D : va_G} {aC : Nat → ClassId} {n0 : Nat} {r : Int32} {σ' : St} {q0 : Nat} {x1 : Int32} (hX : sr_X p s m args meth c cX8_forecast 5 (Option.some FieldType.int) RX8 D aC) (h0 : shM q0 = 9) (rec45 : Int32 → St → Option (Int32 × St)) (hrec45 : ∀ (x2 : Int32) (σ : St) (H : Heap) (locs : List Loc) (ls : Array Slot) , lv_has ls 5 [(0, .ref (n0 + q0)), (1, .int x1), (2, .int x2)] → sr_V D aC shM n0 σ s.heap H locs → rec45 x2 σ = some (r, σ') → W p l e rm_X8_forecast s m args below meth c H locs 0 0 (MQ below (sr_Qc D aC shM n0 σ' (some (.int r))) args s 0 0 (sr_A shM n0)) (F0 m 45 ls [])) : ∀ (x2 : Int32) (σ : St) (H : Heap) (locs : List Loc) (ls : Array Slot) , lv_has ls 5 [(0, .ref (n0 + q0)), (1, .int x1), (2, .int x2)] → sr_V D aC shM n0 σ s.heap H locs → f_X8_forecast_L45 q0 x1 rec45 x2 σ = some (r, σ') → W p l e rm_X8_forecast s m args below meth c H locs 0 0 (MQ below (sr_Qc D aC shM n0 σ' (some (.int r))) args s 0 0 (sr_A shM n0)) (F0 m 45 ls []) := by
  intro x2 σ H locs ls  hl hV hf
  have hx := hX.1.1
  have hb := hX.1.2.1
  unfold f_X8_forecast_L45 at hf
  refine lv_iload_n hx hb dX8_forecast_45 rfl (lv_at hl 2 rfl) ?_
  refine lv_sipush (v := 400) hx hb dX8_forecast_46 (by decide) ?_
  refine lv_icmp_ge (tgt := 70) hx hb dX8_forecast_49 (by decide) (fun c15 => ?_) (fun c15 => ?_)
  · have hf := sr_t hf c15
    exact k_X8_forecast_B70 hX h0   (lv_sub hl [0, 1, 2] rfl) hV hf
  · have hf := sr_f hf c15
    refine lv_aload_n hx hb dX8_forecast_52 rfl (lv_at hl 0 rfl) ?_
    refine lv_iload_n hx hb dX8_forecast_53 rfl (lv_at hl 1 rfl) ?_
    obtain ⟨v17, e16, hf⟩ := sr_obd hf
    refine s_callV1 (ci := 8) hX hV hl.1 (c_X8_isOver (h0) e16) cv_X8_isOver lk_954 ⟨rfl, rfl, Nat.le_of_ble_eq_true rfl, Nat.le_of_ble_eq_true rfl⟩ rfl (by decide) (h0) rfl rfl (Nat.le_of_ble_eq_true rfl) dX8_forecast_54 ⟨Nat.le_of_ble_eq_true rfl, Nat.le_of_ble_eq_true rfl⟩ (fun H locs hV => ?_)
    refine lv_if_ne (tgt := 70) hx hb dX8_forecast_57 (by decide) (fun c18 => ?_) (fun c18 => ?_)
    · have hf := sr_t hf (sr_b1 c18)
      exact k_X8_forecast_B70 hX h0   (lv_sub hl [0, 1, 2] rfl) hV hf
    · have hf := sr_f hf (sr_b0 c18)
      refine lv_aload_n hx hb dX8_forecast_60 rfl (lv_at hl 0 rfl) ?_
      obtain ⟨σ20, e19, hf⟩ := sr_obd hf
      refine s_callV0 (ci := 8) hX hV hl.1 (c_X8_passes (h0) e19) cv_X8_passes lk_865 ⟨rfl, rfl, Nat.le_of_ble_eq_true rfl, Nat.le_of_ble_eq_true rfl⟩ rfl (by decide) (h0) rfl rfl (Nat.le_of_ble_eq_true rfl) dX8_forecast_61 ⟨Nat.le_of_ble_eq_true rfl, Nat.le_of_ble_eq_true rfl⟩ (fun H locs hV => ?_)
      obtain ⟨v21, e22, hf⟩ := sr_bnd hf
      refine lv_iinc (v := v21) (lv' := [(2, .int v21), (0, .ref (n0 + q0)), (1, .int x1)]) hx hb dX8_forecast_64 hl (k := 2) rfl (by rw [← e22]; rfl) (by decide) rfl (fun ls hl => ?_)
      refine lv_goto (tgt := 45) hx hb dX8_forecast_67 (by decide) ?_
      exact hrec45 _ _ _ _ _  (lv_sub hl [1, 2, 0] rfl) hV hf
set_option maxHeartbeats 4000000 in
set_option maxRecDepth 100000 in
theorem k_X8_forecast_L45w {p : Program} {l : Launch} {e : Env} {s : State} {m : MethodId} {args : Array Value} {below : List Frame} {meth : Method} {c : Code} {D : va_G} {aC : Nat → ClassId} {n0 : Nat} {r : Int32} {σ' : St} {q0 : Nat} {x1 : Int32} (hX : sr_X p s m args meth c cX8_forecast 5 (Option.some FieldType.int) RX8 D aC) (h0 : shM q0 = 9) (n : Nat) : ∀ (x2 : Int32) (σ : St) (H : Heap) (locs : List Loc) (ls : Array Slot) , lv_has ls 5 [(0, .ref (n0 + q0)), (1, .int x1), (2, .int x2)] → sr_V D aC shM n0 σ s.heap H locs → it2 (f_X8_forecast_L45 q0 x1) n x2 σ = some (r, σ') → W p l e rm_X8_forecast s m args below meth c H locs 0 0 (MQ below (sr_Qc D aC shM n0 σ' (some (.int r))) args s 0 0 (sr_A shM n0)) (F0 m 45 ls []) :=
  it2_ind (fun rec45 => ∀ (x2 : Int32) (σ : St) (H : Heap) (locs : List Loc) (ls : Array Slot) , lv_has ls 5 [(0, .ref (n0 + q0)), (1, .int x1), (2, .int x2)] → sr_V D aC shM n0 σ s.heap H locs → rec45 x2 σ = some (r, σ') → W p l e rm_X8_forecast s m args below meth c H locs 0 0 (MQ below (sr_Qc D aC shM n0 σ' (some (.int r))) args s 0 0 (sr_A shM n0)) (F0 m 45 ls [])) (by intros; rename_i hf; exact absurd hf (by simp)) (fun rec hrec => k_X8_forecast_L45 hX h0  rec hrec) n
set_option maxHeartbeats 4000000 in
set_option maxRecDepth 100000 in
theorem k_X8_forecast_L13 {p : Program} {l : Launch} {e : Env} {s : State} {m : MethodId} {args : Array Value} {below : List Frame} {meth : Method} {c : Code} {D : va_G} {aC : Nat → ClassId} {n0 : Nat} {r : Int32} {σ' : St} {q0 : Nat} {x1 : Int32} (hX : sr_X p s m args meth c cX8_forecast 5 (Option.some FieldType.int) RX8 D aC) (h0 : shM q0 = 9) (rec13 : Int32 → St → Option (Int32 × St)) (hrec13 : ∀ (x2 : Int32) (σ : St) (H : Heap) (locs : List Loc) (ls : Array Slot) , lv_has ls 5 [(0, .ref (n0 + q0)), (1, .int x1), (2, .int x2)] → sr_V D aC shM n0 σ s.heap H locs → rec13 x2 σ = some (r, σ') → W p l e rm_X8_forecast s m args below meth c H locs 0 0 (MQ below (sr_Qc D aC shM n0 σ' (some (.int r))) args s 0 0 (sr_A shM n0)) (F0 m 13 ls [])) : ∀ (x2 : Int32) (σ : St) (H : Heap) (locs : List Loc) (ls : Array Slot) , lv_has ls 5 [(0, .ref (n0 + q0)), (1, .int x1), (2, .int x2)] → sr_V D aC shM n0 σ s.heap H locs → f_X8_forecast_L13 q0 x1 rec13 x2 σ = some (r, σ') → W p l e rm_X8_forecast s m args below meth c H locs 0 0 (MQ below (sr_Qc D aC shM n0 σ' (some (.int r))) args s 0 0 (sr_A shM n0)) (F0 m 13 ls []) := by
  intro x2 σ H locs ls  hl hV hf
  have hx := hX.1.1
  have hb := hX.1.2.1
  unfold f_X8_forecast_L13 at hf
  refine lv_iload_n hx hb dX8_forecast_13 rfl (lv_at hl 2 rfl) ?_
  refine lv_sipush (v := 257) hx hb dX8_forecast_14 (by decide) ?_
  refine lv_icmp_ge (tgt := 38) hx hb dX8_forecast_17 (by decide) (fun c23 => ?_) (fun c23 => ?_)
  · have hf := sr_t hf c23
    refine lv_aload_n hx hb dX8_forecast_38 rfl (lv_at hl 0 rfl) ?_
    refine lv_iconst (v := 1) hx hb dX8_forecast_39 (by decide) ?_
    obtain ⟨σ24, e25, hf⟩ := sr_bnd hf
    refine fp_8_6 (x := true) hX hV lk_672 (h0) dX8_forecast_40 (fun H locs hV => ?_)
    rw [e25] at hV
    refine lv_iconst (v := 0) hx hb dX8_forecast_43 (by decide) ?_
    refine lv_istore_n (lv' := [(2, .int 0), (0, .ref (n0 + q0)), (1, .int x1)]) hx hb dX8_forecast_44 rfl hl (by decide) rfl (fun ls hl => ?_)
    exact k_X8_forecast_L45w hX h0  sr_fuel _ _ _ _ _  (lv_sub hl [1, 2, 0] rfl) hV hf
  · have hf := sr_f hf c23
    refine lv_aload_n hx hb dX8_forecast_20 rfl (lv_at hl 0 rfl) ?_
    refine fg_8_1 hX hV lk_667 (h0) dX8_forecast_21 ?_
    refine lv_iload_n hx hb dX8_forecast_24 rfl (lv_at hl 2 rfl) ?_
    refine lv_aload_n hx hb dX8_forecast_25 rfl (lv_at hl 0 rfl) ?_
    refine fg_8_0 hX hV lk_666 (h0) dX8_forecast_26 ?_
    refine lv_iload_n hx hb dX8_forecast_29 rfl (lv_at hl 2 rfl) ?_
    obtain ⟨g26, hf⟩ := sr_gd hf
    refine s_iald hX hV (n := 257) (ch_8_0 (h0)) (by decide) (inb_in g26) dX8_forecast_30 ?_
    obtain ⟨g27, hf⟩ := sr_gd hf
    obtain ⟨σ28, e29, hf⟩ := sr_bnd hf
    refine s_iast hX hV (n := 257) (ch_8_1 (h0)) (by decide) (inb_in g27) dX8_forecast_31 (fun H locs hV => ?_)
    rw [e29] at hV
    obtain ⟨v30, e31, hf⟩ := sr_bnd hf
    refine lv_iinc (v := v30) (lv' := [(2, .int v30), (0, .ref (n0 + q0)), (1, .int x1)]) hx hb dX8_forecast_32 hl (k := 2) rfl (by rw [← e31]; rfl) (by decide) rfl (fun ls hl => ?_)
    refine lv_goto (tgt := 13) hx hb dX8_forecast_35 (by decide) ?_
    exact hrec13 _ _ _ _ _  (lv_sub hl [1, 2, 0] rfl) hV hf
set_option maxHeartbeats 4000000 in
set_option maxRecDepth 100000 in
theorem k_X8_forecast_L13w {p : Program} {l : Launch} {e : Env} {s : State} {m : MethodId} {args : Array Value} {below : List Frame} {meth : Method} {c : Code} {D : va_G} {aC : Nat → ClassId} {n0 : Nat} {r : Int32} {σ' : St} {q0 : Nat} {x1 : Int32} (hX : sr_X p s m args meth c cX8_forecast 5 (Option.some FieldType.int) RX8 D aC) (h0 : shM q0 = 9) (n : Nat) : ∀ (x2 : Int32) (σ : St) (H : Heap) (locs : List Loc) (ls : Array Slot) , lv_has ls 5 [(0, .ref (n0 + q0)), (1, .int x1), (2, .int x2)] → sr_V D aC shM n0 σ s.heap H locs → it2 (f_X8_forecast_L13 q0 x1) n x2 σ = some (r, σ') → W p l e rm_X8_forecast s m args below meth c H locs 0 0 (MQ below (sr_Qc D aC shM n0 σ' (some (.int r))) args s 0 0 (sr_A shM n0)) (F0 m 13 ls []) :=
  it2_ind (fun rec13 => ∀ (x2 : Int32) (σ : St) (H : Heap) (locs : List Loc) (ls : Array Slot) , lv_has ls 5 [(0, .ref (n0 + q0)), (1, .int x1), (2, .int x2)] → sr_V D aC shM n0 σ s.heap H locs → rec13 x2 σ = some (r, σ') → W p l e rm_X8_forecast s m args below meth c H locs 0 0 (MQ below (sr_Qc D aC shM n0 σ' (some (.int r))) args s 0 0 (sr_A shM n0)) (F0 m 13 ls [])) (by intros; rename_i hf; exact absurd hf (by simp)) (fun rec hrec => k_X8_forecast_L13 hX h0  rec hrec) n
set_option maxHeartbeats 4000000 in
set_option maxRecDepth 100000 in
theorem c_X8_forecast {l : Launch} {D : va_G} {aC : Nat → ClassId} {n0 : Nat} {r : Int32} {σ' : St}  {σ : St} {q0 : Nat} {x1 : Int32} (h0 : shM q0 = 9) (hf : f_X8_forecast q0 x1 σ = some (r, σ')) : sr_Met l D aC shM n0 yX8_forecast cX8_forecast 5 (Option.some FieldType.int) rm_X8_forecast [.ref (n0 + q0), .int x1] σ (some (.int r)) σ' := by
  refine s_met (own := RX8) (by decide) (Nat.le_of_ble_eq_true rfl) rfl ?_
  intro p e s m below meth c ls hX hV hl
  have hl : lv_has ls 5 [(0, .ref (n0 + q0)), (1, .int x1)] := hl
  have hx := hX.1.1
  have hb := hX.1.2.1
  unfold f_X8_forecast at hf
  refine lv_aload_n hx hb dX8_forecast_0 rfl (lv_at hl 0 rfl) ?_
  refine lv_iload_n hx hb dX8_forecast_1 rfl (lv_at hl 1 rfl) ?_
  obtain ⟨v33, e32, hf⟩ := sr_bnd hf
  refine s_callV1 (ci := 8) hX hV hl.1 (c_X8_isChange (h0) e32) cv_X8_isChange lk_747 ⟨rfl, rfl, Nat.le_of_ble_eq_true rfl, Nat.le_of_ble_eq_true rfl⟩ rfl (by decide) (h0) rfl rfl (Nat.le_of_ble_eq_true rfl) dX8_forecast_2 ⟨Nat.le_of_ble_eq_true rfl, Nat.le_of_ble_eq_true rfl⟩ (fun H locs hV => ?_)
  refine lv_if_ne (tgt := 11) hx hb dX8_forecast_5 (by decide) (fun c34 => ?_) (fun c34 => ?_)
  · have hf := sr_t hf (sr_b1 c34)
    refine lv_iconst (v := 0) hx hb dX8_forecast_11 (by decide) ?_
    refine lv_istore_n (lv' := [(2, .int 0), (0, .ref (n0 + q0)), (1, .int x1)]) hx hb dX8_forecast_12 rfl hl (by decide) rfl (fun ls hl => ?_)
    exact k_X8_forecast_L13w hX h0  sr_fuel _ _ _ _ _  (lv_sub hl [1, 2, 0] rfl) hV hf
  · have hf := sr_f hf (sr_b0 c34)
    refine lv_bipush (v := (-11)) hx hb dX8_forecast_8 (by decide) ?_
    cases hf
    exact s_iret hX hV dX8_forecast_10
abbrev rm_X8_entries : Room := { frames := 0, cells := 0, slots := 0, locals := 0 }
theorem cv_X8_entries : sr_Cv yX8_entries cX8_entries 1 (Option.some FieldType.int) RX8 0 := ⟨lk_961, lk_959, lk_960, lk_9, rfl, by decide +kernel, by decide +kernel, by decide +kernel⟩
set_option maxHeartbeats 4000000 in
set_option maxRecDepth 100000 in
theorem c_X8_entries {l : Launch} {D : va_G} {aC : Nat → ClassId} {n0 : Nat} {r : Int32} {σ : St}  {q0 : Nat} (h0 : shM q0 = 9) (hf : f_X8_entries q0 σ = r) : sr_Met l D aC shM n0 yX8_entries cX8_entries 1 (Option.some FieldType.int) rm_X8_entries [.ref (n0 + q0)] σ (some (.int r)) σ := by
  refine s_met (own := RX8) (by decide) (Nat.le_of_ble_eq_true rfl) rfl ?_
  intro p e s m below meth c ls hX hV hl
  have hl : lv_has ls 1 [(0, .ref (n0 + q0))] := hl
  have hx := hX.1.1
  have hb := hX.1.2.1
  unfold f_X8_entries at hf
  refine lv_aload_n hx hb dX8_entries_0 rfl (lv_at hl 0 rfl) ?_
  refine fg_8_0 hX hV lk_666 (h0) dX8_entries_1 ?_
  refine lv_bipush (v := 11) hx hb dX8_entries_4 (by decide) ?_
  refine s_iald hX hV (n := 257) (ch_8_0 (h0)) (by decide) (by unfold vp_in; decide) dX8_entries_6 ?_
  cases hf
  exact s_iret hX hV dX8_entries_7
abbrev rm_X8_entry : Room := { frames := 1, cells := 0, slots := 0, locals := 22 }
theorem cv_X8_entry : sr_Cv yX8_entry cX8_entry 3 (Option.some FieldType.int) RX8 2 := ⟨lk_965, lk_963, lk_964, lk_9, rfl, by decide +kernel, by decide +kernel, by decide +kernel⟩
set_option maxHeartbeats 4000000 in
set_option maxRecDepth 100000 in
theorem c_X8_entry {l : Launch} {D : va_G} {aC : Nat → ClassId} {n0 : Nat} {r : Int32} {σ : St}  {q0 : Nat} {x1 : Int32} {x2 : Int32} (h0 : shM q0 = 9) (hf : f_X8_entry q0 x1 x2 σ = some r) : sr_Met l D aC shM n0 yX8_entry cX8_entry 3 (Option.some FieldType.int) rm_X8_entry [.ref (n0 + q0), .int x1, .int x2] σ (some (.int r)) σ := by
  refine s_met (own := RX8) (by decide) (Nat.le_of_ble_eq_true rfl) rfl ?_
  intro p e s m below meth c ls hX hV hl
  have hl : lv_has ls 3 [(0, .ref (n0 + q0)), (1, .int x1), (2, .int x2)] := hl
  have hx := hX.1.1
  have hb := hX.1.2.1
  unfold f_X8_entry at hf
  refine lv_iload_n hx hb dX8_entry_0 rfl (lv_at hl 1 rfl) ?_
  refine lv_iconst (v := 0) hx hb dX8_entry_1 (by decide) ?_
  refine lv_aload_n hx hb dX8_entry_2 rfl (lv_at hl 0 rfl) ?_
  refine fg_8_0 hX hV lk_666 (h0) dX8_entry_3 ?_
  refine lv_bipush (v := 11) hx hb dX8_entry_6 (by decide) ?_
  refine s_iald hX hV (n := 257) (ch_8_0 (h0)) (by decide) (by unfold vp_in; decide) dX8_entry_8 ?_
  refine lv_iconst (v := 1) hx hb dX8_entry_9 (by decide) ?_
  refine lv_isub hx hb dX8_entry_10 ?_
  obtain ⟨v2, e1, hf⟩ := sr_bnd hf
  refine s_callS1 hX hV hl.1 (c_X8_in  e1) cs_X8_in lk_717 ⟨rfl, rfl, Nat.le_of_ble_eq_true rfl, Nat.le_of_ble_eq_true rfl⟩ rfl rfl (Nat.le_of_ble_eq_true rfl) dX8_entry_11 ⟨Nat.le_of_ble_eq_true rfl, Nat.le_of_ble_eq_true rfl⟩ (fun H locs hV => ?_)
  refine lv_if_ne (tgt := 20) hx hb dX8_entry_14 (by decide) (fun c3 => ?_) (fun c3 => ?_)
  · have hf := sr_t hf (sr_b1 c3)
    refine lv_iload_n hx hb dX8_entry_20 rfl (lv_at hl 2 rfl) ?_
    refine lv_iconst (v := 0) hx hb dX8_entry_21 (by decide) ?_
    refine lv_iconst (v := 3) hx hb dX8_entry_22 (by decide) ?_
    obtain ⟨v5, e4, hf⟩ := sr_bnd hf
    refine s_callS1 hX hV hl.1 (c_X8_in  e4) cs_X8_in lk_717 ⟨rfl, rfl, Nat.le_of_ble_eq_true rfl, Nat.le_of_ble_eq_true rfl⟩ rfl rfl (Nat.le_of_ble_eq_true rfl) dX8_entry_23 ⟨Nat.le_of_ble_eq_true rfl, Nat.le_of_ble_eq_true rfl⟩ (fun H locs hV => ?_)
    refine lv_if_eq (tgt := 45) hx hb dX8_entry_26 (by decide) (fun c6 => ?_) (fun c6 => ?_)
    · have hf := sr_f hf (sr_b0 c6)
      refine lv_bipush (v := (-12)) hx hb dX8_entry_45 (by decide) ?_
      cases hf
      exact s_iret hX hV dX8_entry_47
    · have hf := sr_t hf (sr_b1 c6)
      refine lv_aload_n hx hb dX8_entry_29 rfl (lv_at hl 0 rfl) ?_
      refine fg_8_0 hX hV lk_666 (h0) dX8_entry_30 ?_
      refine lv_bipush (v := 12) hx hb dX8_entry_33 (by decide) ?_
      refine lv_iconst (v := 4) hx hb dX8_entry_35 (by decide) ?_
      refine lv_iload_n hx hb dX8_entry_36 rfl (lv_at hl 1 rfl) ?_
      refine lv_imul hx hb dX8_entry_37 ?_
      refine lv_iadd hx hb dX8_entry_38 ?_
      refine lv_iload_n hx hb dX8_entry_39 rfl (lv_at hl 2 rfl) ?_
      refine lv_iadd hx hb dX8_entry_40 ?_
      obtain ⟨v7, e8, hf⟩ := sr_bnd hf
      rw [e8]
      obtain ⟨g9, hf⟩ := sr_gd hf
      refine s_iald hX hV (n := 257) (ch_8_0 (h0)) (by decide) (inb_in g9) dX8_entry_41 ?_
      refine lv_goto (tgt := 47) hx hb dX8_entry_42 (by decide) ?_
      cases hf
      exact s_iret hX hV dX8_entry_47
  · have hf := sr_f hf (sr_b0 c3)
    refine lv_bipush (v := (-11)) hx hb dX8_entry_17 (by decide) ?_
    cases hf
    exact s_iret hX hV dX8_entry_19
abbrev rm_X8_count : Room := { frames := 2, cells := 0, slots := 0, locals := 43 }
theorem cv_X8_count : sr_Cv yX8_count cX8_count 5 (Option.some FieldType.int) RX8 2 := ⟨lk_969, lk_967, lk_968, lk_9, rfl, by decide +kernel, by decide +kernel, by decide +kernel⟩
set_option maxHeartbeats 4000000 in
set_option maxRecDepth 100000 in
theorem k_X8_count_L35 {p : Program} {l : Launch} {e : Env} {s : State} {m : MethodId} {args : Array Value} {below : List Frame} {meth : Method} {c : Code} {D : va_G} {aC : Nat → ClassId} {n0 : Nat} {r : Int32} {σ : St} {q0 : Nat} {x1 : Int32} {x2 : Int32} (hX : sr_X p s m args meth c cX8_count 5 (Option.some FieldType.int) RX8 D aC) (h0 : shM q0 = 9) (rec35 : Int32 → Int32 → Option Int32) (hrec35 : ∀ (x3 : Int32) (x4 : Int32) (H : Heap) (locs : List Loc) (ls : Array Slot) , lv_has ls 5 [(0, .ref (n0 + q0)), (1, .int x1), (2, .int x2), (3, .int x3), (4, .int x4)] → sr_V D aC shM n0 σ s.heap H locs → rec35 x3 x4 = some r → W p l e rm_X8_count s m args below meth c H locs 0 0 (MQ below (sr_Qc D aC shM n0 σ (some (.int r))) args s 0 0 (sr_A shM n0)) (F0 m 35 ls [])) : ∀ (x3 : Int32) (x4 : Int32) (H : Heap) (locs : List Loc) (ls : Array Slot) , lv_has ls 5 [(0, .ref (n0 + q0)), (1, .int x1), (2, .int x2), (3, .int x3), (4, .int x4)] → sr_V D aC shM n0 σ s.heap H locs → f_X8_count_L35 σ q0 x1 x2 rec35 x3 x4 = some r → W p l e rm_X8_count s m args below meth c H locs 0 0 (MQ below (sr_Qc D aC shM n0 σ (some (.int r))) args s 0 0 (sr_A shM n0)) (F0 m 35 ls []) := by
  intro x3 x4 H locs ls  hl hV hf
  have hx := hX.1.1
  have hb := hX.1.2.1
  unfold f_X8_count_L35 at hf
  refine lv_iload hx hb dX8_count_35 (lv_at hl 4 rfl) ?_
  refine lv_bipush (v := 12) hx hb dX8_count_37 (by decide) ?_
  refine lv_iconst (v := 4) hx hb dX8_count_39 (by decide) ?_
  refine lv_aload_n hx hb dX8_count_40 rfl (lv_at hl 0 rfl) ?_
  refine fg_8_0 hX hV lk_666 (h0) dX8_count_41 ?_
  refine lv_bipush (v := 11) hx hb dX8_count_44 (by decide) ?_
  refine s_iald hX hV (n := 257) (ch_8_0 (h0)) (by decide) (by unfold vp_in; decide) dX8_count_46 ?_
  refine lv_imul hx hb dX8_count_47 ?_
  refine lv_iadd hx hb dX8_count_48 ?_
  refine lv_icmp_ge (tgt := 97) hx hb dX8_count_49 (by decide) (fun c1 => ?_) (fun c1 => ?_)
  · have hf := sr_t hf c1
    refine lv_iload_n hx hb dX8_count_97 rfl (lv_at hl 3 rfl) ?_
    cases hf
    exact s_iret hX hV dX8_count_98
  · have hf := sr_f hf c1
    refine lv_iload_n hx hb dX8_count_52 rfl (lv_at hl 3 rfl) ?_
    refine lv_aload_n hx hb dX8_count_53 rfl (lv_at hl 0 rfl) ?_
    refine fg_8_0 hX hV lk_666 (h0) dX8_count_54 ?_
    refine lv_iload hx hb dX8_count_57 (lv_at hl 4 rfl) ?_
    refine lv_iconst (v := 2) hx hb dX8_count_59 (by decide) ?_
    refine lv_iadd hx hb dX8_count_60 ?_
    obtain ⟨v2, e3, hf⟩ := sr_bnd hf
    rw [e3]
    obtain ⟨g4, hf⟩ := sr_gd hf
    refine s_iald hX hV (n := 257) (ch_8_0 (h0)) (by decide) (inb_in g4) dX8_count_61 ?_
    refine lv_iload_n hx hb dX8_count_62 rfl (lv_at hl 1 rfl) ?_
    refine lv_icmp_ne (tgt := 88) hx hb dX8_count_63 (by decide) (fun c5 => ?_) (fun c5 => ?_)
    · have hf := sr_f hf c5
      refine lv_iconst (v := 0) hx hb dX8_count_88 (by decide) ?_
      refine lv_iadd hx hb dX8_count_89 ?_
      obtain ⟨v6, e7, hf⟩ := sr_bnd hf
      rw [e7]
      refine lv_istore_n (lv' := [(3, .int v6), (0, .ref (n0 + q0)), (1, .int x1), (2, .int x2), (4, .int x4)]) hx hb dX8_count_90 rfl hl (by decide) rfl (fun ls hl => ?_)
      obtain ⟨v8, e9, hf⟩ := sr_bnd hf
      refine lv_iinc (v := v8) (lv' := [(4, .int v8), (3, .int v6), (0, .ref (n0 + q0)), (1, .int x1), (2, .int x2)]) hx hb dX8_count_91 hl (k := 4) rfl (by rw [← e9]; rfl) (by decide) rfl (fun ls hl => ?_)
      refine lv_goto (tgt := 35) hx hb dX8_count_94 (by decide) ?_
      exact hrec35 _ _ _ _ _  (lv_sub hl [2, 3, 4, 1, 0] rfl) hV hf
    · have hf := sr_t hf c5
      refine lv_iload_n hx hb dX8_count_66 rfl (lv_at hl 2 rfl) ?_
      refine lv_iconst (v := (-1)) hx hb dX8_count_67 (by decide) ?_
      refine lv_icmp_eq (tgt := 84) hx hb dX8_count_68 (by decide) (fun c10 => ?_) (fun c10 => ?_)
      · have hf := sr_t hf c10
        refine lv_iconst (v := 1) hx hb dX8_count_84 (by decide) ?_
        refine lv_goto (tgt := 89) hx hb dX8_count_85 (by decide) ?_
        refine lv_iadd hx hb dX8_count_89 ?_
        obtain ⟨v11, e12, hf⟩ := sr_bnd hf
        rw [e12]
        refine lv_istore_n (lv' := [(3, .int v11), (0, .ref (n0 + q0)), (1, .int x1), (2, .int x2), (4, .int x4)]) hx hb dX8_count_90 rfl hl (by decide) rfl (fun ls hl => ?_)
        obtain ⟨v13, e14, hf⟩ := sr_bnd hf
        refine lv_iinc (v := v13) (lv' := [(4, .int v13), (3, .int v11), (0, .ref (n0 + q0)), (1, .int x1), (2, .int x2)]) hx hb dX8_count_91 hl (k := 4) rfl (by rw [← e14]; rfl) (by decide) rfl (fun ls hl => ?_)
        refine lv_goto (tgt := 35) hx hb dX8_count_94 (by decide) ?_
        exact hrec35 _ _ _ _ _  (lv_sub hl [2, 3, 4, 1, 0] rfl) hV hf
      · have hf := sr_f hf c10
        refine lv_aload_n hx hb dX8_count_71 rfl (lv_at hl 0 rfl) ?_
        refine fg_8_0 hX hV lk_666 (h0) dX8_count_72 ?_
        refine lv_iload hx hb dX8_count_75 (lv_at hl 4 rfl) ?_
        refine lv_iconst (v := 1) hx hb dX8_count_77 (by decide) ?_
        refine lv_iadd hx hb dX8_count_78 ?_
        obtain ⟨v15, e16, hf⟩ := sr_bnd hf
        rw [e16]
        obtain ⟨g17, hf⟩ := sr_gd hf
        refine s_iald hX hV (n := 257) (ch_8_0 (h0)) (by decide) (inb_in g17) dX8_count_79 ?_
        refine lv_iload_n hx hb dX8_count_80 rfl (lv_at hl 2 rfl) ?_
        refine lv_icmp_ne (tgt := 88) hx hb dX8_count_81 (by decide) (fun c18 => ?_) (fun c18 => ?_)
        · have hf := sr_f hf c18
          refine lv_iconst (v := 0) hx hb dX8_count_88 (by decide) ?_
          refine lv_iadd hx hb dX8_count_89 ?_
          obtain ⟨v19, e20, hf⟩ := sr_bnd hf
          rw [e20]
          refine lv_istore_n (lv' := [(3, .int v19), (0, .ref (n0 + q0)), (1, .int x1), (2, .int x2), (4, .int x4)]) hx hb dX8_count_90 rfl hl (by decide) rfl (fun ls hl => ?_)
          obtain ⟨v21, e22, hf⟩ := sr_bnd hf
          refine lv_iinc (v := v21) (lv' := [(4, .int v21), (3, .int v19), (0, .ref (n0 + q0)), (1, .int x1), (2, .int x2)]) hx hb dX8_count_91 hl (k := 4) rfl (by rw [← e22]; rfl) (by decide) rfl (fun ls hl => ?_)
          refine lv_goto (tgt := 35) hx hb dX8_count_94 (by decide) ?_
          exact hrec35 _ _ _ _ _  (lv_sub hl [2, 3, 4, 1, 0] rfl) hV hf
        · have hf := sr_t hf c18
          refine lv_iconst (v := 1) hx hb dX8_count_84 (by decide) ?_
          refine lv_goto (tgt := 89) hx hb dX8_count_85 (by decide) ?_
          refine lv_iadd hx hb dX8_count_89 ?_
          obtain ⟨v23, e24, hf⟩ := sr_bnd hf
          rw [e24]
          refine lv_istore_n (lv' := [(3, .int v23), (0, .ref (n0 + q0)), (1, .int x1), (2, .int x2), (4, .int x4)]) hx hb dX8_count_90 rfl hl (by decide) rfl (fun ls hl => ?_)
          obtain ⟨v25, e26, hf⟩ := sr_bnd hf
          refine lv_iinc (v := v25) (lv' := [(4, .int v25), (3, .int v23), (0, .ref (n0 + q0)), (1, .int x1), (2, .int x2)]) hx hb dX8_count_91 hl (k := 4) rfl (by rw [← e26]; rfl) (by decide) rfl (fun ls hl => ?_)
          refine lv_goto (tgt := 35) hx hb dX8_count_94 (by decide) ?_
          exact hrec35 _ _ _ _ _  (lv_sub hl [2, 3, 4, 1, 0] rfl) hV hf
set_option maxHeartbeats 4000000 in
set_option maxRecDepth 100000 in
theorem k_X8_count_L35w {p : Program} {l : Launch} {e : Env} {s : State} {m : MethodId} {args : Array Value} {below : List Frame} {meth : Method} {c : Code} {D : va_G} {aC : Nat → ClassId} {n0 : Nat} {r : Int32} {σ : St} {q0 : Nat} {x1 : Int32} {x2 : Int32} (hX : sr_X p s m args meth c cX8_count 5 (Option.some FieldType.int) RX8 D aC) (h0 : shM q0 = 9) (n : Nat) : ∀ (x3 : Int32) (x4 : Int32) (H : Heap) (locs : List Loc) (ls : Array Slot) , lv_has ls 5 [(0, .ref (n0 + q0)), (1, .int x1), (2, .int x2), (3, .int x3), (4, .int x4)] → sr_V D aC shM n0 σ s.heap H locs → it2 (f_X8_count_L35 σ q0 x1 x2) n x3 x4 = some r → W p l e rm_X8_count s m args below meth c H locs 0 0 (MQ below (sr_Qc D aC shM n0 σ (some (.int r))) args s 0 0 (sr_A shM n0)) (F0 m 35 ls []) :=
  it2_ind (fun rec35 => ∀ (x3 : Int32) (x4 : Int32) (H : Heap) (locs : List Loc) (ls : Array Slot) , lv_has ls 5 [(0, .ref (n0 + q0)), (1, .int x1), (2, .int x2), (3, .int x3), (4, .int x4)] → sr_V D aC shM n0 σ s.heap H locs → rec35 x3 x4 = some r → W p l e rm_X8_count s m args below meth c H locs 0 0 (MQ below (sr_Qc D aC shM n0 σ (some (.int r))) args s 0 0 (sr_A shM n0)) (F0 m 35 ls [])) (by intros; rename_i hf; exact absurd hf (by simp)) (fun rec hrec => k_X8_count_L35 hX h0  rec hrec) n
set_option maxHeartbeats 4000000 in
set_option maxRecDepth 100000 in
theorem c_X8_count {l : Launch} {D : va_G} {aC : Nat → ClassId} {n0 : Nat} {r : Int32} {σ : St}  {q0 : Nat} {x1 : Int32} {x2 : Int32} (h0 : shM q0 = 9) (hf : f_X8_count q0 x1 x2 σ = some r) : sr_Met l D aC shM n0 yX8_count cX8_count 5 (Option.some FieldType.int) rm_X8_count [.ref (n0 + q0), .int x1, .int x2] σ (some (.int r)) σ := by
  refine s_met (own := RX8) (by decide) (Nat.le_of_ble_eq_true rfl) rfl ?_
  intro p e s m below meth c ls hX hV hl
  have hl : lv_has ls 5 [(0, .ref (n0 + q0)), (1, .int x1), (2, .int x2)] := hl
  have hx := hX.1.1
  have hb := hX.1.2.1
  unfold f_X8_count at hf
  refine lv_iload_n hx hb dX8_count_0 rfl (lv_at hl 1 rfl) ?_
  refine lv_iconst (v := 1) hx hb dX8_count_1 (by decide) ?_
  refine lv_bipush (v := 7) hx hb dX8_count_2 (by decide) ?_
  obtain ⟨v28, e27, hf⟩ := sr_bnd hf
  refine s_callS1 hX hV hl.1 (c_X8_in  e27) cs_X8_in lk_717 ⟨rfl, rfl, Nat.le_of_ble_eq_true rfl, Nat.le_of_ble_eq_true rfl⟩ rfl rfl (Nat.le_of_ble_eq_true rfl) dX8_count_4 ⟨Nat.le_of_ble_eq_true rfl, Nat.le_of_ble_eq_true rfl⟩ (fun H locs hV => ?_)
  refine lv_if_ne (tgt := 13) hx hb dX8_count_7 (by decide) (fun c29 => ?_) (fun c29 => ?_)
  · have hf := sr_t hf (sr_b1 c29)
    refine lv_iload_n hx hb dX8_count_13 rfl (lv_at hl 2 rfl) ?_
    refine lv_iconst (v := (-1)) hx hb dX8_count_14 (by decide) ?_
    refine lv_icmp_eq (tgt := 29) hx hb dX8_count_15 (by decide) (fun c30 => ?_) (fun c30 => ?_)
    · have hf := sr_t hf c30
      refine lv_iconst (v := 0) hx hb dX8_count_29 (by decide) ?_
      refine lv_istore_n (lv' := [(3, .int 0), (0, .ref (n0 + q0)), (1, .int x1), (2, .int x2)]) hx hb dX8_count_30 rfl hl (by decide) rfl (fun ls hl => ?_)
      refine lv_bipush (v := 12) hx hb dX8_count_31 (by decide) ?_
      refine lv_istore (lv' := [(4, .int 12), (3, .int 0), (0, .ref (n0 + q0)), (1, .int x1), (2, .int x2)]) hx hb dX8_count_33 hl (by decide) rfl (fun ls hl => ?_)
      exact k_X8_count_L35w hX h0  sr_fuel _ _ _ _ _  (lv_sub hl [2, 3, 4, 1, 0] rfl) hV hf
    · have hf := sr_f hf c30
      refine lv_aload_n hx hb dX8_count_18 rfl (lv_at hl 0 rfl) ?_
      refine lv_iload_n hx hb dX8_count_19 rfl (lv_at hl 2 rfl) ?_
      obtain ⟨v32, e31, hf⟩ := sr_bnd hf
      refine s_callV1 (ci := 8) hX hV hl.1 (c_X8_isChange (h0) e31) cv_X8_isChange lk_747 ⟨rfl, rfl, Nat.le_of_ble_eq_true rfl, Nat.le_of_ble_eq_true rfl⟩ rfl (by decide) (h0) rfl rfl (Nat.le_of_ble_eq_true rfl) dX8_count_20 ⟨Nat.le_of_ble_eq_true rfl, Nat.le_of_ble_eq_true rfl⟩ (fun H locs hV => ?_)
      refine lv_if_ne (tgt := 29) hx hb dX8_count_23 (by decide) (fun c33 => ?_) (fun c33 => ?_)
      · have hf := sr_t hf (sr_b1 c33)
        refine lv_iconst (v := 0) hx hb dX8_count_29 (by decide) ?_
        refine lv_istore_n (lv' := [(3, .int 0), (0, .ref (n0 + q0)), (1, .int x1), (2, .int x2)]) hx hb dX8_count_30 rfl hl (by decide) rfl (fun ls hl => ?_)
        refine lv_bipush (v := 12) hx hb dX8_count_31 (by decide) ?_
        refine lv_istore (lv' := [(4, .int 12), (3, .int 0), (0, .ref (n0 + q0)), (1, .int x1), (2, .int x2)]) hx hb dX8_count_33 hl (by decide) rfl (fun ls hl => ?_)
        exact k_X8_count_L35w hX h0  sr_fuel _ _ _ _ _  (lv_sub hl [2, 3, 4, 1, 0] rfl) hV hf
      · have hf := sr_f hf (sr_b0 c33)
        refine lv_bipush (v := (-11)) hx hb dX8_count_26 (by decide) ?_
        cases hf
        exact s_iret hX hV dX8_count_28
  · have hf := sr_f hf (sr_b0 c29)
    refine lv_bipush (v := (-12)) hx hb dX8_count_10 (by decide) ?_
    cases hf
    exact s_iret hX hV dX8_count_12
abbrev rm_X8_save : Room := { frames := 1, cells := 0, slots := 0, locals := 22 }
theorem cv_X8_save : sr_Cv yX8_save cX8_save 3 (Option.some FieldType.int) RX8 1 := ⟨lk_973, lk_971, lk_972, lk_9, rfl, by decide +kernel, by decide +kernel, by decide +kernel⟩
set_option maxHeartbeats 4000000 in
set_option maxRecDepth 100000 in
theorem k_X8_save_L14 {p : Program} {l : Launch} {e : Env} {s : State} {m : MethodId} {args : Array Value} {below : List Frame} {meth : Method} {c : Code} {D : va_G} {aC : Nat → ClassId} {n0 : Nat} {r : Int32} {σ' : St} {q0 : Nat} {x1 : Int32} (hX : sr_X p s m args meth c cX8_save 3 (Option.some FieldType.int) RX8 D aC) (h0 : shM q0 = 9) (rec14 : Int32 → St → Option (Int32 × St)) (hrec14 : ∀ (x2 : Int32) (σ : St) (H : Heap) (locs : List Loc) (ls : Array Slot) , lv_has ls 3 [(0, .ref (n0 + q0)), (1, .int x1), (2, .int x2)] → sr_V D aC shM n0 σ s.heap H locs → rec14 x2 σ = some (r, σ') → W p l e rm_X8_save s m args below meth c H locs 0 0 (MQ below (sr_Qc D aC shM n0 σ' (some (.int r))) args s 0 0 (sr_A shM n0)) (F0 m 14 ls [])) : ∀ (x2 : Int32) (σ : St) (H : Heap) (locs : List Loc) (ls : Array Slot) , lv_has ls 3 [(0, .ref (n0 + q0)), (1, .int x1), (2, .int x2)] → sr_V D aC shM n0 σ s.heap H locs → f_X8_save_L14 q0 x1 rec14 x2 σ = some (r, σ') → W p l e rm_X8_save s m args below meth c H locs 0 0 (MQ below (sr_Qc D aC shM n0 σ' (some (.int r))) args s 0 0 (sr_A shM n0)) (F0 m 14 ls []) := by
  intro x2 σ H locs ls  hl hV hf
  have hx := hX.1.1
  have hb := hX.1.2.1
  unfold f_X8_save_L14 at hf
  refine lv_iload_n hx hb dX8_save_14 rfl (lv_at hl 2 rfl) ?_
  refine lv_sipush (v := 257) hx hb dX8_save_15 (by decide) ?_
  refine lv_icmp_ge (tgt := 45) hx hb dX8_save_18 (by decide) (fun c1 => ?_) (fun c1 => ?_)
  · have hf := sr_t hf c1
    refine lv_aload_n hx hb dX8_save_45 rfl (lv_at hl 0 rfl) ?_
    refine fg_8_3 hX hV lk_669 (h0) dX8_save_46 ?_
    refine lv_iload_n hx hb dX8_save_49 rfl (lv_at hl 1 rfl) ?_
    refine lv_iconst (v := 1) hx hb dX8_save_50 (by decide) ?_
    obtain ⟨g2, hf⟩ := sr_gd hf
    obtain ⟨σ3, e4, hf⟩ := sr_bnd hf
    refine s_zast hX hV (n := 2) (b := true) (ch_8_3 (h0)) (by decide) (inb_in g2) dX8_save_51 (fun H locs hV => ?_)
    rw [e4] at hV
    refine lv_aload_n hx hb dX8_save_52 rfl (lv_at hl 0 rfl) ?_
    refine fg_8_0 hX hV lk_666 (h0) dX8_save_53 ?_
    refine lv_iconst (v := 1) hx hb dX8_save_56 (by decide) ?_
    refine s_iald hX hV (n := 257) (ch_8_0 (h0)) (by decide) (by unfold vp_in; decide) dX8_save_57 ?_
    cases hf
    exact s_iret hX hV dX8_save_58
  · have hf := sr_f hf c1
    refine lv_aload_n hx hb dX8_save_21 rfl (lv_at hl 0 rfl) ?_
    refine fg_8_2 hX hV lk_668 (h0) dX8_save_22 ?_
    refine lv_sipush (v := 257) hx hb dX8_save_25 (by decide) ?_
    refine lv_iload_n hx hb dX8_save_28 rfl (lv_at hl 1 rfl) ?_
    refine lv_imul hx hb dX8_save_29 ?_
    refine lv_iload_n hx hb dX8_save_30 rfl (lv_at hl 2 rfl) ?_
    refine lv_iadd hx hb dX8_save_31 ?_
    refine lv_aload_n hx hb dX8_save_32 rfl (lv_at hl 0 rfl) ?_
    refine fg_8_0 hX hV lk_666 (h0) dX8_save_33 ?_
    refine lv_iload_n hx hb dX8_save_36 rfl (lv_at hl 2 rfl) ?_
    obtain ⟨g5, hf⟩ := sr_gd hf
    refine s_iald hX hV (n := 257) (ch_8_0 (h0)) (by decide) (inb_in g5) dX8_save_37 ?_
    obtain ⟨v6, e7, hf⟩ := sr_bnd hf
    rw [e7]
    obtain ⟨g8, hf⟩ := sr_gd hf
    obtain ⟨σ9, e10, hf⟩ := sr_bnd hf
    refine s_iast hX hV (n := 514) (ch_8_2 (h0)) (by decide) (inb_in g8) dX8_save_38 (fun H locs hV => ?_)
    rw [e10] at hV
    obtain ⟨v11, e12, hf⟩ := sr_bnd hf
    refine lv_iinc (v := v11) (lv' := [(2, .int v11), (0, .ref (n0 + q0)), (1, .int x1)]) hx hb dX8_save_39 hl (k := 2) rfl (by rw [← e12]; rfl) (by decide) rfl (fun ls hl => ?_)
    refine lv_goto (tgt := 14) hx hb dX8_save_42 (by decide) ?_
    exact hrec14 _ _ _ _ _  (lv_sub hl [1, 2, 0] rfl) hV hf
set_option maxHeartbeats 4000000 in
set_option maxRecDepth 100000 in
theorem k_X8_save_L14w {p : Program} {l : Launch} {e : Env} {s : State} {m : MethodId} {args : Array Value} {below : List Frame} {meth : Method} {c : Code} {D : va_G} {aC : Nat → ClassId} {n0 : Nat} {r : Int32} {σ' : St} {q0 : Nat} {x1 : Int32} (hX : sr_X p s m args meth c cX8_save 3 (Option.some FieldType.int) RX8 D aC) (h0 : shM q0 = 9) (n : Nat) : ∀ (x2 : Int32) (σ : St) (H : Heap) (locs : List Loc) (ls : Array Slot) , lv_has ls 3 [(0, .ref (n0 + q0)), (1, .int x1), (2, .int x2)] → sr_V D aC shM n0 σ s.heap H locs → it2 (f_X8_save_L14 q0 x1) n x2 σ = some (r, σ') → W p l e rm_X8_save s m args below meth c H locs 0 0 (MQ below (sr_Qc D aC shM n0 σ' (some (.int r))) args s 0 0 (sr_A shM n0)) (F0 m 14 ls []) :=
  it2_ind (fun rec14 => ∀ (x2 : Int32) (σ : St) (H : Heap) (locs : List Loc) (ls : Array Slot) , lv_has ls 3 [(0, .ref (n0 + q0)), (1, .int x1), (2, .int x2)] → sr_V D aC shM n0 σ s.heap H locs → rec14 x2 σ = some (r, σ') → W p l e rm_X8_save s m args below meth c H locs 0 0 (MQ below (sr_Qc D aC shM n0 σ' (some (.int r))) args s 0 0 (sr_A shM n0)) (F0 m 14 ls [])) (by intros; rename_i hf; exact absurd hf (by simp)) (fun rec hrec => k_X8_save_L14 hX h0  rec hrec) n
set_option maxHeartbeats 4000000 in
set_option maxRecDepth 100000 in
theorem c_X8_save {l : Launch} {D : va_G} {aC : Nat → ClassId} {n0 : Nat} {r : Int32} {σ' : St}  {σ : St} {q0 : Nat} {x1 : Int32} (h0 : shM q0 = 9) (hf : f_X8_save q0 x1 σ = some (r, σ')) : sr_Met l D aC shM n0 yX8_save cX8_save 3 (Option.some FieldType.int) rm_X8_save [.ref (n0 + q0), .int x1] σ (some (.int r)) σ' := by
  refine s_met (own := RX8) (by decide) (Nat.le_of_ble_eq_true rfl) rfl ?_
  intro p e s m below meth c ls hX hV hl
  have hl : lv_has ls 3 [(0, .ref (n0 + q0)), (1, .int x1)] := hl
  have hx := hX.1.1
  have hb := hX.1.2.1
  unfold f_X8_save at hf
  refine lv_iload_n hx hb dX8_save_0 rfl (lv_at hl 1 rfl) ?_
  refine lv_iconst (v := 0) hx hb dX8_save_1 (by decide) ?_
  refine lv_iconst (v := 1) hx hb dX8_save_2 (by decide) ?_
  obtain ⟨v14, e13, hf⟩ := sr_bnd hf
  refine s_callS1 hX hV hl.1 (c_X8_in  e13) cs_X8_in lk_717 ⟨rfl, rfl, Nat.le_of_ble_eq_true rfl, Nat.le_of_ble_eq_true rfl⟩ rfl rfl (Nat.le_of_ble_eq_true rfl) dX8_save_3 ⟨Nat.le_of_ble_eq_true rfl, Nat.le_of_ble_eq_true rfl⟩ (fun H locs hV => ?_)
  refine lv_if_ne (tgt := 12) hx hb dX8_save_6 (by decide) (fun c15 => ?_) (fun c15 => ?_)
  · have hf := sr_t hf (sr_b1 c15)
    refine lv_iconst (v := 0) hx hb dX8_save_12 (by decide) ?_
    refine lv_istore_n (lv' := [(2, .int 0), (0, .ref (n0 + q0)), (1, .int x1)]) hx hb dX8_save_13 rfl hl (by decide) rfl (fun ls hl => ?_)
    exact k_X8_save_L14w hX h0  sr_fuel _ _ _ _ _  (lv_sub hl [1, 2, 0] rfl) hV hf
  · have hf := sr_f hf (sr_b0 c15)
    refine lv_bipush (v := (-11)) hx hb dX8_save_9 (by decide) ?_
    cases hf
    exact s_iret hX hV dX8_save_11
abbrev rm_X8_restore : Room := { frames := 1, cells := 0, slots := 0, locals := 22 }
theorem cv_X8_restore : sr_Cv yX8_restore cX8_restore 3 (Option.some FieldType.int) RX8 1 := ⟨lk_977, lk_975, lk_976, lk_9, rfl, by decide +kernel, by decide +kernel, by decide +kernel⟩
set_option maxHeartbeats 4000000 in
set_option maxRecDepth 100000 in
theorem k_X8_restore_L26 {p : Program} {l : Launch} {e : Env} {s : State} {m : MethodId} {args : Array Value} {below : List Frame} {meth : Method} {c : Code} {D : va_G} {aC : Nat → ClassId} {n0 : Nat} {r : Int32} {σ' : St} {q0 : Nat} {x1 : Int32} (hX : sr_X p s m args meth c cX8_restore 3 (Option.some FieldType.int) RX8 D aC) (h0 : shM q0 = 9) (rec26 : Int32 → St → Option (Int32 × St)) (hrec26 : ∀ (x2 : Int32) (σ : St) (H : Heap) (locs : List Loc) (ls : Array Slot) , lv_has ls 3 [(0, .ref (n0 + q0)), (1, .int x1), (2, .int x2)] → sr_V D aC shM n0 σ s.heap H locs → rec26 x2 σ = some (r, σ') → W p l e rm_X8_restore s m args below meth c H locs 0 0 (MQ below (sr_Qc D aC shM n0 σ' (some (.int r))) args s 0 0 (sr_A shM n0)) (F0 m 26 ls [])) : ∀ (x2 : Int32) (σ : St) (H : Heap) (locs : List Loc) (ls : Array Slot) , lv_has ls 3 [(0, .ref (n0 + q0)), (1, .int x1), (2, .int x2)] → sr_V D aC shM n0 σ s.heap H locs → f_X8_restore_L26 q0 x1 rec26 x2 σ = some (r, σ') → W p l e rm_X8_restore s m args below meth c H locs 0 0 (MQ below (sr_Qc D aC shM n0 σ' (some (.int r))) args s 0 0 (sr_A shM n0)) (F0 m 26 ls []) := by
  intro x2 σ H locs ls  hl hV hf
  have hx := hX.1.1
  have hb := hX.1.2.1
  unfold f_X8_restore_L26 at hf
  refine lv_iload_n hx hb dX8_restore_26 rfl (lv_at hl 2 rfl) ?_
  refine lv_sipush (v := 257) hx hb dX8_restore_27 (by decide) ?_
  refine lv_icmp_ge (tgt := 57) hx hb dX8_restore_30 (by decide) (fun c1 => ?_) (fun c1 => ?_)
  · have hf := sr_t hf c1
    refine lv_aload_n hx hb dX8_restore_57 rfl (lv_at hl 0 rfl) ?_
    refine fg_8_0 hX hV lk_666 (h0) dX8_restore_58 ?_
    refine lv_iconst (v := 1) hx hb dX8_restore_61 (by decide) ?_
    refine s_iald hX hV (n := 257) (ch_8_0 (h0)) (by decide) (by unfold vp_in; decide) dX8_restore_62 ?_
    cases hf
    exact s_iret hX hV dX8_restore_63
  · have hf := sr_f hf c1
    refine lv_aload_n hx hb dX8_restore_33 rfl (lv_at hl 0 rfl) ?_
    refine fg_8_0 hX hV lk_666 (h0) dX8_restore_34 ?_
    refine lv_iload_n hx hb dX8_restore_37 rfl (lv_at hl 2 rfl) ?_
    refine lv_aload_n hx hb dX8_restore_38 rfl (lv_at hl 0 rfl) ?_
    refine fg_8_2 hX hV lk_668 (h0) dX8_restore_39 ?_
    refine lv_sipush (v := 257) hx hb dX8_restore_42 (by decide) ?_
    refine lv_iload_n hx hb dX8_restore_45 rfl (lv_at hl 1 rfl) ?_
    refine lv_imul hx hb dX8_restore_46 ?_
    refine lv_iload_n hx hb dX8_restore_47 rfl (lv_at hl 2 rfl) ?_
    refine lv_iadd hx hb dX8_restore_48 ?_
    obtain ⟨v2, e3, hf⟩ := sr_bnd hf
    rw [e3]
    obtain ⟨g4, hf⟩ := sr_gd hf
    refine s_iald hX hV (n := 514) (ch_8_2 (h0)) (by decide) (inb_in g4) dX8_restore_49 ?_
    obtain ⟨g5, hf⟩ := sr_gd hf
    obtain ⟨σ6, e7, hf⟩ := sr_bnd hf
    refine s_iast hX hV (n := 257) (ch_8_0 (h0)) (by decide) (inb_in g5) dX8_restore_50 (fun H locs hV => ?_)
    rw [e7] at hV
    obtain ⟨v8, e9, hf⟩ := sr_bnd hf
    refine lv_iinc (v := v8) (lv' := [(2, .int v8), (0, .ref (n0 + q0)), (1, .int x1)]) hx hb dX8_restore_51 hl (k := 2) rfl (by rw [← e9]; rfl) (by decide) rfl (fun ls hl => ?_)
    refine lv_goto (tgt := 26) hx hb dX8_restore_54 (by decide) ?_
    exact hrec26 _ _ _ _ _  (lv_sub hl [1, 2, 0] rfl) hV hf
set_option maxHeartbeats 4000000 in
set_option maxRecDepth 100000 in
theorem k_X8_restore_L26w {p : Program} {l : Launch} {e : Env} {s : State} {m : MethodId} {args : Array Value} {below : List Frame} {meth : Method} {c : Code} {D : va_G} {aC : Nat → ClassId} {n0 : Nat} {r : Int32} {σ' : St} {q0 : Nat} {x1 : Int32} (hX : sr_X p s m args meth c cX8_restore 3 (Option.some FieldType.int) RX8 D aC) (h0 : shM q0 = 9) (n : Nat) : ∀ (x2 : Int32) (σ : St) (H : Heap) (locs : List Loc) (ls : Array Slot) , lv_has ls 3 [(0, .ref (n0 + q0)), (1, .int x1), (2, .int x2)] → sr_V D aC shM n0 σ s.heap H locs → it2 (f_X8_restore_L26 q0 x1) n x2 σ = some (r, σ') → W p l e rm_X8_restore s m args below meth c H locs 0 0 (MQ below (sr_Qc D aC shM n0 σ' (some (.int r))) args s 0 0 (sr_A shM n0)) (F0 m 26 ls []) :=
  it2_ind (fun rec26 => ∀ (x2 : Int32) (σ : St) (H : Heap) (locs : List Loc) (ls : Array Slot) , lv_has ls 3 [(0, .ref (n0 + q0)), (1, .int x1), (2, .int x2)] → sr_V D aC shM n0 σ s.heap H locs → rec26 x2 σ = some (r, σ') → W p l e rm_X8_restore s m args below meth c H locs 0 0 (MQ below (sr_Qc D aC shM n0 σ' (some (.int r))) args s 0 0 (sr_A shM n0)) (F0 m 26 ls [])) (by intros; rename_i hf; exact absurd hf (by simp)) (fun rec hrec => k_X8_restore_L26 hX h0  rec hrec) n
set_option maxHeartbeats 4000000 in
set_option maxRecDepth 100000 in
theorem c_X8_restore {l : Launch} {D : va_G} {aC : Nat → ClassId} {n0 : Nat} {r : Int32} {σ' : St}  {σ : St} {q0 : Nat} {x1 : Int32} (h0 : shM q0 = 9) (hf : f_X8_restore q0 x1 σ = some (r, σ')) : sr_Met l D aC shM n0 yX8_restore cX8_restore 3 (Option.some FieldType.int) rm_X8_restore [.ref (n0 + q0), .int x1] σ (some (.int r)) σ' := by
  refine s_met (own := RX8) (by decide) (Nat.le_of_ble_eq_true rfl) rfl ?_
  intro p e s m below meth c ls hX hV hl
  have hl : lv_has ls 3 [(0, .ref (n0 + q0)), (1, .int x1)] := hl
  have hx := hX.1.1
  have hb := hX.1.2.1
  unfold f_X8_restore at hf
  refine lv_iload_n hx hb dX8_restore_0 rfl (lv_at hl 1 rfl) ?_
  refine lv_iconst (v := 0) hx hb dX8_restore_1 (by decide) ?_
  refine lv_iconst (v := 1) hx hb dX8_restore_2 (by decide) ?_
  obtain ⟨v11, e10, hf⟩ := sr_bnd hf
  refine s_callS1 hX hV hl.1 (c_X8_in  e10) cs_X8_in lk_717 ⟨rfl, rfl, Nat.le_of_ble_eq_true rfl, Nat.le_of_ble_eq_true rfl⟩ rfl rfl (Nat.le_of_ble_eq_true rfl) dX8_restore_3 ⟨Nat.le_of_ble_eq_true rfl, Nat.le_of_ble_eq_true rfl⟩ (fun H locs hV => ?_)
  refine lv_if_ne (tgt := 12) hx hb dX8_restore_6 (by decide) (fun c12 => ?_) (fun c12 => ?_)
  · have hf := sr_t hf (sr_b1 c12)
    refine lv_aload_n hx hb dX8_restore_12 rfl (lv_at hl 0 rfl) ?_
    refine fg_8_3 hX hV lk_669 (h0) dX8_restore_13 ?_
    refine lv_iload_n hx hb dX8_restore_16 rfl (lv_at hl 1 rfl) ?_
    obtain ⟨g13, hf⟩ := sr_gd hf
    refine s_zald hX hV (n := 2) (ch_8_3 (h0)) (by decide) (inb_in g13) dX8_restore_17 ?_
    refine lv_if_ne (tgt := 24) hx hb dX8_restore_18 (by decide) (fun c14 => ?_) (fun c14 => ?_)
    · have hf := sr_t hf (sr_b1 c14)
      refine lv_iconst (v := 0) hx hb dX8_restore_24 (by decide) ?_
      refine lv_istore_n (lv' := [(2, .int 0), (0, .ref (n0 + q0)), (1, .int x1)]) hx hb dX8_restore_25 rfl hl (by decide) rfl (fun ls hl => ?_)
      exact k_X8_restore_L26w hX h0  sr_fuel _ _ _ _ _  (lv_sub hl [1, 2, 0] rfl) hV hf
    · have hf := sr_f hf (sr_b0 c14)
      refine lv_bipush (v := (-13)) hx hb dX8_restore_21 (by decide) ?_
      cases hf
      exact s_iret hX hV dX8_restore_23
  · have hf := sr_f hf (sr_b0 c12)
    refine lv_bipush (v := (-11)) hx hb dX8_restore_9 (by decide) ?_
    cases hf
    exact s_iret hX hV dX8_restore_11
abbrev rm_X8_more : Room := { frames := 0, cells := 0, slots := 0, locals := 0 }
theorem cs_X8_more : sr_Cs yX8_more cX8_more 4 (Option.some FieldType.long) RX8 2 := ⟨lk_985, lk_984, lk_9, rfl, by decide +kernel, by decide +kernel, by decide +kernel⟩
set_option maxHeartbeats 4000000 in
set_option maxRecDepth 100000 in
theorem c_X8_more {l : Launch} {D : va_G} {aC : Nat → ClassId} {n0 : Nat} {sh : Nat → Nat} {r : Int64} {σ : St}  {w0 : Int64} {w2 : Int64}  (hf : f_X8_more w0 w2 = r) : sr_Met l D aC sh n0 yX8_more cX8_more 4 (Option.some FieldType.long) rm_X8_more [.long w0, .long w2] σ (some (.long r)) σ := by
  refine s_met (own := RX8) (by decide) (Nat.le_of_ble_eq_true rfl) rfl ?_
  intro p e s m below meth c ls hX hV hl
  have hl : lv_has ls 4 [(0, .long w0), (2, .long w2)] := hl
  have hx := hX.1.1
  have hb := hX.1.2.1
  unfold f_X8_more at hf
  refine lv_ldc2 hx hb hX.1.2.2.2.1 (s_w hX lk_986) dX8_more_0 ?_
  refine lv_lload_n hx hb dX8_more_3 rfl (lv_at hl 0 rfl) ?_
  refine lv_lmul hx hb dX8_more_4 ?_
  refine lv_lload_n hx hb dX8_more_5 rfl (lv_at hl 1 rfl) ?_
  refine lv_ladd hx hb dX8_more_6 ?_
  cases hf
  exact s_lret hX hV dX8_more_7
abbrev rm_X8_checksum : Room := { frames := 7, cells := 0, slots := 0, locals := 157 }
theorem cv_X8_checksum : sr_Cv yX8_checksum cX8_checksum 5 (Option.some FieldType.long) RX8 0 := ⟨lk_981, lk_979, lk_980, lk_9, rfl, by decide +kernel, by decide +kernel, by decide +kernel⟩
set_option maxHeartbeats 4000000 in
set_option maxRecDepth 100000 in
theorem k_X8_checksum_L172 {p : Program} {l : Launch} {e : Env} {s : State} {m : MethodId} {args : Array Value} {below : List Frame} {meth : Method} {c : Code} {D : va_G} {aC : Nat → ClassId} {n0 : Nat} {r : Int64} {σ' : St} {q0 : Nat} (hX : sr_X p s m args meth c cX8_checksum 5 (Option.some FieldType.long) RX8 D aC) (h0 : shM q0 = 9) (rec172 : Int64 → Int32 → St → Option (Int64 × St)) (hrec172 : ∀ (w1 : Int64) (x3 : Int32) (σ : St) (H : Heap) (locs : List Loc) (ls : Array Slot) , lv_has ls 5 [(0, .ref (n0 + q0)), (1, .long w1), (3, .int x3)] → sr_V D aC shM n0 σ s.heap H locs → rec172 w1 x3 σ = some (r, σ') → W p l e rm_X8_checksum s m args below meth c H locs 0 0 (MQ below (sr_Qc D aC shM n0 σ' (some (.long r))) args s 0 0 (sr_A shM n0)) (F0 m 172 ls [])) : ∀ (w1 : Int64) (x3 : Int32) (σ : St) (H : Heap) (locs : List Loc) (ls : Array Slot) , lv_has ls 5 [(0, .ref (n0 + q0)), (1, .long w1), (3, .int x3)] → sr_V D aC shM n0 σ s.heap H locs → f_X8_checksum_L172 q0 rec172 w1 x3 σ = some (r, σ') → W p l e rm_X8_checksum s m args below meth c H locs 0 0 (MQ below (sr_Qc D aC shM n0 σ' (some (.long r))) args s 0 0 (sr_A shM n0)) (F0 m 172 ls []) := by
  intro w1 x3 σ H locs ls  hl hV hf
  have hx := hX.1.1
  have hb := hX.1.2.1
  unfold f_X8_checksum_L172 at hf
  refine lv_iload_n hx hb dX8_checksum_172 rfl (lv_at hl 2 rfl) ?_
  refine lv_bipush (v := 12) hx hb dX8_checksum_173 (by decide) ?_
  refine lv_iconst (v := 4) hx hb dX8_checksum_175 (by decide) ?_
  refine lv_aload_n hx hb dX8_checksum_176 rfl (lv_at hl 0 rfl) ?_
  refine fg_8_0 hX hV lk_666 (h0) dX8_checksum_177 ?_
  refine lv_bipush (v := 11) hx hb dX8_checksum_180 (by decide) ?_
  refine s_iald hX hV (n := 257) (ch_8_0 (h0)) (by decide) (by unfold vp_in; decide) dX8_checksum_182 ?_
  refine lv_imul hx hb dX8_checksum_183 ?_
  refine lv_iadd hx hb dX8_checksum_184 ?_
  refine lv_icmp_ge (tgt := 206) hx hb dX8_checksum_185 (by decide) (fun c1 => ?_) (fun c1 => ?_)
  · have hf := sr_t hf c1
    refine lv_lload_n hx hb dX8_checksum_206 rfl (lv_at hl 1 rfl) ?_
    cases hf
    exact s_lret hX hV dX8_checksum_207
  · have hf := sr_f hf c1
    refine lv_lload_n hx hb dX8_checksum_188 rfl (lv_at hl 1 rfl) ?_
    refine lv_aload_n hx hb dX8_checksum_189 rfl (lv_at hl 0 rfl) ?_
    refine fg_8_0 hX hV lk_666 (h0) dX8_checksum_190 ?_
    refine lv_iload_n hx hb dX8_checksum_193 rfl (lv_at hl 2 rfl) ?_
    obtain ⟨g2, hf⟩ := sr_gd hf
    refine s_iald hX hV (n := 257) (ch_8_0 (h0)) (by decide) (inb_in g2) dX8_checksum_194 ?_
    refine lv_i2l hx hb dX8_checksum_195 rfl ?_
    obtain ⟨v4, e3, hf⟩ := sr_bnd hf
    refine s_callS1 hX hV hl.1 (c_X8_more  e3) cs_X8_more lk_983 ⟨rfl, rfl, Nat.le_of_ble_eq_true rfl, Nat.le_of_ble_eq_true rfl⟩ rfl rfl (Nat.le_of_ble_eq_true rfl) dX8_checksum_196 ⟨Nat.le_of_ble_eq_true rfl, Nat.le_of_ble_eq_true rfl⟩ (fun H locs hV => ?_)
    refine lv_lstore_n (lv' := [(1, .long v4), (0, .ref (n0 + q0)), (3, .int x3)]) hx hb dX8_checksum_199 rfl hl (by decide) rfl (fun ls hl => ?_)
    obtain ⟨v5, e6, hf⟩ := sr_bnd hf
    refine lv_iinc (v := v5) (lv' := [(3, .int v5), (1, .long v4), (0, .ref (n0 + q0))]) hx hb dX8_checksum_200 hl (k := 2) rfl (by rw [← e6]; rfl) (by decide) rfl (fun ls hl => ?_)
    refine lv_goto (tgt := 172) hx hb dX8_checksum_203 (by decide) ?_
    exact hrec172 _ _ _ _ _ _  (lv_sub hl [2, 1, 0] rfl) hV hf
set_option maxHeartbeats 4000000 in
set_option maxRecDepth 100000 in
theorem k_X8_checksum_L172w {p : Program} {l : Launch} {e : Env} {s : State} {m : MethodId} {args : Array Value} {below : List Frame} {meth : Method} {c : Code} {D : va_G} {aC : Nat → ClassId} {n0 : Nat} {r : Int64} {σ' : St} {q0 : Nat} (hX : sr_X p s m args meth c cX8_checksum 5 (Option.some FieldType.long) RX8 D aC) (h0 : shM q0 = 9) (n : Nat) : ∀ (w1 : Int64) (x3 : Int32) (σ : St) (H : Heap) (locs : List Loc) (ls : Array Slot) , lv_has ls 5 [(0, .ref (n0 + q0)), (1, .long w1), (3, .int x3)] → sr_V D aC shM n0 σ s.heap H locs → it3 (f_X8_checksum_L172 q0) n w1 x3 σ = some (r, σ') → W p l e rm_X8_checksum s m args below meth c H locs 0 0 (MQ below (sr_Qc D aC shM n0 σ' (some (.long r))) args s 0 0 (sr_A shM n0)) (F0 m 172 ls []) :=
  it3_ind (fun rec172 => ∀ (w1 : Int64) (x3 : Int32) (σ : St) (H : Heap) (locs : List Loc) (ls : Array Slot) , lv_has ls 5 [(0, .ref (n0 + q0)), (1, .long w1), (3, .int x3)] → sr_V D aC shM n0 σ s.heap H locs → rec172 w1 x3 σ = some (r, σ') → W p l e rm_X8_checksum s m args below meth c H locs 0 0 (MQ below (sr_Qc D aC shM n0 σ' (some (.long r))) args s 0 0 (sr_A shM n0)) (F0 m 172 ls [])) (by intros; rename_i hf; exact absurd hf (by simp)) (fun rec hrec => k_X8_checksum_L172 hX h0  rec hrec) n
set_option maxHeartbeats 4000000 in
set_option maxRecDepth 100000 in
theorem k_X8_checksum_L129 {p : Program} {l : Launch} {e : Env} {s : State} {m : MethodId} {args : Array Value} {below : List Frame} {meth : Method} {c : Code} {D : va_G} {aC : Nat → ClassId} {n0 : Nat} {r : Int64} {σ' : St} {q0 : Nat} (hX : sr_X p s m args meth c cX8_checksum 5 (Option.some FieldType.long) RX8 D aC) (h0 : shM q0 = 9) (rec129 : Int64 → Int32 → St → Option (Int64 × St)) (hrec129 : ∀ (w1 : Int64) (x3 : Int32) (σ : St) (H : Heap) (locs : List Loc) (ls : Array Slot) , lv_has ls 5 [(0, .ref (n0 + q0)), (1, .long w1), (3, .int x3)] → sr_V D aC shM n0 σ s.heap H locs → rec129 w1 x3 σ = some (r, σ') → W p l e rm_X8_checksum s m args below meth c H locs 0 0 (MQ below (sr_Qc D aC shM n0 σ' (some (.long r))) args s 0 0 (sr_A shM n0)) (F0 m 129 ls [])) : ∀ (w1 : Int64) (x3 : Int32) (σ : St) (H : Heap) (locs : List Loc) (ls : Array Slot) , lv_has ls 5 [(0, .ref (n0 + q0)), (1, .long w1), (3, .int x3)] → sr_V D aC shM n0 σ s.heap H locs → f_X8_checksum_L129 q0 rec129 w1 x3 σ = some (r, σ') → W p l e rm_X8_checksum s m args below meth c H locs 0 0 (MQ below (sr_Qc D aC shM n0 σ' (some (.long r))) args s 0 0 (sr_A shM n0)) (F0 m 129 ls []) := by
  intro w1 x3 σ H locs ls  hl hV hf
  have hx := hX.1.1
  have hb := hX.1.2.1
  unfold f_X8_checksum_L129 at hf
  refine lv_iload_n hx hb dX8_checksum_129 rfl (lv_at hl 2 rfl) ?_
  refine lv_aload_n hx hb dX8_checksum_130 rfl (lv_at hl 0 rfl) ?_
  refine fg_8_0 hX hV lk_666 (h0) dX8_checksum_131 ?_
  refine lv_iconst (v := 0) hx hb dX8_checksum_134 (by decide) ?_
  refine s_iald hX hV (n := 257) (ch_8_0 (h0)) (by decide) (by unfold vp_in; decide) dX8_checksum_135 ?_
  refine lv_icmp_ge (tgt := 156) hx hb dX8_checksum_136 (by decide) (fun c7 => ?_) (fun c7 => ?_)
  · have hf := sr_t hf c7
    refine lv_lload_n hx hb dX8_checksum_156 rfl (lv_at hl 1 rfl) ?_
    refine lv_aload_n hx hb dX8_checksum_157 rfl (lv_at hl 0 rfl) ?_
    refine fg_8_0 hX hV lk_666 (h0) dX8_checksum_158 ?_
    refine lv_bipush (v := 11) hx hb dX8_checksum_161 (by decide) ?_
    refine s_iald hX hV (n := 257) (ch_8_0 (h0)) (by decide) (by unfold vp_in; decide) dX8_checksum_163 ?_
    refine lv_i2l hx hb dX8_checksum_164 rfl ?_
    obtain ⟨v9, e8, hf⟩ := sr_bnd hf
    refine s_callS1 hX hV hl.1 (c_X8_more  e8) cs_X8_more lk_983 ⟨rfl, rfl, Nat.le_of_ble_eq_true rfl, Nat.le_of_ble_eq_true rfl⟩ rfl rfl (Nat.le_of_ble_eq_true rfl) dX8_checksum_165 ⟨Nat.le_of_ble_eq_true rfl, Nat.le_of_ble_eq_true rfl⟩ (fun H locs hV => ?_)
    refine lv_lstore_n (lv' := [(1, .long v9), (0, .ref (n0 + q0)), (3, .int x3)]) hx hb dX8_checksum_168 rfl hl (by decide) rfl (fun ls hl => ?_)
    refine lv_bipush (v := 12) hx hb dX8_checksum_169 (by decide) ?_
    refine lv_istore_n (lv' := [(3, .int 12), (1, .long v9), (0, .ref (n0 + q0))]) hx hb dX8_checksum_171 rfl hl (by decide) rfl (fun ls hl => ?_)
    exact k_X8_checksum_L172w hX h0  sr_fuel _ _ _ _ _ _  (lv_sub hl [2, 1, 0] rfl) hV hf
  · have hf := sr_f hf c7
    refine lv_lload_n hx hb dX8_checksum_139 rfl (lv_at hl 1 rfl) ?_
    refine lv_aload_n hx hb dX8_checksum_140 rfl (lv_at hl 0 rfl) ?_
    refine lv_iload_n hx hb dX8_checksum_141 rfl (lv_at hl 2 rfl) ?_
    obtain ⟨v11, e10, hf⟩ := sr_obd hf
    refine s_callV1 (ci := 8) hX hV hl.1 (c_X8_having (h0) e10) cv_X8_having lk_942 ⟨rfl, rfl, Nat.le_of_ble_eq_true rfl, Nat.le_of_ble_eq_true rfl⟩ rfl (by decide) (h0) rfl rfl (Nat.le_of_ble_eq_true rfl) dX8_checksum_142 ⟨Nat.le_of_ble_eq_true rfl, Nat.le_of_ble_eq_true rfl⟩ (fun H locs hV => ?_)
    refine lv_i2l hx hb dX8_checksum_145 rfl ?_
    obtain ⟨v13, e12, hf⟩ := sr_bnd hf
    refine s_callS1 hX hV hl.1 (c_X8_more  e12) cs_X8_more lk_983 ⟨rfl, rfl, Nat.le_of_ble_eq_true rfl, Nat.le_of_ble_eq_true rfl⟩ rfl rfl (Nat.le_of_ble_eq_true rfl) dX8_checksum_146 ⟨Nat.le_of_ble_eq_true rfl, Nat.le_of_ble_eq_true rfl⟩ (fun H locs hV => ?_)
    refine lv_lstore_n (lv' := [(1, .long v13), (0, .ref (n0 + q0)), (3, .int x3)]) hx hb dX8_checksum_149 rfl hl (by decide) rfl (fun ls hl => ?_)
    obtain ⟨v14, e15, hf⟩ := sr_bnd hf
    refine lv_iinc (v := v14) (lv' := [(3, .int v14), (1, .long v13), (0, .ref (n0 + q0))]) hx hb dX8_checksum_150 hl (k := 2) rfl (by rw [← e15]; rfl) (by decide) rfl (fun ls hl => ?_)
    refine lv_goto (tgt := 129) hx hb dX8_checksum_153 (by decide) ?_
    exact hrec129 _ _ _ _ _ _  (lv_sub hl [2, 1, 0] rfl) hV hf
set_option maxHeartbeats 4000000 in
set_option maxRecDepth 100000 in
theorem k_X8_checksum_L129w {p : Program} {l : Launch} {e : Env} {s : State} {m : MethodId} {args : Array Value} {below : List Frame} {meth : Method} {c : Code} {D : va_G} {aC : Nat → ClassId} {n0 : Nat} {r : Int64} {σ' : St} {q0 : Nat} (hX : sr_X p s m args meth c cX8_checksum 5 (Option.some FieldType.long) RX8 D aC) (h0 : shM q0 = 9) (n : Nat) : ∀ (w1 : Int64) (x3 : Int32) (σ : St) (H : Heap) (locs : List Loc) (ls : Array Slot) , lv_has ls 5 [(0, .ref (n0 + q0)), (1, .long w1), (3, .int x3)] → sr_V D aC shM n0 σ s.heap H locs → it3 (f_X8_checksum_L129 q0) n w1 x3 σ = some (r, σ') → W p l e rm_X8_checksum s m args below meth c H locs 0 0 (MQ below (sr_Qc D aC shM n0 σ' (some (.long r))) args s 0 0 (sr_A shM n0)) (F0 m 129 ls []) :=
  it3_ind (fun rec129 => ∀ (w1 : Int64) (x3 : Int32) (σ : St) (H : Heap) (locs : List Loc) (ls : Array Slot) , lv_has ls 5 [(0, .ref (n0 + q0)), (1, .long w1), (3, .int x3)] → sr_V D aC shM n0 σ s.heap H locs → rec129 w1 x3 σ = some (r, σ') → W p l e rm_X8_checksum s m args below meth c H locs 0 0 (MQ below (sr_Qc D aC shM n0 σ' (some (.long r))) args s 0 0 (sr_A shM n0)) (F0 m 129 ls [])) (by intros; rename_i hf; exact absurd hf (by simp)) (fun rec hrec => k_X8_checksum_L129 hX h0  rec hrec) n
set_option maxHeartbeats 4000000 in
set_option maxRecDepth 100000 in
theorem k_X8_checksum_L70 {p : Program} {l : Launch} {e : Env} {s : State} {m : MethodId} {args : Array Value} {below : List Frame} {meth : Method} {c : Code} {D : va_G} {aC : Nat → ClassId} {n0 : Nat} {r : Int64} {σ' : St} {q0 : Nat} (hX : sr_X p s m args meth c cX8_checksum 5 (Option.some FieldType.long) RX8 D aC) (h0 : shM q0 = 9) {rec27 : Int64 → Int32 → St → Option (Int64 × St)} (hrec27 : ∀ (w1 : Int64) (x3 : Int32) (σ : St) (H : Heap) (locs : List Loc) (ls : Array Slot) , lv_has ls 5 [(0, .ref (n0 + q0)), (1, .long w1), (3, .int x3)] → sr_V D aC shM n0 σ s.heap H locs → rec27 w1 x3 σ = some (r, σ') → W p l e rm_X8_checksum s m args below meth c H locs 0 0 (MQ below (sr_Qc D aC shM n0 σ' (some (.long r))) args s 0 0 (sr_A shM n0)) (F0 m 27 ls [])) (rec70 : Int64 → Int32 → Int32 → St → Option (Int64 × St)) (hrec70 : ∀ (w1 : Int64) (x3 : Int32) (x4 : Int32) (σ : St) (H : Heap) (locs : List Loc) (ls : Array Slot) , lv_has ls 5 [(0, .ref (n0 + q0)), (1, .long w1), (3, .int x3), (4, .int x4)] → sr_V D aC shM n0 σ s.heap H locs → rec70 w1 x3 x4 σ = some (r, σ') → W p l e rm_X8_checksum s m args below meth c H locs 0 0 (MQ below (sr_Qc D aC shM n0 σ' (some (.long r))) args s 0 0 (sr_A shM n0)) (F0 m 70 ls [])) : ∀ (w1 : Int64) (x3 : Int32) (x4 : Int32) (σ : St) (H : Heap) (locs : List Loc) (ls : Array Slot) , lv_has ls 5 [(0, .ref (n0 + q0)), (1, .long w1), (3, .int x3), (4, .int x4)] → sr_V D aC shM n0 σ s.heap H locs → f_X8_checksum_L70 q0 rec27 rec70 w1 x3 x4 σ = some (r, σ') → W p l e rm_X8_checksum s m args below meth c H locs 0 0 (MQ below (sr_Qc D aC shM n0 σ' (some (.long r))) args s 0 0 (sr_A shM n0)) (F0 m 70 ls []) := by
  intro w1 x3 x4 σ H locs ls  hl hV hf
  have hx := hX.1.1
  have hb := hX.1.2.1
  unfold f_X8_checksum_L70 at hf
  refine lv_iload hx hb dX8_checksum_70 (lv_at hl 3 rfl) ?_
  refine lv_iconst (v := 4) hx hb dX8_checksum_72 (by decide) ?_
  refine lv_icmp_ge (tgt := 101) hx hb dX8_checksum_73 (by decide) (fun c16 => ?_) (fun c16 => ?_)
  · have hf := sr_t hf c16
    refine lv_lload_n hx hb dX8_checksum_101 rfl (lv_at hl 1 rfl) ?_
    refine lv_aload_n hx hb dX8_checksum_102 rfl (lv_at hl 0 rfl) ?_
    refine lv_iload_n hx hb dX8_checksum_103 rfl (lv_at hl 2 rfl) ?_
    refine lv_iconst (v := 0) hx hb dX8_checksum_104 (by decide) ?_
    obtain ⟨v18, σ19, e17, hf⟩ := sr_ob2 hf
    refine s_callV1 (ci := 8) hX hV hl.1 (c_X8_chance (h0) e17) cv_X8_chance lk_987 ⟨rfl, rfl, Nat.le_of_ble_eq_true rfl, Nat.le_of_ble_eq_true rfl⟩ rfl (by decide) (h0) rfl rfl (Nat.le_of_ble_eq_true rfl) dX8_checksum_105 ⟨Nat.le_of_ble_eq_true rfl, Nat.le_of_ble_eq_true rfl⟩ (fun H locs hV => ?_)
    obtain ⟨v21, e20, hf⟩ := sr_bnd hf
    refine s_callS1 hX hV hl.1 (c_X8_more  e20) cs_X8_more lk_983 ⟨rfl, rfl, Nat.le_of_ble_eq_true rfl, Nat.le_of_ble_eq_true rfl⟩ rfl rfl (Nat.le_of_ble_eq_true rfl) dX8_checksum_108 ⟨Nat.le_of_ble_eq_true rfl, Nat.le_of_ble_eq_true rfl⟩ (fun H locs hV => ?_)
    refine lv_aload_n hx hb dX8_checksum_111 rfl (lv_at hl 0 rfl) ?_
    refine lv_iload_n hx hb dX8_checksum_112 rfl (lv_at hl 2 rfl) ?_
    refine lv_iconst (v := 1) hx hb dX8_checksum_113 (by decide) ?_
    obtain ⟨v23, σ24, e22, hf⟩ := sr_ob2 hf
    refine s_callV1 (ci := 8) hX hV hl.1 (c_X8_chance (h0) e22) cv_X8_chance lk_987 ⟨rfl, rfl, Nat.le_of_ble_eq_true rfl, Nat.le_of_ble_eq_true rfl⟩ rfl (by decide) (h0) rfl rfl (Nat.le_of_ble_eq_true rfl) dX8_checksum_114 ⟨Nat.le_of_ble_eq_true rfl, Nat.le_of_ble_eq_true rfl⟩ (fun H locs hV => ?_)
    obtain ⟨v26, e25, hf⟩ := sr_bnd hf
    refine s_callS1 hX hV hl.1 (c_X8_more  e25) cs_X8_more lk_983 ⟨rfl, rfl, Nat.le_of_ble_eq_true rfl, Nat.le_of_ble_eq_true rfl⟩ rfl rfl (Nat.le_of_ble_eq_true rfl) dX8_checksum_117 ⟨Nat.le_of_ble_eq_true rfl, Nat.le_of_ble_eq_true rfl⟩ (fun H locs hV => ?_)
    refine lv_lstore_n (lv' := [(1, .long v26), (0, .ref (n0 + q0)), (3, .int x3), (4, .int x4)]) hx hb dX8_checksum_120 rfl hl (by decide) rfl (fun ls hl => ?_)
    obtain ⟨v27, e28, hf⟩ := sr_bnd hf
    refine lv_iinc (v := v27) (lv' := [(3, .int v27), (1, .long v26), (0, .ref (n0 + q0)), (4, .int x4)]) hx hb dX8_checksum_121 hl (k := 2) rfl (by rw [← e28]; rfl) (by decide) rfl (fun ls hl => ?_)
    refine lv_goto (tgt := 27) hx hb dX8_checksum_124 (by decide) ?_
    exact hrec27 _ _ _ _ _ _  (lv_sub hl [2, 1, 0] rfl) hV hf
  · have hf := sr_f hf c16
    refine lv_lload_n hx hb dX8_checksum_76 rfl (lv_at hl 1 rfl) ?_
    refine lv_aload_n hx hb dX8_checksum_77 rfl (lv_at hl 0 rfl) ?_
    refine fg_8_0 hX hV lk_666 (h0) dX8_checksum_78 ?_
    refine lv_iload_n hx hb dX8_checksum_81 rfl (lv_at hl 2 rfl) ?_
    refine lv_iconst (v := 5) hx hb dX8_checksum_82 (by decide) ?_
    refine lv_iload hx hb dX8_checksum_83 (lv_at hl 3 rfl) ?_
    refine lv_iadd hx hb dX8_checksum_85 ?_
    obtain ⟨v30, e29, hf⟩ := sr_bnd hf
    refine s_callS1 hX hV hl.1 (c_X8_at  e29) cs_X8_at lk_740 ⟨rfl, rfl, Nat.le_of_ble_eq_true rfl, Nat.le_of_ble_eq_true rfl⟩ rfl rfl (Nat.le_of_ble_eq_true rfl) dX8_checksum_86 ⟨Nat.le_of_ble_eq_true rfl, Nat.le_of_ble_eq_true rfl⟩ (fun H locs hV => ?_)
    obtain ⟨g31, hf⟩ := sr_gd hf
    refine s_iald hX hV (n := 257) (ch_8_0 (h0)) (by decide) (inb_in g31) dX8_checksum_89 ?_
    refine lv_i2l hx hb dX8_checksum_90 rfl ?_
    obtain ⟨v33, e32, hf⟩ := sr_bnd hf
    refine s_callS1 hX hV hl.1 (c_X8_more  e32) cs_X8_more lk_983 ⟨rfl, rfl, Nat.le_of_ble_eq_true rfl, Nat.le_of_ble_eq_true rfl⟩ rfl rfl (Nat.le_of_ble_eq_true rfl) dX8_checksum_91 ⟨Nat.le_of_ble_eq_true rfl, Nat.le_of_ble_eq_true rfl⟩ (fun H locs hV => ?_)
    refine lv_lstore_n (lv' := [(1, .long v33), (0, .ref (n0 + q0)), (3, .int x3), (4, .int x4)]) hx hb dX8_checksum_94 rfl hl (by decide) rfl (fun ls hl => ?_)
    obtain ⟨v34, e35, hf⟩ := sr_bnd hf
    refine lv_iinc (v := v34) (lv' := [(4, .int v34), (1, .long v33), (0, .ref (n0 + q0)), (3, .int x3)]) hx hb dX8_checksum_95 hl (k := 3) rfl (by rw [← e35]; rfl) (by decide) rfl (fun ls hl => ?_)
    refine lv_goto (tgt := 70) hx hb dX8_checksum_98 (by decide) ?_
    exact hrec70 _ _ _ _ _ _ _  (lv_sub hl [2, 1, 3, 0] rfl) hV hf
set_option maxHeartbeats 4000000 in
set_option maxRecDepth 100000 in
theorem k_X8_checksum_L70w {p : Program} {l : Launch} {e : Env} {s : State} {m : MethodId} {args : Array Value} {below : List Frame} {meth : Method} {c : Code} {D : va_G} {aC : Nat → ClassId} {n0 : Nat} {r : Int64} {σ' : St} {q0 : Nat} (hX : sr_X p s m args meth c cX8_checksum 5 (Option.some FieldType.long) RX8 D aC) (h0 : shM q0 = 9) {rec27 : Int64 → Int32 → St → Option (Int64 × St)} (hrec27 : ∀ (w1 : Int64) (x3 : Int32) (σ : St) (H : Heap) (locs : List Loc) (ls : Array Slot) , lv_has ls 5 [(0, .ref (n0 + q0)), (1, .long w1), (3, .int x3)] → sr_V D aC shM n0 σ s.heap H locs → rec27 w1 x3 σ = some (r, σ') → W p l e rm_X8_checksum s m args below meth c H locs 0 0 (MQ below (sr_Qc D aC shM n0 σ' (some (.long r))) args s 0 0 (sr_A shM n0)) (F0 m 27 ls [])) (n : Nat) : ∀ (w1 : Int64) (x3 : Int32) (x4 : Int32) (σ : St) (H : Heap) (locs : List Loc) (ls : Array Slot) , lv_has ls 5 [(0, .ref (n0 + q0)), (1, .long w1), (3, .int x3), (4, .int x4)] → sr_V D aC shM n0 σ s.heap H locs → it4 (f_X8_checksum_L70 q0 rec27) n w1 x3 x4 σ = some (r, σ') → W p l e rm_X8_checksum s m args below meth c H locs 0 0 (MQ below (sr_Qc D aC shM n0 σ' (some (.long r))) args s 0 0 (sr_A shM n0)) (F0 m 70 ls []) :=
  it4_ind (fun rec70 => ∀ (w1 : Int64) (x3 : Int32) (x4 : Int32) (σ : St) (H : Heap) (locs : List Loc) (ls : Array Slot) , lv_has ls 5 [(0, .ref (n0 + q0)), (1, .long w1), (3, .int x3), (4, .int x4)] → sr_V D aC shM n0 σ s.heap H locs → rec70 w1 x3 x4 σ = some (r, σ') → W p l e rm_X8_checksum s m args below meth c H locs 0 0 (MQ below (sr_Qc D aC shM n0 σ' (some (.long r))) args s 0 0 (sr_A shM n0)) (F0 m 70 ls [])) (by intros; rename_i hf; exact absurd hf (by simp)) (fun rec hrec => k_X8_checksum_L70 hX h0 hrec27 rec hrec) n
set_option maxHeartbeats 4000000 in
set_option maxRecDepth 100000 in
theorem k_X8_checksum_L41 {p : Program} {l : Launch} {e : Env} {s : State} {m : MethodId} {args : Array Value} {below : List Frame} {meth : Method} {c : Code} {D : va_G} {aC : Nat → ClassId} {n0 : Nat} {r : Int64} {σ' : St} {q0 : Nat} (hX : sr_X p s m args meth c cX8_checksum 5 (Option.some FieldType.long) RX8 D aC) (h0 : shM q0 = 9) {rec27 : Int64 → Int32 → St → Option (Int64 × St)} (hrec27 : ∀ (w1 : Int64) (x3 : Int32) (σ : St) (H : Heap) (locs : List Loc) (ls : Array Slot) , lv_has ls 5 [(0, .ref (n0 + q0)), (1, .long w1), (3, .int x3)] → sr_V D aC shM n0 σ s.heap H locs → rec27 w1 x3 σ = some (r, σ') → W p l e rm_X8_checksum s m args below meth c H locs 0 0 (MQ below (sr_Qc D aC shM n0 σ' (some (.long r))) args s 0 0 (sr_A shM n0)) (F0 m 27 ls [])) (rec41 : Int64 → Int32 → Int32 → St → Option (Int64 × St)) (hrec41 : ∀ (w1 : Int64) (x3 : Int32) (x4 : Int32) (σ : St) (H : Heap) (locs : List Loc) (ls : Array Slot) , lv_has ls 5 [(0, .ref (n0 + q0)), (1, .long w1), (3, .int x3), (4, .int x4)] → sr_V D aC shM n0 σ s.heap H locs → rec41 w1 x3 x4 σ = some (r, σ') → W p l e rm_X8_checksum s m args below meth c H locs 0 0 (MQ below (sr_Qc D aC shM n0 σ' (some (.long r))) args s 0 0 (sr_A shM n0)) (F0 m 41 ls [])) : ∀ (w1 : Int64) (x3 : Int32) (x4 : Int32) (σ : St) (H : Heap) (locs : List Loc) (ls : Array Slot) , lv_has ls 5 [(0, .ref (n0 + q0)), (1, .long w1), (3, .int x3), (4, .int x4)] → sr_V D aC shM n0 σ s.heap H locs → f_X8_checksum_L41 q0 rec27 rec41 w1 x3 x4 σ = some (r, σ') → W p l e rm_X8_checksum s m args below meth c H locs 0 0 (MQ below (sr_Qc D aC shM n0 σ' (some (.long r))) args s 0 0 (sr_A shM n0)) (F0 m 41 ls []) := by
  intro w1 x3 x4 σ H locs ls  hl hV hf
  have hx := hX.1.1
  have hb := hX.1.2.1
  unfold f_X8_checksum_L41 at hf
  refine lv_iload hx hb dX8_checksum_41 (lv_at hl 3 rfl) ?_
  refine lv_bipush (v := 7) hx hb dX8_checksum_43 (by decide) ?_
  refine lv_icmp_ge (tgt := 67) hx hb dX8_checksum_45 (by decide) (fun c36 => ?_) (fun c36 => ?_)
  · have hf := sr_t hf c36
    refine lv_iconst (v := 0) hx hb dX8_checksum_67 (by decide) ?_
    refine lv_istore (lv' := [(4, .int 0), (0, .ref (n0 + q0)), (1, .long w1), (3, .int x3)]) hx hb dX8_checksum_68 hl (by decide) rfl (fun ls hl => ?_)
    exact k_X8_checksum_L70w hX h0 hrec27 sr_fuel _ _ _ _ _ _ _  (lv_sub hl [1, 2, 3, 0] rfl) hV hf
  · have hf := sr_f hf c36
    refine lv_lload_n hx hb dX8_checksum_48 rfl (lv_at hl 1 rfl) ?_
    refine lv_aload_n hx hb dX8_checksum_49 rfl (lv_at hl 0 rfl) ?_
    refine lv_iload_n hx hb dX8_checksum_50 rfl (lv_at hl 2 rfl) ?_
    refine lv_iload hx hb dX8_checksum_51 (lv_at hl 3 rfl) ?_
    obtain ⟨v38, e37, hf⟩ := sr_obd hf
    refine s_callV1 (ci := 8) hX hV hl.1 (c_X8_tells (h0) e37) cv_X8_tells lk_922 ⟨rfl, rfl, Nat.le_of_ble_eq_true rfl, Nat.le_of_ble_eq_true rfl⟩ rfl (by decide) (h0) rfl rfl (Nat.le_of_ble_eq_true rfl) dX8_checksum_53 ⟨Nat.le_of_ble_eq_true rfl, Nat.le_of_ble_eq_true rfl⟩ (fun H locs hV => ?_)
    refine lv_i2l hx hb dX8_checksum_56 rfl ?_
    obtain ⟨v40, e39, hf⟩ := sr_bnd hf
    refine s_callS1 hX hV hl.1 (c_X8_more  e39) cs_X8_more lk_983 ⟨rfl, rfl, Nat.le_of_ble_eq_true rfl, Nat.le_of_ble_eq_true rfl⟩ rfl rfl (Nat.le_of_ble_eq_true rfl) dX8_checksum_57 ⟨Nat.le_of_ble_eq_true rfl, Nat.le_of_ble_eq_true rfl⟩ (fun H locs hV => ?_)
    refine lv_lstore_n (lv' := [(1, .long v40), (0, .ref (n0 + q0)), (3, .int x3), (4, .int x4)]) hx hb dX8_checksum_60 rfl hl (by decide) rfl (fun ls hl => ?_)
    obtain ⟨v41, e42, hf⟩ := sr_bnd hf
    refine lv_iinc (v := v41) (lv' := [(4, .int v41), (1, .long v40), (0, .ref (n0 + q0)), (3, .int x3)]) hx hb dX8_checksum_61 hl (k := 3) rfl (by rw [← e42]; rfl) (by decide) rfl (fun ls hl => ?_)
    refine lv_goto (tgt := 41) hx hb dX8_checksum_64 (by decide) ?_
    exact hrec41 _ _ _ _ _ _ _  (lv_sub hl [2, 1, 3, 0] rfl) hV hf
set_option maxHeartbeats 4000000 in
set_option maxRecDepth 100000 in
theorem k_X8_checksum_L41w {p : Program} {l : Launch} {e : Env} {s : State} {m : MethodId} {args : Array Value} {below : List Frame} {meth : Method} {c : Code} {D : va_G} {aC : Nat → ClassId} {n0 : Nat} {r : Int64} {σ' : St} {q0 : Nat} (hX : sr_X p s m args meth c cX8_checksum 5 (Option.some FieldType.long) RX8 D aC) (h0 : shM q0 = 9) {rec27 : Int64 → Int32 → St → Option (Int64 × St)} (hrec27 : ∀ (w1 : Int64) (x3 : Int32) (σ : St) (H : Heap) (locs : List Loc) (ls : Array Slot) , lv_has ls 5 [(0, .ref (n0 + q0)), (1, .long w1), (3, .int x3)] → sr_V D aC shM n0 σ s.heap H locs → rec27 w1 x3 σ = some (r, σ') → W p l e rm_X8_checksum s m args below meth c H locs 0 0 (MQ below (sr_Qc D aC shM n0 σ' (some (.long r))) args s 0 0 (sr_A shM n0)) (F0 m 27 ls [])) (n : Nat) : ∀ (w1 : Int64) (x3 : Int32) (x4 : Int32) (σ : St) (H : Heap) (locs : List Loc) (ls : Array Slot) , lv_has ls 5 [(0, .ref (n0 + q0)), (1, .long w1), (3, .int x3), (4, .int x4)] → sr_V D aC shM n0 σ s.heap H locs → it4 (f_X8_checksum_L41 q0 rec27) n w1 x3 x4 σ = some (r, σ') → W p l e rm_X8_checksum s m args below meth c H locs 0 0 (MQ below (sr_Qc D aC shM n0 σ' (some (.long r))) args s 0 0 (sr_A shM n0)) (F0 m 41 ls []) :=
  it4_ind (fun rec41 => ∀ (w1 : Int64) (x3 : Int32) (x4 : Int32) (σ : St) (H : Heap) (locs : List Loc) (ls : Array Slot) , lv_has ls 5 [(0, .ref (n0 + q0)), (1, .long w1), (3, .int x3), (4, .int x4)] → sr_V D aC shM n0 σ s.heap H locs → rec41 w1 x3 x4 σ = some (r, σ') → W p l e rm_X8_checksum s m args below meth c H locs 0 0 (MQ below (sr_Qc D aC shM n0 σ' (some (.long r))) args s 0 0 (sr_A shM n0)) (F0 m 41 ls [])) (by intros; rename_i hf; exact absurd hf (by simp)) (fun rec hrec => k_X8_checksum_L41 hX h0 hrec27 rec hrec) n
set_option maxHeartbeats 4000000 in
set_option maxRecDepth 100000 in
theorem k_X8_checksum_L27 {p : Program} {l : Launch} {e : Env} {s : State} {m : MethodId} {args : Array Value} {below : List Frame} {meth : Method} {c : Code} {D : va_G} {aC : Nat → ClassId} {n0 : Nat} {r : Int64} {σ' : St} {q0 : Nat} (hX : sr_X p s m args meth c cX8_checksum 5 (Option.some FieldType.long) RX8 D aC) (h0 : shM q0 = 9) (rec27 : Int64 → Int32 → St → Option (Int64 × St)) (hrec27 : ∀ (w1 : Int64) (x3 : Int32) (σ : St) (H : Heap) (locs : List Loc) (ls : Array Slot) , lv_has ls 5 [(0, .ref (n0 + q0)), (1, .long w1), (3, .int x3)] → sr_V D aC shM n0 σ s.heap H locs → rec27 w1 x3 σ = some (r, σ') → W p l e rm_X8_checksum s m args below meth c H locs 0 0 (MQ below (sr_Qc D aC shM n0 σ' (some (.long r))) args s 0 0 (sr_A shM n0)) (F0 m 27 ls [])) : ∀ (w1 : Int64) (x3 : Int32) (σ : St) (H : Heap) (locs : List Loc) (ls : Array Slot) , lv_has ls 5 [(0, .ref (n0 + q0)), (1, .long w1), (3, .int x3)] → sr_V D aC shM n0 σ s.heap H locs → f_X8_checksum_L27 q0 rec27 w1 x3 σ = some (r, σ') → W p l e rm_X8_checksum s m args below meth c H locs 0 0 (MQ below (sr_Qc D aC shM n0 σ' (some (.long r))) args s 0 0 (sr_A shM n0)) (F0 m 27 ls []) := by
  intro w1 x3 σ H locs ls  hl hV hf
  have hx := hX.1.1
  have hb := hX.1.2.1
  unfold f_X8_checksum_L27 at hf
  refine lv_iload_n hx hb dX8_checksum_27 rfl (lv_at hl 2 rfl) ?_
  refine lv_aload_n hx hb dX8_checksum_28 rfl (lv_at hl 0 rfl) ?_
  refine fg_8_0 hX hV lk_666 (h0) dX8_checksum_29 ?_
  refine lv_bipush (v := 10) hx hb dX8_checksum_32 (by decide) ?_
  refine s_iald hX hV (n := 257) (ch_8_0 (h0)) (by decide) (by unfold vp_in; decide) dX8_checksum_34 ?_
  refine lv_icmp_ge (tgt := 127) hx hb dX8_checksum_35 (by decide) (fun c43 => ?_) (fun c43 => ?_)
  · have hf := sr_t hf c43
    refine lv_iconst (v := 0) hx hb dX8_checksum_127 (by decide) ?_
    refine lv_istore_n (lv' := [(3, .int 0), (0, .ref (n0 + q0)), (1, .long w1)]) hx hb dX8_checksum_128 rfl hl (by decide) rfl (fun ls hl => ?_)
    exact k_X8_checksum_L129w hX h0  sr_fuel _ _ _ _ _ _  (lv_sub hl [1, 2, 0] rfl) hV hf
  · have hf := sr_f hf c43
    refine lv_iconst (v := 0) hx hb dX8_checksum_38 (by decide) ?_
    refine lv_istore (lv' := [(4, .int 0), (0, .ref (n0 + q0)), (1, .long w1), (3, .int x3)]) hx hb dX8_checksum_39 hl (by decide) rfl (fun ls hl => ?_)
    exact k_X8_checksum_L41w hX h0 hrec27 sr_fuel _ _ _ _ _ _ _  (lv_sub hl [1, 2, 3, 0] rfl) hV hf
set_option maxHeartbeats 4000000 in
set_option maxRecDepth 100000 in
theorem k_X8_checksum_L27w {p : Program} {l : Launch} {e : Env} {s : State} {m : MethodId} {args : Array Value} {below : List Frame} {meth : Method} {c : Code} {D : va_G} {aC : Nat → ClassId} {n0 : Nat} {r : Int64} {σ' : St} {q0 : Nat} (hX : sr_X p s m args meth c cX8_checksum 5 (Option.some FieldType.long) RX8 D aC) (h0 : shM q0 = 9) (n : Nat) : ∀ (w1 : Int64) (x3 : Int32) (σ : St) (H : Heap) (locs : List Loc) (ls : Array Slot) , lv_has ls 5 [(0, .ref (n0 + q0)), (1, .long w1), (3, .int x3)] → sr_V D aC shM n0 σ s.heap H locs → it3 (f_X8_checksum_L27 q0) n w1 x3 σ = some (r, σ') → W p l e rm_X8_checksum s m args below meth c H locs 0 0 (MQ below (sr_Qc D aC shM n0 σ' (some (.long r))) args s 0 0 (sr_A shM n0)) (F0 m 27 ls []) :=
  it3_ind (fun rec27 => ∀ (w1 : Int64) (x3 : Int32) (σ : St) (H : Heap) (locs : List Loc) (ls : Array Slot) , lv_has ls 5 [(0, .ref (n0 + q0)), (1, .long w1), (3, .int x3)] → sr_V D aC shM n0 σ s.heap H locs → rec27 w1 x3 σ = some (r, σ') → W p l e rm_X8_checksum s m args below meth c H locs 0 0 (MQ below (sr_Qc D aC shM n0 σ' (some (.long r))) args s 0 0 (sr_A shM n0)) (F0 m 27 ls [])) (by intros; rename_i hf; exact absurd hf (by simp)) (fun rec hrec => k_X8_checksum_L27 hX h0  rec hrec) n
set_option maxHeartbeats 4000000 in
set_option maxRecDepth 100000 in
theorem c_X8_checksum {l : Launch} {D : va_G} {aC : Nat → ClassId} {n0 : Nat} {r : Int64} {σ' : St}  {σ : St} {q0 : Nat} (h0 : shM q0 = 9) (hf : f_X8_checksum q0 σ = some (r, σ')) : sr_Met l D aC shM n0 yX8_checksum cX8_checksum 5 (Option.some FieldType.long) rm_X8_checksum [.ref (n0 + q0)] σ (some (.long r)) σ' := by
  refine s_met (own := RX8) (by decide) (Nat.le_of_ble_eq_true rfl) rfl ?_
  intro p e s m below meth c ls hX hV hl
  have hl : lv_has ls 5 [(0, .ref (n0 + q0))] := hl
  have hx := hX.1.1
  have hb := hX.1.2.1
  unfold f_X8_checksum at hf
  refine lv_ldc2 hx hb hX.1.2.2.2.1 (s_w hX lk_982) dX8_checksum_0 ?_
  refine lv_aload_n hx hb dX8_checksum_3 rfl (lv_at hl 0 rfl) ?_
  refine fg_8_0 hX hV lk_666 (h0) dX8_checksum_4 ?_
  refine lv_iconst (v := 1) hx hb dX8_checksum_7 (by decide) ?_
  refine s_iald hX hV (n := 257) (ch_8_0 (h0)) (by decide) (by unfold vp_in; decide) dX8_checksum_8 ?_
  refine lv_i2l hx hb dX8_checksum_9 rfl ?_
  obtain ⟨v45, e44, hf⟩ := sr_bnd hf
  refine s_callS1 hX hV hl.1 (c_X8_more  e44) cs_X8_more lk_983 ⟨rfl, rfl, Nat.le_of_ble_eq_true rfl, Nat.le_of_ble_eq_true rfl⟩ rfl rfl (Nat.le_of_ble_eq_true rfl) dX8_checksum_10 ⟨Nat.le_of_ble_eq_true rfl, Nat.le_of_ble_eq_true rfl⟩ (fun H locs hV => ?_)
  refine lv_aload_n hx hb dX8_checksum_13 rfl (lv_at hl 0 rfl) ?_
  refine fg_8_0 hX hV lk_666 (h0) dX8_checksum_14 ?_
  refine lv_bipush (v := 10) hx hb dX8_checksum_17 (by decide) ?_
  refine s_iald hX hV (n := 257) (ch_8_0 (h0)) (by decide) (by unfold vp_in; decide) dX8_checksum_19 ?_
  refine lv_i2l hx hb dX8_checksum_20 rfl ?_
  obtain ⟨v47, e46, hf⟩ := sr_bnd hf
  refine s_callS1 hX hV hl.1 (c_X8_more  e46) cs_X8_more lk_983 ⟨rfl, rfl, Nat.le_of_ble_eq_true rfl, Nat.le_of_ble_eq_true rfl⟩ rfl rfl (Nat.le_of_ble_eq_true rfl) dX8_checksum_21 ⟨Nat.le_of_ble_eq_true rfl, Nat.le_of_ble_eq_true rfl⟩ (fun H locs hV => ?_)
  refine lv_lstore_n (lv' := [(1, .long v47), (0, .ref (n0 + q0))]) hx hb dX8_checksum_24 rfl hl (by decide) rfl (fun ls hl => ?_)
  refine lv_iconst (v := 0) hx hb dX8_checksum_25 (by decide) ?_
  refine lv_istore_n (lv' := [(3, .int 0), (1, .long v47), (0, .ref (n0 + q0))]) hx hb dX8_checksum_26 rfl hl (by decide) rfl (fun ls hl => ?_)
  exact k_X8_checksum_L27w hX h0  sr_fuel _ _ _ _ _ _  (lv_sub hl [2, 1, 0] rfl) hV hf
