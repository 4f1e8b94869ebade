abbrev rm_X1_isOver : Room := { frames := 1, cells := 0, slots := 0, locals := 21 }
theorem cv_X1_isOver : sr_Cv yX1_isOver cX1_isOver 3 (Option.some FieldType.boolean) RX1 1 := ⟨lk_613, lk_611, lk_612, lk_2, rfl, by decide +kernel, by decide +kernel, by decide +kernel⟩
set_option maxHeartbeats 4000000 in
set_option maxRecDepth 100000 in
theorem c_X1_isOver {l : Launch} {D : va_G} {aC : Nat → ClassId} {n0 : Nat} {r : Bool} {σ : St}  {q0 : Nat} {x1 : Int32} (h0 : shC q0 = 2) (hf : f_X1_isOver q0 x1 σ = some r) : sr_Met l D aC shC n0 yX1_isOver cX1_isOver 3 (Option.some FieldType.boolean) rm_X1_isOver [.ref (n0 + q0), .int x1] σ (some (.int (bI r))) σ := by
  refine s_met (own := RX1) (by decide) (Nat.le_of_ble_eq_true rfl) rfl ?_
  intro p e s m below meth c ls hX hV hl
  have hl : lv_has ls 3 [(0, .ref (n0 + q0)), (1, .int x1)] := hl
  have hx := hX.1.1
  have hb := hX.1.2.1
  unfold f_X1_isOver at hf
  refine lv_aload_n hx hb dX1_isOver_0 rfl (lv_at hl 0 rfl) ?_
  refine lv_iload_n hx hb dX1_isOver_1 rfl (lv_at hl 1 rfl) ?_
  obtain ⟨v2, e1, hf⟩ := sr_obd hf
  refine s_callV1 (ci := 1) hX hV hl.1 (c_X1_find (h0) e1) cv_X1_find lk_614 ⟨rfl, rfl, Nat.le_of_ble_eq_true rfl, Nat.le_of_ble_eq_true rfl⟩ rfl (by decide) (h0) rfl rfl (Nat.le_of_ble_eq_true rfl) dX1_isOver_2 ⟨Nat.le_of_ble_eq_true rfl, Nat.le_of_ble_eq_true rfl⟩ (fun H locs hV => ?_)
  rcases v2 with _ | q3
  · have hf := sr_on hf
    refine lv_astore_nN (lv' := [(2, .null), (0, .ref (n0 + q0)), (1, .int x1)]) hx hb dX1_isOver_5 rfl hl (by decide) rfl (fun ls hl => ?_)
    refine lv_aload_nN hx hb dX1_isOver_6 rfl (lv_at hl 0 rfl) ?_
    refine lv_ifnullN (tgt := 30) hx hb dX1_isOver_7 (by decide) ?_
    refine lv_iconst (v := 0) hx hb dX1_isOver_30 (by decide) ?_
    cases hf
    exact s_zret (b := false) hX hV dX1_isOver_31
  · have hf := sr_os hf
    obtain ⟨g4, hf⟩ := sr_gd hf
    refine lv_astore_n (lv' := [(2, .ref (n0 + q3)), (0, .ref (n0 + q0)), (1, .int x1)]) hx hb dX1_isOver_5 rfl hl (by decide) rfl (fun ls hl => ?_)
    refine lv_aload_n hx hb dX1_isOver_6 rfl (lv_at hl 0 rfl) ?_
    refine lv_ifnull hx hb dX1_isOver_7 ?_
    refine lv_aload_n hx hb dX1_isOver_10 rfl (lv_at hl 0 rfl) ?_
    refine fg_0_5 hX hV lk_95 (g4) dX1_isOver_11 ?_
    refine lv_iconst (v := 3) hx hb dX1_isOver_14 (by decide) ?_
    refine lv_icmp_eq (tgt := 26) hx hb dX1_isOver_15 (by decide) (fun c5 => ?_) (fun c5 => ?_)
    · have hf := sr_t hf c5
      refine lv_iconst (v := 1) hx hb dX1_isOver_26 (by decide) ?_
      refine lv_goto (tgt := 31) hx hb dX1_isOver_27 (by decide) ?_
      cases hf
      exact s_zret (b := true) hX hV dX1_isOver_31
    · have hf := sr_f hf c5
      refine lv_aload_n hx hb dX1_isOver_18 rfl (lv_at hl 0 rfl) ?_
      refine fg_0_5 hX hV lk_95 (g4) dX1_isOver_19 ?_
      refine lv_iconst (v := 5) hx hb dX1_isOver_22 (by decide) ?_
      refine lv_icmp_ne (tgt := 30) hx hb dX1_isOver_23 (by decide) (fun c6 => ?_) (fun c6 => ?_)
      · have hf := sr_f hf c6
        refine lv_iconst (v := 0) hx hb dX1_isOver_30 (by decide) ?_
        cases hf
        exact s_zret (b := false) hX hV dX1_isOver_31
      · have hf := sr_t hf c6
        refine lv_iconst (v := 1) hx hb dX1_isOver_26 (by decide) ?_
        refine lv_goto (tgt := 31) hx hb dX1_isOver_27 (by decide) ?_
        cases hf
        exact s_zret (b := true) hX hV dX1_isOver_31
abbrev rm_X1_takeProbes : Room := { frames := 5, cells := 0, slots := 0, locals := 134 }
theorem cv_X1_takeProbes : sr_Cv yX1_takeProbes cX1_takeProbes 6 (Option.some FieldType.int) RX1 3 := ⟨lk_424, lk_422, lk_423, lk_2, rfl, by decide +kernel, by decide +kernel, by decide +kernel⟩
set_option maxHeartbeats 4000000 in
set_option maxRecDepth 100000 in
theorem k_X1_takeProbes_L6 {p : Program} {l : Launch} {e : Env} {s : State} {m : MethodId} {args : Array Value} {below : List Frame} {meth : Method} {c : Code} {D : va_G} {aC : Nat → ClassId} {n0 : Nat} {r : Int32} {σ' : St} {q0 : Nat} {x1 : Int32} {x2 : Int32} {x3 : Int32} (hX : sr_X p s m args meth c cX1_takeProbes 6 (Option.some FieldType.int) RX1 D aC) (h0 : shC q0 = 2) (rec6 : Int32 → Int32 → St → Option (Int32 × St)) (hrec6 : ∀ (x4 : Int32) (x5 : Int32) (σ : St) (H : Heap) (locs : List Loc) (ls : Array Slot) , lv_has ls 6 [(0, .ref (n0 + q0)), (1, .int x1), (2, .int x2), (3, .int x3), (4, .int x4), (5, .int x5)] → sr_V D aC shC n0 σ s.heap H locs → rec6 x4 x5 σ = some (r, σ') → W p l e rm_X1_takeProbes s m args below meth c H locs 0 0 (MQ below (sr_Qc D aC shC n0 σ' (some (.int r))) args s 0 0 (sr_A shC n0)) (F0 m 6 ls [])) : ∀ (x4 : Int32) (x5 : Int32) (σ : St) (H : Heap) (locs : List Loc) (ls : Array Slot) , lv_has ls 6 [(0, .ref (n0 + q0)), (1, .int x1), (2, .int x2), (3, .int x3), (4, .int x4), (5, .int x5)] → sr_V D aC shC n0 σ s.heap H locs → f_X1_takeProbes_L6 q0 x1 x2 x3 rec6 x4 x5 σ = some (r, σ') → W p l e rm_X1_takeProbes s m args below meth c H locs 0 0 (MQ below (sr_Qc D aC shC n0 σ' (some (.int r))) args s 0 0 (sr_A shC n0)) (F0 m 6 ls []) := by
  intro x4 x5 σ H locs ls  hl hV hf
  have hx := hX.1.1
  have hb := hX.1.2.1
  unfold f_X1_takeProbes_L6 at hf
  refine lv_iload hx hb dX1_takeProbes_6 (lv_at hl 5 rfl) ?_
  refine lv_aload_n hx hb dX1_takeProbes_8 rfl (lv_at hl 0 rfl) ?_
  refine fg_1_4 hX hV lk_164 (h0) dX1_takeProbes_9 ?_
  refine lv_icmp_ge (tgt := 46) hx hb dX1_takeProbes_12 (by decide) (fun c1 => ?_) (fun c1 => ?_)
  · have hf := sr_t hf c1
    refine lv_iload hx hb dX1_takeProbes_46 (lv_at hl 4 rfl) ?_
    cases hf
    exact s_iret hX hV dX1_takeProbes_48
  · have hf := sr_f hf c1
    refine lv_iload hx hb dX1_takeProbes_15 (lv_at hl 5 rfl) ?_
    refine lv_iconst (v := 5) hx hb dX1_takeProbes_17 (by decide) ?_
    refine lv_icmp_ge (tgt := 46) hx hb dX1_takeProbes_18 (by decide) (fun c2 => ?_) (fun c2 => ?_)
    · have hf := sr_t hf c2
      refine lv_iload hx hb dX1_takeProbes_46 (lv_at hl 4 rfl) ?_
      cases hf
      exact s_iret hX hV dX1_takeProbes_48
    · have hf := sr_f hf c2
      refine lv_aload_n hx hb dX1_takeProbes_21 rfl (lv_at hl 0 rfl) ?_
      refine fg_1_0 hX hV lk_158 (h0) dX1_takeProbes_22 ?_
      refine lv_iload hx hb dX1_takeProbes_25 (lv_at hl 5 rfl) ?_
      obtain ⟨g3, hf⟩ := sr_gd hf
      refine s_cald hX hV (n := 5) (ch_1_0 (h0)) (by decide) (inb_in g3) dX1_takeProbes_27 ?_
      refine lv_iload_n hx hb dX1_takeProbes_28 rfl (lv_at hl 1 rfl) ?_
      refine lv_iload_n hx hb dX1_takeProbes_29 rfl (lv_at hl 2 rfl) ?_
      refine lv_iload_n hx hb dX1_takeProbes_30 rfl (lv_at hl 3 rfl) ?_
      obtain ⟨v5, σ6, e4, hf⟩ := sr_ob2 hf
      refine s_callV1 (ci := 0) hX hV hl.1 (c_X0_takesProbes (ch_list (ch_1_0 (h0)) (vp_lt (inb_in g3))) e4) cv_X0_takesProbes lk_425 ⟨rfl, rfl, Nat.le_of_ble_eq_true rfl, Nat.le_of_ble_eq_true rfl⟩ rfl (by decide) (ch_list (ch_1_0 (h0)) (vp_lt (inb_in g3))) rfl rfl (Nat.le_of_ble_eq_true rfl) dX1_takeProbes_31 ⟨Nat.le_of_ble_eq_true rfl, Nat.le_of_ble_eq_true rfl⟩ (fun H locs hV => ?_)
      refine lv_if_eq (tgt := 40) hx hb dX1_takeProbes_34 (by decide) (fun c7 => ?_) (fun c7 => ?_)
      · have hf := sr_f hf (sr_b0 c7)
        obtain ⟨v8, e9, hf⟩ := sr_bnd hf
        refine lv_iinc (v := v8) (lv' := [(5, .int v8), (0, .ref (n0 + q0)), (1, .int x1), (2, .int x2), (3, .int x3), (4, .int x4)]) hx hb dX1_takeProbes_40 hl (k := 5) rfl (by rw [← e9]; rfl) (by decide) rfl (fun ls hl => ?_)
        refine lv_goto (tgt := 6) hx hb dX1_takeProbes_43 (by decide) ?_
        exact hrec6 _ _ _ _ _ _  (lv_sub hl [1, 2, 3, 4, 5, 0] rfl) hV hf
      · have hf := sr_t hf (sr_b1 c7)
        obtain ⟨v10, e11, hf⟩ := sr_bnd hf
        refine lv_iinc (v := v10) (lv' := [(4, .int v10), (0, .ref (n0 + q0)), (1, .int x1), (2, .int x2), (3, .int x3), (5, .int x5)]) hx hb dX1_takeProbes_37 hl (k := 4) rfl (by rw [← e11]; rfl) (by decide) rfl (fun ls hl => ?_)
        obtain ⟨v12, e13, hf⟩ := sr_bnd hf
        refine lv_iinc (v := v12) (lv' := [(5, .int v12), (4, .int v10), (0, .ref (n0 + q0)), (1, .int x1), (2, .int x2), (3, .int x3)]) hx hb dX1_takeProbes_40 hl (k := 5) rfl (by rw [← e13]; rfl) (by decide) rfl (fun ls hl => ?_)
        refine lv_goto (tgt := 6) hx hb dX1_takeProbes_43 (by decide) ?_
        exact hrec6 _ _ _ _ _ _  (lv_sub hl [2, 3, 4, 5, 1, 0] rfl) hV hf
set_option maxHeartbeats 4000000 in
set_option maxRecDepth 100000 in
theorem k_X1_takeProbes_L6w {p : Program} {l : Launch} {e : Env} {s : State} {m : MethodId} {args : Array Value} {below : List Frame} {meth : Method} {c : Code} {D : va_G} {aC : Nat → ClassId} {n0 : Nat} {r : Int32} {σ' : St} {q0 : Nat} {x1 : Int32} {x2 : Int32} {x3 : Int32} (hX : sr_X p s m args meth c cX1_takeProbes 6 (Option.some FieldType.int) RX1 D aC) (h0 : shC q0 = 2) (n : Nat) : ∀ (x4 : Int32) (x5 : Int32) (σ : St) (H : Heap) (locs : List Loc) (ls : Array Slot) , lv_has ls 6 [(0, .ref (n0 + q0)), (1, .int x1), (2, .int x2), (3, .int x3), (4, .int x4), (5, .int x5)] → sr_V D aC shC n0 σ s.heap H locs → it3 (f_X1_takeProbes_L6 q0 x1 x2 x3) n x4 x5 σ = some (r, σ') → W p l e rm_X1_takeProbes s m args below meth c H locs 0 0 (MQ below (sr_Qc D aC shC n0 σ' (some (.int r))) args s 0 0 (sr_A shC n0)) (F0 m 6 ls []) :=
  it3_ind (fun rec6 => ∀ (x4 : Int32) (x5 : Int32) (σ : St) (H : Heap) (locs : List Loc) (ls : Array Slot) , lv_has ls 6 [(0, .ref (n0 + q0)), (1, .int x1), (2, .int x2), (3, .int x3), (4, .int x4), (5, .int x5)] → sr_V D aC shC n0 σ s.heap H locs → rec6 x4 x5 σ = some (r, σ') → W p l e rm_X1_takeProbes s m args below meth c H locs 0 0 (MQ below (sr_Qc D aC shC n0 σ' (some (.int r))) args s 0 0 (sr_A shC n0)) (F0 m 6 ls [])) (by intros; rename_i hf; exact absurd hf (by simp)) (fun rec hrec => k_X1_takeProbes_L6 hX h0  rec hrec) n
set_option maxHeartbeats 4000000 in
set_option maxRecDepth 100000 in
theorem c_X1_takeProbes {l : Launch} {D : va_G} {aC : Nat → ClassId} {n0 : Nat} {r : Int32} {σ' : St}  {σ : St} {q0 : Nat} {x1 : Int32} {x2 : Int32} {x3 : Int32} (h0 : shC q0 = 2) (hf : f_X1_takeProbes q0 x1 x2 x3 σ = some (r, σ')) : sr_Met l D aC shC n0 yX1_takeProbes cX1_takeProbes 6 (Option.some FieldType.int) rm_X1_takeProbes [.ref (n0 + q0), .int x1, .int x2, .int x3] σ (some (.int r)) σ' := by
  refine s_met (own := RX1) (by decide) (Nat.le_of_ble_eq_true rfl) rfl ?_
  intro p e s m below meth c ls hX hV hl
  have hl : lv_has ls 6 [(0, .ref (n0 + q0)), (1, .int x1), (2, .int x2), (3, .int x3)] := hl
  have hx := hX.1.1
  have hb := hX.1.2.1
  unfold f_X1_takeProbes at hf
  refine lv_iconst (v := 0) hx hb dX1_takeProbes_0 (by decide) ?_
  refine lv_istore (lv' := [(4, .int 0), (0, .ref (n0 + q0)), (1, .int x1), (2, .int x2), (3, .int x3)]) hx hb dX1_takeProbes_1 hl (by decide) rfl (fun ls hl => ?_)
  refine lv_iconst (v := 0) hx hb dX1_takeProbes_3 (by decide) ?_
  refine lv_istore (lv' := [(5, .int 0), (4, .int 0), (0, .ref (n0 + q0)), (1, .int x1), (2, .int x2), (3, .int x3)]) hx hb dX1_takeProbes_4 hl (by decide) rfl (fun ls hl => ?_)
  exact k_X1_takeProbes_L6w hX h0  sr_fuel _ _ _ _ _ _  (lv_sub hl [2, 3, 4, 5, 1, 0] rfl) hV hf
abbrev rm_X2_covers : Room := { frames := 0, cells := 0, slots := 0, locals := 0 }
theorem cv_X2_covers : sr_Cv yX2_covers cX2_covers 3 (Option.some FieldType.boolean) RX2 1 := ⟨lk_528, lk_526, lk_527, lk_6, rfl, by decide +kernel, by decide +kernel, by decide +kernel⟩
set_option maxHeartbeats 4000000 in
set_option maxRecDepth 100000 in
theorem k_X2_covers_L2 {p : Program} {l : Launch} {e : Env} {s : State} {m : MethodId} {args : Array Value} {below : List Frame} {meth : Method} {c : Code} {D : va_G} {aC : Nat → ClassId} {n0 : Nat} {r : Bool} {σ : St} {q0 : Nat} {x1 : Int32} (hX : sr_X p s m args meth c cX2_covers 3 (Option.some FieldType.boolean) RX2 D aC) (h0 : shC q0 = 3) (rec2 : Int32 → Option Bool) (hrec2 : ∀ (x2 : Int32) (H : Heap) (locs : List Loc) (ls : Array Slot) , lv_has ls 3 [(0, .ref (n0 + q0)), (1, .int x1), (2, .int x2)] → sr_V D aC shC n0 σ s.heap H locs → rec2 x2 = some r → W p l e rm_X2_covers s m args below meth c H locs 0 0 (MQ below (sr_Qc D aC shC n0 σ (some (.int (bI r)))) args s 0 0 (sr_A shC n0)) (F0 m 2 ls [])) : ∀ (x2 : Int32) (H : Heap) (locs : List Loc) (ls : Array Slot) , lv_has ls 3 [(0, .ref (n0 + q0)), (1, .int x1), (2, .int x2)] → sr_V D aC shC n0 σ s.heap H locs → f_X2_covers_L2 σ q0 x1 rec2 x2 = some r → W p l e rm_X2_covers s m args below meth c H locs 0 0 (MQ below (sr_Qc D aC shC n0 σ (some (.int (bI r)))) args s 0 0 (sr_A shC n0)) (F0 m 2 ls []) := by
  intro x2 H locs ls  hl hV hf
  have hx := hX.1.1
  have hb := hX.1.2.1
  unfold f_X2_covers_L2 at hf
  refine lv_iload_n hx hb dX2_covers_2 rfl (lv_at hl 2 rfl) ?_
  refine lv_aload_n hx hb dX2_covers_3 rfl (lv_at hl 0 rfl) ?_
  refine fg_2_2 hX hV lk_127 (h0) dX2_covers_4 ?_
  refine lv_icmp_ge (tgt := 43) hx hb dX2_covers_7 (by decide) (fun c1 => ?_) (fun c1 => ?_)
  · have hf := sr_t hf c1
    refine lv_iconst (v := 0) hx hb dX2_covers_43 (by decide) ?_
    cases hf
    exact s_zret (b := false) hX hV dX2_covers_44
  · have hf := sr_f hf c1
    refine lv_iload_n hx hb dX2_covers_10 rfl (lv_at hl 2 rfl) ?_
    refine lv_iconst (v := 3) hx hb dX2_covers_11 (by decide) ?_
    refine lv_icmp_ge (tgt := 43) hx hb dX2_covers_12 (by decide) (fun c2 => ?_) (fun c2 => ?_)
    · have hf := sr_t hf c2
      refine lv_iconst (v := 0) hx hb dX2_covers_43 (by decide) ?_
      cases hf
      exact s_zret (b := false) hX hV dX2_covers_44
    · have hf := sr_f hf c2
      refine lv_iload_n hx hb dX2_covers_15 rfl (lv_at hl 1 rfl) ?_
      refine lv_aload_n hx hb dX2_covers_16 rfl (lv_at hl 0 rfl) ?_
      refine fg_2_0 hX hV lk_125 (h0) dX2_covers_17 ?_
      refine lv_iload_n hx hb dX2_covers_20 rfl (lv_at hl 2 rfl) ?_
      obtain ⟨g3, hf⟩ := sr_gd hf
      refine s_iald hX hV (n := 3) (ch_2_0 (h0)) (by decide) (inb_in g3) dX2_covers_21 ?_
      refine lv_icmp_lt (tgt := 37) hx hb dX2_covers_22 (by decide) (fun c4 => ?_) (fun c4 => ?_)
      · have hf := sr_t hf c4
        obtain ⟨v5, e6, hf⟩ := sr_bnd hf
        refine lv_iinc (v := v5) (lv' := [(2, .int v5), (0, .ref (n0 + q0)), (1, .int x1)]) hx hb dX2_covers_37 hl (k := 2) rfl (by rw [← e6]; rfl) (by decide) rfl (fun ls hl => ?_)
        refine lv_goto (tgt := 2) hx hb dX2_covers_40 (by decide) ?_
        exact hrec2 _ _ _ _  (lv_sub hl [1, 2, 0] rfl) hV hf
      · have hf := sr_f hf c4
        refine lv_iload_n hx hb dX2_covers_25 rfl (lv_at hl 1 rfl) ?_
        refine lv_aload_n hx hb dX2_covers_26 rfl (lv_at hl 0 rfl) ?_
        refine fg_2_1 hX hV lk_126 (h0) dX2_covers_27 ?_
        refine lv_iload_n hx hb dX2_covers_30 rfl (lv_at hl 2 rfl) ?_
        obtain ⟨g7, hf⟩ := sr_gd hf
        refine s_iald hX hV (n := 3) (ch_2_1 (h0)) (by decide) (inb_in g7) dX2_covers_31 ?_
        refine lv_icmp_ge (tgt := 37) hx hb dX2_covers_32 (by decide) (fun c8 => ?_) (fun c8 => ?_)
        · have hf := sr_t hf c8
          obtain ⟨v9, e10, hf⟩ := sr_bnd hf
          refine lv_iinc (v := v9) (lv' := [(2, .int v9), (0, .ref (n0 + q0)), (1, .int x1)]) hx hb dX2_covers_37 hl (k := 2) rfl (by rw [← e10]; rfl) (by decide) rfl (fun ls hl => ?_)
          refine lv_goto (tgt := 2) hx hb dX2_covers_40 (by decide) ?_
          exact hrec2 _ _ _ _  (lv_sub hl [1, 2, 0] rfl) hV hf
        · have hf := sr_f hf c8
          refine lv_iconst (v := 1) hx hb dX2_covers_35 (by decide) ?_
          cases hf
          exact s_zret (b := true) hX hV dX2_covers_36
set_option maxHeartbeats 4000000 in
set_option maxRecDepth 100000 in
theorem k_X2_covers_L2w {p : Program} {l : Launch} {e : Env} {s : State} {m : MethodId} {args : Array Value} {below : List Frame} {meth : Method} {c : Code} {D : va_G} {aC : Nat → ClassId} {n0 : Nat} {r : Bool} {σ : St} {q0 : Nat} {x1 : Int32} (hX : sr_X p s m args meth c cX2_covers 3 (Option.some FieldType.boolean) RX2 D aC) (h0 : shC q0 = 3) (n : Nat) : ∀ (x2 : Int32) (H : Heap) (locs : List Loc) (ls : Array Slot) , lv_has ls 3 [(0, .ref (n0 + q0)), (1, .int x1), (2, .int x2)] → sr_V D aC shC n0 σ s.heap H locs → it1 (f_X2_covers_L2 σ q0 x1) n x2 = some r → W p l e rm_X2_covers s m args below meth c H locs 0 0 (MQ below (sr_Qc D aC shC n0 σ (some (.int (bI r)))) args s 0 0 (sr_A shC n0)) (F0 m 2 ls []) :=
  it1_ind (fun rec2 => ∀ (x2 : Int32) (H : Heap) (locs : List Loc) (ls : Array Slot) , lv_has ls 3 [(0, .ref (n0 + q0)), (1, .int x1), (2, .int x2)] → sr_V D aC shC n0 σ s.heap H locs → rec2 x2 = some r → W p l e rm_X2_covers s m args below meth c H locs 0 0 (MQ below (sr_Qc D aC shC n0 σ (some (.int (bI r)))) args s 0 0 (sr_A shC n0)) (F0 m 2 ls [])) (by intros; rename_i hf; exact absurd hf (by simp)) (fun rec hrec => k_X2_covers_L2 hX h0  rec hrec) n
set_option maxHeartbeats 4000000 in
set_option maxRecDepth 100000 in
theorem c_X2_covers {l : Launch} {D : va_G} {aC : Nat → ClassId} {n0 : Nat} {r : Bool} {σ : St}  {q0 : Nat} {x1 : Int32} (h0 : shC q0 = 3) (hf : f_X2_covers q0 x1 σ = some r) : sr_Met l D aC shC n0 yX2_covers cX2_covers 3 (Option.some FieldType.boolean) rm_X2_covers [.ref (n0 + q0), .int x1] σ (some (.int (bI r))) σ := by
  refine s_met (own := RX2) (by decide) (Nat.le_of_ble_eq_true rfl) rfl ?_
  intro p e s m below meth c ls hX hV hl
  have hl : lv_has ls 3 [(0, .ref (n0 + q0)), (1, .int x1)] := hl
  have hx := hX.1.1
  have hb := hX.1.2.1
  unfold f_X2_covers at hf
  refine lv_iconst (v := 0) hx hb dX2_covers_0 (by decide) ?_
  refine lv_istore_n (lv' := [(2, .int 0), (0, .ref (n0 + q0)), (1, .int x1)]) hx hb dX2_covers_1 rfl hl (by decide) rfl (fun ls hl => ?_)
  exact k_X2_covers_L2w hX h0  sr_fuel _ _ _ _  (lv_sub hl [1, 2, 0] rfl) hV hf
abbrev rm_X1_lacksDone : Room := { frames := 0, cells := 0, slots := 0, locals := 0 }
theorem cv_X1_lacksDone : sr_Cv yX1_lacksDone cX1_lacksDone 3 (Option.some FieldType.boolean) RX1 1 := ⟨lk_536, lk_535, lp_13, lk_2, rfl, by decide +kernel, by decide +kernel, by decide +kernel⟩
set_option maxHeartbeats 4000000 in
set_option maxRecDepth 100000 in
theorem k_X1_lacksDone_L2 {p : Program} {l : Launch} {e : Env} {s : State} {m : MethodId} {args : Array Value} {below : List Frame} {meth : Method} {c : Code} {D : va_G} {aC : Nat → ClassId} {n0 : Nat} {r : Bool} {σ : St} {q0 : Nat} {x1 : Int32} (hX : sr_X p s m args meth c cX1_lacksDone 3 (Option.some FieldType.boolean) RX1 D aC) (h0 : shC q0 = 2) (rec2 : Int32 → Option Bool) (hrec2 : ∀ (x2 : Int32) (H : Heap) (locs : List Loc) (ls : Array Slot) , lv_has ls 3 [(0, .ref (n0 + q0)), (1, .int x1), (2, .int x2)] → sr_V D aC shC n0 σ s.heap H locs → rec2 x2 = some r → W p l e rm_X1_lacksDone s m args below meth c H locs 0 0 (MQ below (sr_Qc D aC shC n0 σ (some (.int (bI r)))) args s 0 0 (sr_A shC n0)) (F0 m 2 ls [])) : ∀ (x2 : Int32) (H : Heap) (locs : List Loc) (ls : Array Slot) , lv_has ls 3 [(0, .ref (n0 + q0)), (1, .int x1), (2, .int x2)] → sr_V D aC shC n0 σ s.heap H locs → f_X1_lacksDone_L2 σ q0 x1 rec2 x2 = some r → W p l e rm_X1_lacksDone s m args below meth c H locs 0 0 (MQ below (sr_Qc D aC shC n0 σ (some (.int (bI r)))) args s 0 0 (sr_A shC n0)) (F0 m 2 ls []) := by
  intro x2 H locs ls  hl hV hf
  have hx := hX.1.1
  have hb := hX.1.2.1
  unfold f_X1_lacksDone_L2 at hf
  refine lv_iload_n hx hb dX1_lacksDone_2 rfl (lv_at hl 2 rfl) ?_
  refine lv_aload_n hx hb dX1_lacksDone_3 rfl (lv_at hl 0 rfl) ?_
  refine fg_1_4 hX hV lk_164 (h0) dX1_lacksDone_4 ?_
  refine lv_icmp_ge (tgt := 44) hx hb dX1_lacksDone_7 (by decide) (fun c1 => ?_) (fun c1 => ?_)
  · have hf := sr_t hf c1
    refine lv_iconst (v := 0) hx hb dX1_lacksDone_44 (by decide) ?_
    cases hf
    exact s_zret (b := false) hX hV dX1_lacksDone_45
  · have hf := sr_f hf c1
    refine lv_iload_n hx hb dX1_lacksDone_10 rfl (lv_at hl 2 rfl) ?_
    refine lv_iconst (v := 5) hx hb dX1_lacksDone_11 (by decide) ?_
    refine lv_icmp_ge (tgt := 44) hx hb dX1_lacksDone_12 (by decide) (fun c2 => ?_) (fun c2 => ?_)
    · have hf := sr_t hf c2
      refine lv_iconst (v := 0) hx hb dX1_lacksDone_44 (by decide) ?_
      cases hf
      exact s_zret (b := false) hX hV dX1_lacksDone_45
    · have hf := sr_f hf c2
      refine lv_iload_n hx hb dX1_lacksDone_15 rfl (lv_at hl 1 rfl) ?_
      refine lv_iload_n hx hb dX1_lacksDone_16 rfl (lv_at hl 2 rfl) ?_
      refine lv_ishr hx hb dX1_lacksDone_17 ?_
      refine lv_iconst (v := 1) hx hb dX1_lacksDone_18 (by decide) ?_
      refine lv_iand hx hb dX1_lacksDone_19 ?_
      refine lv_if_eq (tgt := 38) hx hb dX1_lacksDone_20 (by decide) (fun c3 => ?_) (fun c3 => ?_)
      · have hf := sr_t hf c3
        obtain ⟨v4, e5, hf⟩ := sr_bnd hf
        refine lv_iinc (v := v4) (lv' := [(2, .int v4), (0, .ref (n0 + q0)), (1, .int x1)]) hx hb dX1_lacksDone_38 hl (k := 2) rfl (by rw [← e5]; rfl) (by decide) rfl (fun ls hl => ?_)
        refine lv_goto (tgt := 2) hx hb dX1_lacksDone_41 (by decide) ?_
        exact hrec2 _ _ _ _  (lv_sub hl [1, 2, 0] rfl) hV hf
      · have hf := sr_f hf c3
        refine lv_aload_n hx hb dX1_lacksDone_23 rfl (lv_at hl 0 rfl) ?_
        refine fg_1_0 hX hV lk_158 (h0) dX1_lacksDone_24 ?_
        refine lv_iload_n hx hb dX1_lacksDone_27 rfl (lv_at hl 2 rfl) ?_
        obtain ⟨g6, hf⟩ := sr_gd hf
        refine s_cald hX hV (n := 5) (ch_1_0 (h0)) (by decide) (inb_in g6) dX1_lacksDone_28 ?_
        refine fg_0_5 hX hV lk_95 (ch_list (ch_1_0 (h0)) (vp_lt (inb_in g6))) dX1_lacksDone_29 ?_
        refine lv_iconst (v := 3) hx hb dX1_lacksDone_32 (by decide) ?_
        refine lv_icmp_eq (tgt := 38) hx hb dX1_lacksDone_33 (by decide) (fun c7 => ?_) (fun c7 => ?_)
        · have hf := sr_t hf c7
          obtain ⟨v8, e9, hf⟩ := sr_bnd hf
          refine lv_iinc (v := v8) (lv' := [(2, .int v8), (0, .ref (n0 + q0)), (1, .int x1)]) hx hb dX1_lacksDone_38 hl (k := 2) rfl (by rw [← e9]; rfl) (by decide) rfl (fun ls hl => ?_)
          refine lv_goto (tgt := 2) hx hb dX1_lacksDone_41 (by decide) ?_
          exact hrec2 _ _ _ _  (lv_sub hl [1, 2, 0] rfl) hV hf
        · have hf := sr_f hf c7
          refine lv_iconst (v := 1) hx hb dX1_lacksDone_36 (by decide) ?_
          cases hf
          exact s_zret (b := true) hX hV dX1_lacksDone_37
set_option maxHeartbeats 4000000 in
set_option maxRecDepth 100000 in
theorem k_X1_lacksDone_L2w {p : Program} {l : Launch} {e : Env} {s : State} {m : MethodId} {args : Array Value} {below : List Frame} {meth : Method} {c : Code} {D : va_G} {aC : Nat → ClassId} {n0 : Nat} {r : Bool} {σ : St} {q0 : Nat} {x1 : Int32} (hX : sr_X p s m args meth c cX1_lacksDone 3 (Option.some FieldType.boolean) RX1 D aC) (h0 : shC q0 = 2) (n : Nat) : ∀ (x2 : Int32) (H : Heap) (locs : List Loc) (ls : Array Slot) , lv_has ls 3 [(0, .ref (n0 + q0)), (1, .int x1), (2, .int x2)] → sr_V D aC shC n0 σ s.heap H locs → it1 (f_X1_lacksDone_L2 σ q0 x1) n x2 = some r → W p l e rm_X1_lacksDone s m args below meth c H locs 0 0 (MQ below (sr_Qc D aC shC n0 σ (some (.int (bI r)))) args s 0 0 (sr_A shC n0)) (F0 m 2 ls []) :=
  it1_ind (fun rec2 => ∀ (x2 : Int32) (H : Heap) (locs : List Loc) (ls : Array Slot) , lv_has ls 3 [(0, .ref (n0 + q0)), (1, .int x1), (2, .int x2)] → sr_V D aC shC n0 σ s.heap H locs → rec2 x2 = some r → W p l e rm_X1_lacksDone s m args below meth c H locs 0 0 (MQ below (sr_Qc D aC shC n0 σ (some (.int (bI r)))) args s 0 0 (sr_A shC n0)) (F0 m 2 ls [])) (by intros; rename_i hf; exact absurd hf (by simp)) (fun rec hrec => k_X1_lacksDone_L2 hX h0  rec hrec) n
set_option maxHeartbeats 4000000 in
set_option maxRecDepth 100000 in
theorem c_X1_lacksDone {l : Launch} {D : va_G} {aC : Nat → ClassId} {n0 : Nat} {r : Bool} {σ : St}  {q0 : Nat} {x1 : Int32} (h0 : shC q0 = 2) (hf : f_X1_lacksDone q0 x1 σ = some r) : sr_Met l D aC shC n0 yX1_lacksDone cX1_lacksDone 3 (Option.some FieldType.boolean) rm_X1_lacksDone [.ref (n0 + q0), .int x1] σ (some (.int (bI r))) σ := by
  refine s_met (own := RX1) (by decide) (Nat.le_of_ble_eq_true rfl) rfl ?_
  intro p e s m below meth c ls hX hV hl
  have hl : lv_has ls 3 [(0, .ref (n0 + q0)), (1, .int x1)] := hl
  have hx := hX.1.1
  have hb := hX.1.2.1
  unfold f_X1_lacksDone at hf
  refine lv_iconst (v := 0) hx hb dX1_lacksDone_0 (by decide) ?_
  refine lv_istore_n (lv' := [(2, .int 0), (0, .ref (n0 + q0)), (1, .int x1)]) hx hb dX1_lacksDone_1 rfl hl (by decide) rfl (fun ls hl => ?_)
  exact k_X1_lacksDone_L2w hX h0  sr_fuel _ _ _ _  (lv_sub hl [1, 2, 0] rfl) hV hf
abbrev rm_X1_meetsOtherRisk : Room := { frames := 1, cells := 0, slots := 0, locals := 20 }
theorem cv_X1_meetsOtherRisk : sr_Cv yX1_meetsOtherRisk cX1_meetsOtherRisk 4 (Option.some FieldType.boolean) RX1 1 := ⟨lk_540, lk_539, lp_14, lk_2, rfl, by decide +kernel, by decide +kernel, by decide +kernel⟩
set_option maxHeartbeats 4000000 in
set_option maxRecDepth 100000 in
theorem k_X1_meetsOtherRisk_L2 {p : Program} {l : Launch} {e : Env} {s : State} {m : MethodId} {args : Array Value} {below : List Frame} {meth : Method} {c : Code} {D : va_G} {aC : Nat → ClassId} {n0 : Nat} {r : Bool} {σ : St} {q0 : Nat} {q1 : Nat} (hX : sr_X p s m args meth c cX1_meetsOtherRisk 4 (Option.some FieldType.boolean) RX1 D aC) (h0 : shC q0 = 2) (h1 : shC q1 = 1) (rec2 : Int32 → Option Bool) (hrec2 : ∀ (x2 : Int32) (H : Heap) (locs : List Loc) (ls : Array Slot) , lv_has ls 4 [(0, .ref (n0 + q0)), (1, .ref (n0 + q1)), (2, .int x2)] → sr_V D aC shC n0 σ s.heap H locs → rec2 x2 = some r → W p l e rm_X1_meetsOtherRisk s m args below meth c H locs 0 0 (MQ below (sr_Qc D aC shC n0 σ (some (.int (bI r)))) args s 0 0 (sr_A shC n0)) (F0 m 2 ls [])) : ∀ (x2 : Int32) (H : Heap) (locs : List Loc) (ls : Array Slot) , lv_has ls 4 [(0, .ref (n0 + q0)), (1, .ref (n0 + q1)), (2, .int x2)] → sr_V D aC shC n0 σ s.heap H locs → f_X1_meetsOtherRisk_L2 σ q0 q1 rec2 x2 = some r → W p l e rm_X1_meetsOtherRisk s m args below meth c H locs 0 0 (MQ below (sr_Qc D aC shC n0 σ (some (.int (bI r)))) args s 0 0 (sr_A shC n0)) (F0 m 2 ls []) := by
  intro x2 H locs ls  hl hV hf
  have hx := hX.1.1
  have hb := hX.1.2.1
  unfold f_X1_meetsOtherRisk_L2 at hf
  refine lv_iload_n hx hb dX1_meetsOtherRisk_2 rfl (lv_at hl 2 rfl) ?_
  refine lv_aload_n hx hb dX1_meetsOtherRisk_3 rfl (lv_at hl 0 rfl) ?_
  refine fg_1_4 hX hV lk_164 (h0) dX1_meetsOtherRisk_4 ?_
  refine lv_icmp_ge (tgt := 56) hx hb dX1_meetsOtherRisk_7 (by decide) (fun c1 => ?_) (fun c1 => ?_)
  · have hf := sr_t hf c1
    refine lv_iconst (v := 0) hx hb dX1_meetsOtherRisk_56 (by decide) ?_
    cases hf
    exact s_zret (b := false) hX hV dX1_meetsOtherRisk_57
  · have hf := sr_f hf c1
    refine lv_iload_n hx hb dX1_meetsOtherRisk_10 rfl (lv_at hl 2 rfl) ?_
    refine lv_iconst (v := 5) hx hb dX1_meetsOtherRisk_11 (by decide) ?_
    refine lv_icmp_ge (tgt := 56) hx hb dX1_meetsOtherRisk_12 (by decide) (fun c2 => ?_) (fun c2 => ?_)
    · have hf := sr_t hf c2
      refine lv_iconst (v := 0) hx hb dX1_meetsOtherRisk_56 (by decide) ?_
      cases hf
      exact s_zret (b := false) hX hV dX1_meetsOtherRisk_57
    · have hf := sr_f hf c2
      refine lv_aload_n hx hb dX1_meetsOtherRisk_15 rfl (lv_at hl 0 rfl) ?_
      refine fg_1_0 hX hV lk_158 (h0) dX1_meetsOtherRisk_16 ?_
      refine lv_iload_n hx hb dX1_meetsOtherRisk_19 rfl (lv_at hl 2 rfl) ?_
      obtain ⟨g3, hf⟩ := sr_gd hf
      refine s_cald hX hV (n := 5) (ch_1_0 (h0)) (by decide) (inb_in g3) dX1_meetsOtherRisk_20 ?_
      refine lv_astore_n (lv' := [(3, .ref (n0 + ((q0 + 1) + 1 + 5 * (Int32.toNatClampNeg x2)))), (0, .ref (n0 + q0)), (1, .ref (n0 + q1)), (2, .int x2)]) hx hb dX1_meetsOtherRisk_21 rfl hl (by decide) rfl (fun ls hl => ?_)
      refine lv_aload_n hx hb dX1_meetsOtherRisk_22 rfl (lv_at hl 0 rfl) ?_
      refine lv_aload_n hx hb dX1_meetsOtherRisk_23 rfl (lv_at hl 2 rfl) ?_
      refine lv_acmp_eq (rx := some (n0 + ((q0 + 1) + 1 + 5 * (Int32.toNatClampNeg x2)))) (ry := some (n0 + q1)) (tgt := 50) hx hb dX1_meetsOtherRisk_24 (by decide) (fun c4 => ?_) (fun c4 => ?_)
      · have hf := sr_t hf (sr_ac.mp c4)
        obtain ⟨v5, e6, hf⟩ := sr_bnd hf
        refine lv_iinc (v := v5) (lv' := [(2, .int v5), (3, .ref (n0 + ((q0 + 1) + 1 + 5 * (Int32.toNatClampNeg x2)))), (0, .ref (n0 + q0)), (1, .ref (n0 + q1))]) hx hb dX1_meetsOtherRisk_50 hl (k := 3) rfl (by rw [← e6]; rfl) (by decide) rfl (fun ls hl => ?_)
        refine lv_goto (tgt := 2) hx hb dX1_meetsOtherRisk_53 (by decide) ?_
        exact hrec2 _ _ _ _  (lv_sub hl [2, 3, 0] rfl) hV hf
      · have hf := sr_f hf (fun z => c4 (sr_ac.mpr z))
        refine lv_aload_n hx hb dX1_meetsOtherRisk_27 rfl (lv_at hl 0 rfl) ?_
        refine fg_0_7 hX hV lk_100 (ch_list (ch_1_0 (h0)) (vp_lt (inb_in g3))) dX1_meetsOtherRisk_28 ?_
        refine lv_if_eq (tgt := 50) hx hb dX1_meetsOtherRisk_31 (by decide) (fun c7 => ?_) (fun c7 => ?_)
        · have hf := sr_f hf (sr_b0 c7)
          obtain ⟨v8, e9, hf⟩ := sr_bnd hf
          refine lv_iinc (v := v8) (lv' := [(2, .int v8), (3, .ref (n0 + ((q0 + 1) + 1 + 5 * (Int32.toNatClampNeg x2)))), (0, .ref (n0 + q0)), (1, .ref (n0 + q1))]) hx hb dX1_meetsOtherRisk_50 hl (k := 3) rfl (by rw [← e9]; rfl) (by decide) rfl (fun ls hl => ?_)
          refine lv_goto (tgt := 2) hx hb dX1_meetsOtherRisk_53 (by decide) ?_
          exact hrec2 _ _ _ _  (lv_sub hl [2, 3, 0] rfl) hV hf
        · have hf := sr_t hf (sr_b1 c7)
          refine lv_aload_n hx hb dX1_meetsOtherRisk_34 rfl (lv_at hl 0 rfl) ?_
          obtain ⟨v11, e10, hf⟩ := sr_bnd hf
          refine s_callV1 (ci := 0) hX hV hl.1 (c_X0_isUnderWay (ch_list (ch_1_0 (h0)) (vp_lt (inb_in g3))) e10) cv_X0_isUnderWay lk_501 ⟨rfl, rfl, Nat.le_of_ble_eq_true rfl, Nat.le_of_ble_eq_true rfl⟩ rfl (by decide) (ch_list (ch_1_0 (h0)) (vp_lt (inb_in g3))) rfl rfl (Nat.le_of_ble_eq_true rfl) dX1_meetsOtherRisk_35 ⟨Nat.le_of_ble_eq_true rfl, Nat.le_of_ble_eq_true rfl⟩ (fun H locs hV => ?_)
          refine lv_if_eq (tgt := 50) hx hb dX1_meetsOtherRisk_38 (by decide) (fun c12 => ?_) (fun c12 => ?_)
          · have hf := sr_f hf (sr_b0 c12)
            obtain ⟨v13, e14, hf⟩ := sr_bnd hf
            refine lv_iinc (v := v13) (lv' := [(2, .int v13), (3, .ref (n0 + ((q0 + 1) + 1 + 5 * (Int32.toNatClampNeg x2)))), (0, .ref (n0 + q0)), (1, .ref (n0 + q1))]) hx hb dX1_meetsOtherRisk_50 hl (k := 3) rfl (by rw [← e14]; rfl) (by decide) rfl (fun ls hl => ?_)
            refine lv_goto (tgt := 2) hx hb dX1_meetsOtherRisk_53 (by decide) ?_
            exact hrec2 _ _ _ _  (lv_sub hl [2, 3, 0] rfl) hV hf
          · have hf := sr_t hf (sr_b1 c12)
            refine lv_aload_n hx hb dX1_meetsOtherRisk_41 rfl (lv_at hl 0 rfl) ?_
            refine fg_0_6 hX hV lk_97 (ch_list (ch_1_0 (h0)) (vp_lt (inb_in g3))) dX1_meetsOtherRisk_42 ?_
            refine lv_if_le (tgt := 50) hx hb dX1_meetsOtherRisk_45 (by decide) (fun c15 => ?_) (fun c15 => ?_)
            · have hf := sr_t hf c15
              obtain ⟨v16, e17, hf⟩ := sr_bnd hf
              refine lv_iinc (v := v16) (lv' := [(2, .int v16), (3, .ref (n0 + ((q0 + 1) + 1 + 5 * (Int32.toNatClampNeg x2)))), (0, .ref (n0 + q0)), (1, .ref (n0 + q1))]) hx hb dX1_meetsOtherRisk_50 hl (k := 3) rfl (by rw [← e17]; rfl) (by decide) rfl (fun ls hl => ?_)
              refine lv_goto (tgt := 2) hx hb dX1_meetsOtherRisk_53 (by decide) ?_
              exact hrec2 _ _ _ _  (lv_sub hl [2, 3, 0] rfl) hV hf
            · have hf := sr_f hf c15
              refine lv_iconst (v := 1) hx hb dX1_meetsOtherRisk_48 (by decide) ?_
              cases hf
              exact s_zret (b := true) hX hV dX1_meetsOtherRisk_49
set_option maxHeartbeats 4000000 in
set_option maxRecDepth 100000 in
theorem k_X1_meetsOtherRisk_L2w {p : Program} {l : Launch} {e : Env} {s : State} {m : MethodId} {args : Array Value} {below : List Frame} {meth : Method} {c : Code} {D : va_G} {aC : Nat → ClassId} {n0 : Nat} {r : Bool} {σ : St} {q0 : Nat} {q1 : Nat} (hX : sr_X p s m args meth c cX1_meetsOtherRisk 4 (Option.some FieldType.boolean) RX1 D aC) (h0 : shC q0 = 2) (h1 : shC q1 = 1) (n : Nat) : ∀ (x2 : Int32) (H : Heap) (locs : List Loc) (ls : Array Slot) , lv_has ls 4 [(0, .ref (n0 + q0)), (1, .ref (n0 + q1)), (2, .int x2)] → sr_V D aC shC n0 σ s.heap H locs → it1 (f_X1_meetsOtherRisk_L2 σ q0 q1) n x2 = some r → W p l e rm_X1_meetsOtherRisk s m args below meth c H locs 0 0 (MQ below (sr_Qc D aC shC n0 σ (some (.int (bI r)))) args s 0 0 (sr_A shC n0)) (F0 m 2 ls []) :=
  it1_ind (fun rec2 => ∀ (x2 : Int32) (H : Heap) (locs : List Loc) (ls : Array Slot) , lv_has ls 4 [(0, .ref (n0 + q0)), (1, .ref (n0 + q1)), (2, .int x2)] → sr_V D aC shC n0 σ s.heap H locs → rec2 x2 = some r → W p l e rm_X1_meetsOtherRisk s m args below meth c H locs 0 0 (MQ below (sr_Qc D aC shC n0 σ (some (.int (bI r)))) args s 0 0 (sr_A shC n0)) (F0 m 2 ls [])) (by intros; rename_i hf; exact absurd hf (by simp)) (fun rec hrec => k_X1_meetsOtherRisk_L2 hX h0 h1  rec hrec) n
set_option maxHeartbeats 4000000 in
set_option maxRecDepth 100000 in
theorem c_X1_meetsOtherRisk {l : Launch} {D : va_G} {aC : Nat → ClassId} {n0 : Nat} {r : Bool} {σ : St}  {q0 : Nat} {q1 : Nat} (h0 : shC q0 = 2) (h1 : shC q1 = 1) (hf : f_X1_meetsOtherRisk q0 q1 σ = some r) : sr_Met l D aC shC n0 yX1_meetsOtherRisk cX1_meetsOtherRisk 4 (Option.some FieldType.boolean) rm_X1_meetsOtherRisk [.ref (n0 + q0), .ref (n0 + q1)] σ (some (.int (bI r))) σ := by
  refine s_met (own := RX1) (by decide) (Nat.le_of_ble_eq_true rfl) rfl ?_
  intro p e s m below meth c ls hX hV hl
  have hl : lv_has ls 4 [(0, .ref (n0 + q0)), (1, .ref (n0 + q1))] := hl
  have hx := hX.1.1
  have hb := hX.1.2.1
  unfold f_X1_meetsOtherRisk at hf
  refine lv_iconst (v := 0) hx hb dX1_meetsOtherRisk_0 (by decide) ?_
  refine lv_istore_n (lv' := [(2, .int 0), (0, .ref (n0 + q0)), (1, .ref (n0 + q1))]) hx hb dX1_meetsOtherRisk_1 rfl hl (by decide) rfl (fun ls hl => ?_)
  exact k_X1_meetsOtherRisk_L2w hX h0 h1  sr_fuel _ _ _ _  (lv_sub hl [1, 2, 0] rfl) hV hf
abbrev rm_X1_reasonBeforeFirstStage : Room := { frames := 2, cells := 0, slots := 0, locals := 43 }
theorem cv_X1_reasonBeforeFirstStage : sr_Cv yX1_reasonBeforeFirstStage cX1_reasonBeforeFirstStage 2 (Option.some FieldType.int) RX1 1 := ⟨lk_532, lk_531, lp_12, lk_2, rfl, by decide +kernel, by decide +kernel, by decide +kernel⟩
set_option maxHeartbeats 4000000 in
set_option maxRecDepth 100000 in
theorem c_X1_reasonBeforeFirstStage {l : Launch} {D : va_G} {aC : Nat → ClassId} {n0 : Nat} {r : Int32} {σ : St}  {q0 : Nat} {q1 : Nat} (h0 : shC q0 = 2) (h1 : shC q1 = 1) (hf : f_X1_reasonBeforeFirstStage q0 q1 σ = some r) : sr_Met l D aC shC n0 yX1_reasonBeforeFirstStage cX1_reasonBeforeFirstStage 2 (Option.some FieldType.int) rm_X1_reasonBeforeFirstStage [.ref (n0 + q0), .ref (n0 + q1)] σ (some (.int r)) σ := by
  refine s_met (own := RX1) (by decide) (Nat.le_of_ble_eq_true rfl) rfl ?_
  intro p e s m below meth c ls hX hV hl
  have hl : lv_has ls 2 [(0, .ref (n0 + q0)), (1, .ref (n0 + q1))] := hl
  have hx := hX.1.1
  have hb := hX.1.2.1
  unfold f_X1_reasonBeforeFirstStage at hf
  refine lv_aload_n hx hb dX1_reasonBeforeFirstStage_0 rfl (lv_at hl 0 rfl) ?_
  refine lv_aload_n hx hb dX1_reasonBeforeFirstStage_1 rfl (lv_at hl 1 rfl) ?_
  refine fg_0_4 hX hV lk_92 (h1) dX1_reasonBeforeFirstStage_2 ?_
  obtain ⟨v2, e1, hf⟩ := sr_obd hf
  refine s_callV1 (ci := 1) hX hV hl.1 (c_X1_lacksDone (h0) e1) cv_X1_lacksDone lk_533 ⟨rfl, rfl, Nat.le_of_ble_eq_true rfl, Nat.le_of_ble_eq_true rfl⟩ rfl (by decide) (h0) rfl rfl (Nat.le_of_ble_eq_true rfl) dX1_reasonBeforeFirstStage_5 ⟨Nat.le_of_ble_eq_true rfl, Nat.le_of_ble_eq_true rfl⟩ (fun H locs hV => ?_)
  refine lv_if_eq (tgt := 14) hx hb dX1_reasonBeforeFirstStage_8 (by decide) (fun c3 => ?_) (fun c3 => ?_)
  · have hf := sr_f hf (sr_b0 c3)
    refine lv_aload_n hx hb dX1_reasonBeforeFirstStage_14 rfl (lv_at hl 1 rfl) ?_
    refine fg_0_7 hX hV lk_100 (h1) dX1_reasonBeforeFirstStage_15 ?_
    refine lv_if_eq (tgt := 34) hx hb dX1_reasonBeforeFirstStage_18 (by decide) (fun c4 => ?_) (fun c4 => ?_)
    · have hf := sr_f hf (sr_b0 c4)
      refine lv_iconst (v := 0) hx hb dX1_reasonBeforeFirstStage_34 (by decide) ?_
      cases hf
      exact s_iret hX hV dX1_reasonBeforeFirstStage_35
    · have hf := sr_t hf (sr_b1 c4)
      refine lv_aload_n hx hb dX1_reasonBeforeFirstStage_21 rfl (lv_at hl 0 rfl) ?_
      refine lv_aload_n hx hb dX1_reasonBeforeFirstStage_22 rfl (lv_at hl 1 rfl) ?_
      obtain ⟨v6, e5, hf⟩ := sr_obd hf
      refine s_callV1 (ci := 1) hX hV hl.1 (c_X1_meetsOtherRisk (h0) (h1) e5) cv_X1_meetsOtherRisk lk_537 ⟨rfl, rfl, Nat.le_of_ble_eq_true rfl, Nat.le_of_ble_eq_true rfl⟩ rfl (by decide) (h0) rfl rfl (Nat.le_of_ble_eq_true rfl) dX1_reasonBeforeFirstStage_23 ⟨Nat.le_of_ble_eq_true rfl, Nat.le_of_ble_eq_true rfl⟩ (fun H locs hV => ?_)
      refine lv_if_eq (tgt := 34) hx hb dX1_reasonBeforeFirstStage_26 (by decide) (fun c7 => ?_) (fun c7 => ?_)
      · have hf := sr_f hf (sr_b0 c7)
        refine lv_iconst (v := 0) hx hb dX1_reasonBeforeFirstStage_34 (by decide) ?_
        cases hf
        exact s_iret hX hV dX1_reasonBeforeFirstStage_35
      · have hf := sr_t hf (sr_b1 c7)
        refine lv_bipush (v := 8) hx hb dX1_reasonBeforeFirstStage_29 (by decide) ?_
        refine lv_goto (tgt := 35) hx hb dX1_reasonBeforeFirstStage_31 (by decide) ?_
        cases hf
        exact s_iret hX hV dX1_reasonBeforeFirstStage_35
  · have hf := sr_t hf (sr_b1 c3)
    refine lv_bipush (v := 7) hx hb dX1_reasonBeforeFirstStage_11 (by decide) ?_
    cases hf
    exact s_iret hX hV dX1_reasonBeforeFirstStage_13
abbrev rm_X1_reasonOf : Room := { frames := 3, cells := 0, slots := 0, locals := 69 }
theorem cv_X1_reasonOf : sr_Cv yX1_reasonOf cX1_reasonOf 2 (Option.some FieldType.int) RX1 1 := ⟨lk_500, lk_498, lk_499, lk_2, rfl, by decide +kernel, by decide +kernel, by decide +kernel⟩
set_option maxHeartbeats 4000000 in
set_option maxRecDepth 100000 in
theorem k_X1_reasonOf_B90 {p : Program} {l : Launch} {e : Env} {s : State} {m : MethodId} {args : Array Value} {below : List Frame} {meth : Method} {c : Code} {D : va_G} {aC : Nat → ClassId} {n0 : Nat} {r : Int32} {σ : St} {q0 : Nat} {q1 : Nat} (hX : sr_X p s m args meth c cX1_reasonOf 2 (Option.some FieldType.int) RX1 D aC) (h0 : shC q0 = 2) (h1 : shC q1 = 1)   {H : Heap} {locs : List Loc} {ls : Array Slot} (hl : lv_has ls 2 [(0, .ref (n0 + q0)), (1, .ref (n0 + q1))]) (hV : sr_V D aC shC n0 σ s.heap H locs) (hf : f_X1_reasonOf_B90 σ q0 q1  = some r) : W p l e rm_X1_reasonOf s m args below meth c H locs 0 0 (MQ below (sr_Qc D aC shC n0 σ (some (.int r))) args s 0 0 (sr_A shC n0)) (F0 m 90 ls []) := by
  have hx := hX.1.1
  have hb := hX.1.2.1
  unfold f_X1_reasonOf_B90 at hf
  refine lv_aload_n hx hb dX1_reasonOf_90 rfl (lv_at hl 1 rfl) ?_
  refine fg_0_6 hX hV lk_97 (h1) dX1_reasonOf_91 ?_
  refine lv_if_le (tgt := 101) hx hb dX1_reasonOf_94 (by decide) (fun c1 => ?_) (fun c1 => ?_)
  · have hf := sr_t hf c1
    refine lv_aload_n hx hb dX1_reasonOf_101 rfl (lv_at hl 0 rfl) ?_
    refine lv_aload_n hx hb dX1_reasonOf_102 rfl (lv_at hl 1 rfl) ?_
    obtain ⟨v3, e2, hf⟩ := sr_obd hf
    refine s_callV1 (ci := 1) hX hV hl.1 (c_X1_reasonBeforeFirstStage (h0) (h1) e2) cv_X1_reasonBeforeFirstStage lk_529 ⟨rfl, rfl, Nat.le_of_ble_eq_true rfl, Nat.le_of_ble_eq_true rfl⟩ rfl (by decide) (h0) rfl rfl (Nat.le_of_ble_eq_true rfl) dX1_reasonOf_103 ⟨Nat.le_of_ble_eq_true rfl, Nat.le_of_ble_eq_true rfl⟩ (fun H locs hV => ?_)
    cases hf
    exact s_iret hX hV dX1_reasonOf_106
  · have hf := sr_f hf c1
    refine lv_iconst (v := 0) hx hb dX1_reasonOf_97 (by decide) ?_
    refine lv_goto (tgt := 106) hx hb dX1_reasonOf_98 (by decide) ?_
    cases hf
    exact s_iret hX hV dX1_reasonOf_106
set_option maxHeartbeats 4000000 in
set_option maxRecDepth 100000 in
theorem k_X1_reasonOf_B62 {p : Program} {l : Launch} {e : Env} {s : State} {m : MethodId} {args : Array Value} {below : List Frame} {meth : Method} {c : Code} {D : va_G} {aC : Nat → ClassId} {n0 : Nat} {r : Int32} {σ : St} {q0 : Nat} {q1 : Nat} (hX : sr_X p s m args meth c cX1_reasonOf 2 (Option.some FieldType.int) RX1 D aC) (h0 : shC q0 = 2) (h1 : shC q1 = 1)   {H : Heap} {locs : List Loc} {ls : Array Slot} (hl : lv_has ls 2 [(0, .ref (n0 + q0)), (1, .ref (n0 + q1))]) (hV : sr_V D aC shC n0 σ s.heap H locs) (hf : f_X1_reasonOf_B62 σ q0 q1  = some r) : W p l e rm_X1_reasonOf s m args below meth c H locs 0 0 (MQ below (sr_Qc D aC shC n0 σ (some (.int r))) args s 0 0 (sr_A shC n0)) (F0 m 62 ls []) := by
  have hx := hX.1.1
  have hb := hX.1.2.1
  unfold f_X1_reasonOf_B62 at hf
  refine lv_aload_n hx hb dX1_reasonOf_62 rfl (lv_at hl 1 rfl) ?_
  obtain ⟨v5, e4, hf⟩ := sr_bnd hf
  refine s_callV1 (ci := 0) hX hV hl.1 (c_X0_hasFurtherStage (h1) e4) cv_X0_hasFurtherStage lk_521 ⟨rfl, rfl, Nat.le_of_ble_eq_true rfl, Nat.le_of_ble_eq_true rfl⟩ rfl (by decide) (h1) rfl rfl (Nat.le_of_ble_eq_true rfl) dX1_reasonOf_63 ⟨Nat.le_of_ble_eq_true rfl, Nat.le_of_ble_eq_true rfl⟩ (fun H locs hV => ?_)
  refine lv_if_eq (tgt := 90) hx hb dX1_reasonOf_66 (by decide) (fun c6 => ?_) (fun c6 => ?_)
  · have hf := sr_f hf (sr_b0 c6)
    exact k_X1_reasonOf_B90 hX h0 h1   (lv_sub hl [0, 1] rfl) hV hf
  · have hf := sr_t hf (sr_b1 c6)
    refine lv_aload_n hx hb dX1_reasonOf_69 rfl (lv_at hl 0 rfl) ?_
    refine fg_1_1 hX hV lk_159 (h0) dX1_reasonOf_70 ?_
    refine lv_aload_n hx hb dX1_reasonOf_73 rfl (lv_at hl 0 rfl) ?_
    refine fg_1_6 hX hV lk_168 (h0) dX1_reasonOf_74 ?_
    refine lv_sipush (v := 168) hx hb dX1_reasonOf_77 (by decide) ?_
    refine lv_irem hx hb dX1_reasonOf_80 (by decide) ?_
    change W _ _ _ _ _ _ _ _ _ _ _ _ _ _ _ (F0 m 81 ls (.int (irm (gI σ q0 6) 168) :: _))
    obtain ⟨v8, e7, hf⟩ := sr_obd hf
    refine s_callV1 (ci := 2) hX hV hl.1 (c_X2_covers (ch_1_1 (h0)) e7) cv_X2_covers lk_525 ⟨rfl, rfl, Nat.le_of_ble_eq_true rfl, Nat.le_of_ble_eq_true rfl⟩ rfl (by decide) (ch_1_1 (h0)) rfl rfl (Nat.le_of_ble_eq_true rfl) dX1_reasonOf_81 ⟨Nat.le_of_ble_eq_true rfl, Nat.le_of_ble_eq_true rfl⟩ (fun H locs hV => ?_)
    refine lv_if_eq (tgt := 90) hx hb dX1_reasonOf_84 (by decide) (fun c9 => ?_) (fun c9 => ?_)
    · have hf := sr_f hf (sr_b0 c9)
      exact k_X1_reasonOf_B90 hX h0 h1   (lv_sub hl [0, 1] rfl) hV hf
    · have hf := sr_t hf (sr_b1 c9)
      refine lv_bipush (v := 6) hx hb dX1_reasonOf_87 (by decide) ?_
      cases hf
      exact s_iret hX hV dX1_reasonOf_89
set_option maxHeartbeats 4000000 in
set_option maxRecDepth 100000 in
theorem c_X1_reasonOf {l : Launch} {D : va_G} {aC : Nat → ClassId} {n0 : Nat} {r : Int32} {σ : St}  {q0 : Nat} {q1 : Nat} (h0 : shC q0 = 2) (h1 : shC q1 = 1) (hf : f_X1_reasonOf q0 q1 σ = some r) : sr_Met l D aC shC n0 yX1_reasonOf cX1_reasonOf 2 (Option.some FieldType.int) rm_X1_reasonOf [.ref (n0 + q0), .ref (n0 + q1)] σ (some (.int r)) σ := by
  refine s_met (own := RX1) (by decide) (Nat.le_of_ble_eq_true rfl) rfl ?_
  intro p e s m below meth c ls hX hV hl
  have hl : lv_has ls 2 [(0, .ref (n0 + q0)), (1, .ref (n0 + q1))] := hl
  have hx := hX.1.1
  have hb := hX.1.2.1
  unfold f_X1_reasonOf at hf
  refine lv_aload_n hx hb dX1_reasonOf_0 rfl (lv_at hl 1 rfl) ?_
  obtain ⟨v11, e10, hf⟩ := sr_bnd hf
  refine s_callV1 (ci := 0) hX hV hl.1 (c_X0_isUnderWay (h1) e10) cv_X0_isUnderWay lk_501 ⟨rfl, rfl, Nat.le_of_ble_eq_true rfl, Nat.le_of_ble_eq_true rfl⟩ rfl (by decide) (h1) rfl rfl (Nat.le_of_ble_eq_true rfl) dX1_reasonOf_1 ⟨Nat.le_of_ble_eq_true rfl, Nat.le_of_ble_eq_true rfl⟩ (fun H locs hV => ?_)
  refine lv_if_ne (tgt := 9) hx hb dX1_reasonOf_4 (by decide) (fun c12 => ?_) (fun c12 => ?_)
  · have hf := sr_t hf (sr_b1 c12)
    refine lv_aload_n hx hb dX1_reasonOf_9 rfl (lv_at hl 1 rfl) ?_
    refine fg_0_5 hX hV lk_95 (h1) dX1_reasonOf_10 ?_
    refine lv_iconst (v := 4) hx hb dX1_reasonOf_13 (by decide) ?_
    refine lv_icmp_ne (tgt := 19) hx hb dX1_reasonOf_14 (by decide) (fun c13 => ?_) (fun c13 => ?_)
    · have hf := sr_f hf c13
      refine lv_aload_n hx hb dX1_reasonOf_19 rfl (lv_at hl 1 rfl) ?_
      refine fg_0_5 hX hV lk_95 (h1) dX1_reasonOf_20 ?_
      refine lv_iconst (v := 2) hx hb dX1_reasonOf_23 (by decide) ?_
      refine lv_icmp_ne (tgt := 29) hx hb dX1_reasonOf_24 (by decide) (fun c14 => ?_) (fun c14 => ?_)
      · have hf := sr_f hf c14
        refine lv_aload_n hx hb dX1_reasonOf_29 rfl (lv_at hl 1 rfl) ?_
        refine lv_aload_n hx hb dX1_reasonOf_30 rfl (lv_at hl 0 rfl) ?_
        refine fg_1_6 hX hV lk_168 (h0) dX1_reasonOf_31 ?_
        obtain ⟨v16, e15, hf⟩ := sr_obd hf
        refine s_callV1 (ci := 0) hX hV hl.1 (c_X0_waitsAt (h1) e15) cv_X0_waitsAt lk_505 ⟨rfl, rfl, Nat.le_of_ble_eq_true rfl, Nat.le_of_ble_eq_true rfl⟩ rfl (by decide) (h1) rfl rfl (Nat.le_of_ble_eq_true rfl) dX1_reasonOf_34 ⟨Nat.le_of_ble_eq_true rfl, Nat.le_of_ble_eq_true rfl⟩ (fun H locs hV => ?_)
        refine lv_if_eq (tgt := 42) hx hb dX1_reasonOf_37 (by decide) (fun c17 => ?_) (fun c17 => ?_)
        · have hf := sr_f hf (sr_b0 c17)
          refine lv_aload_n hx hb dX1_reasonOf_42 rfl (lv_at hl 0 rfl) ?_
          refine fg_1_3 hX hV lk_163 (h0) dX1_reasonOf_43 ?_
          refine lv_if_ne (tgt := 62) hx hb dX1_reasonOf_46 (by decide) (fun c18 => ?_) (fun c18 => ?_)
          · have hf := sr_t hf (sr_b1 c18)
            exact k_X1_reasonOf_B62 hX h0 h1   (lv_sub hl [0, 1] rfl) hV hf
          · have hf := sr_f hf (sr_b0 c18)
            refine lv_aload_n hx hb dX1_reasonOf_49 rfl (lv_at hl 1 rfl) ?_
            refine lv_aload_n hx hb dX1_reasonOf_50 rfl (lv_at hl 0 rfl) ?_
            obtain ⟨v20, e19, hf⟩ := sr_bnd hf
            refine s_callV1 (ci := 1) hX hV hl.1 (c_X1_allCells (h0) e19) cv_X1_allCells lk_514 ⟨rfl, rfl, Nat.le_of_ble_eq_true rfl, Nat.le_of_ble_eq_true rfl⟩ rfl (by decide) (h0) rfl rfl (Nat.le_of_ble_eq_true rfl) dX1_reasonOf_51 ⟨Nat.le_of_ble_eq_true rfl, Nat.le_of_ble_eq_true rfl⟩ (fun H locs hV => ?_)
            obtain ⟨v22, e21, hf⟩ := sr_obd hf
            refine s_callV1 (ci := 0) hX hV hl.1 (c_X0_lacksSamples (h1) e21) cv_X0_lacksSamples lk_515 ⟨rfl, rfl, Nat.le_of_ble_eq_true rfl, Nat.le_of_ble_eq_true rfl⟩ rfl (by decide) (h1) rfl rfl (Nat.le_of_ble_eq_true rfl) dX1_reasonOf_54 ⟨Nat.le_of_ble_eq_true rfl, Nat.le_of_ble_eq_true rfl⟩ (fun H locs hV => ?_)
            refine lv_if_eq (tgt := 62) hx hb dX1_reasonOf_57 (by decide) (fun c23 => ?_) (fun c23 => ?_)
            · have hf := sr_f hf (sr_b0 c23)
              exact k_X1_reasonOf_B62 hX h0 h1   (lv_sub hl [0, 1] rfl) hV hf
            · have hf := sr_t hf (sr_b1 c23)
              refine lv_iconst (v := 5) hx hb dX1_reasonOf_60 (by decide) ?_
              cases hf
              exact s_iret hX hV dX1_reasonOf_61
        · have hf := sr_t hf (sr_b1 c17)
          refine lv_iconst (v := 4) hx hb dX1_reasonOf_40 (by decide) ?_
          cases hf
          exact s_iret hX hV dX1_reasonOf_41
      · have hf := sr_t hf c14
        refine lv_iconst (v := 3) hx hb dX1_reasonOf_27 (by decide) ?_
        cases hf
        exact s_iret hX hV dX1_reasonOf_28
    · have hf := sr_t hf c13
      refine lv_iconst (v := 2) hx hb dX1_reasonOf_17 (by decide) ?_
      cases hf
      exact s_iret hX hV dX1_reasonOf_18
  · have hf := sr_f hf (sr_b0 c12)
    refine lv_iconst (v := 1) hx hb dX1_reasonOf_7 (by decide) ?_
    cases hf
    exact s_iret hX hV dX1_reasonOf_8
abbrev rm_X3_placeOf : Room := { frames := 0, cells := 0, slots := 0, locals := 0 }
theorem cv_X3_placeOf : sr_Cv yX3_placeOf cX3_placeOf 3 (Option.some FieldType.int) RX3 2 := ⟨lk_403, lk_402, lp_7, lk_7, rfl, by decide +kernel, by decide +kernel, by decide +kernel⟩
set_option maxHeartbeats 4000000 in
set_option maxRecDepth 100000 in
theorem c_X3_placeOf {l : Launch} {D : va_G} {aC : Nat → ClassId} {n0 : Nat} {r : Int32} {σ : St}  {q0 : Nat} {x1 : Int32} {x2 : Int32} (h0 : shC q0 = 4) (hf : f_X3_placeOf q0 x1 x2 σ = r) : sr_Met l D aC shC n0 yX3_placeOf cX3_placeOf 3 (Option.some FieldType.int) rm_X3_placeOf [.ref (n0 + q0), .int x1, .int x2] σ (some (.int r)) σ := by
  refine s_met (own := RX3) (by decide) (Nat.le_of_ble_eq_true rfl) rfl ?_
  intro p e s m below meth c ls hX hV hl
  have hl : lv_has ls 3 [(0, .ref (n0 + q0)), (1, .int x1), (2, .int x2)] := hl
  have hx := hX.1.1
  have hb := hX.1.2.1
  unfold f_X3_placeOf at hf
  refine lv_aload_n hx hb dX3_placeOf_0 rfl (lv_at hl 0 rfl) ?_
  refine fg_3_1 hX hV lk_144 (h0) dX3_placeOf_1 ?_
  refine lv_iload_n hx hb dX3_placeOf_4 rfl (lv_at hl 1 rfl) ?_
  refine lv_iadd hx hb dX3_placeOf_5 ?_
  refine lv_bipush (v := 20) hx hb dX3_placeOf_6 (by decide) ?_
  refine lv_irem hx hb dX3_placeOf_8 (by decide) ?_
  change W _ _ _ _ _ _ _ _ _ _ _ _ _ _ _ (F0 m 9 ls (.int (irm ((gI σ q0 1) + x1) 20) :: _))
  refine lv_iconst (v := 4) hx hb dX3_placeOf_9 (by decide) ?_
  refine lv_imul hx hb dX3_placeOf_10 ?_
  refine lv_iload_n hx hb dX3_placeOf_11 rfl (lv_at hl 2 rfl) ?_
  refine lv_iadd hx hb dX3_placeOf_12 ?_
  cases hf
  exact s_iret hX hV dX3_placeOf_13
abbrev rm_X3_put : Room := { frames := 1, cells := 0, slots := 0, locals := 22 }
theorem cv_X3_put : sr_Cv yX3_put cX3_put 6 (none) RX3 4 := ⟨lk_399, lk_397, lk_398, lk_7, rfl, by decide +kernel, by decide +kernel, by decide +kernel⟩
set_option maxHeartbeats 4000000 in
set_option maxRecDepth 100000 in
theorem k_X3_put_B28 {p : Program} {l : Launch} {e : Env} {s : State} {m : MethodId} {args : Array Value} {below : List Frame} {meth : Method} {c : Code} {D : va_G} {aC : Nat → ClassId} {n0 : Nat} {σ' : St} {q0 : Nat} {x1 : Int32} {x2 : Int32} {x3 : Int32} {x4 : Int32} {σ : St} (hX : sr_X p s m args meth c cX3_put 6 (none) RX3 D aC) (h0 : shC q0 = 4)   {H : Heap} {locs : List Loc} {ls : Array Slot} (hl : lv_has ls 6 [(0, .ref (n0 + q0)), (1, .int x1), (2, .int x2), (3, .int x3), (4, .int x4)]) (hV : sr_V D aC shC n0 σ s.heap H locs) (hf : f_X3_put_B28 q0 x1 x2 x3 x4 σ = some σ') : W p l e rm_X3_put s m args below meth c H locs 0 0 (MQ below (sr_Qc D aC shC n0 σ' none) args s 0 0 (sr_A shC n0)) (F0 m 28 ls []) := by
  have hx := hX.1.1
  have hb := hX.1.2.1
  unfold f_X3_put_B28 at hf
  refine lv_aload_n hx hb dX3_put_28 rfl (lv_at hl 0 rfl) ?_
  refine lv_aload_n hx hb dX3_put_29 rfl (lv_at hl 0 rfl) ?_
  refine fg_3_2 hX hV lk_145 (h0) dX3_put_30 ?_
  refine lv_iconst (v := 0) hx hb dX3_put_33 (by decide) ?_
  obtain ⟨v2, e1, hf⟩ := sr_bnd hf
  refine s_callV1 (ci := 3) hX hV hl.1 (c_X3_placeOf (h0) e1) cv_X3_placeOf lk_400 ⟨rfl, rfl, Nat.le_of_ble_eq_true rfl, Nat.le_of_ble_eq_true rfl⟩ rfl (by decide) (h0) rfl rfl (Nat.le_of_ble_eq_true rfl) dX3_put_34 ⟨Nat.le_of_ble_eq_true rfl, Nat.le_of_ble_eq_true rfl⟩ (fun H locs hV => ?_)
  refine lv_istore (lv' := [(5, .int v2), (0, .ref (n0 + q0)), (1, .int x1), (2, .int x2), (3, .int x3), (4, .int x4)]) hx hb dX3_put_37 hl (by decide) rfl (fun ls hl => ?_)
  refine lv_aload_n hx hb dX3_put_39 rfl (lv_at hl 1 rfl) ?_
  refine lv_dup hx hb dX3_put_40 rfl ?_
  refine fg_3_2 hX hV lk_145 (h0) dX3_put_41 ?_
  refine lv_iconst (v := 1) hx hb dX3_put_44 (by decide) ?_
  refine lv_iadd hx hb dX3_put_45 ?_
  obtain ⟨σ3, e4, hf⟩ := sr_bnd hf
  refine fp_3_2 (x := ((gI σ q0 2) + 1)) hX hV lk_145 (h0) dX3_put_46 (fun H locs hV => ?_)
  rw [e4] at hV
  refine lv_aload_n hx hb dX3_put_49 rfl (lv_at hl 1 rfl) ?_
  refine lv_dup hx hb dX3_put_50 rfl ?_
  refine fg_3_3 hX hV lk_147 (h0) dX3_put_51 ?_
  refine lv_iconst (v := 1) hx hb dX3_put_54 (by decide) ?_
  refine lv_iadd hx hb dX3_put_55 ?_
  obtain ⟨σ5, e6, hf⟩ := sr_bnd hf
  refine fp_3_3 (x := ((gI σ3 q0 3) + 1)) hX hV lk_147 (h0) dX3_put_56 (fun H locs hV => ?_)
  rw [e6] at hV
  refine lv_iload hx hb dX3_put_59 (lv_at hl 0 rfl) ?_
  refine lv_iconst (v := 0) hx hb dX3_put_61 (by decide) ?_
  refine lv_aload_n hx hb dX3_put_62 rfl (lv_at hl 1 rfl) ?_
  refine fg_3_0 hX hV lk_143 (h0) dX3_put_63 ?_
  refine s_alen hX hV (n := 80) (v := 80) (ch_3_0 (h0)) (by decide) (by decide) dX3_put_66 ?_
  refine lv_iconst (v := 4) hx hb dX3_put_67 (by decide) ?_
  refine lv_isub hx hb dX3_put_68 ?_
  obtain ⟨v8, e7, hf⟩ := sr_bnd hf
  refine s_callN1 hX hV hl.1 (c_X7_isWithin  e7) cs_X7_isWithin hX.2.1.2.2.1 ⟨rfl, rfl, Nat.le_of_ble_eq_true rfl, Nat.le_of_ble_eq_true rfl⟩ rfl rfl (Nat.le_of_ble_eq_true rfl) dX3_put_69 ⟨Nat.le_of_ble_eq_true rfl, Nat.le_of_ble_eq_true rfl⟩ (fun H locs hV => ?_)
  refine lv_if_eq (tgt := 116) hx hb dX3_put_72 (by decide) (fun c9 => ?_) (fun c9 => ?_)
  · have hf := sr_f hf (sr_b0 c9)
    cases hf
    exact s_vret hX hV dX3_put_116
  · have hf := sr_t hf (sr_b1 c9)
    refine lv_aload_n hx hb dX3_put_75 rfl (lv_at hl 1 rfl) ?_
    refine fg_3_0 hX hV lk_143 (h0) dX3_put_76 ?_
    refine lv_iload hx hb dX3_put_79 (lv_at hl 0 rfl) ?_
    refine lv_iconst (v := 0) hx hb dX3_put_81 (by decide) ?_
    refine lv_iadd hx hb dX3_put_82 ?_
    refine lv_iload_n hx hb dX3_put_83 rfl (lv_at hl 2 rfl) ?_
    obtain ⟨v10, e11, hf⟩ := sr_bnd hf
    rw [e11]
    obtain ⟨g12, hf⟩ := sr_gd hf
    obtain ⟨σ13, e14, hf⟩ := sr_bnd hf
    refine s_iast hX hV (n := 80) (ch_3_0 (h0)) (by decide) (inb_in g12) dX3_put_84 (fun H locs hV => ?_)
    rw [e14] at hV
    refine lv_aload_n hx hb dX3_put_85 rfl (lv_at hl 1 rfl) ?_
    refine fg_3_0 hX hV lk_143 (h0) dX3_put_86 ?_
    refine lv_iload hx hb dX3_put_89 (lv_at hl 0 rfl) ?_
    refine lv_iconst (v := 1) hx hb dX3_put_91 (by decide) ?_
    refine lv_iadd hx hb dX3_put_92 ?_
    refine lv_iload_n hx hb dX3_put_93 rfl (lv_at hl 3 rfl) ?_
    obtain ⟨v15, e16, hf⟩ := sr_bnd hf
    rw [e16]
    obtain ⟨g17, hf⟩ := sr_gd hf
    obtain ⟨σ18, e19, hf⟩ := sr_bnd hf
    refine s_iast hX hV (n := 80) (ch_3_0 (h0)) (by decide) (inb_in g17) dX3_put_94 (fun H locs hV => ?_)
    rw [e19] at hV
    refine lv_aload_n hx hb dX3_put_95 rfl (lv_at hl 1 rfl) ?_
    refine fg_3_0 hX hV lk_143 (h0) dX3_put_96 ?_
    refine lv_iload hx hb dX3_put_99 (lv_at hl 0 rfl) ?_
    refine lv_iconst (v := 2) hx hb dX3_put_101 (by decide) ?_
    refine lv_iadd hx hb dX3_put_102 ?_
    refine lv_iload_n hx hb dX3_put_103 rfl (lv_at hl 4 rfl) ?_
    obtain ⟨v20, e21, hf⟩ := sr_bnd hf
    rw [e21]
    obtain ⟨g22, hf⟩ := sr_gd hf
    obtain ⟨σ23, e24, hf⟩ := sr_bnd hf
    refine s_iast hX hV (n := 80) (ch_3_0 (h0)) (by decide) (inb_in g22) dX3_put_104 (fun H locs hV => ?_)
    rw [e24] at hV
    refine lv_aload_n hx hb dX3_put_105 rfl (lv_at hl 1 rfl) ?_
    refine fg_3_0 hX hV lk_143 (h0) dX3_put_106 ?_
    refine lv_iload hx hb dX3_put_109 (lv_at hl 0 rfl) ?_
    refine lv_iconst (v := 3) hx hb dX3_put_111 (by decide) ?_
    refine lv_iadd hx hb dX3_put_112 ?_
    refine lv_iload hx hb dX3_put_113 (lv_at hl 5 rfl) ?_
    obtain ⟨v25, e26, hf⟩ := sr_bnd hf
    rw [e26]
    obtain ⟨g27, hf⟩ := sr_gd hf
    obtain ⟨σ28, e29, hf⟩ := sr_bnd hf
    refine s_iast hX hV (n := 80) (ch_3_0 (h0)) (by decide) (inb_in g27) dX3_put_115 (fun H locs hV => ?_)
    rw [e29] at hV
    cases hf
    exact s_vret hX hV dX3_put_116
set_option maxHeartbeats 4000000 in
set_option maxRecDepth 100000 in
theorem c_X3_put {l : Launch} {D : va_G} {aC : Nat → ClassId} {n0 : Nat} {σ' : St}  {σ : St} {q0 : Nat} {x1 : Int32} {x2 : Int32} {x3 : Int32} {x4 : Int32} (h0 : shC q0 = 4) (hf : f_X3_put q0 x1 x2 x3 x4 σ = some σ') : sr_Met l D aC shC n0 yX3_put cX3_put 6 (none) rm_X3_put [.ref (n0 + q0), .int x1, .int x2, .int x3, .int x4] σ none σ' := by
  refine s_met (own := RX3) (by decide) (Nat.le_of_ble_eq_true rfl) rfl ?_
  intro p e s m below meth c ls hX hV hl
  have hl : lv_has ls 6 [(0, .ref (n0 + q0)), (1, .int x1), (2, .int x2), (3, .int x3), (4, .int x4)] := hl
  have hx := hX.1.1
  have hb := hX.1.2.1
  unfold f_X3_put at hf
  refine lv_aload_n hx hb dX3_put_0 rfl (lv_at hl 0 rfl) ?_
  refine fg_3_2 hX hV lk_145 (h0) dX3_put_1 ?_
  refine lv_bipush (v := 20) hx hb dX3_put_4 (by decide) ?_
  refine lv_icmp_lt (tgt := 28) hx hb dX3_put_6 (by decide) (fun c30 => ?_) (fun c30 => ?_)
  · have hf := sr_t hf c30
    exact k_X3_put_B28 hX h0   (lv_sub hl [0, 1, 2, 3, 4] rfl) hV hf
  · have hf := sr_f hf c30
    refine lv_aload_n hx hb dX3_put_9 rfl (lv_at hl 0 rfl) ?_
    refine lv_aload_n hx hb dX3_put_10 rfl (lv_at hl 0 rfl) ?_
    refine fg_3_1 hX hV lk_144 (h0) dX3_put_11 ?_
    refine lv_iconst (v := 1) hx hb dX3_put_14 (by decide) ?_
    refine lv_iadd hx hb dX3_put_15 ?_
    refine lv_bipush (v := 20) hx hb dX3_put_16 (by decide) ?_
    refine lv_irem hx hb dX3_put_18 (by decide) ?_
    change W _ _ _ _ _ _ _ _ _ _ _ _ _ _ _ (F0 m 19 ls (.int (irm ((gI σ q0 1) + 1) 20) :: _))
    obtain ⟨σ31, e32, hf⟩ := sr_bnd hf
    refine fp_3_1 (x := (irm ((gI σ q0 1) + 1) 20)) hX hV lk_144 (h0) dX3_put_19 (fun H locs hV => ?_)
    rw [e32] at hV
    refine lv_aload_n hx hb dX3_put_22 rfl (lv_at hl 0 rfl) ?_
    refine lv_bipush (v := 19) hx hb dX3_put_23 (by decide) ?_
    obtain ⟨σ33, e34, hf⟩ := sr_bnd hf
    refine fp_3_2 (x := 19) hX hV lk_145 (h0) dX3_put_25 (fun H locs hV => ?_)
    rw [e34] at hV
    exact k_X3_put_B28 hX h0   (lv_sub hl [0, 1, 2, 3, 4] rfl) hV hf
abbrev rm_X1_become : Room := { frames := 2, cells := 0, slots := 0, locals := 47 }
theorem cv_X1_become : sr_Cv yX1_become cX1_become 4 (none) RX1 3 := ⟨lk_395, lk_393, lk_394, lk_2, rfl, by decide +kernel, by decide +kernel, by decide +kernel⟩
set_option maxHeartbeats 4000000 in
set_option maxRecDepth 100000 in
theorem c_X1_become {l : Launch} {D : va_G} {aC : Nat → ClassId} {n0 : Nat} {σ' : St}  {σ : St} {q0 : Nat} {q1 : Nat} {x2 : Int32} {x3 : Int32} (h0 : shC q0 = 2) (h1 : shC q1 = 1) (hf : f_X1_become q0 q1 x2 x3 σ = some σ') : sr_Met l D aC shC n0 yX1_become cX1_become 4 (none) rm_X1_become [.ref (n0 + q0), .ref (n0 + q1), .int x2, .int x3] σ none σ' := by
  refine s_met (own := RX1) (by decide) (Nat.le_of_ble_eq_true rfl) rfl ?_
  intro p e s m below meth c ls hX hV hl
  have hl : lv_has ls 4 [(0, .ref (n0 + q0)), (1, .ref (n0 + q1)), (2, .int x2), (3, .int x3)] := hl
  have hx := hX.1.1
  have hb := hX.1.2.1
  unfold f_X1_become at hf
  refine lv_aload_n hx hb dX1_become_0 rfl (lv_at hl 1 rfl) ?_
  refine lv_iload_n hx hb dX1_become_1 rfl (lv_at hl 2 rfl) ?_
  obtain ⟨σ1, e2, hf⟩ := sr_bnd hf
  refine fp_0_5 (x := x2) hX hV lk_95 (h1) dX1_become_2 (fun H locs hV => ?_)
  rw [e2] at hV
  refine lv_aload_n hx hb dX1_become_5 rfl (lv_at hl 0 rfl) ?_
  refine fg_1_2 hX hV lk_161 (h0) dX1_become_6 ?_
  refine lv_aload_n hx hb dX1_become_9 rfl (lv_at hl 0 rfl) ?_
  refine fg_1_6 hX hV lk_168 (h0) dX1_become_10 ?_
  refine lv_aload_n hx hb dX1_become_13 rfl (lv_at hl 1 rfl) ?_
  refine fg_0_0 hX hV lk_83 (h1) dX1_become_14 ?_
  refine lv_iload_n hx hb dX1_become_17 rfl (lv_at hl 3 rfl) ?_
  refine lv_bipush (v := (-15)) hx hb dX1_become_18 (by decide) ?_
  obtain ⟨σ4, e3, hf⟩ := sr_obd hf
  refine s_callV0 (ci := 3) hX hV hl.1 (c_X3_put (ch_1_2 (h0)) e3) cv_X3_put lk_396 ⟨rfl, rfl, Nat.le_of_ble_eq_true rfl, Nat.le_of_ble_eq_true rfl⟩ rfl (by decide) (ch_1_2 (h0)) rfl rfl (Nat.le_of_ble_eq_true rfl) dX1_become_20 ⟨Nat.le_of_ble_eq_true rfl, Nat.le_of_ble_eq_true rfl⟩ (fun H locs hV => ?_)
  cases hf
  exact s_vret hX hV dX1_become_23
abbrev rm_X6_isAtMost : Room := { frames := 0, cells := 0, slots := 0, locals := 0 }
theorem cv_X6_isAtMost : sr_Cv yX6_isAtMost cX6_isAtMost 2 (Option.some FieldType.boolean) RX6 1 := ⟨lk_490, lk_488, lk_489, lk_5, rfl, by decide +kernel, by decide +kernel, by decide +kernel⟩
set_option maxHeartbeats 4000000 in
set_option maxRecDepth 100000 in
theorem c_X6_isAtMost {l : Launch} {D : va_G} {aC : Nat → ClassId} {n0 : Nat} {r : Bool} {σ : St}  {q0 : Nat} {x1 : Int32} (h0 : shC q0 = 7) (hf : f_X6_isAtMost q0 x1 σ = r) : sr_Met l D aC shC n0 yX6_isAtMost cX6_isAtMost 2 (Option.some FieldType.boolean) rm_X6_isAtMost [.ref (n0 + q0), .int x1] σ (some (.int (bI r))) σ := by
  refine s_met (own := RX6) (by decide) (Nat.le_of_ble_eq_true rfl) rfl ?_
  intro p e s m below meth c ls hX hV hl
  have hl : lv_has ls 2 [(0, .ref (n0 + q0)), (1, .int x1)] := hl
  have hx := hX.1.1
  have hb := hX.1.2.1
  unfold f_X6_isAtMost at hf
  refine lv_aload_n hx hb dX6_isAtMost_0 rfl (lv_at hl 0 rfl) ?_
  refine fg_6_4 hX hV lk_65 (h0) dX6_isAtMost_1 ?_
  refine lv_ldc2 hx hb hX.1.2.2.2.1 (s_w hX lk_491) dX6_isAtMost_4 ?_
  refine lv_lmul hx hb dX6_isAtMost_7 ?_
  refine lv_iload_n hx hb dX6_isAtMost_8 rfl (lv_at hl 1 rfl) ?_
  refine lv_i2l hx hb dX6_isAtMost_9 rfl ?_
  refine lv_aload_n hx hb dX6_isAtMost_10 rfl (lv_at hl 0 rfl) ?_
  refine fg_6_5 hX hV lk_67 (h0) dX6_isAtMost_11 ?_
  refine lv_lmul hx hb dX6_isAtMost_14 ?_
  refine W.lcmp hx hb dX6_isAtMost_15 ?_
  refine lv_if_gt (tgt := 23) hx hb dX6_isAtMost_16 (by decide) (fun c1 => ?_) (fun c1 => ?_)
  · have hf := sr_t hf c1
    refine lv_iconst (v := 0) hx hb dX6_isAtMost_23 (by decide) ?_
    cases hf
    exact s_zret (b := false) hX hV dX6_isAtMost_24
  · have hf := sr_f hf c1
    refine lv_iconst (v := 1) hx hb dX6_isAtMost_19 (by decide) ?_
    refine lv_goto (tgt := 24) hx hb dX6_isAtMost_20 (by decide) ?_
    cases hf
    exact s_zret (b := true) hX hV dX6_isAtMost_24
abbrev rm_X1_hasBadChance : Room := { frames := 1, cells := 0, slots := 0, locals := 21 }
theorem cv_X1_hasBadChance : sr_Cv yX1_hasBadChance cX1_hasBadChance 2 (Option.some FieldType.boolean) RX1 1 := ⟨lk_485, lk_484, lp_10, lk_2, rfl, by decide +kernel, by decide +kernel, by decide +kernel⟩
set_option maxHeartbeats 4000000 in
set_option maxRecDepth 100000 in
theorem c_X1_hasBadChance {l : Launch} {D : va_G} {aC : Nat → ClassId} {n0 : Nat} {r : Bool} {σ : St}  {q0 : Nat} {q1 : Nat} (h0 : shC q0 = 2) (h1 : shC q1 = 1) (hf : f_X1_hasBadChance q0 q1 σ = r) : sr_Met l D aC shC n0 yX1_hasBadChance cX1_hasBadChance 2 (Option.some FieldType.boolean) rm_X1_hasBadChance [.ref (n0 + q0), .ref (n0 + q1)] σ (some (.int (bI r))) σ := by
  refine s_met (own := RX1) (by decide) (Nat.le_of_ble_eq_true rfl) rfl ?_
  intro p e s m below meth c ls hX hV hl
  have hl : lv_has ls 2 [(0, .ref (n0 + q0)), (1, .ref (n0 + q1))] := hl
  have hx := hX.1.1
  have hb := hX.1.2.1
  unfold f_X1_hasBadChance at hf
  refine lv_aload_n hx hb dX1_hasBadChance_0 rfl (lv_at hl 0 rfl) ?_
  refine fg_1_3 hX hV lk_163 (h0) dX1_hasBadChance_1 ?_
  refine lv_if_ne (tgt := 39) hx hb dX1_hasBadChance_4 (by decide) (fun c1 => ?_) (fun c1 => ?_)
  · have hf := sr_t hf (sr_b1 c1)
    refine lv_iconst (v := 0) hx hb dX1_hasBadChance_39 (by decide) ?_
    cases hf
    exact s_zret (b := false) hX hV dX1_hasBadChance_40
  · have hf := sr_f hf (sr_b0 c1)
    refine lv_aload_n hx hb dX1_hasBadChance_7 rfl (lv_at hl 1 rfl) ?_
    obtain ⟨v3, e2, hf⟩ := sr_bnd hf
    refine s_callV1 (ci := 0) hX hV hl.1 (c_X0_isWatched (h1) e2) cv_X0_isWatched lk_486 ⟨rfl, rfl, Nat.le_of_ble_eq_true rfl, Nat.le_of_ble_eq_true rfl⟩ rfl (by decide) (h1) rfl rfl (Nat.le_of_ble_eq_true rfl) dX1_hasBadChance_8 ⟨Nat.le_of_ble_eq_true rfl, Nat.le_of_ble_eq_true rfl⟩ (fun H locs hV => ?_)
    refine lv_if_eq (tgt := 39) hx hb dX1_hasBadChance_11 (by decide) (fun c4 => ?_) (fun c4 => ?_)
    · have hf := sr_f hf (sr_b0 c4)
      refine lv_iconst (v := 0) hx hb dX1_hasBadChance_39 (by decide) ?_
      cases hf
      exact s_zret (b := false) hX hV dX1_hasBadChance_40
    · have hf := sr_t hf (sr_b1 c4)
      refine lv_aload_n hx hb dX1_hasBadChance_14 rfl (lv_at hl 1 rfl) ?_
      refine fg_0_6 hX hV lk_97 (h1) dX1_hasBadChance_15 ?_
      refine lv_if_le (tgt := 39) hx hb dX1_hasBadChance_18 (by decide) (fun c5 => ?_) (fun c5 => ?_)
      · have hf := sr_t hf c5
        refine lv_iconst (v := 0) hx hb dX1_hasBadChance_39 (by decide) ?_
        cases hf
        exact s_zret (b := false) hX hV dX1_hasBadChance_40
      · have hf := sr_f hf c5
        refine lv_aload_n hx hb dX1_hasBadChance_21 rfl (lv_at hl 1 rfl) ?_
        refine fg_0_2 hX hV lk_87 (h1) dX1_hasBadChance_22 ?_
        refine lv_aload_n hx hb dX1_hasBadChance_25 rfl (lv_at hl 0 rfl) ?_
        refine fg_1_7 hX hV lk_170 (h0) dX1_hasBadChance_26 ?_
        obtain ⟨v7, e6, hf⟩ := sr_bnd hf
        refine s_callV1 (ci := 6) hX hV hl.1 (c_X6_isAtMost (ch_0_2 (h1)) e6) cv_X6_isAtMost lk_487 ⟨rfl, rfl, Nat.le_of_ble_eq_true rfl, Nat.le_of_ble_eq_true rfl⟩ rfl (by decide) (ch_0_2 (h1)) rfl rfl (Nat.le_of_ble_eq_true rfl) dX1_hasBadChance_29 ⟨Nat.le_of_ble_eq_true rfl, Nat.le_of_ble_eq_true rfl⟩ (fun H locs hV => ?_)
        refine lv_if_eq (tgt := 39) hx hb dX1_hasBadChance_32 (by decide) (fun c8 => ?_) (fun c8 => ?_)
        · have hf := sr_f hf (sr_b0 c8)
          refine lv_iconst (v := 0) hx hb dX1_hasBadChance_39 (by decide) ?_
          cases hf
          exact s_zret (b := false) hX hV dX1_hasBadChance_40
        · have hf := sr_t hf (sr_b1 c8)
          refine lv_iconst (v := 1) hx hb dX1_hasBadChance_35 (by decide) ?_
          refine lv_goto (tgt := 40) hx hb dX1_hasBadChance_36 (by decide) ?_
          cases hf
          exact s_zret (b := true) hX hV dX1_hasBadChance_40
abbrev rm_X1_turnStage : Room := { frames := 3, cells := 0, slots := 0, locals := 70 }
theorem cv_X1_turnStage : sr_Cv yX1_turnStage cX1_turnStage 2 (none) RX1 1 := ⟨lk_496, lk_495, lp_11, lk_2, rfl, by decide +kernel, by decide +kernel, by decide +kernel⟩
set_option maxHeartbeats 4000000 in
set_option maxRecDepth 100000 in
theorem k_X1_turnStage_B37 {p : Program} {l : Launch} {e : Env} {s : State} {m : MethodId} {args : Array Value} {below : List Frame} {meth : Method} {c : Code} {D : va_G} {aC : Nat → ClassId} {n0 : Nat} {σ' : St} {q0 : Nat} {q1 : Nat} {σ : St} (hX : sr_X p s m args meth c cX1_turnStage 2 (none) RX1 D aC) (h0 : shC q0 = 2) (h1 : shC q1 = 1)   {H : Heap} {locs : List Loc} {ls : Array Slot} (hl : lv_has ls 2 [(0, .ref (n0 + q0)), (1, .ref (n0 + q1))]) (hV : sr_V D aC shC n0 σ s.heap H locs) (hf : f_X1_turnStage_B37 q0 q1 σ = some σ') : W p l e rm_X1_turnStage s m args below meth c H locs 0 0 (MQ below (sr_Qc D aC shC n0 σ' none) args s 0 0 (sr_A shC n0)) (F0 m 37 ls []) := by
  have hx := hX.1.1
  have hb := hX.1.2.1
  unfold f_X1_turnStage_B37 at hf
  refine lv_aload_n hx hb dX1_turnStage_37 rfl (lv_at hl 1 rfl) ?_
  refine fg_0_6 hX hV lk_97 (h1) dX1_turnStage_38 ?_
  refine lv_if_ne (tgt := 51) hx hb dX1_turnStage_41 (by decide) (fun c1 => ?_) (fun c1 => ?_)
  · have hf := sr_f hf c1
    cases hf
    exact s_vret hX hV dX1_turnStage_51
  · have hf := sr_t hf c1
    refine lv_aload_n hx hb dX1_turnStage_44 rfl (lv_at hl 0 rfl) ?_
    refine lv_aload_n hx hb dX1_turnStage_45 rfl (lv_at hl 1 rfl) ?_
    refine lv_iconst (v := 5) hx hb dX1_turnStage_46 (by decide) ?_
    refine lv_iconst (v := 5) hx hb dX1_turnStage_47 (by decide) ?_
    obtain ⟨σ3, e2, hf⟩ := sr_obd hf
    refine s_callV0 (ci := 1) hX hV hl.1 (c_X1_become (h0) (h1) e2) cv_X1_become lk_492 ⟨rfl, rfl, Nat.le_of_ble_eq_true rfl, Nat.le_of_ble_eq_true rfl⟩ rfl (by decide) (h0) rfl rfl (Nat.le_of_ble_eq_true rfl) dX1_turnStage_48 ⟨Nat.le_of_ble_eq_true rfl, Nat.le_of_ble_eq_true rfl⟩ (fun H locs hV => ?_)
    cases hf
    exact s_vret hX hV dX1_turnStage_51
set_option maxHeartbeats 4000000 in
set_option maxRecDepth 100000 in
theorem c_X1_turnStage {l : Launch} {D : va_G} {aC : Nat → ClassId} {n0 : Nat} {σ' : St}  {σ : St} {q0 : Nat} {q1 : Nat} (h0 : shC q0 = 2) (h1 : shC q1 = 1) (hf : f_X1_turnStage q0 q1 σ = some σ') : sr_Met l D aC shC n0 yX1_turnStage cX1_turnStage 2 (none) rm_X1_turnStage [.ref (n0 + q0), .ref (n0 + q1)] σ none σ' := by
  refine s_met (own := RX1) (by decide) (Nat.le_of_ble_eq_true rfl) rfl ?_
  intro p e s m below meth c ls hX hV hl
  have hl : lv_has ls 2 [(0, .ref (n0 + q0)), (1, .ref (n0 + q1))] := hl
  have hx := hX.1.1
  have hb := hX.1.2.1
  unfold f_X1_turnStage at hf
  refine lv_aload_n hx hb dX1_turnStage_0 rfl (lv_at hl 1 rfl) ?_
  refine fg_0_6 hX hV lk_97 (h1) dX1_turnStage_1 ?_
  refine lv_if_le (tgt := 37) hx hb dX1_turnStage_4 (by decide) (fun c4 => ?_) (fun c4 => ?_)
  · have hf := sr_t hf c4
    exact k_X1_turnStage_B37 hX h0 h1   (lv_sub hl [0, 1] rfl) hV hf
  · have hf := sr_f hf c4
    refine lv_aload_n hx hb dX1_turnStage_7 rfl (lv_at hl 1 rfl) ?_
    refine lv_dup hx hb dX1_turnStage_8 rfl ?_
    refine fg_0_6 hX hV lk_97 (h1) dX1_turnStage_9 ?_
    refine lv_iconst (v := 1) hx hb dX1_turnStage_12 (by decide) ?_
    refine lv_isub hx hb dX1_turnStage_13 ?_
    obtain ⟨σ5, e6, hf⟩ := sr_bnd hf
    refine fp_0_6 (x := ((gI σ q1 6) - 1)) hX hV lk_97 (h1) dX1_turnStage_14 (fun H locs hV => ?_)
    rw [e6] at hV
    refine lv_aload_n hx hb dX1_turnStage_17 rfl (lv_at hl 0 rfl) ?_
    refine fg_1_2 hX hV lk_161 (h0) dX1_turnStage_18 ?_
    refine lv_aload_n hx hb dX1_turnStage_21 rfl (lv_at hl 0 rfl) ?_
    refine fg_1_6 hX hV lk_168 (h0) dX1_turnStage_22 ?_
    refine lv_aload_n hx hb dX1_turnStage_25 rfl (lv_at hl 1 rfl) ?_
    refine fg_0_0 hX hV lk_83 (h1) dX1_turnStage_26 ?_
    refine lv_iconst (v := 4) hx hb dX1_turnStage_29 (by decide) ?_
    refine lv_aload_n hx hb dX1_turnStage_30 rfl (lv_at hl 1 rfl) ?_
    refine fg_0_6 hX hV lk_97 (h1) dX1_turnStage_31 ?_
    obtain ⟨σ8, e7, hf⟩ := sr_obd hf
    refine s_callV0 (ci := 3) hX hV hl.1 (c_X3_put (ch_1_2 (h0)) e7) cv_X3_put lk_396 ⟨rfl, rfl, Nat.le_of_ble_eq_true rfl, Nat.le_of_ble_eq_true rfl⟩ rfl (by decide) (ch_1_2 (h0)) rfl rfl (Nat.le_of_ble_eq_true rfl) dX1_turnStage_34 ⟨Nat.le_of_ble_eq_true rfl, Nat.le_of_ble_eq_true rfl⟩ (fun H locs hV => ?_)
    exact k_X1_turnStage_B37 hX h0 h1   (lv_sub hl [0, 1] rfl) hV hf
