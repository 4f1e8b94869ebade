abbrev rm_X8_turnsOn : Room := { frames := 2, cells := 0, slots := 0, locals := 47 }
theorem cv_X8_turnsOn : sr_Cv yX8_turnsOn cX8_turnsOn 3 (none) RX8 1 := ⟨lk_885, lk_884, lp_37, lk_9, rfl, by decide +kernel, by decide +kernel, by decide +kernel⟩
set_option maxHeartbeats 4000000 in
set_option maxRecDepth 100000 in
theorem k_X8_turnsOn_B43 {p : Program} {l : Launch} {e : Env} {s : State} {m : MethodId} {args : Array Value} {below : List Frame} {meth : Method} {c : Code} {D : va_G} {aC : Nat → ClassId} {n0 : Nat} {σ' : St} {q0 : Nat} {x1 : Int32} {σ : St} (hX : sr_X p s m args meth c cX8_turnsOn 3 (none) RX8 D aC) (h0 : shM q0 = 9)   {H : Heap} {locs : List Loc} {ls : Array Slot} (hl : lv_has ls 3 [(0, .ref (n0 + q0)), (1, .int x1)]) (hV : sr_V D aC shM n0 σ s.heap H locs) (hf : f_X8_turnsOn_B43 q0 x1 σ = some σ') : W p l e rm_X8_turnsOn s m args below meth c H locs 0 0 (MQ below (sr_Qc D aC shM n0 σ' none) args s 0 0 (sr_A shM n0)) (F0 m 43 ls []) := by
  have hx := hX.1.1
  have hb := hX.1.2.1
  unfold f_X8_turnsOn_B43 at hf
  refine lv_aload_n hx hb dX8_turnsOn_43 rfl (lv_at hl 0 rfl) ?_
  refine fg_8_0 hX hV lk_666 (h0) dX8_turnsOn_44 ?_
  refine lv_iload_n hx hb dX8_turnsOn_47 rfl (lv_at hl 1 rfl) ?_
  refine lv_iconst (v := 3) hx hb dX8_turnsOn_48 (by decide) ?_
  obtain ⟨v2, e1, hf⟩ := sr_bnd hf
  refine s_callS1 hX hV hl.1 (c_X8_at  e1) cs_X8_at lk_740 ⟨rfl, rfl, Nat.le_of_ble_eq_true rfl, Nat.le_of_ble_eq_true rfl⟩ rfl rfl (Nat.le_of_ble_eq_true rfl) dX8_turnsOn_49 ⟨Nat.le_of_ble_eq_true rfl, Nat.le_of_ble_eq_true rfl⟩ (fun H locs hV => ?_)
  obtain ⟨g3, hf⟩ := sr_gd hf
  refine s_iald hX hV (n := 257) (ch_8_0 (h0)) (by decide) (inb_in g3) dX8_turnsOn_52 ?_
  refine lv_if_ne (tgt := 64) hx hb dX8_turnsOn_53 (by decide) (fun c4 => ?_) (fun c4 => ?_)
  · have hf := sr_f hf c4
    cases hf
    exact s_vret hX hV dX8_turnsOn_64
  · have hf := sr_t hf c4
    refine lv_aload_n hx hb dX8_turnsOn_56 rfl (lv_at hl 0 rfl) ?_
    refine lv_iload_n hx hb dX8_turnsOn_57 rfl (lv_at hl 1 rfl) ?_
    refine lv_iconst (v := 5) hx hb dX8_turnsOn_58 (by decide) ?_
    refine lv_iconst (v := 5) hx hb dX8_turnsOn_59 (by decide) ?_
    obtain ⟨v6, σ7, e5, hf⟩ := sr_ob2 hf
    refine s_callV1 (ci := 8) hX hV hl.1 (c_X8_becomes (h0) e5) cv_X8_becomes lk_833 ⟨rfl, rfl, Nat.le_of_ble_eq_true rfl, Nat.le_of_ble_eq_true rfl⟩ rfl (by decide) (h0) rfl rfl (Nat.le_of_ble_eq_true rfl) dX8_turnsOn_60 ⟨Nat.le_of_ble_eq_true rfl, Nat.le_of_ble_eq_true rfl⟩ (fun H locs hV => ?_)
    refine lv_istore_n (lv' := [(2, .int v6), (0, .ref (n0 + q0)), (1, .int x1)]) hx hb dX8_turnsOn_63 rfl hl (by decide) rfl (fun ls hl => ?_)
    cases hf
    exact s_vret hX hV dX8_turnsOn_64
set_option maxHeartbeats 4000000 in
set_option maxRecDepth 100000 in
theorem c_X8_turnsOn {l : Launch} {D : va_G} {aC : Nat → ClassId} {n0 : Nat} {σ' : St}  {σ : St} {q0 : Nat} {x1 : Int32} (h0 : shM q0 = 9) (hf : f_X8_turnsOn q0 x1 σ = some σ') : sr_Met l D aC shM n0 yX8_turnsOn cX8_turnsOn 3 (none) rm_X8_turnsOn [.ref (n0 + q0), .int x1] σ none σ' := by
  refine s_met (own := RX8) (by decide) (Nat.le_of_ble_eq_true rfl) rfl ?_
  intro p e s m below meth c ls hX hV hl
  have hl : lv_has ls 3 [(0, .ref (n0 + q0)), (1, .int x1)] := hl
  have hx := hX.1.1
  have hb := hX.1.2.1
  unfold f_X8_turnsOn at hf
  refine lv_aload_n hx hb dX8_turnsOn_0 rfl (lv_at hl 0 rfl) ?_
  refine fg_8_0 hX hV lk_666 (h0) dX8_turnsOn_1 ?_
  refine lv_iload_n hx hb dX8_turnsOn_4 rfl (lv_at hl 1 rfl) ?_
  refine lv_iconst (v := 3) hx hb dX8_turnsOn_5 (by decide) ?_
  obtain ⟨v9, e8, hf⟩ := sr_bnd hf
  refine s_callS1 hX hV hl.1 (c_X8_at  e8) cs_X8_at lk_740 ⟨rfl, rfl, Nat.le_of_ble_eq_true rfl, Nat.le_of_ble_eq_true rfl⟩ rfl rfl (Nat.le_of_ble_eq_true rfl) dX8_turnsOn_6 ⟨Nat.le_of_ble_eq_true rfl, Nat.le_of_ble_eq_true rfl⟩ (fun H locs hV => ?_)
  obtain ⟨g10, hf⟩ := sr_gd hf
  refine s_iald hX hV (n := 257) (ch_8_0 (h0)) (by decide) (inb_in g10) dX8_turnsOn_9 ?_
  refine lv_if_le (tgt := 43) hx hb dX8_turnsOn_10 (by decide) (fun c11 => ?_) (fun c11 => ?_)
  · have hf := sr_t hf c11
    exact k_X8_turnsOn_B43 hX h0   (lv_sub hl [0, 1] rfl) hV hf
  · have hf := sr_f hf c11
    refine lv_aload_n hx hb dX8_turnsOn_13 rfl (lv_at hl 0 rfl) ?_
    refine fg_8_0 hX hV lk_666 (h0) dX8_turnsOn_14 ?_
    refine lv_iload_n hx hb dX8_turnsOn_17 rfl (lv_at hl 1 rfl) ?_
    refine lv_iconst (v := 3) hx hb dX8_turnsOn_18 (by decide) ?_
    obtain ⟨v13, e12, hf⟩ := sr_bnd hf
    refine s_callS1 hX hV hl.1 (c_X8_at  e12) cs_X8_at lk_740 ⟨rfl, rfl, Nat.le_of_ble_eq_true rfl, Nat.le_of_ble_eq_true rfl⟩ rfl rfl (Nat.le_of_ble_eq_true rfl) dX8_turnsOn_19 ⟨Nat.le_of_ble_eq_true rfl, Nat.le_of_ble_eq_true rfl⟩ (fun H locs hV => ?_)
    refine lv_dup2_11 hx hb dX8_turnsOn_22 rfl rfl ?_
    obtain ⟨g14, hf⟩ := sr_gd hf
    refine s_iald hX hV (n := 257) (ch_8_0 (h0)) (by decide) (inb_in g14) dX8_turnsOn_23 ?_
    refine lv_iconst (v := 1) hx hb dX8_turnsOn_24 (by decide) ?_
    refine lv_isub hx hb dX8_turnsOn_25 ?_
    obtain ⟨g15, hf⟩ := sr_gd hf
    obtain ⟨σ16, e17, hf⟩ := sr_bnd hf
    refine s_iast hX hV (n := 257) (ch_8_0 (h0)) (by decide) (inb_in g15) dX8_turnsOn_26 (fun H locs hV => ?_)
    rw [e17] at hV
    refine lv_aload_n hx hb dX8_turnsOn_27 rfl (lv_at hl 0 rfl) ?_
    refine lv_iload_n hx hb dX8_turnsOn_28 rfl (lv_at hl 1 rfl) ?_
    refine lv_iconst (v := 4) hx hb dX8_turnsOn_29 (by decide) ?_
    refine lv_aload_n hx hb dX8_turnsOn_30 rfl (lv_at hl 0 rfl) ?_
    refine fg_8_0 hX hV lk_666 (h0) dX8_turnsOn_31 ?_
    refine lv_iload_n hx hb dX8_turnsOn_34 rfl (lv_at hl 1 rfl) ?_
    refine lv_iconst (v := 3) hx hb dX8_turnsOn_35 (by decide) ?_
    obtain ⟨v19, e18, hf⟩ := sr_bnd hf
    refine s_callS1 hX hV hl.1 (c_X8_at  e18) cs_X8_at lk_740 ⟨rfl, rfl, Nat.le_of_ble_eq_true rfl, Nat.le_of_ble_eq_true rfl⟩ rfl rfl (Nat.le_of_ble_eq_true rfl) dX8_turnsOn_36 ⟨Nat.le_of_ble_eq_true rfl, Nat.le_of_ble_eq_true rfl⟩ (fun H locs hV => ?_)
    obtain ⟨g20, hf⟩ := sr_gd hf
    refine s_iald hX hV (n := 257) (ch_8_0 (h0)) (by decide) (inb_in g20) dX8_turnsOn_39 ?_
    obtain ⟨σ22, e21, hf⟩ := sr_obd hf
    refine s_callV0 (ci := 8) hX hV hl.1 (c_X8_notes (h0) e21) cv_X8_notes lk_837 ⟨rfl, rfl, Nat.le_of_ble_eq_true rfl, Nat.le_of_ble_eq_true rfl⟩ rfl (by decide) (h0) rfl rfl (Nat.le_of_ble_eq_true rfl) dX8_turnsOn_40 ⟨Nat.le_of_ble_eq_true rfl, Nat.le_of_ble_eq_true rfl⟩ (fun H locs hV => ?_)
    exact k_X8_turnsOn_B43 hX h0   (lv_sub hl [0, 1] rfl) hV hf
abbrev rm_X8_goesOn : Room := { frames := 2, cells := 0, slots := 0, locals := 47 }
theorem cv_X8_goesOn : sr_Cv yX8_goesOn cX8_goesOn 4 (none) RX8 1 := ⟨lk_913, lk_912, lp_44, lk_9, rfl, by decide +kernel, by decide +kernel, by decide +kernel⟩
set_option maxHeartbeats 4000000 in
set_option maxRecDepth 100000 in
theorem k_X8_goesOn_L67 {p : Program} {l : Launch} {e : Env} {s : State} {m : MethodId} {args : Array Value} {below : List Frame} {meth : Method} {c : Code} {D : va_G} {aC : Nat → ClassId} {n0 : Nat} {σ' : St} {q0 : Nat} {x1 : Int32} (hX : sr_X p s m args meth c cX8_goesOn 4 (none) RX8 D aC) (h0 : shM q0 = 9) (rec67 : Int32 → Int32 → St → Option St) (hrec67 : ∀ (x2 : Int32) (x3 : Int32) (σ : St) (H : Heap) (locs : List Loc) (ls : Array Slot) , lv_has ls 4 [(0, .ref (n0 + q0)), (1, .int x1), (2, .int x2), (3, .int x3)] → sr_V D aC shM n0 σ s.heap H locs → rec67 x2 x3 σ = some σ' → W p l e rm_X8_goesOn s m args below meth c H locs 0 0 (MQ below (sr_Qc D aC shM n0 σ' none) args s 0 0 (sr_A shM n0)) (F0 m 67 ls [])) : ∀ (x2 : Int32) (x3 : Int32) (σ : St) (H : Heap) (locs : List Loc) (ls : Array Slot) , lv_has ls 4 [(0, .ref (n0 + q0)), (1, .int x1), (2, .int x2), (3, .int x3)] → sr_V D aC shM n0 σ s.heap H locs → f_X8_goesOn_L67 q0 x1 rec67 x2 x3 σ = some σ' → W p l e rm_X8_goesOn s m args below meth c H locs 0 0 (MQ below (sr_Qc D aC shM n0 σ' none) args s 0 0 (sr_A shM n0)) (F0 m 67 ls []) := by
  intro x2 x3 σ H locs ls  hl hV hf
  have hx := hX.1.1
  have hb := hX.1.2.1
  unfold f_X8_goesOn_L67 at hf
  refine lv_iload_n hx hb dX8_goesOn_67 rfl (lv_at hl 3 rfl) ?_
  refine lv_iconst (v := 4) hx hb dX8_goesOn_68 (by decide) ?_
  refine lv_icmp_ge (tgt := 91) hx hb dX8_goesOn_69 (by decide) (fun c1 => ?_) (fun c1 => ?_)
  · have hf := sr_t hf c1
    refine lv_aload_n hx hb dX8_goesOn_91 rfl (lv_at hl 0 rfl) ?_
    refine lv_iload_n hx hb dX8_goesOn_92 rfl (lv_at hl 1 rfl) ?_
    refine lv_iconst (v := 1) hx hb dX8_goesOn_93 (by decide) ?_
    refine lv_iload_n hx hb dX8_goesOn_94 rfl (lv_at hl 2 rfl) ?_
    obtain ⟨σ3, e2, hf⟩ := sr_obd hf
    refine s_callV0 (ci := 8) hX hV hl.1 (c_X8_notes (h0) e2) cv_X8_notes lk_837 ⟨rfl, rfl, Nat.le_of_ble_eq_true rfl, Nat.le_of_ble_eq_true rfl⟩ rfl (by decide) (h0) rfl rfl (Nat.le_of_ble_eq_true rfl) dX8_goesOn_95 ⟨Nat.le_of_ble_eq_true rfl, Nat.le_of_ble_eq_true rfl⟩ (fun H locs hV => ?_)
    cases hf
    exact s_vret hX hV dX8_goesOn_98
  · have hf := sr_f hf c1
    refine lv_aload_n hx hb dX8_goesOn_72 rfl (lv_at hl 0 rfl) ?_
    refine fg_8_0 hX hV lk_666 (h0) dX8_goesOn_73 ?_
    refine lv_iload_n hx hb dX8_goesOn_76 rfl (lv_at hl 1 rfl) ?_
    refine lv_iconst (v := 5) hx hb dX8_goesOn_77 (by decide) ?_
    refine lv_iload_n hx hb dX8_goesOn_78 rfl (lv_at hl 3 rfl) ?_
    refine lv_iadd hx hb dX8_goesOn_79 ?_
    obtain ⟨v5, e4, hf⟩ := sr_bnd hf
    refine s_callS1 hX hV hl.1 (c_X8_at  e4) cs_X8_at lk_740 ⟨rfl, rfl, Nat.le_of_ble_eq_true rfl, Nat.le_of_ble_eq_true rfl⟩ rfl rfl (Nat.le_of_ble_eq_true rfl) dX8_goesOn_80 ⟨Nat.le_of_ble_eq_true rfl, Nat.le_of_ble_eq_true rfl⟩ (fun H locs hV => ?_)
    refine lv_iconst (v := 0) hx hb dX8_goesOn_83 (by decide) ?_
    obtain ⟨g6, hf⟩ := sr_gd hf
    obtain ⟨σ7, e8, hf⟩ := sr_bnd hf
    refine s_iast hX hV (n := 257) (ch_8_0 (h0)) (by decide) (inb_in g6) dX8_goesOn_84 (fun H locs hV => ?_)
    rw [e8] at hV
    obtain ⟨v9, e10, hf⟩ := sr_bnd hf
    refine lv_iinc (v := v9) (lv' := [(3, .int v9), (0, .ref (n0 + q0)), (1, .int x1), (2, .int x2)]) hx hb dX8_goesOn_85 hl (k := 3) rfl (by rw [← e10]; rfl) (by decide) rfl (fun ls hl => ?_)
    refine lv_goto (tgt := 67) hx hb dX8_goesOn_88 (by decide) ?_
    exact hrec67 _ _ _ _ _ _  (lv_sub hl [1, 2, 3, 0] rfl) hV hf
set_option maxHeartbeats 4000000 in
set_option maxRecDepth 100000 in
theorem k_X8_goesOn_L67w {p : Program} {l : Launch} {e : Env} {s : State} {m : MethodId} {args : Array Value} {below : List Frame} {meth : Method} {c : Code} {D : va_G} {aC : Nat → ClassId} {n0 : Nat} {σ' : St} {q0 : Nat} {x1 : Int32} (hX : sr_X p s m args meth c cX8_goesOn 4 (none) RX8 D aC) (h0 : shM q0 = 9) (n : Nat) : ∀ (x2 : Int32) (x3 : Int32) (σ : St) (H : Heap) (locs : List Loc) (ls : Array Slot) , lv_has ls 4 [(0, .ref (n0 + q0)), (1, .int x1), (2, .int x2), (3, .int x3)] → sr_V D aC shM n0 σ s.heap H locs → it3 (f_X8_goesOn_L67 q0 x1) n x2 x3 σ = some σ' → W p l e rm_X8_goesOn s m args below meth c H locs 0 0 (MQ below (sr_Qc D aC shM n0 σ' none) args s 0 0 (sr_A shM n0)) (F0 m 67 ls []) :=
  it3_ind (fun rec67 => ∀ (x2 : Int32) (x3 : Int32) (σ : St) (H : Heap) (locs : List Loc) (ls : Array Slot) , lv_has ls 4 [(0, .ref (n0 + q0)), (1, .int x1), (2, .int x2), (3, .int x3)] → sr_V D aC shM n0 σ s.heap H locs → rec67 x2 x3 σ = some σ' → W p l e rm_X8_goesOn s m args below meth c H locs 0 0 (MQ below (sr_Qc D aC shM n0 σ' none) args s 0 0 (sr_A shM n0)) (F0 m 67 ls [])) (by intros; rename_i hf; exact absurd hf (by simp)) (fun rec hrec => k_X8_goesOn_L67 hX h0  rec hrec) n
set_option maxHeartbeats 4000000 in
set_option maxRecDepth 100000 in
theorem c_X8_goesOn {l : Launch} {D : va_G} {aC : Nat → ClassId} {n0 : Nat} {σ' : St}  {σ : St} {q0 : Nat} {x1 : Int32} (h0 : shM q0 = 9) (hf : f_X8_goesOn q0 x1 σ = some σ') : sr_Met l D aC shM n0 yX8_goesOn cX8_goesOn 4 (none) rm_X8_goesOn [.ref (n0 + q0), .int x1] σ none σ' := by
  refine s_met (own := RX8) (by decide) (Nat.le_of_ble_eq_true rfl) rfl ?_
  intro p e s m below meth c ls hX hV hl
  have hl : lv_has ls 4 [(0, .ref (n0 + q0)), (1, .int x1)] := hl
  have hx := hX.1.1
  have hb := hX.1.2.1
  unfold f_X8_goesOn at hf
  refine lv_aload_n hx hb dX8_goesOn_0 rfl (lv_at hl 0 rfl) ?_
  refine fg_8_0 hX hV lk_666 (h0) dX8_goesOn_1 ?_
  refine lv_iload_n hx hb dX8_goesOn_4 rfl (lv_at hl 1 rfl) ?_
  refine lv_iconst (v := 3) hx hb dX8_goesOn_5 (by decide) ?_
  obtain ⟨v12, e11, hf⟩ := sr_bnd hf
  refine s_callS1 hX hV hl.1 (c_X8_at  e11) cs_X8_at lk_740 ⟨rfl, rfl, Nat.le_of_ble_eq_true rfl, Nat.le_of_ble_eq_true rfl⟩ rfl rfl (Nat.le_of_ble_eq_true rfl) dX8_goesOn_6 ⟨Nat.le_of_ble_eq_true rfl, Nat.le_of_ble_eq_true rfl⟩ (fun H locs hV => ?_)
  obtain ⟨g13, hf⟩ := sr_gd hf
  refine s_iald hX hV (n := 257) (ch_8_0 (h0)) (by decide) (inb_in g13) dX8_goesOn_9 ?_
  obtain ⟨v14, e15, hf⟩ := sr_bnd hf
  rw [e15]
  refine lv_istore_n (lv' := [(2, .int v14), (0, .ref (n0 + q0)), (1, .int x1)]) hx hb dX8_goesOn_10 rfl hl (by decide) rfl (fun ls hl => ?_)
  refine lv_iload_n hx hb dX8_goesOn_11 rfl (lv_at hl 0 rfl) ?_
  refine lv_aload_n hx hb dX8_goesOn_12 rfl (lv_at hl 1 rfl) ?_
  refine fg_8_0 hX hV lk_666 (h0) dX8_goesOn_13 ?_
  refine lv_iload_n hx hb dX8_goesOn_16 rfl (lv_at hl 2 rfl) ?_
  refine lv_iconst (v := 2) hx hb dX8_goesOn_17 (by decide) ?_
  obtain ⟨v17, e16, hf⟩ := sr_bnd hf
  refine s_callS1 hX hV hl.1 (c_X8_at  e16) cs_X8_at lk_740 ⟨rfl, rfl, Nat.le_of_ble_eq_true rfl, Nat.le_of_ble_eq_true rfl⟩ rfl rfl (Nat.le_of_ble_eq_true rfl) dX8_goesOn_18 ⟨Nat.le_of_ble_eq_true rfl, Nat.le_of_ble_eq_true rfl⟩ (fun H locs hV => ?_)
  obtain ⟨g18, hf⟩ := sr_gd hf
  refine s_iald hX hV (n := 257) (ch_8_0 (h0)) (by decide) (inb_in g18) dX8_goesOn_21 ?_
  refine lv_icmp_ne (tgt := 34) hx hb dX8_goesOn_22 (by decide) (fun c19 => ?_) (fun c19 => ?_)
  · have hf := sr_f hf c19
    refine lv_aload_n hx hb dX8_goesOn_34 rfl (lv_at hl 1 rfl) ?_
    refine fg_8_0 hX hV lk_666 (h0) dX8_goesOn_35 ?_
    refine lv_iload_n hx hb dX8_goesOn_38 rfl (lv_at hl 2 rfl) ?_
    refine lv_iload_n hx hb dX8_goesOn_39 rfl (lv_at hl 0 rfl) ?_
    refine lv_iconst (v := 3) hx hb dX8_goesOn_40 (by decide) ?_
    obtain ⟨v21, e20, hf⟩ := sr_bnd hf
    refine s_callS1 hX hV hl.1 (c_X8_stageAt  e20) cs_X8_stageAt lk_755 ⟨rfl, rfl, Nat.le_of_ble_eq_true rfl, Nat.le_of_ble_eq_true rfl⟩ rfl rfl (Nat.le_of_ble_eq_true rfl) dX8_goesOn_41 ⟨Nat.le_of_ble_eq_true rfl, Nat.le_of_ble_eq_true rfl⟩ (fun H locs hV => ?_)
    refine lv_aload_n hx hb dX8_goesOn_44 rfl (lv_at hl 1 rfl) ?_
    refine fg_8_0 hX hV lk_666 (h0) dX8_goesOn_45 ?_
    refine lv_iconst (v := 1) hx hb dX8_goesOn_48 (by decide) ?_
    refine s_iald hX hV (n := 257) (ch_8_0 (h0)) (by decide) (by unfold vp_in; decide) dX8_goesOn_49 ?_
    obtain ⟨g22, hf⟩ := sr_gd hf
    obtain ⟨σ23, e24, hf⟩ := sr_bnd hf
    refine s_iast hX hV (n := 257) (ch_8_0 (h0)) (by decide) (inb_in g22) dX8_goesOn_50 (fun H locs hV => ?_)
    rw [e24] at hV
    refine lv_aload_n hx hb dX8_goesOn_51 rfl (lv_at hl 1 rfl) ?_
    refine fg_8_0 hX hV lk_666 (h0) dX8_goesOn_52 ?_
    refine lv_iload_n hx hb dX8_goesOn_55 rfl (lv_at hl 2 rfl) ?_
    refine lv_iconst (v := 3) hx hb dX8_goesOn_56 (by decide) ?_
    obtain ⟨v26, e25, hf⟩ := sr_bnd hf
    refine s_callS1 hX hV hl.1 (c_X8_at  e25) cs_X8_at lk_740 ⟨rfl, rfl, Nat.le_of_ble_eq_true rfl, Nat.le_of_ble_eq_true rfl⟩ rfl rfl (Nat.le_of_ble_eq_true rfl) dX8_goesOn_57 ⟨Nat.le_of_ble_eq_true rfl, Nat.le_of_ble_eq_true rfl⟩ (fun H locs hV => ?_)
    refine lv_dup2_11 hx hb dX8_goesOn_60 rfl rfl ?_
    obtain ⟨g27, hf⟩ := sr_gd hf
    refine s_iald hX hV (n := 257) (ch_8_0 (h0)) (by decide) (inb_in g27) dX8_goesOn_61 ?_
    refine lv_iconst (v := 1) hx hb dX8_goesOn_62 (by decide) ?_
    refine lv_iadd hx hb dX8_goesOn_63 ?_
    obtain ⟨g28, hf⟩ := sr_gd hf
    obtain ⟨σ29, e30, hf⟩ := sr_bnd hf
    refine s_iast hX hV (n := 257) (ch_8_0 (h0)) (by decide) (inb_in g28) dX8_goesOn_64 (fun H locs hV => ?_)
    rw [e30] at hV
    refine lv_iconst (v := 0) hx hb dX8_goesOn_65 (by decide) ?_
    refine lv_istore_n (lv' := [(3, .int 0), (2, .int v14), (0, .ref (n0 + q0)), (1, .int x1)]) hx hb dX8_goesOn_66 rfl hl (by decide) rfl (fun ls hl => ?_)
    exact k_X8_goesOn_L67w hX h0  sr_fuel _ _ _ _ _ _  (lv_sub hl [2, 3, 1, 0] rfl) hV hf
  · have hf := sr_t hf c19
    refine lv_aload_n hx hb dX8_goesOn_25 rfl (lv_at hl 1 rfl) ?_
    refine lv_iload_n hx hb dX8_goesOn_26 rfl (lv_at hl 2 rfl) ?_
    refine lv_iconst (v := 3) hx hb dX8_goesOn_27 (by decide) ?_
    refine lv_iconst (v := 2) hx hb dX8_goesOn_28 (by decide) ?_
    obtain ⟨v32, σ33, e31, hf⟩ := sr_ob2 hf
    refine s_callV1 (ci := 8) hX hV hl.1 (c_X8_becomes (h0) e31) cv_X8_becomes lk_833 ⟨rfl, rfl, Nat.le_of_ble_eq_true rfl, Nat.le_of_ble_eq_true rfl⟩ rfl (by decide) (h0) rfl rfl (Nat.le_of_ble_eq_true rfl) dX8_goesOn_29 ⟨Nat.le_of_ble_eq_true rfl, Nat.le_of_ble_eq_true rfl⟩ (fun H locs hV => ?_)
    refine lv_istore_n (lv' := [(3, .int v32), (2, .int v14), (0, .ref (n0 + q0)), (1, .int x1)]) hx hb dX8_goesOn_32 rfl hl (by decide) rfl (fun ls hl => ?_)
    cases hf
    exact s_vret hX hV dX8_goesOn_33
abbrev rm_X8_passes : Room := { frames := 6, cells := 0, slots := 0, locals := 135 }
theorem cv_X8_passes : sr_Cv yX8_passes cX8_passes 3 (none) RX8 0 := ⟨lk_868, lk_867, lp_33, lk_9, rfl, by decide +kernel, by decide +kernel, by decide +kernel⟩
set_option maxHeartbeats 4000000 in
set_option maxRecDepth 100000 in
theorem k_X8_passes_B40 {p : Program} {l : Launch} {e : Env} {s : State} {m : MethodId} {args : Array Value} {below : List Frame} {meth : Method} {c : Code} {D : va_G} {aC : Nat → ClassId} {n0 : Nat} {σ' : St} {q0 : Nat} {σ : St} (hX : sr_X p s m args meth c cX8_passes 3 (none) RX8 D aC) (h0 : shM q0 = 9) {rec2 : Int32 → St → Option St} (hrec2 : ∀ (x1 : Int32) (σ : St) (H : Heap) (locs : List Loc) (ls : Array Slot) , lv_has ls 3 [(0, .ref (n0 + q0)), (1, .int x1)] → sr_V D aC shM n0 σ s.heap H locs → rec2 x1 σ = some σ' → W p l e rm_X8_passes s m args below meth c H locs 0 0 (MQ below (sr_Qc D aC shM n0 σ' none) args s 0 0 (sr_A shM n0)) (F0 m 2 ls [])) {x1 : Int32}  {H : Heap} {locs : List Loc} {ls : Array Slot} (hl : lv_has ls 3 [(0, .ref (n0 + q0)), (1, .int x1)]) (hV : sr_V D aC shM n0 σ s.heap H locs) (hf : f_X8_passes_B40 q0 rec2 x1 σ = some σ') : W p l e rm_X8_passes s m args below meth c H locs 0 0 (MQ below (sr_Qc D aC shM n0 σ' none) args s 0 0 (sr_A shM n0)) (F0 m 40 ls []) := by
  have hx := hX.1.1
  have hb := hX.1.2.1
  unfold f_X8_passes_B40 at hf
  refine lv_aload_n hx hb dX8_passes_40 rfl (lv_at hl 0 rfl) ?_
  refine fg_8_0 hX hV lk_666 (h0) dX8_passes_41 ?_
  refine lv_iload_n hx hb dX8_passes_44 rfl (lv_at hl 1 rfl) ?_
  refine lv_iconst (v := 1) hx hb dX8_passes_45 (by decide) ?_
  obtain ⟨v2, e1, hf⟩ := sr_bnd hf
  refine s_callS1 hX hV hl.1 (c_X8_at  e1) cs_X8_at lk_740 ⟨rfl, rfl, Nat.le_of_ble_eq_true rfl, Nat.le_of_ble_eq_true rfl⟩ rfl rfl (Nat.le_of_ble_eq_true rfl) dX8_passes_46 ⟨Nat.le_of_ble_eq_true rfl, Nat.le_of_ble_eq_true rfl⟩ (fun H locs hV => ?_)
  obtain ⟨g3, hf⟩ := sr_gd hf
  refine s_iald hX hV (n := 257) (ch_8_0 (h0)) (by decide) (inb_in g3) dX8_passes_49 ?_
  refine lv_iconst (v := 4) hx hb dX8_passes_50 (by decide) ?_
  refine lv_icmp_ne (tgt := 62) hx hb dX8_passes_51 (by decide) (fun c4 => ?_) (fun c4 => ?_)
  · have hf := sr_f hf c4
    refine lv_aload_n hx hb dX8_passes_62 rfl (lv_at hl 0 rfl) ?_
    refine fg_8_0 hX hV lk_666 (h0) dX8_passes_63 ?_
    refine lv_iload_n hx hb dX8_passes_66 rfl (lv_at hl 1 rfl) ?_
    refine lv_iconst (v := 1) hx hb dX8_passes_67 (by decide) ?_
    obtain ⟨v6, e5, hf⟩ := sr_bnd hf
    refine s_callS1 hX hV hl.1 (c_X8_at  e5) cs_X8_at lk_740 ⟨rfl, rfl, Nat.le_of_ble_eq_true rfl, Nat.le_of_ble_eq_true rfl⟩ rfl rfl (Nat.le_of_ble_eq_true rfl) dX8_passes_68 ⟨Nat.le_of_ble_eq_true rfl, Nat.le_of_ble_eq_true rfl⟩ (fun H locs hV => ?_)
    obtain ⟨g7, hf⟩ := sr_gd hf
    refine s_iald hX hV (n := 257) (ch_8_0 (h0)) (by decide) (inb_in g7) dX8_passes_71 ?_
    refine lv_iconst (v := 1) hx hb dX8_passes_72 (by decide) ?_
    refine lv_icmp_ne (tgt := 89) hx hb dX8_passes_73 (by decide) (fun c8 => ?_) (fun c8 => ?_)
    · have hf := sr_f hf c8
      obtain ⟨v9, e10, hf⟩ := sr_bnd hf
      refine lv_iinc (v := v9) (lv' := [(1, .int v9), (0, .ref (n0 + q0))]) hx hb dX8_passes_89 hl (k := 1) rfl (by rw [← e10]; rfl) (by decide) rfl (fun ls hl => ?_)
      refine lv_goto (tgt := 2) hx hb dX8_passes_92 (by decide) ?_
      exact hrec2 _ _ _ _ _  (lv_sub hl [1, 0] rfl) hV hf
    · have hf := sr_t hf c8
      refine lv_aload_n hx hb dX8_passes_76 rfl (lv_at hl 0 rfl) ?_
      refine lv_iload_n hx hb dX8_passes_77 rfl (lv_at hl 1 rfl) ?_
      obtain ⟨v12, e11, hf⟩ := sr_obd hf
      refine s_callV1 (ci := 8) hX hV hl.1 (c_X8_reason (h0) e11) cv_X8_reason lk_886 ⟨rfl, rfl, Nat.le_of_ble_eq_true rfl, Nat.le_of_ble_eq_true rfl⟩ rfl (by decide) (h0) rfl rfl (Nat.le_of_ble_eq_true rfl) dX8_passes_78 ⟨Nat.le_of_ble_eq_true rfl, Nat.le_of_ble_eq_true rfl⟩ (fun H locs hV => ?_)
      refine lv_if_ne (tgt := 89) hx hb dX8_passes_81 (by decide) (fun c13 => ?_) (fun c13 => ?_)
      · have hf := sr_f hf c13
        obtain ⟨v14, e15, hf⟩ := sr_bnd hf
        refine lv_iinc (v := v14) (lv' := [(1, .int v14), (0, .ref (n0 + q0))]) hx hb dX8_passes_89 hl (k := 1) rfl (by rw [← e15]; rfl) (by decide) rfl (fun ls hl => ?_)
        refine lv_goto (tgt := 2) hx hb dX8_passes_92 (by decide) ?_
        exact hrec2 _ _ _ _ _  (lv_sub hl [1, 0] rfl) hV hf
      · have hf := sr_t hf c13
        refine lv_aload_n hx hb dX8_passes_84 rfl (lv_at hl 0 rfl) ?_
        refine lv_iload_n hx hb dX8_passes_85 rfl (lv_at hl 1 rfl) ?_
        obtain ⟨σ17, e16, hf⟩ := sr_obd hf
        refine s_callV0 (ci := 8) hX hV hl.1 (c_X8_goesOn (h0) e16) cv_X8_goesOn lk_910 ⟨rfl, rfl, Nat.le_of_ble_eq_true rfl, Nat.le_of_ble_eq_true rfl⟩ rfl (by decide) (h0) rfl rfl (Nat.le_of_ble_eq_true rfl) dX8_passes_86 ⟨Nat.le_of_ble_eq_true rfl, Nat.le_of_ble_eq_true rfl⟩ (fun H locs hV => ?_)
        obtain ⟨v18, e19, hf⟩ := sr_bnd hf
        refine lv_iinc (v := v18) (lv' := [(1, .int v18), (0, .ref (n0 + q0))]) hx hb dX8_passes_89 hl (k := 1) rfl (by rw [← e19]; rfl) (by decide) rfl (fun ls hl => ?_)
        refine lv_goto (tgt := 2) hx hb dX8_passes_92 (by decide) ?_
        exact hrec2 _ _ _ _ _  (lv_sub hl [1, 0] rfl) hV hf
  · have hf := sr_t hf c4
    refine lv_aload_n hx hb dX8_passes_54 rfl (lv_at hl 0 rfl) ?_
    refine lv_iload_n hx hb dX8_passes_55 rfl (lv_at hl 1 rfl) ?_
    obtain ⟨σ21, e20, hf⟩ := sr_obd hf
    refine s_callV0 (ci := 8) hX hV hl.1 (c_X8_turnsOn (h0) e20) cv_X8_turnsOn lk_882 ⟨rfl, rfl, Nat.le_of_ble_eq_true rfl, Nat.le_of_ble_eq_true rfl⟩ rfl (by decide) (h0) rfl rfl (Nat.le_of_ble_eq_true rfl) dX8_passes_56 ⟨Nat.le_of_ble_eq_true rfl, Nat.le_of_ble_eq_true rfl⟩ (fun H locs hV => ?_)
    refine lv_goto (tgt := 89) hx hb dX8_passes_59 (by decide) ?_
    obtain ⟨v22, e23, hf⟩ := sr_bnd hf
    refine lv_iinc (v := v22) (lv' := [(1, .int v22), (0, .ref (n0 + q0))]) hx hb dX8_passes_89 hl (k := 1) rfl (by rw [← e23]; rfl) (by decide) rfl (fun ls hl => ?_)
    refine lv_goto (tgt := 2) hx hb dX8_passes_92 (by decide) ?_
    exact hrec2 _ _ _ _ _  (lv_sub hl [1, 0] rfl) hV hf
set_option maxHeartbeats 4000000 in
set_option maxRecDepth 100000 in
theorem k_X8_passes_L2 {p : Program} {l : Launch} {e : Env} {s : State} {m : MethodId} {args : Array Value} {below : List Frame} {meth : Method} {c : Code} {D : va_G} {aC : Nat → ClassId} {n0 : Nat} {σ' : St} {q0 : Nat} (hX : sr_X p s m args meth c cX8_passes 3 (none) RX8 D aC) (h0 : shM q0 = 9) (rec2 : Int32 → St → Option St) (hrec2 : ∀ (x1 : Int32) (σ : St) (H : Heap) (locs : List Loc) (ls : Array Slot) , lv_has ls 3 [(0, .ref (n0 + q0)), (1, .int x1)] → sr_V D aC shM n0 σ s.heap H locs → rec2 x1 σ = some σ' → W p l e rm_X8_passes s m args below meth c H locs 0 0 (MQ below (sr_Qc D aC shM n0 σ' none) args s 0 0 (sr_A shM n0)) (F0 m 2 ls [])) : ∀ (x1 : Int32) (σ : St) (H : Heap) (locs : List Loc) (ls : Array Slot) , lv_has ls 3 [(0, .ref (n0 + q0)), (1, .int x1)] → sr_V D aC shM n0 σ s.heap H locs → f_X8_passes_L2 q0 rec2 x1 σ = some σ' → W p l e rm_X8_passes s m args below meth c H locs 0 0 (MQ below (sr_Qc D aC shM n0 σ' none) args s 0 0 (sr_A shM n0)) (F0 m 2 ls []) := by
  intro x1 σ H locs ls  hl hV hf
  have hx := hX.1.1
  have hb := hX.1.2.1
  unfold f_X8_passes_L2 at hf
  refine lv_iload_n hx hb dX8_passes_2 rfl (lv_at hl 1 rfl) ?_
  refine lv_aload_n hx hb dX8_passes_3 rfl (lv_at hl 0 rfl) ?_
  refine fg_8_0 hX hV lk_666 (h0) dX8_passes_4 ?_
  refine lv_bipush (v := 10) hx hb dX8_passes_7 (by decide) ?_
  refine s_iald hX hV (n := 257) (ch_8_0 (h0)) (by decide) (by unfold vp_in; decide) dX8_passes_9 ?_
  refine lv_icmp_ge (tgt := 95) hx hb dX8_passes_10 (by decide) (fun c24 => ?_) (fun c24 => ?_)
  · have hf := sr_t hf c24
    refine lv_aload_n hx hb dX8_passes_95 rfl (lv_at hl 0 rfl) ?_
    refine fg_8_0 hX hV lk_666 (h0) dX8_passes_96 ?_
    refine lv_iconst (v := 1) hx hb dX8_passes_99 (by decide) ?_
    refine lv_dup2_11 hx hb dX8_passes_100 rfl rfl ?_
    refine s_iald hX hV (n := 257) (ch_8_0 (h0)) (by decide) (by unfold vp_in; decide) dX8_passes_101 ?_
    refine lv_iconst (v := 1) hx hb dX8_passes_102 (by decide) ?_
    refine lv_iadd hx hb dX8_passes_103 ?_
    obtain ⟨σ25, e26, hf⟩ := sr_bnd hf
    refine s_iast hX hV (n := 257) (ch_8_0 (h0)) (by decide) (by unfold vp_in; decide) dX8_passes_104 (fun H locs hV => ?_)
    rw [e26] at hV
    cases hf
    exact s_vret hX hV dX8_passes_105
  · have hf := sr_f hf c24
    refine lv_aload_n hx hb dX8_passes_13 rfl (lv_at hl 0 rfl) ?_
    refine lv_iload_n hx hb dX8_passes_14 rfl (lv_at hl 1 rfl) ?_
    obtain ⟨v28, e27, hf⟩ := sr_obd hf
    refine s_callV1 (ci := 8) hX hV hl.1 (c_X8_isOut (h0) e27) cv_X8_isOut lk_857 ⟨rfl, rfl, Nat.le_of_ble_eq_true rfl, Nat.le_of_ble_eq_true rfl⟩ rfl (by decide) (h0) rfl rfl (Nat.le_of_ble_eq_true rfl) dX8_passes_15 ⟨Nat.le_of_ble_eq_true rfl, Nat.le_of_ble_eq_true rfl⟩ (fun H locs hV => ?_)
    refine lv_if_eq (tgt := 40) hx hb dX8_passes_18 (by decide) (fun c29 => ?_) (fun c29 => ?_)
    · have hf := sr_f hf (sr_b0 c29)
      exact k_X8_passes_B40 hX h0 hrec2  (lv_sub hl [0, 1] rfl) hV hf
    · have hf := sr_t hf (sr_b1 c29)
      refine lv_aload_n hx hb dX8_passes_21 rfl (lv_at hl 0 rfl) ?_
      refine lv_iload_n hx hb dX8_passes_22 rfl (lv_at hl 1 rfl) ?_
      obtain ⟨v31, σ32, e30, hf⟩ := sr_ob2 hf
      refine s_callV1 (ci := 8) hX hV hl.1 (c_X8_isBad (h0) e30) cv_X8_isBad lk_869 ⟨rfl, rfl, Nat.le_of_ble_eq_true rfl, Nat.le_of_ble_eq_true rfl⟩ rfl (by decide) (h0) rfl rfl (Nat.le_of_ble_eq_true rfl) dX8_passes_23 ⟨Nat.le_of_ble_eq_true rfl, Nat.le_of_ble_eq_true rfl⟩ (fun H locs hV => ?_)
      refine lv_if_eq (tgt := 40) hx hb dX8_passes_26 (by decide) (fun c33 => ?_) (fun c33 => ?_)
      · have hf := sr_f hf (sr_b0 c33)
        exact k_X8_passes_B40 hX h0 hrec2  (lv_sub hl [0, 1] rfl) hV hf
      · have hf := sr_t hf (sr_b1 c33)
        refine lv_aload_n hx hb dX8_passes_29 rfl (lv_at hl 0 rfl) ?_
        refine lv_iload_n hx hb dX8_passes_30 rfl (lv_at hl 1 rfl) ?_
        refine lv_iconst (v := 4) hx hb dX8_passes_31 (by decide) ?_
        refine lv_iconst (v := 3) hx hb dX8_passes_32 (by decide) ?_
        obtain ⟨v35, σ36, e34, hf⟩ := sr_ob2 hf
        refine s_callV1 (ci := 8) hX hV hl.1 (c_X8_becomes (h0) e34) cv_X8_becomes lk_833 ⟨rfl, rfl, Nat.le_of_ble_eq_true rfl, Nat.le_of_ble_eq_true rfl⟩ rfl (by decide) (h0) rfl rfl (Nat.le_of_ble_eq_true rfl) dX8_passes_33 ⟨Nat.le_of_ble_eq_true rfl, Nat.le_of_ble_eq_true rfl⟩ (fun H locs hV => ?_)
        refine lv_istore_n (lv' := [(2, .int v35), (0, .ref (n0 + q0)), (1, .int x1)]) hx hb dX8_passes_36 rfl hl (by decide) rfl (fun ls hl => ?_)
        refine lv_goto (tgt := 89) hx hb dX8_passes_37 (by decide) ?_
        obtain ⟨v37, e38, hf⟩ := sr_bnd hf
        refine lv_iinc (v := v37) (lv' := [(1, .int v37), (2, .int v35), (0, .ref (n0 + q0))]) hx hb dX8_passes_89 hl (k := 2) rfl (by rw [← e38]; rfl) (by decide) rfl (fun ls hl => ?_)
        refine lv_goto (tgt := 2) hx hb dX8_passes_92 (by decide) ?_
        exact hrec2 _ _ _ _ _  (lv_sub hl [2, 0] rfl) hV hf
set_option maxHeartbeats 4000000 in
set_option maxRecDepth 100000 in
theorem k_X8_passes_L2w {p : Program} {l : Launch} {e : Env} {s : State} {m : MethodId} {args : Array Value} {below : List Frame} {meth : Method} {c : Code} {D : va_G} {aC : Nat → ClassId} {n0 : Nat} {σ' : St} {q0 : Nat} (hX : sr_X p s m args meth c cX8_passes 3 (none) RX8 D aC) (h0 : shM q0 = 9) (n : Nat) : ∀ (x1 : Int32) (σ : St) (H : Heap) (locs : List Loc) (ls : Array Slot) , lv_has ls 3 [(0, .ref (n0 + q0)), (1, .int x1)] → sr_V D aC shM n0 σ s.heap H locs → it2 (f_X8_passes_L2 q0) n x1 σ = some σ' → W p l e rm_X8_passes s m args below meth c H locs 0 0 (MQ below (sr_Qc D aC shM n0 σ' none) args s 0 0 (sr_A shM n0)) (F0 m 2 ls []) :=
  it2_ind (fun rec2 => ∀ (x1 : Int32) (σ : St) (H : Heap) (locs : List Loc) (ls : Array Slot) , lv_has ls 3 [(0, .ref (n0 + q0)), (1, .int x1)] → sr_V D aC shM n0 σ s.heap H locs → rec2 x1 σ = some σ' → W p l e rm_X8_passes s m args below meth c H locs 0 0 (MQ below (sr_Qc D aC shM n0 σ' none) args s 0 0 (sr_A shM n0)) (F0 m 2 ls [])) (by intros; rename_i hf; exact absurd hf (by simp)) (fun rec hrec => k_X8_passes_L2 hX h0  rec hrec) n
set_option maxHeartbeats 4000000 in
set_option maxRecDepth 100000 in
theorem c_X8_passes {l : Launch} {D : va_G} {aC : Nat → ClassId} {n0 : Nat} {σ' : St}  {σ : St} {q0 : Nat} (h0 : shM q0 = 9) (hf : f_X8_passes q0 σ = some σ') : sr_Met l D aC shM n0 yX8_passes cX8_passes 3 (none) rm_X8_passes [.ref (n0 + q0)] σ none σ' := by
  refine s_met (own := RX8) (by decide) (Nat.le_of_ble_eq_true rfl) rfl ?_
  intro p e s m below meth c ls hX hV hl
  have hl : lv_has ls 3 [(0, .ref (n0 + q0))] := hl
  have hx := hX.1.1
  have hb := hX.1.2.1
  unfold f_X8_passes at hf
  refine lv_iconst (v := 0) hx hb dX8_passes_0 (by decide) ?_
  refine lv_istore_n (lv' := [(1, .int 0), (0, .ref (n0 + q0))]) hx hb dX8_passes_1 rfl hl (by decide) rfl (fun ls hl => ?_)
  exact k_X8_passes_L2w hX h0  sr_fuel _ _ _ _ _  (lv_sub hl [1, 0] rfl) hV hf
abbrev rm_X8_pass : Room := { frames := 7, cells := 0, slots := 0, locals := 157 }
theorem cv_X8_pass : sr_Cv yX8_pass cX8_pass 3 (Option.some FieldType.int) RX8 1 := ⟨lk_864, lk_862, lk_863, lk_9, rfl, by decide +kernel, by decide +kernel, by decide +kernel⟩
set_option maxHeartbeats 4000000 in
set_option maxRecDepth 100000 in
theorem k_X8_pass_L20 {p : Program} {l : Launch} {e : Env} {s : State} {m : MethodId} {args : Array Value} {below : List Frame} {meth : Method} {c : Code} {D : va_G} {aC : Nat → ClassId} {n0 : Nat} {r : Int32} {σ' : St} {q0 : Nat} {x1 : Int32} (hX : sr_X p s m args meth c cX8_pass 3 (Option.some FieldType.int) RX8 D aC) (h0 : shM q0 = 9) (rec20 : Int32 → St → Option (Int32 × St)) (hrec20 : ∀ (x2 : Int32) (σ : St) (H : Heap) (locs : List Loc) (ls : Array Slot) , lv_has ls 3 [(0, .ref (n0 + q0)), (1, .int x1), (2, .int x2)] → sr_V D aC shM n0 σ s.heap H locs → rec20 x2 σ = some (r, σ') → W p l e rm_X8_pass s m args below meth c H locs 0 0 (MQ below (sr_Qc D aC shM n0 σ' (some (.int r))) args s 0 0 (sr_A shM n0)) (F0 m 20 ls [])) : ∀ (x2 : Int32) (σ : St) (H : Heap) (locs : List Loc) (ls : Array Slot) , lv_has ls 3 [(0, .ref (n0 + q0)), (1, .int x1), (2, .int x2)] → sr_V D aC shM n0 σ s.heap H locs → f_X8_pass_L20 q0 x1 rec20 x2 σ = some (r, σ') → W p l e rm_X8_pass s m args below meth c H locs 0 0 (MQ below (sr_Qc D aC shM n0 σ' (some (.int r))) args s 0 0 (sr_A shM n0)) (F0 m 20 ls []) := by
  intro x2 σ H locs ls  hl hV hf
  have hx := hX.1.1
  have hb := hX.1.2.1
  unfold f_X8_pass_L20 at hf
  refine lv_iload_n hx hb dX8_pass_20 rfl (lv_at hl 2 rfl) ?_
  refine lv_iload_n hx hb dX8_pass_21 rfl (lv_at hl 1 rfl) ?_
  refine lv_icmp_ge (tgt := 35) hx hb dX8_pass_22 (by decide) (fun c1 => ?_) (fun c1 => ?_)
  · have hf := sr_t hf c1
    refine lv_aload_n hx hb dX8_pass_35 rfl (lv_at hl 0 rfl) ?_
    refine fg_8_7 hX hV lk_673 (h0) dX8_pass_36 ?_
    cases hf
    exact s_iret hX hV dX8_pass_39
  · have hf := sr_f hf c1
    refine lv_aload_n hx hb dX8_pass_25 rfl (lv_at hl 0 rfl) ?_
    obtain ⟨σ3, e2, hf⟩ := sr_obd hf
    refine s_callV0 (ci := 8) hX hV hl.1 (c_X8_passes (h0) e2) cv_X8_passes lk_865 ⟨rfl, rfl, Nat.le_of_ble_eq_true rfl, Nat.le_of_ble_eq_true rfl⟩ rfl (by decide) (h0) rfl rfl (Nat.le_of_ble_eq_true rfl) dX8_pass_26 ⟨Nat.le_of_ble_eq_true rfl, Nat.le_of_ble_eq_true rfl⟩ (fun H locs hV => ?_)
    obtain ⟨v4, e5, hf⟩ := sr_bnd hf
    refine lv_iinc (v := v4) (lv' := [(2, .int v4), (0, .ref (n0 + q0)), (1, .int x1)]) hx hb dX8_pass_29 hl (k := 2) rfl (by rw [← e5]; rfl) (by decide) rfl (fun ls hl => ?_)
    refine lv_goto (tgt := 20) hx hb dX8_pass_32 (by decide) ?_
    exact hrec20 _ _ _ _ _  (lv_sub hl [1, 2, 0] rfl) hV hf
set_option maxHeartbeats 4000000 in
set_option maxRecDepth 100000 in
theorem k_X8_pass_L20w {p : Program} {l : Launch} {e : Env} {s : State} {m : MethodId} {args : Array Value} {below : List Frame} {meth : Method} {c : Code} {D : va_G} {aC : Nat → ClassId} {n0 : Nat} {r : Int32} {σ' : St} {q0 : Nat} {x1 : Int32} (hX : sr_X p s m args meth c cX8_pass 3 (Option.some FieldType.int) RX8 D aC) (h0 : shM q0 = 9) (n : Nat) : ∀ (x2 : Int32) (σ : St) (H : Heap) (locs : List Loc) (ls : Array Slot) , lv_has ls 3 [(0, .ref (n0 + q0)), (1, .int x1), (2, .int x2)] → sr_V D aC shM n0 σ s.heap H locs → it2 (f_X8_pass_L20 q0 x1) n x2 σ = some (r, σ') → W p l e rm_X8_pass s m args below meth c H locs 0 0 (MQ below (sr_Qc D aC shM n0 σ' (some (.int r))) args s 0 0 (sr_A shM n0)) (F0 m 20 ls []) :=
  it2_ind (fun rec20 => ∀ (x2 : Int32) (σ : St) (H : Heap) (locs : List Loc) (ls : Array Slot) , lv_has ls 3 [(0, .ref (n0 + q0)), (1, .int x1), (2, .int x2)] → sr_V D aC shM n0 σ s.heap H locs → rec20 x2 σ = some (r, σ') → W p l e rm_X8_pass s m args below meth c H locs 0 0 (MQ below (sr_Qc D aC shM n0 σ' (some (.int r))) args s 0 0 (sr_A shM n0)) (F0 m 20 ls [])) (by intros; rename_i hf; exact absurd hf (by simp)) (fun rec hrec => k_X8_pass_L20 hX h0  rec hrec) n
set_option maxHeartbeats 4000000 in
set_option maxRecDepth 100000 in
theorem c_X8_pass {l : Launch} {D : va_G} {aC : Nat → ClassId} {n0 : Nat} {r : Int32} {σ' : St}  {σ : St} {q0 : Nat} {x1 : Int32} (h0 : shM q0 = 9) (hf : f_X8_pass q0 x1 σ = some (r, σ')) : sr_Met l D aC shM n0 yX8_pass cX8_pass 3 (Option.some FieldType.int) rm_X8_pass [.ref (n0 + q0), .int x1] σ (some (.int r)) σ' := by
  refine s_met (own := RX8) (by decide) (Nat.le_of_ble_eq_true rfl) rfl ?_
  intro p e s m below meth c ls hX hV hl
  have hl : lv_has ls 3 [(0, .ref (n0 + q0)), (1, .int x1)] := hl
  have hx := hX.1.1
  have hb := hX.1.2.1
  unfold f_X8_pass at hf
  refine lv_iload_n hx hb dX8_pass_0 rfl (lv_at hl 1 rfl) ?_
  refine lv_iconst (v := 1) hx hb dX8_pass_1 (by decide) ?_
  refine lv_bipush (v := 100) hx hb dX8_pass_2 (by decide) ?_
  obtain ⟨v7, e6, hf⟩ := sr_bnd hf
  refine s_callS1 hX hV hl.1 (c_X8_in  e6) cs_X8_in lk_717 ⟨rfl, rfl, Nat.le_of_ble_eq_true rfl, Nat.le_of_ble_eq_true rfl⟩ rfl rfl (Nat.le_of_ble_eq_true rfl) dX8_pass_4 ⟨Nat.le_of_ble_eq_true rfl, Nat.le_of_ble_eq_true rfl⟩ (fun H locs hV => ?_)
  refine lv_if_ne (tgt := 13) hx hb dX8_pass_7 (by decide) (fun c8 => ?_) (fun c8 => ?_)
  · have hf := sr_t hf (sr_b1 c8)
    refine lv_aload_n hx hb dX8_pass_13 rfl (lv_at hl 0 rfl) ?_
    refine lv_iconst (v := 0) hx hb dX8_pass_14 (by decide) ?_
    obtain ⟨σ9, e10, hf⟩ := sr_bnd hf
    refine fp_8_7 (x := 0) hX hV lk_673 (h0) dX8_pass_15 (fun H locs hV => ?_)
    rw [e10] at hV
    refine lv_iconst (v := 0) hx hb dX8_pass_18 (by decide) ?_
    refine lv_istore_n (lv' := [(2, .int 0), (0, .ref (n0 + q0)), (1, .int x1)]) hx hb dX8_pass_19 rfl hl (by decide) rfl (fun ls hl => ?_)
    exact k_X8_pass_L20w hX h0  sr_fuel _ _ _ _ _  (lv_sub hl [1, 2, 0] rfl) hV hf
  · have hf := sr_f hf (sr_b0 c8)
    refine lv_bipush (v := (-12)) hx hb dX8_pass_10 (by decide) ?_
    cases hf
    exact s_iret hX hV dX8_pass_12
abbrev rm_X8_time : Room := { frames := 0, cells := 0, slots := 0, locals := 0 }
theorem cv_X8_time : sr_Cv yX8_time cX8_time 1 (Option.some FieldType.int) RX8 0 := ⟨lk_917, lk_915, lk_916, lk_9, rfl, by decide +kernel, by decide +kernel, by decide +kernel⟩
set_option maxHeartbeats 4000000 in
set_option maxRecDepth 100000 in
theorem c_X8_time {l : Launch} {D : va_G} {aC : Nat → ClassId} {n0 : Nat} {r : Int32} {σ : St}  {q0 : Nat} (h0 : shM q0 = 9) (hf : f_X8_time q0 σ = r) : sr_Met l D aC shM n0 yX8_time cX8_time 1 (Option.some FieldType.int) rm_X8_time [.ref (n0 + q0)] σ (some (.int r)) σ := by
  refine s_met (own := RX8) (by decide) (Nat.le_of_ble_eq_true rfl) rfl ?_
  intro p e s m below meth c ls hX hV hl
  have hl : lv_has ls 1 [(0, .ref (n0 + q0))] := hl
  have hx := hX.1.1
  have hb := hX.1.2.1
  unfold f_X8_time at hf
  refine lv_aload_n hx hb dX8_time_0 rfl (lv_at hl 0 rfl) ?_
  refine fg_8_0 hX hV lk_666 (h0) dX8_time_1 ?_
  refine lv_iconst (v := 1) hx hb dX8_time_4 (by decide) ?_
  refine s_iald hX hV (n := 257) (ch_8_0 (h0)) (by decide) (by unfold vp_in; decide) dX8_time_5 ?_
  cases hf
  exact s_iret hX hV dX8_time_6
abbrev rm_X8_tells : Room := { frames := 6, cells := 0, slots := 0, locals := 135 }
theorem cv_X8_tells : sr_Cv yX8_tells cX8_tells 3 (Option.some FieldType.int) RX8 2 := ⟨lk_925, lk_924, lp_45, lk_9, rfl, by decide +kernel, by decide +kernel, by decide +kernel⟩
set_option maxHeartbeats 4000000 in
set_option maxRecDepth 100000 in
theorem c_X8_tells {l : Launch} {D : va_G} {aC : Nat → ClassId} {n0 : Nat} {r : Int32} {σ : St}  {q0 : Nat} {x1 : Int32} {x2 : Int32} (h0 : shM q0 = 9) (hf : f_X8_tells q0 x1 x2 σ = some r) : sr_Met l D aC shM n0 yX8_tells cX8_tells 3 (Option.some FieldType.int) rm_X8_tells [.ref (n0 + q0), .int x1, .int x2] σ (some (.int r)) σ := by
  refine s_met (own := RX8) (by decide) (Nat.le_of_ble_eq_true rfl) rfl ?_
  intro p e s m below meth c ls hX hV hl
  have hl : lv_has ls 3 [(0, .ref (n0 + q0)), (1, .int x1), (2, .int x2)] := hl
  have hx := hX.1.1
  have hb := hX.1.2.1
  unfold f_X8_tells at hf
  refine lv_iload_n hx hb dX8_tells_0 rfl (lv_at hl 2 rfl) ?_
  by_cases c1 : x2 = 0
  · have hf := sr_t hf c1
    refine s_tabIn c1 (tgt := 40) (off := 39) hx hb dX8_tells_1 (by decide) (by decide) (by decide) (by decide) ?_
    refine lv_aload_n hx hb dX8_tells_40 rfl (lv_at hl 0 rfl) ?_
    refine fg_8_0 hX hV lk_666 (h0) dX8_tells_41 ?_
    refine lv_iload_n hx hb dX8_tells_44 rfl (lv_at hl 1 rfl) ?_
    refine lv_iconst (v := 1) hx hb dX8_tells_45 (by decide) ?_
    obtain ⟨v3, e2, hf⟩ := sr_bnd hf
    refine s_callS1 hX hV hl.1 (c_X8_at  e2) cs_X8_at lk_740 ⟨rfl, rfl, Nat.le_of_ble_eq_true rfl, Nat.le_of_ble_eq_true rfl⟩ rfl rfl (Nat.le_of_ble_eq_true rfl) dX8_tells_46 ⟨Nat.le_of_ble_eq_true rfl, Nat.le_of_ble_eq_true rfl⟩ (fun H locs hV => ?_)
    obtain ⟨g4, hf⟩ := sr_gd hf
    refine s_iald hX hV (n := 257) (ch_8_0 (h0)) (by decide) (inb_in g4) dX8_tells_49 ?_
    cases hf
    exact s_iret hX hV dX8_tells_50
  have hf := sr_f hf c1
  by_cases c5 : x2 = 1
  · have hf := sr_t hf c5
    refine s_tabIn c5 (tgt := 51) (off := 50) hx hb dX8_tells_1 (by decide) (by decide) (by decide) (by decide) ?_
    refine lv_aload_n hx hb dX8_tells_51 rfl (lv_at hl 0 rfl) ?_
    refine fg_8_0 hX hV lk_666 (h0) dX8_tells_52 ?_
    refine lv_iload_n hx hb dX8_tells_55 rfl (lv_at hl 1 rfl) ?_
    refine lv_iconst (v := 2) hx hb dX8_tells_56 (by decide) ?_
    obtain ⟨v7, e6, hf⟩ := sr_bnd hf
    refine s_callS1 hX hV hl.1 (c_X8_at  e6) cs_X8_at lk_740 ⟨rfl, rfl, Nat.le_of_ble_eq_true rfl, Nat.le_of_ble_eq_true rfl⟩ rfl rfl (Nat.le_of_ble_eq_true rfl) dX8_tells_57 ⟨Nat.le_of_ble_eq_true rfl, Nat.le_of_ble_eq_true rfl⟩ (fun H locs hV => ?_)
    obtain ⟨g8, hf⟩ := sr_gd hf
    refine s_iald hX hV (n := 257) (ch_8_0 (h0)) (by decide) (inb_in g8) dX8_tells_60 ?_
    cases hf
    exact s_iret hX hV dX8_tells_61
  have hf := sr_f hf c5
  by_cases c9 : x2 = 2
  · have hf := sr_t hf c9
    refine s_tabIn c9 (tgt := 62) (off := 61) hx hb dX8_tells_1 (by decide) (by decide) (by decide) (by decide) ?_
    refine lv_aload_n hx hb dX8_tells_62 rfl (lv_at hl 0 rfl) ?_
    refine fg_8_0 hX hV lk_666 (h0) dX8_tells_63 ?_
    refine lv_iload_n hx hb dX8_tells_66 rfl (lv_at hl 1 rfl) ?_
    refine lv_iconst (v := 3) hx hb dX8_tells_67 (by decide) ?_
    obtain ⟨v11, e10, hf⟩ := sr_bnd hf
    refine s_callS1 hX hV hl.1 (c_X8_at  e10) cs_X8_at lk_740 ⟨rfl, rfl, Nat.le_of_ble_eq_true rfl, Nat.le_of_ble_eq_true rfl⟩ rfl rfl (Nat.le_of_ble_eq_true rfl) dX8_tells_68 ⟨Nat.le_of_ble_eq_true rfl, Nat.le_of_ble_eq_true rfl⟩ (fun H locs hV => ?_)
    obtain ⟨g12, hf⟩ := sr_gd hf
    refine s_iald hX hV (n := 257) (ch_8_0 (h0)) (by decide) (inb_in g12) dX8_tells_71 ?_
    cases hf
    exact s_iret hX hV dX8_tells_72
  have hf := sr_f hf c9
  by_cases c13 : x2 = 3
  · have hf := sr_t hf c13
    refine s_tabIn c13 (tgt := 73) (off := 72) hx hb dX8_tells_1 (by decide) (by decide) (by decide) (by decide) ?_
    refine lv_aload_n hx hb dX8_tells_73 rfl (lv_at hl 0 rfl) ?_
    refine lv_iload_n hx hb dX8_tells_74 rfl (lv_at hl 1 rfl) ?_
    obtain ⟨v15, e14, hf⟩ := sr_obd hf
    refine s_callV1 (ci := 8) hX hV hl.1 (c_X8_hoursSince (h0) e14) cv_X8_hoursSince lk_890 ⟨rfl, rfl, Nat.le_of_ble_eq_true rfl, Nat.le_of_ble_eq_true rfl⟩ rfl (by decide) (h0) rfl rfl (Nat.le_of_ble_eq_true rfl) dX8_tells_75 ⟨Nat.le_of_ble_eq_true rfl, Nat.le_of_ble_eq_true rfl⟩ (fun H locs hV => ?_)
    cases hf
    exact s_iret hX hV dX8_tells_78
  have hf := sr_f hf c13
  by_cases c16 : x2 = 4
  · have hf := sr_t hf c16
    refine s_tabIn c16 (tgt := 79) (off := 78) hx hb dX8_tells_1 (by decide) (by decide) (by decide) (by decide) ?_
    refine lv_aload_n hx hb dX8_tells_79 rfl (lv_at hl 0 rfl) ?_
    refine lv_iload_n hx hb dX8_tells_80 rfl (lv_at hl 1 rfl) ?_
    obtain ⟨v18, e17, hf⟩ := sr_obd hf
    refine s_callV1 (ci := 8) hX hV hl.1 (c_X8_reason (h0) e17) cv_X8_reason lk_886 ⟨rfl, rfl, Nat.le_of_ble_eq_true rfl, Nat.le_of_ble_eq_true rfl⟩ rfl (by decide) (h0) rfl rfl (Nat.le_of_ble_eq_true rfl) dX8_tells_81 ⟨Nat.le_of_ble_eq_true rfl, Nat.le_of_ble_eq_true rfl⟩ (fun H locs hV => ?_)
    cases hf
    exact s_iret hX hV dX8_tells_84
  have hf := sr_f hf c16
  by_cases c19 : x2 = 5
  · have hf := sr_t hf c19
    refine s_tabIn c19 (tgt := 85) (off := 84) hx hb dX8_tells_1 (by decide) (by decide) (by decide) (by decide) ?_
    refine lv_aload_n hx hb dX8_tells_85 rfl (lv_at hl 0 rfl) ?_
    refine fg_8_0 hX hV lk_666 (h0) dX8_tells_86 ?_
    refine lv_iload_n hx hb dX8_tells_89 rfl (lv_at hl 1 rfl) ?_
    refine lv_iconst (v := 4) hx hb dX8_tells_90 (by decide) ?_
    obtain ⟨v21, e20, hf⟩ := sr_bnd hf
    refine s_callS1 hX hV hl.1 (c_X8_at  e20) cs_X8_at lk_740 ⟨rfl, rfl, Nat.le_of_ble_eq_true rfl, Nat.le_of_ble_eq_true rfl⟩ rfl rfl (Nat.le_of_ble_eq_true rfl) dX8_tells_91 ⟨Nat.le_of_ble_eq_true rfl, Nat.le_of_ble_eq_true rfl⟩ (fun H locs hV => ?_)
    obtain ⟨g22, hf⟩ := sr_gd hf
    refine s_iald hX hV (n := 257) (ch_8_0 (h0)) (by decide) (inb_in g22) dX8_tells_94 ?_
    cases hf
    exact s_iret hX hV dX8_tells_95
  have hf := sr_f hf c19
  refine lv_tableOut (tgt := 96) hx hb dX8_tells_1 (by have z0 := lv_neT (a := 0) c1 (by decide); have z1 := lv_neT (a := 1) c5 (by decide); have z2 := lv_neT (a := 2) c9 (by decide); have z3 := lv_neT (a := 3) c13 (by decide); have z4 := lv_neT (a := 4) c16 (by decide); have z5 := lv_neT (a := 5) c19 (by decide); omega) (by decide) ?_
  refine lv_aload_n hx hb dX8_tells_96 rfl (lv_at hl 0 rfl) ?_
  refine fg_8_0 hX hV lk_666 (h0) dX8_tells_97 ?_
  refine lv_iload_n hx hb dX8_tells_100 rfl (lv_at hl 1 rfl) ?_
  refine lv_iconst (v := 0) hx hb dX8_tells_101 (by decide) ?_
  obtain ⟨v24, e23, hf⟩ := sr_bnd hf
  refine s_callS1 hX hV hl.1 (c_X8_at  e23) cs_X8_at lk_740 ⟨rfl, rfl, Nat.le_of_ble_eq_true rfl, Nat.le_of_ble_eq_true rfl⟩ rfl rfl (Nat.le_of_ble_eq_true rfl) dX8_tells_102 ⟨Nat.le_of_ble_eq_true rfl, Nat.le_of_ble_eq_true rfl⟩ (fun H locs hV => ?_)
  obtain ⟨g25, hf⟩ := sr_gd hf
  refine s_iald hX hV (n := 257) (ch_8_0 (h0)) (by decide) (inb_in g25) dX8_tells_105 ?_
  cases hf
  exact s_iret hX hV dX8_tells_106
abbrev rm_X8_change : Room := { frames := 7, cells := 0, slots := 0, locals := 157 }
theorem cv_X8_change : sr_Cv yX8_change cX8_change 3 (Option.some FieldType.int) RX8 2 := ⟨lk_921, lk_919, lk_920, lk_9, rfl, by decide +kernel, by decide +kernel, by decide +kernel⟩
set_option maxHeartbeats 4000000 in
set_option maxRecDepth 100000 in
theorem c_X8_change {l : Launch} {D : va_G} {aC : Nat → ClassId} {n0 : Nat} {r : Int32} {σ : St}  {q0 : Nat} {x1 : Int32} {x2 : Int32} (h0 : shM q0 = 9) (hf : f_X8_change q0 x1 x2 σ = some r) : sr_Met l D aC shM n0 yX8_change cX8_change 3 (Option.some FieldType.int) rm_X8_change [.ref (n0 + q0), .int x1, .int x2] σ (some (.int r)) σ := by
  refine s_met (own := RX8) (by decide) (Nat.le_of_ble_eq_true rfl) rfl ?_
  intro p e s m below meth c ls hX hV hl
  have hl : lv_has ls 3 [(0, .ref (n0 + q0)), (1, .int x1), (2, .int x2)] := hl
  have hx := hX.1.1
  have hb := hX.1.2.1
  unfold f_X8_change at hf
  refine lv_aload_n hx hb dX8_change_0 rfl (lv_at hl 0 rfl) ?_
  refine lv_iload_n hx hb dX8_change_1 rfl (lv_at hl 1 rfl) ?_
  obtain ⟨v2, e1, hf⟩ := sr_bnd hf
  refine s_callV1 (ci := 8) hX hV hl.1 (c_X8_isChange (h0) e1) cv_X8_isChange lk_747 ⟨rfl, rfl, Nat.le_of_ble_eq_true rfl, Nat.le_of_ble_eq_true rfl⟩ rfl (by decide) (h0) rfl rfl (Nat.le_of_ble_eq_true rfl) dX8_change_2 ⟨Nat.le_of_ble_eq_true rfl, Nat.le_of_ble_eq_true rfl⟩ (fun H locs hV => ?_)
  refine lv_if_ne (tgt := 11) hx hb dX8_change_5 (by decide) (fun c3 => ?_) (fun c3 => ?_)
  · have hf := sr_t hf (sr_b1 c3)
    refine lv_iload_n hx hb dX8_change_11 rfl (lv_at hl 2 rfl) ?_
    refine lv_iconst (v := 0) hx hb dX8_change_12 (by decide) ?_
    refine lv_bipush (v := 6) hx hb dX8_change_13 (by decide) ?_
    obtain ⟨v5, e4, hf⟩ := sr_bnd hf
    refine s_callS1 hX hV hl.1 (c_X8_in  e4) cs_X8_in lk_717 ⟨rfl, rfl, Nat.le_of_ble_eq_true rfl, Nat.le_of_ble_eq_true rfl⟩ rfl rfl (Nat.le_of_ble_eq_true rfl) dX8_change_15 ⟨Nat.le_of_ble_eq_true rfl, Nat.le_of_ble_eq_true rfl⟩ (fun H locs hV => ?_)
    refine lv_if_eq (tgt := 30) hx hb dX8_change_18 (by decide) (fun c6 => ?_) (fun c6 => ?_)
    · have hf := sr_f hf (sr_b0 c6)
      refine lv_bipush (v := (-12)) hx hb dX8_change_30 (by decide) ?_
      cases hf
      exact s_iret hX hV dX8_change_32
    · have hf := sr_t hf (sr_b1 c6)
      refine lv_aload_n hx hb dX8_change_21 rfl (lv_at hl 0 rfl) ?_
      refine lv_iload_n hx hb dX8_change_22 rfl (lv_at hl 1 rfl) ?_
      refine lv_iload_n hx hb dX8_change_23 rfl (lv_at hl 2 rfl) ?_
      obtain ⟨v8, e7, hf⟩ := sr_obd hf
      refine s_callV1 (ci := 8) hX hV hl.1 (c_X8_tells (h0) e7) cv_X8_tells lk_922 ⟨rfl, rfl, Nat.le_of_ble_eq_true rfl, Nat.le_of_ble_eq_true rfl⟩ rfl (by decide) (h0) rfl rfl (Nat.le_of_ble_eq_true rfl) dX8_change_24 ⟨Nat.le_of_ble_eq_true rfl, Nat.le_of_ble_eq_true rfl⟩ (fun H locs hV => ?_)
      refine lv_goto (tgt := 32) hx hb dX8_change_27 (by decide) ?_
      cases hf
      exact s_iret hX hV dX8_change_32
  · have hf := sr_f hf (sr_b0 c3)
    refine lv_bipush (v := (-11)) hx hb dX8_change_8 (by decide) ?_
    cases hf
    exact s_iret hX hV dX8_change_10
abbrev rm_X8_probes : Room := { frames := 2, cells := 0, slots := 0, locals := 43 }
theorem cv_X8_probes : sr_Cv yX8_probes cX8_probes 3 (Option.some FieldType.int) RX8 2 := ⟨lk_929, lk_927, lk_928, lk_9, rfl, by decide +kernel, by decide +kernel, by decide +kernel⟩
set_option maxHeartbeats 4000000 in
set_option maxRecDepth 100000 in
theorem c_X8_probes {l : Launch} {D : va_G} {aC : Nat → ClassId} {n0 : Nat} {r : Int32} {σ : St}  {q0 : Nat} {x1 : Int32} {x2 : Int32} (h0 : shM q0 = 9) (hf : f_X8_probes q0 x1 x2 σ = some r) : sr_Met l D aC shM n0 yX8_probes cX8_probes 3 (Option.some FieldType.int) rm_X8_probes [.ref (n0 + q0), .int x1, .int x2] σ (some (.int r)) σ := by
  refine s_met (own := RX8) (by decide) (Nat.le_of_ble_eq_true rfl) rfl ?_
  intro p e s m below meth c ls hX hV hl
  have hl : lv_has ls 3 [(0, .ref (n0 + q0)), (1, .int x1), (2, .int x2)] := hl
  have hx := hX.1.1
  have hb := hX.1.2.1
  unfold f_X8_probes at hf
  refine lv_aload_n hx hb dX8_probes_0 rfl (lv_at hl 0 rfl) ?_
  refine lv_iload_n hx hb dX8_probes_1 rfl (lv_at hl 1 rfl) ?_
  obtain ⟨v2, e1, hf⟩ := sr_bnd hf
  refine s_callV1 (ci := 8) hX hV hl.1 (c_X8_isChange (h0) e1) cv_X8_isChange lk_747 ⟨rfl, rfl, Nat.le_of_ble_eq_true rfl, Nat.le_of_ble_eq_true rfl⟩ rfl (by decide) (h0) rfl rfl (Nat.le_of_ble_eq_true rfl) dX8_probes_2 ⟨Nat.le_of_ble_eq_true rfl, Nat.le_of_ble_eq_true rfl⟩ (fun H locs hV => ?_)
  refine lv_if_ne (tgt := 11) hx hb dX8_probes_5 (by decide) (fun c3 => ?_) (fun c3 => ?_)
  · have hf := sr_t hf (sr_b1 c3)
    refine lv_iload_n hx hb dX8_probes_11 rfl (lv_at hl 2 rfl) ?_
    refine lv_iconst (v := 0) hx hb dX8_probes_12 (by decide) ?_
    refine lv_iconst (v := 3) hx hb dX8_probes_13 (by decide) ?_
    obtain ⟨v5, e4, hf⟩ := sr_bnd hf
    refine s_callS1 hX hV hl.1 (c_X8_in  e4) cs_X8_in lk_717 ⟨rfl, rfl, Nat.le_of_ble_eq_true rfl, Nat.le_of_ble_eq_true rfl⟩ rfl rfl (Nat.le_of_ble_eq_true rfl) dX8_probes_14 ⟨Nat.le_of_ble_eq_true rfl, Nat.le_of_ble_eq_true rfl⟩ (fun H locs hV => ?_)
    refine lv_if_eq (tgt := 35) hx hb dX8_probes_17 (by decide) (fun c6 => ?_) (fun c6 => ?_)
    · have hf := sr_f hf (sr_b0 c6)
      refine lv_bipush (v := (-12)) hx hb dX8_probes_35 (by decide) ?_
      cases hf
      exact s_iret hX hV dX8_probes_37
    · have hf := sr_t hf (sr_b1 c6)
      refine lv_aload_n hx hb dX8_probes_20 rfl (lv_at hl 0 rfl) ?_
      refine fg_8_0 hX hV lk_666 (h0) dX8_probes_21 ?_
      refine lv_iload_n hx hb dX8_probes_24 rfl (lv_at hl 1 rfl) ?_
      refine lv_iconst (v := 5) hx hb dX8_probes_25 (by decide) ?_
      refine lv_iload_n hx hb dX8_probes_26 rfl (lv_at hl 2 rfl) ?_
      refine lv_iadd hx hb dX8_probes_27 ?_
      obtain ⟨v8, e7, hf⟩ := sr_bnd hf
      refine s_callS1 hX hV hl.1 (c_X8_at  e7) cs_X8_at lk_740 ⟨rfl, rfl, Nat.le_of_ble_eq_true rfl, Nat.le_of_ble_eq_true rfl⟩ rfl rfl (Nat.le_of_ble_eq_true rfl) dX8_probes_28 ⟨Nat.le_of_ble_eq_true rfl, Nat.le_of_ble_eq_true rfl⟩ (fun H locs hV => ?_)
      obtain ⟨g9, hf⟩ := sr_gd hf
      refine s_iald hX hV (n := 257) (ch_8_0 (h0)) (by decide) (inb_in g9) dX8_probes_31 ?_
      refine lv_goto (tgt := 37) hx hb dX8_probes_32 (by decide) ?_
      cases hf
      exact s_iret hX hV dX8_probes_37
  · have hf := sr_f hf (sr_b0 c3)
    refine lv_bipush (v := (-11)) hx hb dX8_probes_8 (by decide) ?_
    cases hf
    exact s_iret hX hV dX8_probes_10
abbrev rm_X8_chance : Room := { frames := 2, cells := 0, slots := 0, locals := 50 }
theorem cv_X8_chance : sr_Cv yX8_chance cX8_chance 3 (Option.some FieldType.long) RX8 2 := ⟨lk_933, lk_931, lk_932, lk_9, rfl, by decide +kernel, by decide +kernel, by decide +kernel⟩
set_option maxHeartbeats 4000000 in
set_option maxRecDepth 100000 in
theorem c_X8_chance {l : Launch} {D : va_G} {aC : Nat → ClassId} {n0 : Nat} {r : Int64} {σ' : St}  {σ : St} {q0 : Nat} {x1 : Int32} {b2 : Bool} (h0 : shM q0 = 9) (hf : f_X8_chance q0 x1 b2 σ = some (r, σ')) : sr_Met l D aC shM n0 yX8_chance cX8_chance 3 (Option.some FieldType.long) rm_X8_chance [.ref (n0 + q0), .int x1, .int (bI b2)] σ (some (.long r)) σ' := by
  refine s_met (own := RX8) (by decide) (Nat.le_of_ble_eq_true rfl) rfl ?_
  intro p e s m below meth c ls hX hV hl
  have hl : lv_has ls 3 [(0, .ref (n0 + q0)), (1, .int x1), (2, .int (bI b2))] := hl
  have hx := hX.1.1
  have hb := hX.1.2.1
  unfold f_X8_chance at hf
  refine lv_aload_n hx hb dX8_chance_0 rfl (lv_at hl 0 rfl) ?_
  refine lv_iload_n hx hb dX8_chance_1 rfl (lv_at hl 1 rfl) ?_
  obtain ⟨v2, e1, hf⟩ := sr_bnd hf
  refine s_callV1 (ci := 8) hX hV hl.1 (c_X8_isChange (h0) e1) cv_X8_isChange lk_747 ⟨rfl, rfl, Nat.le_of_ble_eq_true rfl, Nat.le_of_ble_eq_true rfl⟩ rfl (by decide) (h0) rfl rfl (Nat.le_of_ble_eq_true rfl) dX8_chance_2 ⟨Nat.le_of_ble_eq_true rfl, Nat.le_of_ble_eq_true rfl⟩ (fun H locs hV => ?_)
  refine lv_if_ne (tgt := 12) hx hb dX8_chance_5 (by decide) (fun c3 => ?_) (fun c3 => ?_)
  · have hf := sr_t hf (sr_b1 c3)
    refine lv_aload_n hx hb dX8_chance_12 rfl (lv_at hl 0 rfl) ?_
    refine lv_iload_n hx hb dX8_chance_13 rfl (lv_at hl 1 rfl) ?_
    obtain ⟨σ5, e4, hf⟩ := sr_obd hf
    refine s_callV0 (ci := 8) hX hV hl.1 (c_X8_findChance (h0) e4) cv_X8_findChance lk_873 ⟨rfl, rfl, Nat.le_of_ble_eq_true rfl, Nat.le_of_ble_eq_true rfl⟩ rfl (by decide) (h0) rfl rfl (Nat.le_of_ble_eq_true rfl) dX8_chance_14 ⟨Nat.le_of_ble_eq_true rfl, Nat.le_of_ble_eq_true rfl⟩ (fun H locs hV => ?_)
    refine lv_iload_n hx hb dX8_chance_17 rfl (lv_at hl 2 rfl) ?_
    refine lv_if_eq (tgt := 28) hx hb dX8_chance_18 (by decide) (fun c6 => ?_) (fun c6 => ?_)
    · have hf := sr_f hf (sr_b0 c6)
      refine lv_aload_n hx hb dX8_chance_28 rfl (lv_at hl 0 rfl) ?_
      refine fg_8_13 hX hV lk_679 (h0) dX8_chance_29 ?_
      refine lv_aload_n hx hb dX8_chance_32 rfl (lv_at hl 0 rfl) ?_
      refine fg_8_13 hX hV lk_679 (h0) dX8_chance_33 ?_
      refine lv_aload_n hx hb dX8_chance_36 rfl (lv_at hl 0 rfl) ?_
      refine fg_8_14 hX hV lk_680 (h0) dX8_chance_37 ?_
      obtain ⟨v8, e7, hf⟩ := sr_obd hf
      refine s_callS1 hX hV hl.1 (c_X8_divisor  e7) cs_X8_divisor lk_935 ⟨rfl, rfl, Nat.le_of_ble_eq_true rfl, Nat.le_of_ble_eq_true rfl⟩ rfl rfl (Nat.le_of_ble_eq_true rfl) dX8_chance_40 ⟨Nat.le_of_ble_eq_true rfl, Nat.le_of_ble_eq_true rfl⟩ (fun H locs hV => ?_)
      obtain ⟨g9, hf⟩ := sr_gd hf
      refine lv_ldiv hx hb dX8_chance_43 g9 ?_
      cases hf
      exact s_lret hX hV dX8_chance_44
    · have hf := sr_t hf (sr_b1 c6)
      refine lv_aload_n hx hb dX8_chance_21 rfl (lv_at hl 0 rfl) ?_
      refine fg_8_14 hX hV lk_680 (h0) dX8_chance_22 ?_
      refine lv_goto (tgt := 32) hx hb dX8_chance_25 (by decide) ?_
      refine lv_aload_n hx hb dX8_chance_32 rfl (lv_at hl 0 rfl) ?_
      refine fg_8_13 hX hV lk_679 (h0) dX8_chance_33 ?_
      refine lv_aload_n hx hb dX8_chance_36 rfl (lv_at hl 0 rfl) ?_
      refine fg_8_14 hX hV lk_680 (h0) dX8_chance_37 ?_
      obtain ⟨v11, e10, hf⟩ := sr_obd hf
      refine s_callS1 hX hV hl.1 (c_X8_divisor  e10) cs_X8_divisor lk_935 ⟨rfl, rfl, Nat.le_of_ble_eq_true rfl, Nat.le_of_ble_eq_true rfl⟩ rfl rfl (Nat.le_of_ble_eq_true rfl) dX8_chance_40 ⟨Nat.le_of_ble_eq_true rfl, Nat.le_of_ble_eq_true rfl⟩ (fun H locs hV => ?_)
      obtain ⟨g12, hf⟩ := sr_gd hf
      refine lv_ldiv hx hb dX8_chance_43 g12 ?_
      cases hf
      exact s_lret hX hV dX8_chance_44
  · have hf := sr_f hf (sr_b0 c3)
    refine lv_ldc2 hx hb hX.1.2.2.2.1 (s_w hX lk_934) dX8_chance_8 ?_
    cases hf
    exact s_lret hX hV dX8_chance_11
abbrev rm_X8_having : Room := { frames := 4, cells := 0, slots := 0, locals := 88 }
theorem cv_X8_having : sr_Cv yX8_having cX8_having 4 (Option.some FieldType.int) RX8 1 := ⟨lk_945, lk_944, lp_46, lk_9, rfl, by decide +kernel, by decide +kernel, by decide +kernel⟩
set_option maxHeartbeats 4000000 in
set_option maxRecDepth 100000 in
theorem k_X8_having_L4 {p : Program} {l : Launch} {e : Env} {s : State} {m : MethodId} {args : Array Value} {below : List Frame} {meth : Method} {c : Code} {D : va_G} {aC : Nat → ClassId} {n0 : Nat} {r : Int32} {σ : St} {q0 : Nat} {x1 : Int32} (hX : sr_X p s m args meth c cX8_having 4 (Option.some FieldType.int) RX8 D aC) (h0 : shM q0 = 9) (rec4 : Int32 → Int32 → Option Int32) (hrec4 : ∀ (x2 : Int32) (x3 : Int32) (H : Heap) (locs : List Loc) (ls : Array Slot) , lv_has ls 4 [(0, .ref (n0 + q0)), (1, .int x1), (2, .int x2), (3, .int x3)] → sr_V D aC shM n0 σ s.heap H locs → rec4 x2 x3 = some r → W p l e rm_X8_having s m args below meth c H locs 0 0 (MQ below (sr_Qc D aC shM n0 σ (some (.int r))) args s 0 0 (sr_A shM n0)) (F0 m 4 ls [])) : ∀ (x2 : Int32) (x3 : Int32) (H : Heap) (locs : List Loc) (ls : Array Slot) , lv_has ls 4 [(0, .ref (n0 + q0)), (1, .int x1), (2, .int x2), (3, .int x3)] → sr_V D aC shM n0 σ s.heap H locs → f_X8_having_L4 σ q0 x1 rec4 x2 x3 = some r → W p l e rm_X8_having s m args below meth c H locs 0 0 (MQ below (sr_Qc D aC shM n0 σ (some (.int r))) args s 0 0 (sr_A shM n0)) (F0 m 4 ls []) := by
  intro x2 x3 H locs ls  hl hV hf
  have hx := hX.1.1
  have hb := hX.1.2.1
  unfold f_X8_having_L4 at hf
  refine lv_iload_n hx hb dX8_having_4 rfl (lv_at hl 3 rfl) ?_
  refine lv_aload_n hx hb dX8_having_5 rfl (lv_at hl 0 rfl) ?_
  refine fg_8_0 hX hV lk_666 (h0) dX8_having_6 ?_
  refine lv_bipush (v := 10) hx hb dX8_having_9 (by decide) ?_
  refine s_iald hX hV (n := 257) (ch_8_0 (h0)) (by decide) (by unfold vp_in; decide) dX8_having_11 ?_
  refine lv_icmp_ge (tgt := 35) hx hb dX8_having_12 (by decide) (fun c1 => ?_) (fun c1 => ?_)
  · have hf := sr_t hf c1
    refine lv_iload_n hx hb dX8_having_35 rfl (lv_at hl 2 rfl) ?_
    cases hf
    exact s_iret hX hV dX8_having_36
  · have hf := sr_f hf c1
    refine lv_iload_n hx hb dX8_having_15 rfl (lv_at hl 2 rfl) ?_
    refine lv_aload_n hx hb dX8_having_16 rfl (lv_at hl 0 rfl) ?_
    refine lv_iload_n hx hb dX8_having_17 rfl (lv_at hl 3 rfl) ?_
    obtain ⟨v3, e2, hf⟩ := sr_obd hf
    refine s_callV1 (ci := 8) hX hV hl.1 (c_X8_reached (h0) e2) cv_X8_reached lk_853 ⟨rfl, rfl, Nat.le_of_ble_eq_true rfl, Nat.le_of_ble_eq_true rfl⟩ rfl (by decide) (h0) rfl rfl (Nat.le_of_ble_eq_true rfl) dX8_having_18 ⟨Nat.le_of_ble_eq_true rfl, Nat.le_of_ble_eq_true rfl⟩ (fun H locs hV => ?_)
    refine lv_iload_n hx hb dX8_having_21 rfl (lv_at hl 1 rfl) ?_
    refine lv_ishr hx hb dX8_having_22 ?_
    refine lv_iconst (v := 1) hx hb dX8_having_23 (by decide) ?_
    refine lv_iand hx hb dX8_having_24 ?_
    refine lv_iload_n hx hb dX8_having_25 rfl (lv_at hl 3 rfl) ?_
    refine lv_ishl hx hb dX8_having_26 ?_
    refine lv_ior hx hb dX8_having_27 ?_
    obtain ⟨v4, e5, hf⟩ := sr_bnd hf
    rw [e5]
    refine lv_istore_n (lv' := [(2, .int v4), (0, .ref (n0 + q0)), (1, .int x1), (3, .int x3)]) hx hb dX8_having_28 rfl hl (by decide) rfl (fun ls hl => ?_)
    obtain ⟨v6, e7, hf⟩ := sr_bnd hf
    refine lv_iinc (v := v6) (lv' := [(3, .int v6), (2, .int v4), (0, .ref (n0 + q0)), (1, .int x1)]) hx hb dX8_having_29 hl (k := 3) rfl (by rw [← e7]; rfl) (by decide) rfl (fun ls hl => ?_)
    refine lv_goto (tgt := 4) hx hb dX8_having_32 (by decide) ?_
    exact hrec4 _ _ _ _ _  (lv_sub hl [2, 3, 1, 0] rfl) hV hf
set_option maxHeartbeats 4000000 in
set_option maxRecDepth 100000 in
theorem k_X8_having_L4w {p : Program} {l : Launch} {e : Env} {s : State} {m : MethodId} {args : Array Value} {below : List Frame} {meth : Method} {c : Code} {D : va_G} {aC : Nat → ClassId} {n0 : Nat} {r : Int32} {σ : St} {q0 : Nat} {x1 : Int32} (hX : sr_X p s m args meth c cX8_having 4 (Option.some FieldType.int) RX8 D aC) (h0 : shM q0 = 9) (n : Nat) : ∀ (x2 : Int32) (x3 : Int32) (H : Heap) (locs : List Loc) (ls : Array Slot) , lv_has ls 4 [(0, .ref (n0 + q0)), (1, .int x1), (2, .int x2), (3, .int x3)] → sr_V D aC shM n0 σ s.heap H locs → it2 (f_X8_having_L4 σ q0 x1) n x2 x3 = some r → W p l e rm_X8_having s m args below meth c H locs 0 0 (MQ below (sr_Qc D aC shM n0 σ (some (.int r))) args s 0 0 (sr_A shM n0)) (F0 m 4 ls []) :=
  it2_ind (fun rec4 => ∀ (x2 : Int32) (x3 : Int32) (H : Heap) (locs : List Loc) (ls : Array Slot) , lv_has ls 4 [(0, .ref (n0 + q0)), (1, .int x1), (2, .int x2), (3, .int x3)] → sr_V D aC shM n0 σ s.heap H locs → rec4 x2 x3 = some r → W p l e rm_X8_having s m args below meth c H locs 0 0 (MQ below (sr_Qc D aC shM n0 σ (some (.int r))) args s 0 0 (sr_A shM n0)) (F0 m 4 ls [])) (by intros; rename_i hf; exact absurd hf (by simp)) (fun rec hrec => k_X8_having_L4 hX h0  rec hrec) n
set_option maxHeartbeats 4000000 in
set_option maxRecDepth 100000 in
theorem c_X8_having {l : Launch} {D : va_G} {aC : Nat → ClassId} {n0 : Nat} {r : Int32} {σ : St}  {q0 : Nat} {x1 : Int32} (h0 : shM q0 = 9) (hf : f_X8_having q0 x1 σ = some r) : sr_Met l D aC shM n0 yX8_having cX8_having 4 (Option.some FieldType.int) rm_X8_having [.ref (n0 + q0), .int x1] σ (some (.int r)) σ := by
  refine s_met (own := RX8) (by decide) (Nat.le_of_ble_eq_true rfl) rfl ?_
  intro p e s m below meth c ls hX hV hl
  have hl : lv_has ls 4 [(0, .ref (n0 + q0)), (1, .int x1)] := hl
  have hx := hX.1.1
  have hb := hX.1.2.1
  unfold f_X8_having at hf
  refine lv_iconst (v := 0) hx hb dX8_having_0 (by decide) ?_
  refine lv_istore_n (lv' := [(2, .int 0), (0, .ref (n0 + q0)), (1, .int x1)]) hx hb dX8_having_1 rfl hl (by decide) rfl (fun ls hl => ?_)
  refine lv_iconst (v := 0) hx hb dX8_having_2 (by decide) ?_
  refine lv_istore_n (lv' := [(3, .int 0), (2, .int 0), (0, .ref (n0 + q0)), (1, .int x1)]) hx hb dX8_having_3 rfl hl (by decide) rfl (fun ls hl => ?_)
  exact k_X8_having_L4w hX h0  sr_fuel _ _ _ _ _  (lv_sub hl [2, 3, 1, 0] rfl) hV hf
abbrev rm_X8_has : Room := { frames := 5, cells := 0, slots := 0, locals := 111 }
theorem cv_X8_has : sr_Cv yX8_has cX8_has 2 (Option.some FieldType.int) RX8 1 := ⟨lk_941, lk_939, lk_940, lk_9, rfl, by decide +kernel, by decide +kernel, by decide +kernel⟩
set_option maxHeartbeats 4000000 in
set_option maxRecDepth 100000 in
theorem c_X8_has {l : Launch} {D : va_G} {aC : Nat → ClassId} {n0 : Nat} {r : Int32} {σ : St}  {q0 : Nat} {x1 : Int32} (h0 : shM q0 = 9) (hf : f_X8_has q0 x1 σ = some r) : sr_Met l D aC shM n0 yX8_has cX8_has 2 (Option.some FieldType.int) rm_X8_has [.ref (n0 + q0), .int x1] σ (some (.int r)) σ := by
  refine s_met (own := RX8) (by decide) (Nat.le_of_ble_eq_true rfl) rfl ?_
  intro p e s m below meth c ls hX hV hl
  have hl : lv_has ls 2 [(0, .ref (n0 + q0)), (1, .int x1)] := hl
  have hx := hX.1.1
  have hb := hX.1.2.1
  unfold f_X8_has at hf
  refine lv_aload_n hx hb dX8_has_0 rfl (lv_at hl 0 rfl) ?_
  refine lv_iload_n hx hb dX8_has_1 rfl (lv_at hl 1 rfl) ?_
  obtain ⟨v2, e1, hf⟩ := sr_bnd hf
  refine s_callV1 (ci := 8) hX hV hl.1 (c_X8_isCell (h0) e1) cv_X8_isCell lk_809 ⟨rfl, rfl, Nat.le_of_ble_eq_true rfl, Nat.le_of_ble_eq_true rfl⟩ rfl (by decide) (h0) rfl rfl (Nat.le_of_ble_eq_true rfl) dX8_has_2 ⟨Nat.le_of_ble_eq_true rfl, Nat.le_of_ble_eq_true rfl⟩ (fun H locs hV => ?_)
  refine lv_if_eq (tgt := 16) hx hb dX8_has_5 (by decide) (fun c3 => ?_) (fun c3 => ?_)
  · have hf := sr_f hf (sr_b0 c3)
    refine lv_bipush (v := (-11)) hx hb dX8_has_16 (by decide) ?_
    cases hf
    exact s_iret hX hV dX8_has_18
  · have hf := sr_t hf (sr_b1 c3)
    refine lv_aload_n hx hb dX8_has_8 rfl (lv_at hl 0 rfl) ?_
    refine lv_iload_n hx hb dX8_has_9 rfl (lv_at hl 1 rfl) ?_
    obtain ⟨v5, e4, hf⟩ := sr_obd hf
    refine s_callV1 (ci := 8) hX hV hl.1 (c_X8_having (h0) e4) cv_X8_having lk_942 ⟨rfl, rfl, Nat.le_of_ble_eq_true rfl, Nat.le_of_ble_eq_true rfl⟩ rfl (by decide) (h0) rfl rfl (Nat.le_of_ble_eq_true rfl) dX8_has_10 ⟨Nat.le_of_ble_eq_true rfl, Nat.le_of_ble_eq_true rfl⟩ (fun H locs hV => ?_)
    refine lv_goto (tgt := 18) hx hb dX8_has_13 (by decide) ?_
    cases hf
    exact s_iret hX hV dX8_has_18
abbrev rm_X8_isFrozen : Room := { frames := 2, cells := 0, slots := 0, locals := 45 }
theorem cv_X8_isFrozen : sr_Cv yX8_isFrozen cX8_isFrozen 2 (Option.some FieldType.int) RX8 1 := ⟨lk_949, lk_947, lk_948, lk_9, rfl, by decide +kernel, by decide +kernel, by decide +kernel⟩
set_option maxHeartbeats 4000000 in
set_option maxRecDepth 100000 in
theorem c_X8_isFrozen {l : Launch} {D : va_G} {aC : Nat → ClassId} {n0 : Nat} {r : Int32} {σ : St}  {q0 : Nat} {x1 : Int32} (h0 : shM q0 = 9) (hf : f_X8_isFrozen q0 x1 σ = some r) : sr_Met l D aC shM n0 yX8_isFrozen cX8_isFrozen 2 (Option.some FieldType.int) rm_X8_isFrozen [.ref (n0 + q0), .int x1] σ (some (.int r)) σ := by
  refine s_met (own := RX8) (by decide) (Nat.le_of_ble_eq_true rfl) rfl ?_
  intro p e s m below meth c ls hX hV hl
  have hl : lv_has ls 2 [(0, .ref (n0 + q0)), (1, .int x1)] := hl
  have hx := hX.1.1
  have hb := hX.1.2.1
  unfold f_X8_isFrozen at hf
  refine lv_iload_n hx hb dX8_isFrozen_0 rfl (lv_at hl 1 rfl) ?_
  refine lv_iconst (v := 0) hx hb dX8_isFrozen_1 (by decide) ?_
  refine lv_sipush (v := 167) hx hb dX8_isFrozen_2 (by decide) ?_
  obtain ⟨v2, e1, hf⟩ := sr_bnd hf
  refine s_callS1 hX hV hl.1 (c_X8_in  e1) cs_X8_in lk_717 ⟨rfl, rfl, Nat.le_of_ble_eq_true rfl, Nat.le_of_ble_eq_true rfl⟩ rfl rfl (Nat.le_of_ble_eq_true rfl) dX8_isFrozen_5 ⟨Nat.le_of_ble_eq_true rfl, Nat.le_of_ble_eq_true rfl⟩ (fun H locs hV => ?_)
  refine lv_if_ne (tgt := 16) hx hb dX8_isFrozen_8 (by decide) (fun c3 => ?_) (fun c3 => ?_)
  · have hf := sr_t hf (sr_b1 c3)
    refine lv_aload_n hx hb dX8_isFrozen_16 rfl (lv_at hl 0 rfl) ?_
    refine lv_iload_n hx hb dX8_isFrozen_17 rfl (lv_at hl 1 rfl) ?_
    obtain ⟨v5, e4, hf⟩ := sr_obd hf
    refine s_callV1 (ci := 8) hX hV hl.1 (c_X8_isFrozenHour (h0) e4) cv_X8_isFrozenHour lk_898 ⟨rfl, rfl, Nat.le_of_ble_eq_true rfl, Nat.le_of_ble_eq_true rfl⟩ rfl (by decide) (h0) rfl rfl (Nat.le_of_ble_eq_true rfl) dX8_isFrozen_18 ⟨Nat.le_of_ble_eq_true rfl, Nat.le_of_ble_eq_true rfl⟩ (fun H locs hV => ?_)
    refine lv_if_eq (tgt := 28) hx hb dX8_isFrozen_21 (by decide) (fun c6 => ?_) (fun c6 => ?_)
    · have hf := sr_f hf (sr_b0 c6)
      refine lv_iconst (v := 0) hx hb dX8_isFrozen_28 (by decide) ?_
      cases hf
      exact s_iret hX hV dX8_isFrozen_29
    · have hf := sr_t hf (sr_b1 c6)
      refine lv_iconst (v := 1) hx hb dX8_isFrozen_24 (by decide) ?_
      refine lv_goto (tgt := 29) hx hb dX8_isFrozen_25 (by decide) ?_
      cases hf
      exact s_iret hX hV dX8_isFrozen_29
  · have hf := sr_f hf (sr_b0 c3)
    refine lv_bipush (v := (-12)) hx hb dX8_isFrozen_11 (by decide) ?_
    refine lv_goto (tgt := 29) hx hb dX8_isFrozen_13 (by decide) ?_
    cases hf
    exact s_iret hX hV dX8_isFrozen_29
abbrev rm_X8_isOver : Room := { frames := 1, cells := 0, slots := 0, locals := 21 }
theorem cv_X8_isOver : sr_Cv yX8_isOver cX8_isOver 2 (Option.some FieldType.boolean) RX8 1 := ⟨lk_957, lk_956, lp_47, lk_9, rfl, by decide +kernel, by decide +kernel, by decide +kernel⟩
set_option maxHeartbeats 4000000 in
set_option maxRecDepth 100000 in
theorem c_X8_isOver {l : Launch} {D : va_G} {aC : Nat → ClassId} {n0 : Nat} {r : Bool} {σ : St}  {q0 : Nat} {x1 : Int32} (h0 : shM q0 = 9) (hf : f_X8_isOver q0 x1 σ = some r) : sr_Met l D aC shM n0 yX8_isOver cX8_isOver 2 (Option.some FieldType.boolean) rm_X8_isOver [.ref (n0 + q0), .int x1] σ (some (.int (bI r))) σ := by
  refine s_met (own := RX8) (by decide) (Nat.le_of_ble_eq_true rfl) rfl ?_
  intro p e s m below meth c ls hX hV hl
  have hl : lv_has ls 2 [(0, .ref (n0 + q0)), (1, .int x1)] := hl
  have hx := hX.1.1
  have hb := hX.1.2.1
  unfold f_X8_isOver at hf
  refine lv_aload_n hx hb dX8_isOver_0 rfl (lv_at hl 0 rfl) ?_
  refine fg_8_0 hX hV lk_666 (h0) dX8_isOver_1 ?_
  refine lv_iload_n hx hb dX8_isOver_4 rfl (lv_at hl 1 rfl) ?_
  refine lv_iconst (v := 1) hx hb dX8_isOver_5 (by decide) ?_
  obtain ⟨v2, e1, hf⟩ := sr_bnd hf
  refine s_callS1 hX hV hl.1 (c_X8_at  e1) cs_X8_at lk_740 ⟨rfl, rfl, Nat.le_of_ble_eq_true rfl, Nat.le_of_ble_eq_true rfl⟩ rfl rfl (Nat.le_of_ble_eq_true rfl) dX8_isOver_6 ⟨Nat.le_of_ble_eq_true rfl, Nat.le_of_ble_eq_true rfl⟩ (fun H locs hV => ?_)
  obtain ⟨g3, hf⟩ := sr_gd hf
  refine s_iald hX hV (n := 257) (ch_8_0 (h0)) (by decide) (inb_in g3) dX8_isOver_9 ?_
  refine lv_iconst (v := 3) hx hb dX8_isOver_10 (by decide) ?_
  refine lv_icmp_eq (tgt := 28) hx hb dX8_isOver_11 (by decide) (fun c4 => ?_) (fun c4 => ?_)
  · have hf := sr_t hf c4
    refine lv_iconst (v := 1) hx hb dX8_isOver_28 (by decide) ?_
    refine lv_goto (tgt := 33) hx hb dX8_isOver_29 (by decide) ?_
    cases hf
    exact s_zret (b := true) hX hV dX8_isOver_33
  · have hf := sr_f hf c4
    refine lv_aload_n hx hb dX8_isOver_14 rfl (lv_at hl 0 rfl) ?_
    refine fg_8_0 hX hV lk_666 (h0) dX8_isOver_15 ?_
    refine lv_iload_n hx hb dX8_isOver_18 rfl (lv_at hl 1 rfl) ?_
    refine lv_iconst (v := 1) hx hb dX8_isOver_19 (by decide) ?_
    obtain ⟨v6, e5, hf⟩ := sr_bnd hf
    refine s_callS1 hX hV hl.1 (c_X8_at  e5) cs_X8_at lk_740 ⟨rfl, rfl, Nat.le_of_ble_eq_true rfl, Nat.le_of_ble_eq_true rfl⟩ rfl rfl (Nat.le_of_ble_eq_true rfl) dX8_isOver_20 ⟨Nat.le_of_ble_eq_true rfl, Nat.le_of_ble_eq_true rfl⟩ (fun H locs hV => ?_)
    obtain ⟨g7, hf⟩ := sr_gd hf
    refine s_iald hX hV (n := 257) (ch_8_0 (h0)) (by decide) (inb_in g7) dX8_isOver_23 ?_
    refine lv_iconst (v := 5) hx hb dX8_isOver_24 (by decide) ?_
    refine lv_icmp_ne (tgt := 32) hx hb dX8_isOver_25 (by decide) (fun c8 => ?_) (fun c8 => ?_)
    · have hf := sr_f hf c8
      refine lv_iconst (v := 0) hx hb dX8_isOver_32 (by decide) ?_
      cases hf
      exact s_zret (b := false) hX hV dX8_isOver_33
    · have hf := sr_t hf c8
      refine lv_iconst (v := 1) hx hb dX8_isOver_28 (by decide) ?_
      refine lv_goto (tgt := 33) hx hb dX8_isOver_29 (by decide) ?_
      cases hf
      exact s_zret (b := true) hX hV dX8_isOver_33
