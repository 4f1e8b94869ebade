abbrev rm_X8_notes : Room := { frames := 0, cells := 0, slots := 0, locals := 0 }
theorem cv_X8_notes : sr_Cv yX8_notes cX8_notes 5 (none) RX8 3 := ⟨lk_840, lk_839, lp_30, lk_9, rfl, by decide +kernel, by decide +kernel, by decide +kernel⟩
set_option maxHeartbeats 4000000 in
set_option maxRecDepth 100000 in
theorem k_X8_notes_B54 {p : Program} {l : Launch} {e : Env} {s : State} {m : MethodId} {args : Array Value} {below : List Frame} {meth : Method} {c : Code} {D : va_G} {aC : Nat → ClassId} {n0 : Nat} {σ' : St} {q0 : Nat} {x1 : Int32} {x2 : Int32} {x3 : Int32} {σ : St} (hX : sr_X p s m args meth c cX8_notes 5 (none) RX8 D aC) (h0 : shM q0 = 9)   {H : Heap} {locs : List Loc} {ls : Array Slot} (hl : lv_has ls 5 [(0, .ref (n0 + q0)), (1, .int x1), (2, .int x2), (3, .int x3)]) (hV : sr_V D aC shM n0 σ s.heap H locs) (hf : f_X8_notes_B54 q0 x1 x2 x3 σ = some σ') : W p l e rm_X8_notes s m args below meth c H locs 0 0 (MQ below (sr_Qc D aC shM n0 σ' none) args s 0 0 (sr_A shM n0)) (F0 m 54 ls []) := by
  have hx := hX.1.1
  have hb := hX.1.2.1
  unfold f_X8_notes_B54 at hf
  refine lv_bipush (v := 12) hx hb dX8_notes_54 (by decide) ?_
  refine lv_iconst (v := 4) hx hb dX8_notes_56 (by decide) ?_
  refine lv_aload_n hx hb dX8_notes_57 rfl (lv_at hl 0 rfl) ?_
  refine fg_8_0 hX hV lk_666 (h0) dX8_notes_58 ?_
  refine lv_bipush (v := 11) hx hb dX8_notes_61 (by decide) ?_
  refine s_iald hX hV (n := 257) (ch_8_0 (h0)) (by decide) (by unfold vp_in; decide) dX8_notes_63 ?_
  refine lv_imul hx hb dX8_notes_64 ?_
  refine lv_iadd hx hb dX8_notes_65 ?_
  obtain ⟨v1, e2, hf⟩ := sr_bnd hf
  rw [e2]
  refine lv_istore (lv' := [(4, .int v1), (0, .ref (n0 + q0)), (1, .int x1), (2, .int x2), (3, .int x3)]) hx hb dX8_notes_66 hl (by decide) rfl (fun ls hl => ?_)
  refine lv_aload_n hx hb dX8_notes_68 rfl (lv_at hl 1 rfl) ?_
  refine fg_8_0 hX hV lk_666 (h0) dX8_notes_69 ?_
  refine lv_iload hx hb dX8_notes_72 (lv_at hl 0 rfl) ?_
  refine lv_aload_n hx hb dX8_notes_74 rfl (lv_at hl 1 rfl) ?_
  refine fg_8_0 hX hV lk_666 (h0) dX8_notes_75 ?_
  refine lv_iconst (v := 1) hx hb dX8_notes_78 (by decide) ?_
  refine s_iald hX hV (n := 257) (ch_8_0 (h0)) (by decide) (by unfold vp_in; decide) dX8_notes_79 ?_
  obtain ⟨g3, hf⟩ := sr_gd hf
  obtain ⟨σ4, e5, hf⟩ := sr_bnd hf
  refine s_iast hX hV (n := 257) (ch_8_0 (h0)) (by decide) (inb_in g3) dX8_notes_80 (fun H locs hV => ?_)
  rw [e5] at hV
  refine lv_aload_n hx hb dX8_notes_81 rfl (lv_at hl 1 rfl) ?_
  refine fg_8_0 hX hV lk_666 (h0) dX8_notes_82 ?_
  refine lv_iload hx hb dX8_notes_85 (lv_at hl 0 rfl) ?_
  refine lv_iconst (v := 1) hx hb dX8_notes_87 (by decide) ?_
  refine lv_iadd hx hb dX8_notes_88 ?_
  refine lv_iload_n hx hb dX8_notes_89 rfl (lv_at hl 2 rfl) ?_
  obtain ⟨v6, e7, hf⟩ := sr_bnd hf
  rw [e7]
  obtain ⟨g8, hf⟩ := sr_gd hf
  obtain ⟨σ9, e10, hf⟩ := sr_bnd hf
  refine s_iast hX hV (n := 257) (ch_8_0 (h0)) (by decide) (inb_in g8) dX8_notes_90 (fun H locs hV => ?_)
  rw [e10] at hV
  refine lv_aload_n hx hb dX8_notes_91 rfl (lv_at hl 1 rfl) ?_
  refine fg_8_0 hX hV lk_666 (h0) dX8_notes_92 ?_
  refine lv_iload hx hb dX8_notes_95 (lv_at hl 0 rfl) ?_
  refine lv_iconst (v := 2) hx hb dX8_notes_97 (by decide) ?_
  refine lv_iadd hx hb dX8_notes_98 ?_
  refine lv_iload_n hx hb dX8_notes_99 rfl (lv_at hl 3 rfl) ?_
  obtain ⟨v11, e12, hf⟩ := sr_bnd hf
  rw [e12]
  obtain ⟨g13, hf⟩ := sr_gd hf
  obtain ⟨σ14, e15, hf⟩ := sr_bnd hf
  refine s_iast hX hV (n := 257) (ch_8_0 (h0)) (by decide) (inb_in g13) dX8_notes_100 (fun H locs hV => ?_)
  rw [e15] at hV
  refine lv_aload_n hx hb dX8_notes_101 rfl (lv_at hl 1 rfl) ?_
  refine fg_8_0 hX hV lk_666 (h0) dX8_notes_102 ?_
  refine lv_iload hx hb dX8_notes_105 (lv_at hl 0 rfl) ?_
  refine lv_iconst (v := 3) hx hb dX8_notes_107 (by decide) ?_
  refine lv_iadd hx hb dX8_notes_108 ?_
  refine lv_iload_n hx hb dX8_notes_109 rfl (lv_at hl 4 rfl) ?_
  obtain ⟨v16, e17, hf⟩ := sr_bnd hf
  rw [e17]
  obtain ⟨g18, hf⟩ := sr_gd hf
  obtain ⟨σ19, e20, hf⟩ := sr_bnd hf
  refine s_iast hX hV (n := 257) (ch_8_0 (h0)) (by decide) (inb_in g18) dX8_notes_110 (fun H locs hV => ?_)
  rw [e20] at hV
  refine lv_aload_n hx hb dX8_notes_111 rfl (lv_at hl 1 rfl) ?_
  refine fg_8_0 hX hV lk_666 (h0) dX8_notes_112 ?_
  refine lv_bipush (v := 11) hx hb dX8_notes_115 (by decide) ?_
  refine lv_dup2_11 hx hb dX8_notes_117 rfl rfl ?_
  refine s_iald hX hV (n := 257) (ch_8_0 (h0)) (by decide) (by unfold vp_in; decide) dX8_notes_118 ?_
  refine lv_iconst (v := 1) hx hb dX8_notes_119 (by decide) ?_
  refine lv_iadd hx hb dX8_notes_120 ?_
  obtain ⟨σ21, e22, hf⟩ := sr_bnd hf
  refine s_iast hX hV (n := 257) (ch_8_0 (h0)) (by decide) (by unfold vp_in; decide) dX8_notes_121 (fun H locs hV => ?_)
  rw [e22] at hV
  refine lv_aload_n hx hb dX8_notes_122 rfl (lv_at hl 1 rfl) ?_
  refine lv_dup hx hb dX8_notes_123 rfl ?_
  refine fg_8_7 hX hV lk_673 (h0) dX8_notes_124 ?_
  refine lv_iconst (v := 1) hx hb dX8_notes_127 (by decide) ?_
  refine lv_iadd hx hb dX8_notes_128 ?_
  obtain ⟨σ23, e24, hf⟩ := sr_bnd hf
  refine fp_8_7 (x := ((gI σ21 q0 7) + 1)) hX hV lk_673 (h0) dX8_notes_129 (fun H locs hV => ?_)
  rw [e24] at hV
  cases hf
  exact s_vret hX hV dX8_notes_132
set_option maxHeartbeats 4000000 in
set_option maxRecDepth 100000 in
theorem k_X8_notes_L16 {p : Program} {l : Launch} {e : Env} {s : State} {m : MethodId} {args : Array Value} {below : List Frame} {meth : Method} {c : Code} {D : va_G} {aC : Nat → ClassId} {n0 : Nat} {σ' : St} {q0 : Nat} {x1 : Int32} {x2 : Int32} {x3 : Int32} (hX : sr_X p s m args meth c cX8_notes 5 (none) RX8 D aC) (h0 : shM q0 = 9) (rec16 : Int32 → St → Option St) (hrec16 : ∀ (x4 : Int32) (σ : St) (H : Heap) (locs : List Loc) (ls : Array Slot) , lv_has ls 5 [(0, .ref (n0 + q0)), (1, .int x1), (2, .int x2), (3, .int x3), (4, .int x4)] → sr_V D aC shM n0 σ s.heap H locs → rec16 x4 σ = some σ' → W p l e rm_X8_notes s m args below meth c H locs 0 0 (MQ below (sr_Qc D aC shM n0 σ' none) args s 0 0 (sr_A shM n0)) (F0 m 16 ls [])) : ∀ (x4 : Int32) (σ : St) (H : Heap) (locs : List Loc) (ls : Array Slot) , lv_has ls 5 [(0, .ref (n0 + q0)), (1, .int x1), (2, .int x2), (3, .int x3), (4, .int x4)] → sr_V D aC shM n0 σ s.heap H locs → f_X8_notes_L16 q0 x1 x2 x3 rec16 x4 σ = some σ' → W p l e rm_X8_notes s m args below meth c H locs 0 0 (MQ below (sr_Qc D aC shM n0 σ' none) args s 0 0 (sr_A shM n0)) (F0 m 16 ls []) := by
  intro x4 σ H locs ls  hl hV hf
  have hx := hX.1.1
  have hb := hX.1.2.1
  unfold f_X8_notes_L16 at hf
  refine lv_iload hx hb dX8_notes_16 (lv_at hl 4 rfl) ?_
  refine lv_bipush (v := 88) hx hb dX8_notes_18 (by decide) ?_
  refine lv_icmp_ge (tgt := 45) hx hb dX8_notes_20 (by decide) (fun c25 => ?_) (fun c25 => ?_)
  · have hf := sr_t hf c25
    refine lv_aload_n hx hb dX8_notes_45 rfl (lv_at hl 0 rfl) ?_
    refine fg_8_0 hX hV lk_666 (h0) dX8_notes_46 ?_
    refine lv_bipush (v := 11) hx hb dX8_notes_49 (by decide) ?_
    refine lv_bipush (v := 19) hx hb dX8_notes_51 (by decide) ?_
    obtain ⟨σ26, e27, hf⟩ := sr_bnd hf
    refine s_iast hX hV (n := 257) (ch_8_0 (h0)) (by decide) (by unfold vp_in; decide) dX8_notes_53 (fun H locs hV => ?_)
    rw [e27] at hV
    exact k_X8_notes_B54 hX h0   (lv_sub hl [0, 1, 2, 3] rfl) hV hf
  · have hf := sr_f hf c25
    refine lv_aload_n hx hb dX8_notes_23 rfl (lv_at hl 0 rfl) ?_
    refine fg_8_0 hX hV lk_666 (h0) dX8_notes_24 ?_
    refine lv_iload hx hb dX8_notes_27 (lv_at hl 4 rfl) ?_
    refine lv_aload_n hx hb dX8_notes_29 rfl (lv_at hl 0 rfl) ?_
    refine fg_8_0 hX hV lk_666 (h0) dX8_notes_30 ?_
    refine lv_iload hx hb dX8_notes_33 (lv_at hl 4 rfl) ?_
    refine lv_iconst (v := 4) hx hb dX8_notes_35 (by decide) ?_
    refine lv_iadd hx hb dX8_notes_36 ?_
    obtain ⟨v28, e29, hf⟩ := sr_bnd hf
    rw [e29]
    obtain ⟨g30, hf⟩ := sr_gd hf
    refine s_iald hX hV (n := 257) (ch_8_0 (h0)) (by decide) (inb_in g30) dX8_notes_37 ?_
    obtain ⟨g31, hf⟩ := sr_gd hf
    obtain ⟨σ32, e33, hf⟩ := sr_bnd hf
    refine s_iast hX hV (n := 257) (ch_8_0 (h0)) (by decide) (inb_in g31) dX8_notes_38 (fun H locs hV => ?_)
    rw [e33] at hV
    obtain ⟨v34, e35, hf⟩ := sr_bnd hf
    refine lv_iinc (v := v34) (lv' := [(4, .int v34), (0, .ref (n0 + q0)), (1, .int x1), (2, .int x2), (3, .int x3)]) hx hb dX8_notes_39 hl (k := 4) rfl (by rw [← e35]; rfl) (by decide) rfl (fun ls hl => ?_)
    refine lv_goto (tgt := 16) hx hb dX8_notes_42 (by decide) ?_
    exact hrec16 _ _ _ _ _  (lv_sub hl [1, 2, 3, 4, 0] rfl) hV hf
set_option maxHeartbeats 4000000 in
set_option maxRecDepth 100000 in
theorem k_X8_notes_L16w {p : Program} {l : Launch} {e : Env} {s : State} {m : MethodId} {args : Array Value} {below : List Frame} {meth : Method} {c : Code} {D : va_G} {aC : Nat → ClassId} {n0 : Nat} {σ' : St} {q0 : Nat} {x1 : Int32} {x2 : Int32} {x3 : Int32} (hX : sr_X p s m args meth c cX8_notes 5 (none) RX8 D aC) (h0 : shM q0 = 9) (n : Nat) : ∀ (x4 : Int32) (σ : St) (H : Heap) (locs : List Loc) (ls : Array Slot) , lv_has ls 5 [(0, .ref (n0 + q0)), (1, .int x1), (2, .int x2), (3, .int x3), (4, .int x4)] → sr_V D aC shM n0 σ s.heap H locs → it2 (f_X8_notes_L16 q0 x1 x2 x3) n x4 σ = some σ' → W p l e rm_X8_notes s m args below meth c H locs 0 0 (MQ below (sr_Qc D aC shM n0 σ' none) args s 0 0 (sr_A shM n0)) (F0 m 16 ls []) :=
  it2_ind (fun rec16 => ∀ (x4 : Int32) (σ : St) (H : Heap) (locs : List Loc) (ls : Array Slot) , lv_has ls 5 [(0, .ref (n0 + q0)), (1, .int x1), (2, .int x2), (3, .int x3), (4, .int x4)] → sr_V D aC shM n0 σ s.heap H locs → rec16 x4 σ = some σ' → W p l e rm_X8_notes s m args below meth c H locs 0 0 (MQ below (sr_Qc D aC shM n0 σ' none) args s 0 0 (sr_A shM n0)) (F0 m 16 ls [])) (by intros; rename_i hf; exact absurd hf (by simp)) (fun rec hrec => k_X8_notes_L16 hX h0  rec hrec) n
set_option maxHeartbeats 4000000 in
set_option maxRecDepth 100000 in
theorem c_X8_notes {l : Launch} {D : va_G} {aC : Nat → ClassId} {n0 : Nat} {σ' : St}  {σ : St} {q0 : Nat} {x1 : Int32} {x2 : Int32} {x3 : Int32} (h0 : shM q0 = 9) (hf : f_X8_notes q0 x1 x2 x3 σ = some σ') : sr_Met l D aC shM n0 yX8_notes cX8_notes 5 (none) rm_X8_notes [.ref (n0 + q0), .int x1, .int x2, .int x3] σ none σ' := by
  refine s_met (own := RX8) (by decide) (Nat.le_of_ble_eq_true rfl) rfl ?_
  intro p e s m below meth c ls hX hV hl
  have hl : lv_has ls 5 [(0, .ref (n0 + q0)), (1, .int x1), (2, .int x2), (3, .int x3)] := hl
  have hx := hX.1.1
  have hb := hX.1.2.1
  unfold f_X8_notes at hf
  refine lv_aload_n hx hb dX8_notes_0 rfl (lv_at hl 0 rfl) ?_
  refine fg_8_0 hX hV lk_666 (h0) dX8_notes_1 ?_
  refine lv_bipush (v := 11) hx hb dX8_notes_4 (by decide) ?_
  refine s_iald hX hV (n := 257) (ch_8_0 (h0)) (by decide) (by unfold vp_in; decide) dX8_notes_6 ?_
  refine lv_bipush (v := 20) hx hb dX8_notes_7 (by decide) ?_
  refine lv_icmp_ne (tgt := 54) hx hb dX8_notes_9 (by decide) (fun c36 => ?_) (fun c36 => ?_)
  · have hf := sr_f hf c36
    exact k_X8_notes_B54 hX h0   (lv_sub hl [0, 1, 2, 3] rfl) hV hf
  · have hf := sr_t hf c36
    refine lv_bipush (v := 12) hx hb dX8_notes_12 (by decide) ?_
    refine lv_istore (lv' := [(4, .int 12), (0, .ref (n0 + q0)), (1, .int x1), (2, .int x2), (3, .int x3)]) hx hb dX8_notes_14 hl (by decide) rfl (fun ls hl => ?_)
    exact k_X8_notes_L16w hX h0  sr_fuel _ _ _ _ _  (lv_sub hl [1, 2, 3, 4, 0] rfl) hV hf
abbrev rm_X8_start : Room := { frames := 2, cells := 0, slots := 0, locals := 43 }
theorem cv_X8_start : sr_Cv yX8_start cX8_start 2 (Option.some FieldType.int) RX8 1 := ⟨lk_828, lk_826, lk_827, lk_9, rfl, by decide +kernel, by decide +kernel, by decide +kernel⟩
set_option maxHeartbeats 4000000 in
set_option maxRecDepth 100000 in
theorem c_X8_start {l : Launch} {D : va_G} {aC : Nat → ClassId} {n0 : Nat} {r : Int32} {σ' : St}  {σ : St} {q0 : Nat} {x1 : Int32} (h0 : shM q0 = 9) (hf : f_X8_start q0 x1 σ = some (r, σ')) : sr_Met l D aC shM n0 yX8_start cX8_start 2 (Option.some FieldType.int) rm_X8_start [.ref (n0 + q0), .int x1] σ (some (.int r)) σ' := by
  refine s_met (own := RX8) (by decide) (Nat.le_of_ble_eq_true rfl) rfl ?_
  intro p e s m below meth c ls hX hV hl
  have hl : lv_has ls 2 [(0, .ref (n0 + q0)), (1, .int x1)] := hl
  have hx := hX.1.1
  have hb := hX.1.2.1
  unfold f_X8_start at hf
  refine lv_aload_n hx hb dX8_start_0 rfl (lv_at hl 0 rfl) ?_
  refine lv_iload_n hx hb dX8_start_1 rfl (lv_at hl 1 rfl) ?_
  obtain ⟨v2, e1, hf⟩ := sr_bnd hf
  refine s_callV1 (ci := 8) hX hV hl.1 (c_X8_isChange (h0) e1) cv_X8_isChange lk_747 ⟨rfl, rfl, Nat.le_of_ble_eq_true rfl, Nat.le_of_ble_eq_true rfl⟩ rfl (by decide) (h0) rfl rfl (Nat.le_of_ble_eq_true rfl) dX8_start_2 ⟨Nat.le_of_ble_eq_true rfl, Nat.le_of_ble_eq_true rfl⟩ (fun H locs hV => ?_)
  refine lv_if_ne (tgt := 11) hx hb dX8_start_5 (by decide) (fun c3 => ?_) (fun c3 => ?_)
  · have hf := sr_t hf (sr_b1 c3)
    refine lv_aload_n hx hb dX8_start_11 rfl (lv_at hl 0 rfl) ?_
    refine fg_8_0 hX hV lk_666 (h0) dX8_start_12 ?_
    refine lv_iload_n hx hb dX8_start_15 rfl (lv_at hl 1 rfl) ?_
    refine lv_iconst (v := 1) hx hb dX8_start_16 (by decide) ?_
    obtain ⟨v5, e4, hf⟩ := sr_bnd hf
    refine s_callS1 hX hV hl.1 (c_X8_at  e4) cs_X8_at lk_740 ⟨rfl, rfl, Nat.le_of_ble_eq_true rfl, Nat.le_of_ble_eq_true rfl⟩ rfl rfl (Nat.le_of_ble_eq_true rfl) dX8_start_17 ⟨Nat.le_of_ble_eq_true rfl, Nat.le_of_ble_eq_true rfl⟩ (fun H locs hV => ?_)
    obtain ⟨g6, hf⟩ := sr_gd hf
    refine s_iald hX hV (n := 257) (ch_8_0 (h0)) (by decide) (inb_in g6) dX8_start_20 ?_
    refine lv_if_ne (tgt := 37) hx hb dX8_start_21 (by decide) (fun c7 => ?_) (fun c7 => ?_)
    · have hf := sr_f hf c7
      refine lv_bipush (v := (-13)) hx hb dX8_start_37 (by decide) ?_
      cases hf
      exact s_iret hX hV dX8_start_39
    · have hf := sr_t hf c7
      refine lv_aload_n hx hb dX8_start_24 rfl (lv_at hl 0 rfl) ?_
      refine fg_8_0 hX hV lk_666 (h0) dX8_start_25 ?_
      refine lv_iload_n hx hb dX8_start_28 rfl (lv_at hl 1 rfl) ?_
      refine lv_iconst (v := 2) hx hb dX8_start_29 (by decide) ?_
      obtain ⟨v9, e8, hf⟩ := sr_bnd hf
      refine s_callS1 hX hV hl.1 (c_X8_at  e8) cs_X8_at lk_740 ⟨rfl, rfl, Nat.le_of_ble_eq_true rfl, Nat.le_of_ble_eq_true rfl⟩ rfl rfl (Nat.le_of_ble_eq_true rfl) dX8_start_30 ⟨Nat.le_of_ble_eq_true rfl, Nat.le_of_ble_eq_true rfl⟩ (fun H locs hV => ?_)
      obtain ⟨g10, hf⟩ := sr_gd hf
      refine s_iald hX hV (n := 257) (ch_8_0 (h0)) (by decide) (inb_in g10) dX8_start_33 ?_
      refine lv_if_ne (tgt := 40) hx hb dX8_start_34 (by decide) (fun c11 => ?_) (fun c11 => ?_)
      · have hf := sr_f hf c11
        refine lv_aload_n hx hb dX8_start_40 rfl (lv_at hl 0 rfl) ?_
        refine fg_8_0 hX hV lk_666 (h0) dX8_start_41 ?_
        refine lv_iload_n hx hb dX8_start_44 rfl (lv_at hl 1 rfl) ?_
        refine lv_iconst (v := 1) hx hb dX8_start_45 (by decide) ?_
        obtain ⟨v13, e12, hf⟩ := sr_bnd hf
        refine s_callS1 hX hV hl.1 (c_X8_at  e12) cs_X8_at lk_740 ⟨rfl, rfl, Nat.le_of_ble_eq_true rfl, Nat.le_of_ble_eq_true rfl⟩ rfl rfl (Nat.le_of_ble_eq_true rfl) dX8_start_46 ⟨Nat.le_of_ble_eq_true rfl, Nat.le_of_ble_eq_true rfl⟩ (fun H locs hV => ?_)
        refine lv_iconst (v := 1) hx hb dX8_start_49 (by decide) ?_
        obtain ⟨g14, hf⟩ := sr_gd hf
        obtain ⟨σ15, e16, hf⟩ := sr_bnd hf
        refine s_iast hX hV (n := 257) (ch_8_0 (h0)) (by decide) (inb_in g14) dX8_start_50 (fun H locs hV => ?_)
        rw [e16] at hV
        refine lv_aload_n hx hb dX8_start_51 rfl (lv_at hl 0 rfl) ?_
        refine fg_8_0 hX hV lk_666 (h0) dX8_start_52 ?_
        refine lv_iload_n hx hb dX8_start_55 rfl (lv_at hl 1 rfl) ?_
        refine lv_iconst (v := 2) hx hb dX8_start_56 (by decide) ?_
        obtain ⟨v18, e17, hf⟩ := sr_bnd hf
        refine s_callS1 hX hV hl.1 (c_X8_at  e17) cs_X8_at lk_740 ⟨rfl, rfl, Nat.le_of_ble_eq_true rfl, Nat.le_of_ble_eq_true rfl⟩ rfl rfl (Nat.le_of_ble_eq_true rfl) dX8_start_57 ⟨Nat.le_of_ble_eq_true rfl, Nat.le_of_ble_eq_true rfl⟩ (fun H locs hV => ?_)
        obtain ⟨g19, hf⟩ := sr_gd hf
        refine s_iald hX hV (n := 257) (ch_8_0 (h0)) (by decide) (inb_in g19) dX8_start_60 ?_
        cases hf
        exact s_iret hX hV dX8_start_61
      · have hf := sr_t hf c11
        refine lv_bipush (v := (-13)) hx hb dX8_start_37 (by decide) ?_
        cases hf
        exact s_iret hX hV dX8_start_39
  · have hf := sr_f hf (sr_b0 c3)
    refine lv_bipush (v := (-11)) hx hb dX8_start_8 (by decide) ?_
    cases hf
    exact s_iret hX hV dX8_start_10
abbrev rm_X8_becomes : Room := { frames := 1, cells := 0, slots := 0, locals := 24 }
theorem cv_X8_becomes : sr_Cv yX8_becomes cX8_becomes 4 (Option.some FieldType.int) RX8 3 := ⟨lk_836, lk_835, lp_29, lk_9, rfl, by decide +kernel, by decide +kernel, by decide +kernel⟩
set_option maxHeartbeats 4000000 in
set_option maxRecDepth 100000 in
theorem c_X8_becomes {l : Launch} {D : va_G} {aC : Nat → ClassId} {n0 : Nat} {r : Int32} {σ' : St}  {σ : St} {q0 : Nat} {x1 : Int32} {x2 : Int32} {x3 : Int32} (h0 : shM q0 = 9) (hf : f_X8_becomes q0 x1 x2 x3 σ = some (r, σ')) : sr_Met l D aC shM n0 yX8_becomes cX8_becomes 4 (Option.some FieldType.int) rm_X8_becomes [.ref (n0 + q0), .int x1, .int x2, .int x3] σ (some (.int r)) σ' := by
  refine s_met (own := RX8) (by decide) (Nat.le_of_ble_eq_true rfl) rfl ?_
  intro p e s m below meth c ls hX hV hl
  have hl : lv_has ls 4 [(0, .ref (n0 + q0)), (1, .int x1), (2, .int x2), (3, .int x3)] := hl
  have hx := hX.1.1
  have hb := hX.1.2.1
  unfold f_X8_becomes at hf
  refine lv_aload_n hx hb dX8_becomes_0 rfl (lv_at hl 0 rfl) ?_
  refine fg_8_0 hX hV lk_666 (h0) dX8_becomes_1 ?_
  refine lv_iload_n hx hb dX8_becomes_4 rfl (lv_at hl 1 rfl) ?_
  refine lv_iconst (v := 1) hx hb dX8_becomes_5 (by decide) ?_
  obtain ⟨v2, e1, hf⟩ := sr_bnd hf
  refine s_callS1 hX hV hl.1 (c_X8_at  e1) cs_X8_at lk_740 ⟨rfl, rfl, Nat.le_of_ble_eq_true rfl, Nat.le_of_ble_eq_true rfl⟩ rfl rfl (Nat.le_of_ble_eq_true rfl) dX8_becomes_6 ⟨Nat.le_of_ble_eq_true rfl, Nat.le_of_ble_eq_true rfl⟩ (fun H locs hV => ?_)
  refine lv_iload_n hx hb dX8_becomes_9 rfl (lv_at hl 2 rfl) ?_
  obtain ⟨g3, hf⟩ := sr_gd hf
  obtain ⟨σ4, e5, hf⟩ := sr_bnd hf
  refine s_iast hX hV (n := 257) (ch_8_0 (h0)) (by decide) (inb_in g3) dX8_becomes_10 (fun H locs hV => ?_)
  rw [e5] at hV
  refine lv_aload_n hx hb dX8_becomes_11 rfl (lv_at hl 0 rfl) ?_
  refine lv_iload_n hx hb dX8_becomes_12 rfl (lv_at hl 1 rfl) ?_
  refine lv_iload_n hx hb dX8_becomes_13 rfl (lv_at hl 3 rfl) ?_
  refine lv_bipush (v := (-15)) hx hb dX8_becomes_14 (by decide) ?_
  obtain ⟨σ7, e6, hf⟩ := sr_obd hf
  refine s_callV0 (ci := 8) hX hV hl.1 (c_X8_notes (h0) e6) cv_X8_notes lk_837 ⟨rfl, rfl, Nat.le_of_ble_eq_true rfl, Nat.le_of_ble_eq_true rfl⟩ rfl (by decide) (h0) rfl rfl (Nat.le_of_ble_eq_true rfl) dX8_becomes_16 ⟨Nat.le_of_ble_eq_true rfl, Nat.le_of_ble_eq_true rfl⟩ (fun H locs hV => ?_)
  refine lv_aload_n hx hb dX8_becomes_19 rfl (lv_at hl 0 rfl) ?_
  refine fg_8_0 hX hV lk_666 (h0) dX8_becomes_20 ?_
  refine lv_iload_n hx hb dX8_becomes_23 rfl (lv_at hl 1 rfl) ?_
  refine lv_iconst (v := 3) hx hb dX8_becomes_24 (by decide) ?_
  obtain ⟨v9, e8, hf⟩ := sr_bnd hf
  refine s_callS1 hX hV hl.1 (c_X8_at  e8) cs_X8_at lk_740 ⟨rfl, rfl, Nat.le_of_ble_eq_true rfl, Nat.le_of_ble_eq_true rfl⟩ rfl rfl (Nat.le_of_ble_eq_true rfl) dX8_becomes_25 ⟨Nat.le_of_ble_eq_true rfl, Nat.le_of_ble_eq_true rfl⟩ (fun H locs hV => ?_)
  obtain ⟨g10, hf⟩ := sr_gd hf
  refine s_iald hX hV (n := 257) (ch_8_0 (h0)) (by decide) (inb_in g10) dX8_becomes_28 ?_
  cases hf
  exact s_iret hX hV dX8_becomes_29
abbrev rm_X8_hold : Room := { frames := 2, cells := 0, slots := 0, locals := 47 }
theorem cv_X8_hold : sr_Cv yX8_hold cX8_hold 2 (Option.some FieldType.int) RX8 1 := ⟨lk_832, lk_830, lk_831, lk_9, rfl, by decide +kernel, by decide +kernel, by decide +kernel⟩
set_option maxHeartbeats 4000000 in
set_option maxRecDepth 100000 in
theorem c_X8_hold {l : Launch} {D : va_G} {aC : Nat → ClassId} {n0 : Nat} {r : Int32} {σ' : St}  {σ : St} {q0 : Nat} {x1 : Int32} (h0 : shM q0 = 9) (hf : f_X8_hold q0 x1 σ = some (r, σ')) : sr_Met l D aC shM n0 yX8_hold cX8_hold 2 (Option.some FieldType.int) rm_X8_hold [.ref (n0 + q0), .int x1] σ (some (.int r)) σ' := by
  refine s_met (own := RX8) (by decide) (Nat.le_of_ble_eq_true rfl) rfl ?_
  intro p e s m below meth c ls hX hV hl
  have hl : lv_has ls 2 [(0, .ref (n0 + q0)), (1, .int x1)] := hl
  have hx := hX.1.1
  have hb := hX.1.2.1
  unfold f_X8_hold at hf
  refine lv_aload_n hx hb dX8_hold_0 rfl (lv_at hl 0 rfl) ?_
  refine lv_iload_n hx hb dX8_hold_1 rfl (lv_at hl 1 rfl) ?_
  obtain ⟨v2, e1, hf⟩ := sr_bnd hf
  refine s_callV1 (ci := 8) hX hV hl.1 (c_X8_isChange (h0) e1) cv_X8_isChange lk_747 ⟨rfl, rfl, Nat.le_of_ble_eq_true rfl, Nat.le_of_ble_eq_true rfl⟩ rfl (by decide) (h0) rfl rfl (Nat.le_of_ble_eq_true rfl) dX8_hold_2 ⟨Nat.le_of_ble_eq_true rfl, Nat.le_of_ble_eq_true rfl⟩ (fun H locs hV => ?_)
  refine lv_if_ne (tgt := 11) hx hb dX8_hold_5 (by decide) (fun c3 => ?_) (fun c3 => ?_)
  · have hf := sr_t hf (sr_b1 c3)
    refine lv_aload_n hx hb dX8_hold_11 rfl (lv_at hl 0 rfl) ?_
    refine fg_8_0 hX hV lk_666 (h0) dX8_hold_12 ?_
    refine lv_iload_n hx hb dX8_hold_15 rfl (lv_at hl 1 rfl) ?_
    refine lv_iconst (v := 1) hx hb dX8_hold_16 (by decide) ?_
    obtain ⟨v5, e4, hf⟩ := sr_bnd hf
    refine s_callS1 hX hV hl.1 (c_X8_at  e4) cs_X8_at lk_740 ⟨rfl, rfl, Nat.le_of_ble_eq_true rfl, Nat.le_of_ble_eq_true rfl⟩ rfl rfl (Nat.le_of_ble_eq_true rfl) dX8_hold_17 ⟨Nat.le_of_ble_eq_true rfl, Nat.le_of_ble_eq_true rfl⟩ (fun H locs hV => ?_)
    obtain ⟨g6, hf⟩ := sr_gd hf
    refine s_iald hX hV (n := 257) (ch_8_0 (h0)) (by decide) (inb_in g6) dX8_hold_20 ?_
    refine lv_iconst (v := 1) hx hb dX8_hold_21 (by decide) ?_
    refine lv_icmp_ne (tgt := 36) hx hb dX8_hold_22 (by decide) (fun c7 => ?_) (fun c7 => ?_)
    · have hf := sr_f hf c7
      refine lv_bipush (v := (-13)) hx hb dX8_hold_36 (by decide) ?_
      cases hf
      exact s_iret hX hV dX8_hold_38
    · have hf := sr_t hf c7
      refine lv_aload_n hx hb dX8_hold_25 rfl (lv_at hl 0 rfl) ?_
      refine lv_iload_n hx hb dX8_hold_26 rfl (lv_at hl 1 rfl) ?_
      refine lv_iconst (v := 2) hx hb dX8_hold_27 (by decide) ?_
      refine lv_bipush (v := 6) hx hb dX8_hold_28 (by decide) ?_
      obtain ⟨v9, σ10, e8, hf⟩ := sr_ob2 hf
      refine s_callV1 (ci := 8) hX hV hl.1 (c_X8_becomes (h0) e8) cv_X8_becomes lk_833 ⟨rfl, rfl, Nat.le_of_ble_eq_true rfl, Nat.le_of_ble_eq_true rfl⟩ rfl (by decide) (h0) rfl rfl (Nat.le_of_ble_eq_true rfl) dX8_hold_30 ⟨Nat.le_of_ble_eq_true rfl, Nat.le_of_ble_eq_true rfl⟩ (fun H locs hV => ?_)
      refine lv_goto (tgt := 38) hx hb dX8_hold_33 (by decide) ?_
      cases hf
      exact s_iret hX hV dX8_hold_38
  · have hf := sr_f hf (sr_b0 c3)
    refine lv_bipush (v := (-11)) hx hb dX8_hold_8 (by decide) ?_
    cases hf
    exact s_iret hX hV dX8_hold_10
abbrev rm_X8_resume : Room := { frames := 2, cells := 0, slots := 0, locals := 47 }
theorem cv_X8_resume : sr_Cv yX8_resume cX8_resume 2 (Option.some FieldType.int) RX8 1 := ⟨lk_844, lk_842, lk_843, lk_9, rfl, by decide +kernel, by decide +kernel, by decide +kernel⟩
set_option maxHeartbeats 4000000 in
set_option maxRecDepth 100000 in
theorem c_X8_resume {l : Launch} {D : va_G} {aC : Nat → ClassId} {n0 : Nat} {r : Int32} {σ' : St}  {σ : St} {q0 : Nat} {x1 : Int32} (h0 : shM q0 = 9) (hf : f_X8_resume q0 x1 σ = some (r, σ')) : sr_Met l D aC shM n0 yX8_resume cX8_resume 2 (Option.some FieldType.int) rm_X8_resume [.ref (n0 + q0), .int x1] σ (some (.int r)) σ' := by
  refine s_met (own := RX8) (by decide) (Nat.le_of_ble_eq_true rfl) rfl ?_
  intro p e s m below meth c ls hX hV hl
  have hl : lv_has ls 2 [(0, .ref (n0 + q0)), (1, .int x1)] := hl
  have hx := hX.1.1
  have hb := hX.1.2.1
  unfold f_X8_resume at hf
  refine lv_aload_n hx hb dX8_resume_0 rfl (lv_at hl 0 rfl) ?_
  refine lv_iload_n hx hb dX8_resume_1 rfl (lv_at hl 1 rfl) ?_
  obtain ⟨v2, e1, hf⟩ := sr_bnd hf
  refine s_callV1 (ci := 8) hX hV hl.1 (c_X8_isChange (h0) e1) cv_X8_isChange lk_747 ⟨rfl, rfl, Nat.le_of_ble_eq_true rfl, Nat.le_of_ble_eq_true rfl⟩ rfl (by decide) (h0) rfl rfl (Nat.le_of_ble_eq_true rfl) dX8_resume_2 ⟨Nat.le_of_ble_eq_true rfl, Nat.le_of_ble_eq_true rfl⟩ (fun H locs hV => ?_)
  refine lv_if_ne (tgt := 11) hx hb dX8_resume_5 (by decide) (fun c3 => ?_) (fun c3 => ?_)
  · have hf := sr_t hf (sr_b1 c3)
    refine lv_aload_n hx hb dX8_resume_11 rfl (lv_at hl 0 rfl) ?_
    refine fg_8_0 hX hV lk_666 (h0) dX8_resume_12 ?_
    refine lv_iload_n hx hb dX8_resume_15 rfl (lv_at hl 1 rfl) ?_
    refine lv_iconst (v := 1) hx hb dX8_resume_16 (by decide) ?_
    obtain ⟨v5, e4, hf⟩ := sr_bnd hf
    refine s_callS1 hX hV hl.1 (c_X8_at  e4) cs_X8_at lk_740 ⟨rfl, rfl, Nat.le_of_ble_eq_true rfl, Nat.le_of_ble_eq_true rfl⟩ rfl rfl (Nat.le_of_ble_eq_true rfl) dX8_resume_17 ⟨Nat.le_of_ble_eq_true rfl, Nat.le_of_ble_eq_true rfl⟩ (fun H locs hV => ?_)
    obtain ⟨g6, hf⟩ := sr_gd hf
    refine s_iald hX hV (n := 257) (ch_8_0 (h0)) (by decide) (inb_in g6) dX8_resume_20 ?_
    refine lv_iconst (v := 2) hx hb dX8_resume_21 (by decide) ?_
    refine lv_icmp_ne (tgt := 36) hx hb dX8_resume_22 (by decide) (fun c7 => ?_) (fun c7 => ?_)
    · have hf := sr_f hf c7
      refine lv_bipush (v := (-13)) hx hb dX8_resume_36 (by decide) ?_
      cases hf
      exact s_iret hX hV dX8_resume_38
    · have hf := sr_t hf c7
      refine lv_aload_n hx hb dX8_resume_25 rfl (lv_at hl 0 rfl) ?_
      refine lv_iload_n hx hb dX8_resume_26 rfl (lv_at hl 1 rfl) ?_
      refine lv_iconst (v := 1) hx hb dX8_resume_27 (by decide) ?_
      refine lv_bipush (v := 7) hx hb dX8_resume_28 (by decide) ?_
      obtain ⟨v9, σ10, e8, hf⟩ := sr_ob2 hf
      refine s_callV1 (ci := 8) hX hV hl.1 (c_X8_becomes (h0) e8) cv_X8_becomes lk_833 ⟨rfl, rfl, Nat.le_of_ble_eq_true rfl, Nat.le_of_ble_eq_true rfl⟩ rfl (by decide) (h0) rfl rfl (Nat.le_of_ble_eq_true rfl) dX8_resume_30 ⟨Nat.le_of_ble_eq_true rfl, Nat.le_of_ble_eq_true rfl⟩ (fun H locs hV => ?_)
      refine lv_goto (tgt := 38) hx hb dX8_resume_33 (by decide) ?_
      cases hf
      exact s_iret hX hV dX8_resume_38
  · have hf := sr_f hf (sr_b0 c3)
    refine lv_bipush (v := (-11)) hx hb dX8_resume_8 (by decide) ?_
    cases hf
    exact s_iret hX hV dX8_resume_10
abbrev rm_X8_turnBack : Room := { frames := 2, cells := 0, slots := 0, locals := 47 }
theorem cv_X8_turnBack : sr_Cv yX8_turnBack cX8_turnBack 2 (Option.some FieldType.int) RX8 1 := ⟨lk_848, lk_846, lk_847, lk_9, rfl, by decide +kernel, by decide +kernel, by decide +kernel⟩
set_option maxHeartbeats 4000000 in
set_option maxRecDepth 100000 in
theorem c_X8_turnBack {l : Launch} {D : va_G} {aC : Nat → ClassId} {n0 : Nat} {r : Int32} {σ' : St}  {σ : St} {q0 : Nat} {x1 : Int32} (h0 : shM q0 = 9) (hf : f_X8_turnBack q0 x1 σ = some (r, σ')) : sr_Met l D aC shM n0 yX8_turnBack cX8_turnBack 2 (Option.some FieldType.int) rm_X8_turnBack [.ref (n0 + q0), .int x1] σ (some (.int r)) σ' := by
  refine s_met (own := RX8) (by decide) (Nat.le_of_ble_eq_true rfl) rfl ?_
  intro p e s m below meth c ls hX hV hl
  have hl : lv_has ls 2 [(0, .ref (n0 + q0)), (1, .int x1)] := hl
  have hx := hX.1.1
  have hb := hX.1.2.1
  unfold f_X8_turnBack at hf
  refine lv_aload_n hx hb dX8_turnBack_0 rfl (lv_at hl 0 rfl) ?_
  refine lv_iload_n hx hb dX8_turnBack_1 rfl (lv_at hl 1 rfl) ?_
  obtain ⟨v2, e1, hf⟩ := sr_bnd hf
  refine s_callV1 (ci := 8) hX hV hl.1 (c_X8_isChange (h0) e1) cv_X8_isChange lk_747 ⟨rfl, rfl, Nat.le_of_ble_eq_true rfl, Nat.le_of_ble_eq_true rfl⟩ rfl (by decide) (h0) rfl rfl (Nat.le_of_ble_eq_true rfl) dX8_turnBack_2 ⟨Nat.le_of_ble_eq_true rfl, Nat.le_of_ble_eq_true rfl⟩ (fun H locs hV => ?_)
  refine lv_if_ne (tgt := 11) hx hb dX8_turnBack_5 (by decide) (fun c3 => ?_) (fun c3 => ?_)
  · have hf := sr_t hf (sr_b1 c3)
    refine lv_aload_n hx hb dX8_turnBack_11 rfl (lv_at hl 0 rfl) ?_
    refine fg_8_0 hX hV lk_666 (h0) dX8_turnBack_12 ?_
    refine lv_iload_n hx hb dX8_turnBack_15 rfl (lv_at hl 1 rfl) ?_
    refine lv_iconst (v := 1) hx hb dX8_turnBack_16 (by decide) ?_
    obtain ⟨v5, e4, hf⟩ := sr_bnd hf
    refine s_callS1 hX hV hl.1 (c_X8_at  e4) cs_X8_at lk_740 ⟨rfl, rfl, Nat.le_of_ble_eq_true rfl, Nat.le_of_ble_eq_true rfl⟩ rfl rfl (Nat.le_of_ble_eq_true rfl) dX8_turnBack_17 ⟨Nat.le_of_ble_eq_true rfl, Nat.le_of_ble_eq_true rfl⟩ (fun H locs hV => ?_)
    obtain ⟨g6, hf⟩ := sr_gd hf
    refine s_iald hX hV (n := 257) (ch_8_0 (h0)) (by decide) (inb_in g6) dX8_turnBack_20 ?_
    refine lv_iconst (v := 1) hx hb dX8_turnBack_21 (by decide) ?_
    refine lv_iconst (v := 3) hx hb dX8_turnBack_22 (by decide) ?_
    obtain ⟨v8, e7, hf⟩ := sr_bnd hf
    refine s_callS1 hX hV hl.1 (c_X8_in  e7) cs_X8_in lk_717 ⟨rfl, rfl, Nat.le_of_ble_eq_true rfl, Nat.le_of_ble_eq_true rfl⟩ rfl rfl (Nat.le_of_ble_eq_true rfl) dX8_turnBack_23 ⟨Nat.le_of_ble_eq_true rfl, Nat.le_of_ble_eq_true rfl⟩ (fun H locs hV => ?_)
    refine lv_if_eq (tgt := 39) hx hb dX8_turnBack_26 (by decide) (fun c9 => ?_) (fun c9 => ?_)
    · have hf := sr_f hf (sr_b0 c9)
      refine lv_bipush (v := (-13)) hx hb dX8_turnBack_39 (by decide) ?_
      cases hf
      exact s_iret hX hV dX8_turnBack_41
    · have hf := sr_t hf (sr_b1 c9)
      refine lv_aload_n hx hb dX8_turnBack_29 rfl (lv_at hl 0 rfl) ?_
      refine lv_iload_n hx hb dX8_turnBack_30 rfl (lv_at hl 1 rfl) ?_
      refine lv_iconst (v := 4) hx hb dX8_turnBack_31 (by decide) ?_
      refine lv_iconst (v := 3) hx hb dX8_turnBack_32 (by decide) ?_
      obtain ⟨v11, σ12, e10, hf⟩ := sr_ob2 hf
      refine s_callV1 (ci := 8) hX hV hl.1 (c_X8_becomes (h0) e10) cv_X8_becomes lk_833 ⟨rfl, rfl, Nat.le_of_ble_eq_true rfl, Nat.le_of_ble_eq_true rfl⟩ rfl (by decide) (h0) rfl rfl (Nat.le_of_ble_eq_true rfl) dX8_turnBack_33 ⟨Nat.le_of_ble_eq_true rfl, Nat.le_of_ble_eq_true rfl⟩ (fun H locs hV => ?_)
      refine lv_goto (tgt := 41) hx hb dX8_turnBack_36 (by decide) ?_
      cases hf
      exact s_iret hX hV dX8_turnBack_41
  · have hf := sr_f hf (sr_b0 c3)
    refine lv_bipush (v := (-11)) hx hb dX8_turnBack_8 (by decide) ?_
    cases hf
    exact s_iret hX hV dX8_turnBack_10
abbrev rm_X8_isOut : Room := { frames := 1, cells := 0, slots := 0, locals := 22 }
theorem cv_X8_isOut : sr_Cv yX8_isOut cX8_isOut 2 (Option.some FieldType.boolean) RX8 1 := ⟨lk_860, lk_859, lp_32, lk_9, rfl, by decide +kernel, by decide +kernel, by decide +kernel⟩
set_option maxHeartbeats 4000000 in
set_option maxRecDepth 100000 in
theorem c_X8_isOut {l : Launch} {D : va_G} {aC : Nat → ClassId} {n0 : Nat} {r : Bool} {σ : St}  {q0 : Nat} {x1 : Int32} (h0 : shM q0 = 9) (hf : f_X8_isOut q0 x1 σ = some r) : sr_Met l D aC shM n0 yX8_isOut cX8_isOut 2 (Option.some FieldType.boolean) rm_X8_isOut [.ref (n0 + q0), .int x1] σ (some (.int (bI r))) σ := by
  refine s_met (own := RX8) (by decide) (Nat.le_of_ble_eq_true rfl) rfl ?_
  intro p e s m below meth c ls hX hV hl
  have hl : lv_has ls 2 [(0, .ref (n0 + q0)), (1, .int x1)] := hl
  have hx := hX.1.1
  have hb := hX.1.2.1
  unfold f_X8_isOut at hf
  refine lv_aload_n hx hb dX8_isOut_0 rfl (lv_at hl 0 rfl) ?_
  refine fg_8_0 hX hV lk_666 (h0) dX8_isOut_1 ?_
  refine lv_iload_n hx hb dX8_isOut_4 rfl (lv_at hl 1 rfl) ?_
  refine lv_iconst (v := 1) hx hb dX8_isOut_5 (by decide) ?_
  obtain ⟨v2, e1, hf⟩ := sr_bnd hf
  refine s_callS1 hX hV hl.1 (c_X8_at  e1) cs_X8_at lk_740 ⟨rfl, rfl, Nat.le_of_ble_eq_true rfl, Nat.le_of_ble_eq_true rfl⟩ rfl rfl (Nat.le_of_ble_eq_true rfl) dX8_isOut_6 ⟨Nat.le_of_ble_eq_true rfl, Nat.le_of_ble_eq_true rfl⟩ (fun H locs hV => ?_)
  obtain ⟨g3, hf⟩ := sr_gd hf
  refine s_iald hX hV (n := 257) (ch_8_0 (h0)) (by decide) (inb_in g3) dX8_isOut_9 ?_
  refine lv_iconst (v := 1) hx hb dX8_isOut_10 (by decide) ?_
  refine lv_iconst (v := 2) hx hb dX8_isOut_11 (by decide) ?_
  obtain ⟨v5, e4, hf⟩ := sr_bnd hf
  refine s_callS1 hX hV hl.1 (c_X8_in  e4) cs_X8_in lk_717 ⟨rfl, rfl, Nat.le_of_ble_eq_true rfl, Nat.le_of_ble_eq_true rfl⟩ rfl rfl (Nat.le_of_ble_eq_true rfl) dX8_isOut_12 ⟨Nat.le_of_ble_eq_true rfl, Nat.le_of_ble_eq_true rfl⟩ (fun H locs hV => ?_)
  refine lv_if_eq (tgt := 35) hx hb dX8_isOut_15 (by decide) (fun c6 => ?_) (fun c6 => ?_)
  · have hf := sr_f hf (sr_b0 c6)
    refine lv_iconst (v := 0) hx hb dX8_isOut_35 (by decide) ?_
    cases hf
    exact s_zret (b := false) hX hV dX8_isOut_36
  · have hf := sr_t hf (sr_b1 c6)
    refine lv_aload_n hx hb dX8_isOut_18 rfl (lv_at hl 0 rfl) ?_
    refine fg_8_0 hX hV lk_666 (h0) dX8_isOut_19 ?_
    refine lv_iload_n hx hb dX8_isOut_22 rfl (lv_at hl 1 rfl) ?_
    refine lv_iconst (v := 3) hx hb dX8_isOut_23 (by decide) ?_
    obtain ⟨v8, e7, hf⟩ := sr_bnd hf
    refine s_callS1 hX hV hl.1 (c_X8_at  e7) cs_X8_at lk_740 ⟨rfl, rfl, Nat.le_of_ble_eq_true rfl, Nat.le_of_ble_eq_true rfl⟩ rfl rfl (Nat.le_of_ble_eq_true rfl) dX8_isOut_24 ⟨Nat.le_of_ble_eq_true rfl, Nat.le_of_ble_eq_true rfl⟩ (fun H locs hV => ?_)
    obtain ⟨g9, hf⟩ := sr_gd hf
    refine s_iald hX hV (n := 257) (ch_8_0 (h0)) (by decide) (inb_in g9) dX8_isOut_27 ?_
    refine lv_if_le (tgt := 35) hx hb dX8_isOut_28 (by decide) (fun c10 => ?_) (fun c10 => ?_)
    · have hf := sr_t hf c10
      refine lv_iconst (v := 0) hx hb dX8_isOut_35 (by decide) ?_
      cases hf
      exact s_zret (b := false) hX hV dX8_isOut_36
    · have hf := sr_f hf c10
      refine lv_iconst (v := 1) hx hb dX8_isOut_31 (by decide) ?_
      refine lv_goto (tgt := 36) hx hb dX8_isOut_32 (by decide) ?_
      cases hf
      exact s_zret (b := true) hX hV dX8_isOut_36
abbrev rm_X8_reached : Room := { frames := 3, cells := 0, slots := 0, locals := 67 }
theorem cv_X8_reached : sr_Cv yX8_reached cX8_reached 2 (Option.some FieldType.int) RX8 1 := ⟨lk_856, lk_855, lp_31, lk_9, rfl, by decide +kernel, by decide +kernel, by decide +kernel⟩
set_option maxHeartbeats 4000000 in
set_option maxRecDepth 100000 in
theorem c_X8_reached {l : Launch} {D : va_G} {aC : Nat → ClassId} {n0 : Nat} {r : Int32} {σ : St}  {q0 : Nat} {x1 : Int32} (h0 : shM q0 = 9) (hf : f_X8_reached q0 x1 σ = some r) : sr_Met l D aC shM n0 yX8_reached cX8_reached 2 (Option.some FieldType.int) rm_X8_reached [.ref (n0 + q0), .int x1] σ (some (.int r)) σ := by
  refine s_met (own := RX8) (by decide) (Nat.le_of_ble_eq_true rfl) rfl ?_
  intro p e s m below meth c ls hX hV hl
  have hl : lv_has ls 2 [(0, .ref (n0 + q0)), (1, .int x1)] := hl
  have hx := hX.1.1
  have hb := hX.1.2.1
  unfold f_X8_reached at hf
  refine lv_aload_n hx hb dX8_reached_0 rfl (lv_at hl 0 rfl) ?_
  refine lv_iload_n hx hb dX8_reached_1 rfl (lv_at hl 1 rfl) ?_
  refine lv_aload_n hx hb dX8_reached_2 rfl (lv_at hl 0 rfl) ?_
  refine fg_8_0 hX hV lk_666 (h0) dX8_reached_3 ?_
  refine lv_iload_n hx hb dX8_reached_6 rfl (lv_at hl 1 rfl) ?_
  refine lv_iconst (v := 3) hx hb dX8_reached_7 (by decide) ?_
  obtain ⟨v2, e1, hf⟩ := sr_bnd hf
  refine s_callS1 hX hV hl.1 (c_X8_at  e1) cs_X8_at lk_740 ⟨rfl, rfl, Nat.le_of_ble_eq_true rfl, Nat.le_of_ble_eq_true rfl⟩ rfl rfl (Nat.le_of_ble_eq_true rfl) dX8_reached_8 ⟨Nat.le_of_ble_eq_true rfl, Nat.le_of_ble_eq_true rfl⟩ (fun H locs hV => ?_)
  obtain ⟨g3, hf⟩ := sr_gd hf
  refine s_iald hX hV (n := 257) (ch_8_0 (h0)) (by decide) (inb_in g3) dX8_reached_11 ?_
  obtain ⟨v5, e4, hf⟩ := sr_obd hf
  refine s_callV1 (ci := 8) hX hV hl.1 (c_X8_cellsOf (h0) e4) cv_X8_cellsOf lk_751 ⟨rfl, rfl, Nat.le_of_ble_eq_true rfl, Nat.le_of_ble_eq_true rfl⟩ rfl (by decide) (h0) rfl rfl (Nat.le_of_ble_eq_true rfl) dX8_reached_12 ⟨Nat.le_of_ble_eq_true rfl, Nat.le_of_ble_eq_true rfl⟩ (fun H locs hV => ?_)
  cases hf
  exact s_iret hX hV dX8_reached_15
abbrev rm_X8_report : Room := { frames := 4, cells := 0, slots := 0, locals := 88 }
theorem cv_X8_report : sr_Cv yX8_report cX8_report 7 (Option.some FieldType.int) RX8 3 := ⟨lk_852, lk_850, lk_851, lk_9, rfl, by decide +kernel, by decide +kernel, by decide +kernel⟩
set_option maxHeartbeats 4000000 in
set_option maxRecDepth 100000 in
theorem k_X8_report_B77 {p : Program} {l : Launch} {e : Env} {s : State} {m : MethodId} {args : Array Value} {below : List Frame} {meth : Method} {c : Code} {D : va_G} {aC : Nat → ClassId} {n0 : Nat} {r : Int32} {σ' : St} {q0 : Nat} {x1 : Int32} {x2 : Int32} {x3 : Int32} {σ : St} (hX : sr_X p s m args meth c cX8_report 7 (Option.some FieldType.int) RX8 D aC) (h0 : shM q0 = 9) {rec40 : Int32 → Int32 → St → Option (Int32 × St)} (hrec40 : ∀ (x4 : Int32) (x5 : Int32) (σ : St) (H : Heap) (locs : List Loc) (ls : Array Slot) , lv_has ls 7 [(0, .ref (n0 + q0)), (1, .int x1), (2, .int x2), (3, .int x3), (4, .int x4), (5, .int x5)] → sr_V D aC shM n0 σ s.heap H locs → rec40 x4 x5 σ = some (r, σ') → W p l e rm_X8_report s m args below meth c H locs 0 0 (MQ below (sr_Qc D aC shM n0 σ' (some (.int r))) args s 0 0 (sr_A shM n0)) (F0 m 40 ls [])) {x4 : Int32} {x5 : Int32} {sx0 : Int32} {sx1 : Int32}  {H : Heap} {locs : List Loc} {ls : Array Slot} (hl : lv_has ls 7 [(0, .ref (n0 + q0)), (1, .int x1), (2, .int x2), (3, .int x3), (4, .int x4), (5, .int x5)]) (hV : sr_V D aC shM n0 σ s.heap H locs) (hf : f_X8_report_B77 q0 x1 x2 x3 rec40 x4 x5 sx0 sx1 σ = some (r, σ')) : W p l e rm_X8_report s m args below meth c H locs 0 0 (MQ below (sr_Qc D aC shM n0 σ' (some (.int r))) args s 0 0 (sr_A shM n0)) (F0 m 77 ls [.int sx1, .int sx0]) := by
  have hx := hX.1.1
  have hb := hX.1.2.1
  unfold f_X8_report_B77 at hf
  refine lv_iadd hx hb dX8_report_77 ?_
  obtain ⟨v1, e2, hf⟩ := sr_bnd hf
  rw [e2]
  refine lv_istore (lv' := [(6, .int v1), (0, .ref (n0 + q0)), (1, .int x1), (2, .int x2), (3, .int x3), (4, .int x4), (5, .int x5)]) hx hb dX8_report_78 hl (by decide) rfl (fun ls hl => ?_)
  refine lv_aload_n hx hb dX8_report_80 rfl (lv_at hl 1 rfl) ?_
  refine lv_iload hx hb dX8_report_81 (lv_at hl 6 rfl) ?_
  obtain ⟨v4, e3, hf⟩ := sr_obd hf
  refine s_callV1 (ci := 8) hX hV hl.1 (c_X8_isOut (h0) e3) cv_X8_isOut lk_857 ⟨rfl, rfl, Nat.le_of_ble_eq_true rfl, Nat.le_of_ble_eq_true rfl⟩ rfl (by decide) (h0) rfl rfl (Nat.le_of_ble_eq_true rfl) dX8_report_83 ⟨Nat.le_of_ble_eq_true rfl, Nat.le_of_ble_eq_true rfl⟩ (fun H locs hV => ?_)
  refine lv_if_eq (tgt := 142) hx hb dX8_report_86 (by decide) (fun c5 => ?_) (fun c5 => ?_)
  · have hf := sr_f hf (sr_b0 c5)
    obtain ⟨v6, e7, hf⟩ := sr_bnd hf
    refine lv_iinc (v := v6) (lv' := [(5, .int v6), (6, .int v1), (0, .ref (n0 + q0)), (1, .int x1), (2, .int x2), (3, .int x3), (4, .int x4)]) hx hb dX8_report_142 hl (k := 6) rfl (by rw [← e7]; rfl) (by decide) rfl (fun ls hl => ?_)
    refine lv_goto (tgt := 40) hx hb dX8_report_145 (by decide) ?_
    exact hrec40 _ _ _ _ _ _  (lv_sub hl [2, 3, 4, 5, 6, 0] rfl) hV hf
  · have hf := sr_t hf (sr_b1 c5)
    refine lv_aload_n hx hb dX8_report_89 rfl (lv_at hl 1 rfl) ?_
    refine fg_8_0 hX hV lk_666 (h0) dX8_report_90 ?_
    refine lv_iload hx hb dX8_report_93 (lv_at hl 0 rfl) ?_
    obtain ⟨g8, hf⟩ := sr_gd hf
    refine s_iald hX hV (n := 257) (ch_8_0 (h0)) (by decide) (inb_in g8) dX8_report_95 ?_
    refine lv_aload_n hx hb dX8_report_96 rfl (lv_at hl 1 rfl) ?_
    refine fg_8_0 hX hV lk_666 (h0) dX8_report_97 ?_
    refine lv_iload hx hb dX8_report_100 (lv_at hl 0 rfl) ?_
    refine lv_iconst (v := 1) hx hb dX8_report_102 (by decide) ?_
    refine lv_iadd hx hb dX8_report_103 ?_
    obtain ⟨v9, e10, hf⟩ := sr_bnd hf
    rw [e10]
    obtain ⟨g11, hf⟩ := sr_gd hf
    refine s_iald hX hV (n := 257) (ch_8_0 (h0)) (by decide) (inb_in g11) dX8_report_104 ?_
    refine lv_iadd hx hb dX8_report_105 ?_
    refine lv_iload_n hx hb dX8_report_106 rfl (lv_at hl 3 rfl) ?_
    refine lv_iadd hx hb dX8_report_107 ?_
    refine lv_iload_n hx hb dX8_report_108 rfl (lv_at hl 4 rfl) ?_
    refine lv_iadd hx hb dX8_report_109 ?_
    refine lv_bipush (v := 25) hx hb dX8_report_110 (by decide) ?_
    refine lv_icmp_gt (tgt := 142) hx hb dX8_report_112 (by decide) (fun c12 => ?_) (fun c12 => ?_)
    · have hf := sr_t hf c12
      obtain ⟨v13, e14, hf⟩ := sr_bnd hf
      refine lv_iinc (v := v13) (lv' := [(5, .int v13), (6, .int v1), (0, .ref (n0 + q0)), (1, .int x1), (2, .int x2), (3, .int x3), (4, .int x4)]) hx hb dX8_report_142 hl (k := 6) rfl (by rw [← e14]; rfl) (by decide) rfl (fun ls hl => ?_)
      refine lv_goto (tgt := 40) hx hb dX8_report_145 (by decide) ?_
      exact hrec40 _ _ _ _ _ _  (lv_sub hl [2, 3, 4, 5, 6, 0] rfl) hV hf
    · have hf := sr_f hf c12
      refine lv_aload_n hx hb dX8_report_115 rfl (lv_at hl 1 rfl) ?_
      refine fg_8_0 hX hV lk_666 (h0) dX8_report_116 ?_
      refine lv_iload hx hb dX8_report_119 (lv_at hl 0 rfl) ?_
      refine lv_dup2_11 hx hb dX8_report_121 rfl rfl ?_
      obtain ⟨g15, hf⟩ := sr_gd hf
      refine s_iald hX hV (n := 257) (ch_8_0 (h0)) (by decide) (inb_in g15) dX8_report_122 ?_
      refine lv_iload_n hx hb dX8_report_123 rfl (lv_at hl 3 rfl) ?_
      refine lv_iadd hx hb dX8_report_124 ?_
      obtain ⟨g16, hf⟩ := sr_gd hf
      obtain ⟨σ17, e18, hf⟩ := sr_bnd hf
      refine s_iast hX hV (n := 257) (ch_8_0 (h0)) (by decide) (inb_in g16) dX8_report_125 (fun H locs hV => ?_)
      rw [e18] at hV
      refine lv_aload_n hx hb dX8_report_126 rfl (lv_at hl 1 rfl) ?_
      refine fg_8_0 hX hV lk_666 (h0) dX8_report_127 ?_
      refine lv_iload hx hb dX8_report_130 (lv_at hl 0 rfl) ?_
      refine lv_iconst (v := 1) hx hb dX8_report_132 (by decide) ?_
      refine lv_iadd hx hb dX8_report_133 ?_
      refine lv_dup2_11 hx hb dX8_report_134 rfl rfl ?_
      obtain ⟨v19, e20, hf⟩ := sr_bnd hf
      rw [e20]
      obtain ⟨g21, hf⟩ := sr_gd hf
      refine s_iald hX hV (n := 257) (ch_8_0 (h0)) (by decide) (inb_in g21) dX8_report_135 ?_
      refine lv_iload_n hx hb dX8_report_136 rfl (lv_at hl 4 rfl) ?_
      refine lv_iadd hx hb dX8_report_137 ?_
      obtain ⟨g22, hf⟩ := sr_gd hf
      obtain ⟨σ23, e24, hf⟩ := sr_bnd hf
      refine s_iast hX hV (n := 257) (ch_8_0 (h0)) (by decide) (inb_in g22) dX8_report_138 (fun H locs hV => ?_)
      rw [e24] at hV
      obtain ⟨v25, e26, hf⟩ := sr_bnd hf
      refine lv_iinc (v := v25) (lv' := [(4, .int v25), (6, .int v1), (0, .ref (n0 + q0)), (1, .int x1), (2, .int x2), (3, .int x3), (5, .int x5)]) hx hb dX8_report_139 hl (k := 5) rfl (by rw [← e26]; rfl) (by decide) rfl (fun ls hl => ?_)
      obtain ⟨v27, e28, hf⟩ := sr_bnd hf
      refine lv_iinc (v := v27) (lv' := [(5, .int v27), (4, .int v25), (6, .int v1), (0, .ref (n0 + q0)), (1, .int x1), (2, .int x2), (3, .int x3)]) hx hb dX8_report_142 hl (k := 6) rfl (by rw [← e28]; rfl) (by decide) rfl (fun ls hl => ?_)
      refine lv_goto (tgt := 40) hx hb dX8_report_145 (by decide) ?_
      exact hrec40 _ _ _ _ _ _  (lv_sub hl [3, 4, 5, 6, 1, 0] rfl) hV hf
set_option maxHeartbeats 4000000 in
set_option maxRecDepth 100000 in
theorem k_X8_report_L40 {p : Program} {l : Launch} {e : Env} {s : State} {m : MethodId} {args : Array Value} {below : List Frame} {meth : Method} {c : Code} {D : va_G} {aC : Nat → ClassId} {n0 : Nat} {r : Int32} {σ' : St} {q0 : Nat} {x1 : Int32} {x2 : Int32} {x3 : Int32} (hX : sr_X p s m args meth c cX8_report 7 (Option.some FieldType.int) RX8 D aC) (h0 : shM q0 = 9) (rec40 : Int32 → Int32 → St → Option (Int32 × St)) (hrec40 : ∀ (x4 : Int32) (x5 : Int32) (σ : St) (H : Heap) (locs : List Loc) (ls : Array Slot) , lv_has ls 7 [(0, .ref (n0 + q0)), (1, .int x1), (2, .int x2), (3, .int x3), (4, .int x4), (5, .int x5)] → sr_V D aC shM n0 σ s.heap H locs → rec40 x4 x5 σ = some (r, σ') → W p l e rm_X8_report s m args below meth c H locs 0 0 (MQ below (sr_Qc D aC shM n0 σ' (some (.int r))) args s 0 0 (sr_A shM n0)) (F0 m 40 ls [])) : ∀ (x4 : Int32) (x5 : Int32) (σ : St) (H : Heap) (locs : List Loc) (ls : Array Slot) , lv_has ls 7 [(0, .ref (n0 + q0)), (1, .int x1), (2, .int x2), (3, .int x3), (4, .int x4), (5, .int x5)] → sr_V D aC shM n0 σ s.heap H locs → f_X8_report_L40 q0 x1 x2 x3 rec40 x4 x5 σ = some (r, σ') → W p l e rm_X8_report s m args below meth c H locs 0 0 (MQ below (sr_Qc D aC shM n0 σ' (some (.int r))) args s 0 0 (sr_A shM n0)) (F0 m 40 ls []) := by
  intro x4 x5 σ H locs ls  hl hV hf
  have hx := hX.1.1
  have hb := hX.1.2.1
  unfold f_X8_report_L40 at hf
  refine lv_iload hx hb dX8_report_40 (lv_at hl 5 rfl) ?_
  refine lv_aload_n hx hb dX8_report_42 rfl (lv_at hl 0 rfl) ?_
  refine fg_8_0 hX hV lk_666 (h0) dX8_report_43 ?_
  refine lv_bipush (v := 10) hx hb dX8_report_46 (by decide) ?_
  refine s_iald hX hV (n := 257) (ch_8_0 (h0)) (by decide) (by unfold vp_in; decide) dX8_report_48 ?_
  refine lv_icmp_ge (tgt := 148) hx hb dX8_report_49 (by decide) (fun c29 => ?_) (fun c29 => ?_)
  · have hf := sr_t hf c29
    refine lv_iload hx hb dX8_report_148 (lv_at hl 4 rfl) ?_
    cases hf
    exact s_iret hX hV dX8_report_150
  · have hf := sr_f hf c29
    refine lv_iload hx hb dX8_report_52 (lv_at hl 5 rfl) ?_
    refine lv_iconst (v := 5) hx hb dX8_report_54 (by decide) ?_
    obtain ⟨v31, e30, hf⟩ := sr_bnd hf
    refine s_callS1 hX hV hl.1 (c_X8_at  e30) cs_X8_at lk_740 ⟨rfl, rfl, Nat.le_of_ble_eq_true rfl, Nat.le_of_ble_eq_true rfl⟩ rfl rfl (Nat.le_of_ble_eq_true rfl) dX8_report_55 ⟨Nat.le_of_ble_eq_true rfl, Nat.le_of_ble_eq_true rfl⟩ (fun H locs hV => ?_)
    refine lv_aload_n hx hb dX8_report_58 rfl (lv_at hl 0 rfl) ?_
    refine lv_iload hx hb dX8_report_59 (lv_at hl 5 rfl) ?_
    obtain ⟨v33, e32, hf⟩ := sr_obd hf
    refine s_callV1 (ci := 8) hX hV hl.1 (c_X8_reached (h0) e32) cv_X8_reached lk_853 ⟨rfl, rfl, Nat.le_of_ble_eq_true rfl, Nat.le_of_ble_eq_true rfl⟩ rfl (by decide) (h0) rfl rfl (Nat.le_of_ble_eq_true rfl) dX8_report_61 ⟨Nat.le_of_ble_eq_true rfl, Nat.le_of_ble_eq_true rfl⟩ (fun H locs hV => ?_)
    refine lv_iload_n hx hb dX8_report_64 rfl (lv_at hl 1 rfl) ?_
    refine lv_ishr hx hb dX8_report_65 ?_
    refine lv_iconst (v := 1) hx hb dX8_report_66 (by decide) ?_
    refine lv_iand hx hb dX8_report_67 ?_
    refine lv_iconst (v := 1) hx hb dX8_report_68 (by decide) ?_
    refine lv_icmp_ne (tgt := 76) hx hb dX8_report_69 (by decide) (fun c34 => ?_) (fun c34 => ?_)
    · have hf := sr_f hf c34
      refine lv_iconst (v := 2) hx hb dX8_report_76 (by decide) ?_
      exact k_X8_report_B77 hX h0 hrec40  (lv_sub hl [0, 1, 2, 3, 4, 5] rfl) hV hf
    · have hf := sr_t hf c34
      refine lv_iconst (v := 0) hx hb dX8_report_72 (by decide) ?_
      refine lv_goto (tgt := 77) hx hb dX8_report_73 (by decide) ?_
      exact k_X8_report_B77 hX h0 hrec40  (lv_sub hl [0, 1, 2, 3, 4, 5] rfl) hV hf
set_option maxHeartbeats 4000000 in
set_option maxRecDepth 100000 in
theorem k_X8_report_L40w {p : Program} {l : Launch} {e : Env} {s : State} {m : MethodId} {args : Array Value} {below : List Frame} {meth : Method} {c : Code} {D : va_G} {aC : Nat → ClassId} {n0 : Nat} {r : Int32} {σ' : St} {q0 : Nat} {x1 : Int32} {x2 : Int32} {x3 : Int32} (hX : sr_X p s m args meth c cX8_report 7 (Option.some FieldType.int) RX8 D aC) (h0 : shM q0 = 9) (n : Nat) : ∀ (x4 : Int32) (x5 : Int32) (σ : St) (H : Heap) (locs : List Loc) (ls : Array Slot) , lv_has ls 7 [(0, .ref (n0 + q0)), (1, .int x1), (2, .int x2), (3, .int x3), (4, .int x4), (5, .int x5)] → sr_V D aC shM n0 σ s.heap H locs → it3 (f_X8_report_L40 q0 x1 x2 x3) n x4 x5 σ = some (r, σ') → W p l e rm_X8_report s m args below meth c H locs 0 0 (MQ below (sr_Qc D aC shM n0 σ' (some (.int r))) args s 0 0 (sr_A shM n0)) (F0 m 40 ls []) :=
  it3_ind (fun rec40 => ∀ (x4 : Int32) (x5 : Int32) (σ : St) (H : Heap) (locs : List Loc) (ls : Array Slot) , lv_has ls 7 [(0, .ref (n0 + q0)), (1, .int x1), (2, .int x2), (3, .int x3), (4, .int x4), (5, .int x5)] → sr_V D aC shM n0 σ s.heap H locs → rec40 x4 x5 σ = some (r, σ') → W p l e rm_X8_report s m args below meth c H locs 0 0 (MQ below (sr_Qc D aC shM n0 σ' (some (.int r))) args s 0 0 (sr_A shM n0)) (F0 m 40 ls [])) (by intros; rename_i hf; exact absurd hf (by simp)) (fun rec hrec => k_X8_report_L40 hX h0  rec hrec) n
set_option maxHeartbeats 4000000 in
set_option maxRecDepth 100000 in
theorem c_X8_report {l : Launch} {D : va_G} {aC : Nat → ClassId} {n0 : Nat} {r : Int32} {σ' : St}  {σ : St} {q0 : Nat} {x1 : Int32} {x2 : Int32} {x3 : Int32} (h0 : shM q0 = 9) (hf : f_X8_report q0 x1 x2 x3 σ = some (r, σ')) : sr_Met l D aC shM n0 yX8_report cX8_report 7 (Option.some FieldType.int) rm_X8_report [.ref (n0 + q0), .int x1, .int x2, .int x3] σ (some (.int r)) σ' := by
  refine s_met (own := RX8) (by decide) (Nat.le_of_ble_eq_true rfl) rfl ?_
  intro p e s m below meth c ls hX hV hl
  have hl : lv_has ls 7 [(0, .ref (n0 + q0)), (1, .int x1), (2, .int x2), (3, .int x3)] := hl
  have hx := hX.1.1
  have hb := hX.1.2.1
  unfold f_X8_report at hf
  refine lv_aload_n hx hb dX8_report_0 rfl (lv_at hl 0 rfl) ?_
  refine lv_iload_n hx hb dX8_report_1 rfl (lv_at hl 1 rfl) ?_
  obtain ⟨v36, e35, hf⟩ := sr_bnd hf
  refine s_callV1 (ci := 8) hX hV hl.1 (c_X8_isCell (h0) e35) cv_X8_isCell lk_809 ⟨rfl, rfl, Nat.le_of_ble_eq_true rfl, Nat.le_of_ble_eq_true rfl⟩ rfl (by decide) (h0) rfl rfl (Nat.le_of_ble_eq_true rfl) dX8_report_2 ⟨Nat.le_of_ble_eq_true rfl, Nat.le_of_ble_eq_true rfl⟩ (fun H locs hV => ?_)
  refine lv_if_ne (tgt := 11) hx hb dX8_report_5 (by decide) (fun c37 => ?_) (fun c37 => ?_)
  · have hf := sr_t hf (sr_b1 c37)
    refine lv_iload_n hx hb dX8_report_11 rfl (lv_at hl 2 rfl) ?_
    refine lv_iconst (v := 0) hx hb dX8_report_12 (by decide) ?_
    refine lv_bipush (v := 9) hx hb dX8_report_13 (by decide) ?_
    obtain ⟨v39, e38, hf⟩ := sr_bnd hf
    refine s_callS1 hX hV hl.1 (c_X8_in  e38) cs_X8_in lk_717 ⟨rfl, rfl, Nat.le_of_ble_eq_true rfl, Nat.le_of_ble_eq_true rfl⟩ rfl rfl (Nat.le_of_ble_eq_true rfl) dX8_report_15 ⟨Nat.le_of_ble_eq_true rfl, Nat.le_of_ble_eq_true rfl⟩ (fun H locs hV => ?_)
    refine lv_if_eq (tgt := 31) hx hb dX8_report_18 (by decide) (fun c40 => ?_) (fun c40 => ?_)
    · have hf := sr_f hf (sr_b0 c40)
      refine lv_bipush (v := (-12)) hx hb dX8_report_31 (by decide) ?_
      cases hf
      exact s_iret hX hV dX8_report_33
    · have hf := sr_t hf (sr_b1 c40)
      refine lv_iload_n hx hb dX8_report_21 rfl (lv_at hl 3 rfl) ?_
      refine lv_iconst (v := 0) hx hb dX8_report_22 (by decide) ?_
      refine lv_bipush (v := 9) hx hb dX8_report_23 (by decide) ?_
      obtain ⟨v42, e41, hf⟩ := sr_bnd hf
      refine s_callS1 hX hV hl.1 (c_X8_in  e41) cs_X8_in lk_717 ⟨rfl, rfl, Nat.le_of_ble_eq_true rfl, Nat.le_of_ble_eq_true rfl⟩ rfl rfl (Nat.le_of_ble_eq_true rfl) dX8_report_25 ⟨Nat.le_of_ble_eq_true rfl, Nat.le_of_ble_eq_true rfl⟩ (fun H locs hV => ?_)
      refine lv_if_ne (tgt := 34) hx hb dX8_report_28 (by decide) (fun c43 => ?_) (fun c43 => ?_)
      · have hf := sr_t hf (sr_b1 c43)
        refine lv_iconst (v := 0) hx hb dX8_report_34 (by decide) ?_
        refine lv_istore (lv' := [(4, .int 0), (0, .ref (n0 + q0)), (1, .int x1), (2, .int x2), (3, .int x3)]) hx hb dX8_report_35 hl (by decide) rfl (fun ls hl => ?_)
        refine lv_iconst (v := 0) hx hb dX8_report_37 (by decide) ?_
        refine lv_istore (lv' := [(5, .int 0), (4, .int 0), (0, .ref (n0 + q0)), (1, .int x1), (2, .int x2), (3, .int x3)]) hx hb dX8_report_38 hl (by decide) rfl (fun ls hl => ?_)
        exact k_X8_report_L40w hX h0  sr_fuel _ _ _ _ _ _  (lv_sub hl [2, 3, 4, 5, 1, 0] rfl) hV hf
      · have hf := sr_f hf (sr_b0 c43)
        refine lv_bipush (v := (-12)) hx hb dX8_report_31 (by decide) ?_
        cases hf
        exact s_iret hX hV dX8_report_33
  · have hf := sr_f hf (sr_b0 c37)
    refine lv_bipush (v := (-11)) hx hb dX8_report_8 (by decide) ?_
    cases hf
    exact s_iret hX hV dX8_report_10
abbrev rm_X8_sets : Room := { frames := 0, cells := 0, slots := 0, locals := 0 }
theorem cv_X8_sets : sr_Cv yX8_sets cX8_sets 5 (Option.some FieldType.long) RX8 2 := ⟨lk_880, lk_879, lp_36, lk_9, rfl, by decide +kernel, by decide +kernel, by decide +kernel⟩
set_option maxHeartbeats 4000000 in
set_option maxRecDepth 100000 in
theorem k_X8_sets_B116 {p : Program} {l : Launch} {e : Env} {s : State} {m : MethodId} {args : Array Value} {below : List Frame} {meth : Method} {c : Code} {D : va_G} {aC : Nat → ClassId} {n0 : Nat} {r : Int64} {σ' : St} {q0 : Nat} {x1 : Int32} {x2 : Int32} {σ : St} (hX : sr_X p s m args meth c cX8_sets 5 (Option.some FieldType.long) RX8 D aC) (h0 : shM q0 = 9)   {H : Heap} {locs : List Loc} {ls : Array Slot} (hl : lv_has ls 5 [(0, .ref (n0 + q0)), (1, .int x1), (2, .int x2)]) (hV : sr_V D aC shM n0 σ s.heap H locs) (hf : f_X8_sets_B116 q0 x1 x2 σ = some (r, σ')) : W p l e rm_X8_sets s m args below meth c H locs 0 0 (MQ below (sr_Qc D aC shM n0 σ' (some (.long r))) args s 0 0 (sr_A shM n0)) (F0 m 116 ls []) := by
  have hx := hX.1.1
  have hb := hX.1.2.1
  unfold f_X8_sets_B116 at hf
  refine lv_aload_n hx hb dX8_sets_116 rfl (lv_at hl 0 rfl) ?_
  refine fg_8_12 hX hV lk_678 (h0) dX8_sets_117 ?_
  refine lv_bipush (v := 51) hx hb dX8_sets_120 (by decide) ?_
  refine lv_iload_n hx hb dX8_sets_122 rfl (lv_at hl 1 rfl) ?_
  refine lv_imul hx hb dX8_sets_123 ?_
  refine lv_iload_n hx hb dX8_sets_124 rfl (lv_at hl 2 rfl) ?_
  refine lv_iadd hx hb dX8_sets_125 ?_
  obtain ⟨v1, e2, hf⟩ := sr_bnd hf
  rw [e2]
  obtain ⟨g3, hf⟩ := sr_gd hf
  refine s_lald hX hV (n := 2601) (ch_8_12 (h0)) (by decide) (inb_in g3) dX8_sets_126 ?_
  cases hf
  exact s_lret hX hV dX8_sets_127
set_option maxHeartbeats 4000000 in
set_option maxRecDepth 100000 in
theorem k_X8_sets_L43 {p : Program} {l : Launch} {e : Env} {s : State} {m : MethodId} {args : Array Value} {below : List Frame} {meth : Method} {c : Code} {D : va_G} {aC : Nat → ClassId} {n0 : Nat} {r : Int64} {σ' : St} {q0 : Nat} {x1 : Int32} {x2 : Int32} (hX : sr_X p s m args meth c cX8_sets 5 (Option.some FieldType.long) RX8 D aC) (h0 : shM q0 = 9) {rec24 : Int32 → St → Option (Int64 × St)} (hrec24 : ∀ (x3 : Int32) (σ : St) (H : Heap) (locs : List Loc) (ls : Array Slot) , lv_has ls 5 [(0, .ref (n0 + q0)), (1, .int x1), (2, .int x2), (3, .int x3)] → sr_V D aC shM n0 σ s.heap H locs → rec24 x3 σ = some (r, σ') → W p l e rm_X8_sets s m args below meth c H locs 0 0 (MQ below (sr_Qc D aC shM n0 σ' (some (.long r))) args s 0 0 (sr_A shM n0)) (F0 m 24 ls [])) (rec43 : Int32 → Int32 → St → Option (Int64 × St)) (hrec43 : ∀ (x3 : Int32) (x4 : Int32) (σ : St) (H : Heap) (locs : List Loc) (ls : Array Slot) , lv_has ls 5 [(0, .ref (n0 + q0)), (1, .int x1), (2, .int x2), (3, .int x3), (4, .int x4)] → sr_V D aC shM n0 σ s.heap H locs → rec43 x3 x4 σ = some (r, σ') → W p l e rm_X8_sets s m args below meth c H locs 0 0 (MQ below (sr_Qc D aC shM n0 σ' (some (.long r))) args s 0 0 (sr_A shM n0)) (F0 m 43 ls [])) : ∀ (x3 : Int32) (x4 : Int32) (σ : St) (H : Heap) (locs : List Loc) (ls : Array Slot) , lv_has ls 5 [(0, .ref (n0 + q0)), (1, .int x1), (2, .int x2), (3, .int x3), (4, .int x4)] → sr_V D aC shM n0 σ s.heap H locs → f_X8_sets_L43 q0 x1 x2 rec24 rec43 x3 x4 σ = some (r, σ') → W p l e rm_X8_sets s m args below meth c H locs 0 0 (MQ below (sr_Qc D aC shM n0 σ' (some (.long r))) args s 0 0 (sr_A shM n0)) (F0 m 43 ls []) := by
  intro x3 x4 σ H locs ls  hl hV hf
  have hx := hX.1.1
  have hb := hX.1.2.1
  unfold f_X8_sets_L43 at hf
  refine lv_iload hx hb dX8_sets_43 (lv_at hl 4 rfl) ?_
  refine lv_iload_n hx hb dX8_sets_45 rfl (lv_at hl 3 rfl) ?_
  refine lv_icmp_gt (tgt := 110) hx hb dX8_sets_46 (by decide) (fun c4 => ?_) (fun c4 => ?_)
  · have hf := sr_t hf c4
    obtain ⟨v5, e6, hf⟩ := sr_bnd hf
    refine lv_iinc (v := v5) (lv' := [(3, .int v5), (0, .ref (n0 + q0)), (1, .int x1), (2, .int x2), (4, .int x4)]) hx hb dX8_sets_110 hl (k := 3) rfl (by rw [← e6]; rfl) (by decide) rfl (fun ls hl => ?_)
    refine lv_goto (tgt := 24) hx hb dX8_sets_113 (by decide) ?_
    exact hrec24 _ _ _ _ _  (lv_sub hl [1, 2, 3, 0] rfl) hV hf
  · have hf := sr_f hf c4
    refine lv_aload_n hx hb dX8_sets_49 rfl (lv_at hl 0 rfl) ?_
    refine fg_8_12 hX hV lk_678 (h0) dX8_sets_50 ?_
    refine lv_bipush (v := 51) hx hb dX8_sets_53 (by decide) ?_
    refine lv_iload_n hx hb dX8_sets_55 rfl (lv_at hl 3 rfl) ?_
    refine lv_imul hx hb dX8_sets_56 ?_
    refine lv_iload hx hb dX8_sets_57 (lv_at hl 4 rfl) ?_
    refine lv_iadd hx hb dX8_sets_59 ?_
    refine lv_aload_n hx hb dX8_sets_60 rfl (lv_at hl 0 rfl) ?_
    refine fg_8_12 hX hV lk_678 (h0) dX8_sets_61 ?_
    refine lv_bipush (v := 51) hx hb dX8_sets_64 (by decide) ?_
    refine lv_iload_n hx hb dX8_sets_66 rfl (lv_at hl 3 rfl) ?_
    refine lv_imul hx hb dX8_sets_67 ?_
    refine lv_bipush (v := 51) hx hb dX8_sets_68 (by decide) ?_
    refine lv_isub hx hb dX8_sets_70 ?_
    refine lv_iload hx hb dX8_sets_71 (lv_at hl 4 rfl) ?_
    refine lv_iadd hx hb dX8_sets_73 ?_
    refine lv_iconst (v := 1) hx hb dX8_sets_74 (by decide) ?_
    refine lv_isub hx hb dX8_sets_75 ?_
    obtain ⟨v7, e8, hf⟩ := sr_bnd hf
    rw [e8]
    obtain ⟨g9, hf⟩ := sr_gd hf
    refine s_lald hX hV (n := 2601) (ch_8_12 (h0)) (by decide) (inb_in g9) dX8_sets_76 ?_
    refine lv_iload hx hb dX8_sets_77 (lv_at hl 4 rfl) ?_
    refine lv_iload_n hx hb dX8_sets_79 rfl (lv_at hl 3 rfl) ?_
    refine lv_icmp_ge (tgt := 101) hx hb dX8_sets_80 (by decide) (fun c10 => ?_) (fun c10 => ?_)
    · have hf := sr_t hf c10
      refine lv_lconst (v := 0) hx hb dX8_sets_101 (by decide) ?_
      refine lv_ladd hx hb dX8_sets_102 ?_
      obtain ⟨v11, e12, hf⟩ := sr_bnd hf
      rw [e12]
      obtain ⟨g13, hf⟩ := sr_gd hf
      obtain ⟨σ14, e15, hf⟩ := sr_bnd hf
      refine s_last hX hV (n := 2601) (ch_8_12 (h0)) (by decide) (inb_in g13) dX8_sets_103 (fun H locs hV => ?_)
      rw [e15] at hV
      obtain ⟨v16, e17, hf⟩ := sr_bnd hf
      refine lv_iinc (v := v16) (lv' := [(4, .int v16), (0, .ref (n0 + q0)), (1, .int x1), (2, .int x2), (3, .int x3)]) hx hb dX8_sets_104 hl (k := 4) rfl (by rw [← e17]; rfl) (by decide) rfl (fun ls hl => ?_)
      refine lv_goto (tgt := 43) hx hb dX8_sets_107 (by decide) ?_
      exact hrec43 _ _ _ _ _ _  (lv_sub hl [1, 2, 3, 4, 0] rfl) hV hf
    · have hf := sr_f hf c10
      refine lv_aload_n hx hb dX8_sets_83 rfl (lv_at hl 0 rfl) ?_
      refine fg_8_12 hX hV lk_678 (h0) dX8_sets_84 ?_
      refine lv_bipush (v := 51) hx hb dX8_sets_87 (by decide) ?_
      refine lv_iload_n hx hb dX8_sets_89 rfl (lv_at hl 3 rfl) ?_
      refine lv_imul hx hb dX8_sets_90 ?_
      refine lv_bipush (v := 51) hx hb dX8_sets_91 (by decide) ?_
      refine lv_isub hx hb dX8_sets_93 ?_
      refine lv_iload hx hb dX8_sets_94 (lv_at hl 4 rfl) ?_
      refine lv_iadd hx hb dX8_sets_96 ?_
      obtain ⟨v18, e19, hf⟩ := sr_bnd hf
      rw [e19]
      obtain ⟨g20, hf⟩ := sr_gd hf
      refine s_lald hX hV (n := 2601) (ch_8_12 (h0)) (by decide) (inb_in g20) dX8_sets_97 ?_
      refine lv_goto (tgt := 102) hx hb dX8_sets_98 (by decide) ?_
      refine lv_ladd hx hb dX8_sets_102 ?_
      obtain ⟨v21, e22, hf⟩ := sr_bnd hf
      rw [e22]
      obtain ⟨g23, hf⟩ := sr_gd hf
      obtain ⟨σ24, e25, hf⟩ := sr_bnd hf
      refine s_last hX hV (n := 2601) (ch_8_12 (h0)) (by decide) (inb_in g23) dX8_sets_103 (fun H locs hV => ?_)
      rw [e25] at hV
      obtain ⟨v26, e27, hf⟩ := sr_bnd hf
      refine lv_iinc (v := v26) (lv' := [(4, .int v26), (0, .ref (n0 + q0)), (1, .int x1), (2, .int x2), (3, .int x3)]) hx hb dX8_sets_104 hl (k := 4) rfl (by rw [← e27]; rfl) (by decide) rfl (fun ls hl => ?_)
      refine lv_goto (tgt := 43) hx hb dX8_sets_107 (by decide) ?_
      exact hrec43 _ _ _ _ _ _  (lv_sub hl [1, 2, 3, 4, 0] rfl) hV hf
set_option maxHeartbeats 4000000 in
set_option maxRecDepth 100000 in
theorem k_X8_sets_L43w {p : Program} {l : Launch} {e : Env} {s : State} {m : MethodId} {args : Array Value} {below : List Frame} {meth : Method} {c : Code} {D : va_G} {aC : Nat → ClassId} {n0 : Nat} {r : Int64} {σ' : St} {q0 : Nat} {x1 : Int32} {x2 : Int32} (hX : sr_X p s m args meth c cX8_sets 5 (Option.some FieldType.long) RX8 D aC) (h0 : shM q0 = 9) {rec24 : Int32 → St → Option (Int64 × St)} (hrec24 : ∀ (x3 : Int32) (σ : St) (H : Heap) (locs : List Loc) (ls : Array Slot) , lv_has ls 5 [(0, .ref (n0 + q0)), (1, .int x1), (2, .int x2), (3, .int x3)] → sr_V D aC shM n0 σ s.heap H locs → rec24 x3 σ = some (r, σ') → W p l e rm_X8_sets s m args below meth c H locs 0 0 (MQ below (sr_Qc D aC shM n0 σ' (some (.long r))) args s 0 0 (sr_A shM n0)) (F0 m 24 ls [])) (n : Nat) : ∀ (x3 : Int32) (x4 : Int32) (σ : St) (H : Heap) (locs : List Loc) (ls : Array Slot) , lv_has ls 5 [(0, .ref (n0 + q0)), (1, .int x1), (2, .int x2), (3, .int x3), (4, .int x4)] → sr_V D aC shM n0 σ s.heap H locs → it3 (f_X8_sets_L43 q0 x1 x2 rec24) n x3 x4 σ = some (r, σ') → W p l e rm_X8_sets s m args below meth c H locs 0 0 (MQ below (sr_Qc D aC shM n0 σ' (some (.long r))) args s 0 0 (sr_A shM n0)) (F0 m 43 ls []) :=
  it3_ind (fun rec43 => ∀ (x3 : Int32) (x4 : Int32) (σ : St) (H : Heap) (locs : List Loc) (ls : Array Slot) , lv_has ls 5 [(0, .ref (n0 + q0)), (1, .int x1), (2, .int x2), (3, .int x3), (4, .int x4)] → sr_V D aC shM n0 σ s.heap H locs → rec43 x3 x4 σ = some (r, σ') → W p l e rm_X8_sets s m args below meth c H locs 0 0 (MQ below (sr_Qc D aC shM n0 σ' (some (.long r))) args s 0 0 (sr_A shM n0)) (F0 m 43 ls [])) (by intros; rename_i hf; exact absurd hf (by simp)) (fun rec hrec => k_X8_sets_L43 hX h0 hrec24 rec hrec) n
set_option maxHeartbeats 4000000 in
set_option maxRecDepth 100000 in
theorem k_X8_sets_L24 {p : Program} {l : Launch} {e : Env} {s : State} {m : MethodId} {args : Array Value} {below : List Frame} {meth : Method} {c : Code} {D : va_G} {aC : Nat → ClassId} {n0 : Nat} {r : Int64} {σ' : St} {q0 : Nat} {x1 : Int32} {x2 : Int32} (hX : sr_X p s m args meth c cX8_sets 5 (Option.some FieldType.long) RX8 D aC) (h0 : shM q0 = 9) (rec24 : Int32 → St → Option (Int64 × St)) (hrec24 : ∀ (x3 : Int32) (σ : St) (H : Heap) (locs : List Loc) (ls : Array Slot) , lv_has ls 5 [(0, .ref (n0 + q0)), (1, .int x1), (2, .int x2), (3, .int x3)] → sr_V D aC shM n0 σ s.heap H locs → rec24 x3 σ = some (r, σ') → W p l e rm_X8_sets s m args below meth c H locs 0 0 (MQ below (sr_Qc D aC shM n0 σ' (some (.long r))) args s 0 0 (sr_A shM n0)) (F0 m 24 ls [])) : ∀ (x3 : Int32) (σ : St) (H : Heap) (locs : List Loc) (ls : Array Slot) , lv_has ls 5 [(0, .ref (n0 + q0)), (1, .int x1), (2, .int x2), (3, .int x3)] → sr_V D aC shM n0 σ s.heap H locs → f_X8_sets_L24 q0 x1 x2 rec24 x3 σ = some (r, σ') → W p l e rm_X8_sets s m args below meth c H locs 0 0 (MQ below (sr_Qc D aC shM n0 σ' (some (.long r))) args s 0 0 (sr_A shM n0)) (F0 m 24 ls []) := by
  intro x3 σ H locs ls  hl hV hf
  have hx := hX.1.1
  have hb := hX.1.2.1
  unfold f_X8_sets_L24 at hf
  refine lv_iload_n hx hb dX8_sets_24 rfl (lv_at hl 3 rfl) ?_
  refine lv_bipush (v := 50) hx hb dX8_sets_25 (by decide) ?_
  refine lv_icmp_gt (tgt := 116) hx hb dX8_sets_27 (by decide) (fun c28 => ?_) (fun c28 => ?_)
  · have hf := sr_t hf c28
    exact k_X8_sets_B116 hX h0   (lv_sub hl [0, 1, 2] rfl) hV hf
  · have hf := sr_f hf c28
    refine lv_aload_n hx hb dX8_sets_30 rfl (lv_at hl 0 rfl) ?_
    refine fg_8_12 hX hV lk_678 (h0) dX8_sets_31 ?_
    refine lv_bipush (v := 51) hx hb dX8_sets_34 (by decide) ?_
    refine lv_iload_n hx hb dX8_sets_36 rfl (lv_at hl 3 rfl) ?_
    refine lv_imul hx hb dX8_sets_37 ?_
    refine lv_lconst (v := 1) hx hb dX8_sets_38 (by decide) ?_
    obtain ⟨v29, e30, hf⟩ := sr_bnd hf
    rw [e30]
    obtain ⟨g31, hf⟩ := sr_gd hf
    obtain ⟨σ32, e33, hf⟩ := sr_bnd hf
    refine s_last hX hV (n := 2601) (ch_8_12 (h0)) (by decide) (inb_in g31) dX8_sets_39 (fun H locs hV => ?_)
    rw [e33] at hV
    refine lv_iconst (v := 1) hx hb dX8_sets_40 (by decide) ?_
    refine lv_istore (lv' := [(4, .int 1), (0, .ref (n0 + q0)), (1, .int x1), (2, .int x2), (3, .int x3)]) hx hb dX8_sets_41 hl (by decide) rfl (fun ls hl => ?_)
    exact k_X8_sets_L43w hX h0 hrec24 sr_fuel _ _ _ _ _ _  (lv_sub hl [1, 2, 3, 4, 0] rfl) hV hf
set_option maxHeartbeats 4000000 in
set_option maxRecDepth 100000 in
theorem k_X8_sets_L24w {p : Program} {l : Launch} {e : Env} {s : State} {m : MethodId} {args : Array Value} {below : List Frame} {meth : Method} {c : Code} {D : va_G} {aC : Nat → ClassId} {n0 : Nat} {r : Int64} {σ' : St} {q0 : Nat} {x1 : Int32} {x2 : Int32} (hX : sr_X p s m args meth c cX8_sets 5 (Option.some FieldType.long) RX8 D aC) (h0 : shM q0 = 9) (n : Nat) : ∀ (x3 : Int32) (σ : St) (H : Heap) (locs : List Loc) (ls : Array Slot) , lv_has ls 5 [(0, .ref (n0 + q0)), (1, .int x1), (2, .int x2), (3, .int x3)] → sr_V D aC shM n0 σ s.heap H locs → it2 (f_X8_sets_L24 q0 x1 x2) n x3 σ = some (r, σ') → W p l e rm_X8_sets s m args below meth c H locs 0 0 (MQ below (sr_Qc D aC shM n0 σ' (some (.long r))) args s 0 0 (sr_A shM n0)) (F0 m 24 ls []) :=
  it2_ind (fun rec24 => ∀ (x3 : Int32) (σ : St) (H : Heap) (locs : List Loc) (ls : Array Slot) , lv_has ls 5 [(0, .ref (n0 + q0)), (1, .int x1), (2, .int x2), (3, .int x3)] → sr_V D aC shM n0 σ s.heap H locs → rec24 x3 σ = some (r, σ') → W p l e rm_X8_sets s m args below meth c H locs 0 0 (MQ below (sr_Qc D aC shM n0 σ' (some (.long r))) args s 0 0 (sr_A shM n0)) (F0 m 24 ls [])) (by intros; rename_i hf; exact absurd hf (by simp)) (fun rec hrec => k_X8_sets_L24 hX h0  rec hrec) n
set_option maxHeartbeats 4000000 in
set_option maxRecDepth 100000 in
theorem c_X8_sets {l : Launch} {D : va_G} {aC : Nat → ClassId} {n0 : Nat} {r : Int64} {σ' : St}  {σ : St} {q0 : Nat} {x1 : Int32} {x2 : Int32} (h0 : shM q0 = 9) (hf : f_X8_sets q0 x1 x2 σ = some (r, σ')) : sr_Met l D aC shM n0 yX8_sets cX8_sets 5 (Option.some FieldType.long) rm_X8_sets [.ref (n0 + q0), .int x1, .int x2] σ (some (.long r)) σ' := by
  refine s_met (own := RX8) (by decide) (Nat.le_of_ble_eq_true rfl) rfl ?_
  intro p e s m below meth c ls hX hV hl
  have hl : lv_has ls 5 [(0, .ref (n0 + q0)), (1, .int x1), (2, .int x2)] := hl
  have hx := hX.1.1
  have hb := hX.1.2.1
  unfold f_X8_sets at hf
  refine lv_iload_n hx hb dX8_sets_0 rfl (lv_at hl 2 rfl) ?_
  refine lv_if_lt (tgt := 9) hx hb dX8_sets_1 (by decide) (fun c34 => ?_) (fun c34 => ?_)
  · have hf := sr_t hf c34
    refine lv_lconst (v := 0) hx hb dX8_sets_9 (by decide) ?_
    cases hf
    exact s_lret hX hV dX8_sets_10
  · have hf := sr_f hf c34
    refine lv_iload_n hx hb dX8_sets_4 rfl (lv_at hl 2 rfl) ?_
    refine lv_iload_n hx hb dX8_sets_5 rfl (lv_at hl 1 rfl) ?_
    refine lv_icmp_le (tgt := 11) hx hb dX8_sets_6 (by decide) (fun c35 => ?_) (fun c35 => ?_)
    · have hf := sr_t hf c35
      refine lv_aload_n hx hb dX8_sets_11 rfl (lv_at hl 0 rfl) ?_
      refine fg_8_12 hX hV lk_678 (h0) dX8_sets_12 ?_
      refine lv_iconst (v := 0) hx hb dX8_sets_15 (by decide) ?_
      refine s_lald hX hV (n := 2601) (ch_8_12 (h0)) (by decide) (by unfold vp_in; decide) dX8_sets_16 ?_
      refine lv_lconst (v := 0) hx hb dX8_sets_17 (by decide) ?_
      refine W.lcmp hx hb dX8_sets_18 ?_
      refine lv_if_ne (tgt := 116) hx hb dX8_sets_19 (by decide) (fun c36 => ?_) (fun c36 => ?_)
      · have hf := sr_f hf c36
        exact k_X8_sets_B116 hX h0   (lv_sub hl [0, 1, 2] rfl) hV hf
      · have hf := sr_t hf c36
        refine lv_iconst (v := 0) hx hb dX8_sets_22 (by decide) ?_
        refine lv_istore_n (lv' := [(3, .int 0), (0, .ref (n0 + q0)), (1, .int x1), (2, .int x2)]) hx hb dX8_sets_23 rfl hl (by decide) rfl (fun ls hl => ?_)
        exact k_X8_sets_L24w hX h0  sr_fuel _ _ _ _ _  (lv_sub hl [1, 2, 3, 0] rfl) hV hf
    · have hf := sr_f hf c35
      refine lv_lconst (v := 0) hx hb dX8_sets_9 (by decide) ?_
      cases hf
      exact s_lret hX hV dX8_sets_10
