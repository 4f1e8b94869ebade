abbrev rm_X8_findChance : Room := { frames := 1, cells := 0, slots := 0, locals := 24 }
theorem cv_X8_findChance : sr_Cv yX8_findChance cX8_findChance 7 (none) RX8 1 := ⟨lk_876, lk_875, lp_35, lk_9, rfl, by decide +kernel, by decide +kernel, by decide +kernel⟩
set_option maxHeartbeats 4000000 in
set_option maxRecDepth 100000 in
theorem k_X8_findChance_L85 {p : Program} {l : Launch} {e : Env} {s : State} {m : MethodId} {args : Array Value} {below : List Frame} {meth : Method} {c : Code} {D : va_G} {aC : Nat → ClassId} {n0 : Nat} {σ' : St} {q0 : Nat} {x1 : Int32} (hX : sr_X p s m args meth c cX8_findChance 7 (none) RX8 D aC) (h0 : shM q0 = 9) (rec85 : Int32 → Int32 → Int32 → Int32 → St → Option St) (hrec85 : ∀ (x3 : Int32) (x4 : Int32) (x5 : Int32) (x6 : Int32) (σ : St) (H : Heap) (locs : List Loc) (ls : Array Slot) , lv_has ls 7 [(0, .ref (n0 + q0)), (3, .int x3), (4, .int x4), (5, .int x5), (6, .int x6)] → sr_V D aC shM n0 σ s.heap H locs → rec85 x3 x4 x5 x6 σ = some σ' → W p l e rm_X8_findChance s m args below meth c H locs 0 0 (MQ below (sr_Qc D aC shM n0 σ' none) args s 0 0 (sr_A shM n0)) (F0 m 85 ls [])) : ∀ (x3 : Int32) (x4 : Int32) (x5 : Int32) (x6 : Int32) (σ : St) (H : Heap) (locs : List Loc) (ls : Array Slot) , lv_has ls 7 [(0, .ref (n0 + q0)), (3, .int x3), (4, .int x4), (5, .int x5), (6, .int x6)] → sr_V D aC shM n0 σ s.heap H locs → f_X8_findChance_L85 q0 x1 rec85 x3 x4 x5 x6 σ = some σ' → W p l e rm_X8_findChance s m args below meth c H locs 0 0 (MQ below (sr_Qc D aC shM n0 σ' none) args s 0 0 (sr_A shM n0)) (F0 m 85 ls []) := by
  intro x3 x4 x5 x6 σ H locs ls  hl hV hf
  have hx := hX.1.1
  have hb := hX.1.2.1
  unfold f_X8_findChance_L85 at hf
  refine lv_iload hx hb dX8_findChance_85 (lv_at hl 4 rfl) ?_
  refine lv_iload_n hx hb dX8_findChance_87 rfl (lv_at hl 1 rfl) ?_
  refine lv_icmp_gt (tgt := 132) hx hb dX8_findChance_88 (by decide) (fun c1 => ?_) (fun c1 => ?_)
  · have hf := sr_t hf c1
    cases hf
    exact s_vret hX hV dX8_findChance_132
  · have hf := sr_f hf c1
    refine lv_iload hx hb dX8_findChance_91 (lv_at hl 4 rfl) ?_
    refine lv_iload hx hb dX8_findChance_93 (lv_at hl 2 rfl) ?_
    refine lv_icmp_gt (tgt := 132) hx hb dX8_findChance_95 (by decide) (fun c2 => ?_) (fun c2 => ?_)
    · have hf := sr_t hf c2
      cases hf
      exact s_vret hX hV dX8_findChance_132
    · have hf := sr_f hf c2
      refine lv_aload_n hx hb dX8_findChance_98 rfl (lv_at hl 0 rfl) ?_
      refine lv_dup hx hb dX8_findChance_99 rfl ?_
      refine fg_8_13 hX hV lk_679 (h0) dX8_findChance_100 ?_
      refine lv_aload_n hx hb dX8_findChance_103 rfl (lv_at hl 0 rfl) ?_
      refine lv_iload hx hb dX8_findChance_104 (lv_at hl 2 rfl) ?_
      refine lv_iload hx hb dX8_findChance_106 (lv_at hl 4 rfl) ?_
      obtain ⟨v4, σ5, e3, hf⟩ := sr_ob2 hf
      refine s_callV1 (ci := 8) hX hV hl.1 (c_X8_sets (h0) e3) cv_X8_sets lk_877 ⟨rfl, rfl, Nat.le_of_ble_eq_true rfl, Nat.le_of_ble_eq_true rfl⟩ rfl (by decide) (h0) rfl rfl (Nat.le_of_ble_eq_true rfl) dX8_findChance_108 ⟨Nat.le_of_ble_eq_true rfl, Nat.le_of_ble_eq_true rfl⟩ (fun H locs hV => ?_)
      refine lv_aload_n hx hb dX8_findChance_111 rfl (lv_at hl 0 rfl) ?_
      refine lv_iload hx hb dX8_findChance_112 (lv_at hl 3 rfl) ?_
      refine lv_iload_n hx hb dX8_findChance_114 rfl (lv_at hl 1 rfl) ?_
      refine lv_iload hx hb dX8_findChance_115 (lv_at hl 4 rfl) ?_
      refine lv_isub hx hb dX8_findChance_117 ?_
      obtain ⟨v7, σ8, e6, hf⟩ := sr_ob2 hf
      refine s_callV1 (ci := 8) hX hV hl.1 (c_X8_sets (h0) e6) cv_X8_sets lk_877 ⟨rfl, rfl, Nat.le_of_ble_eq_true rfl, Nat.le_of_ble_eq_true rfl⟩ rfl (by decide) (h0) rfl rfl (Nat.le_of_ble_eq_true rfl) dX8_findChance_118 ⟨Nat.le_of_ble_eq_true rfl, Nat.le_of_ble_eq_true rfl⟩ (fun H locs hV => ?_)
      refine lv_lmul hx hb dX8_findChance_121 ?_
      refine lv_ladd hx hb dX8_findChance_122 ?_
      obtain ⟨σ9, e10, hf⟩ := sr_bnd hf
      refine fp_8_13 (x := ((gL σ q0 13) + (v4 * v7))) hX hV lk_679 (h0) dX8_findChance_123 (fun H locs hV => ?_)
      rw [e10] at hV
      obtain ⟨v11, e12, hf⟩ := sr_bnd hf
      refine lv_iinc (v := v11) (lv' := [(6, .int v11), (0, .ref (n0 + q0)), (3, .int x3), (4, .int x4), (5, .int x5)]) hx hb dX8_findChance_126 hl (k := 4) rfl (by rw [← e12]; rfl) (by decide) rfl (fun ls hl => ?_)
      refine lv_goto (tgt := 85) hx hb dX8_findChance_129 (by decide) ?_
      exact hrec85 _ _ _ _ _ _ _ _  (lv_sub hl [1, 2, 3, 4, 0] rfl) hV hf
set_option maxHeartbeats 4000000 in
set_option maxRecDepth 100000 in
theorem k_X8_findChance_L85w {p : Program} {l : Launch} {e : Env} {s : State} {m : MethodId} {args : Array Value} {below : List Frame} {meth : Method} {c : Code} {D : va_G} {aC : Nat → ClassId} {n0 : Nat} {σ' : St} {q0 : Nat} {x1 : Int32} (hX : sr_X p s m args meth c cX8_findChance 7 (none) RX8 D aC) (h0 : shM q0 = 9) (n : Nat) : ∀ (x3 : Int32) (x4 : Int32) (x5 : Int32) (x6 : Int32) (σ : St) (H : Heap) (locs : List Loc) (ls : Array Slot) , lv_has ls 7 [(0, .ref (n0 + q0)), (3, .int x3), (4, .int x4), (5, .int x5), (6, .int x6)] → sr_V D aC shM n0 σ s.heap H locs → it5 (f_X8_findChance_L85 q0 x1) n x3 x4 x5 x6 σ = some σ' → W p l e rm_X8_findChance s m args below meth c H locs 0 0 (MQ below (sr_Qc D aC shM n0 σ' none) args s 0 0 (sr_A shM n0)) (F0 m 85 ls []) :=
  it5_ind (fun rec85 => ∀ (x3 : Int32) (x4 : Int32) (x5 : Int32) (x6 : Int32) (σ : St) (H : Heap) (locs : List Loc) (ls : Array Slot) , lv_has ls 7 [(0, .ref (n0 + q0)), (3, .int x3), (4, .int x4), (5, .int x5), (6, .int x6)] → sr_V D aC shM n0 σ s.heap H locs → rec85 x3 x4 x5 x6 σ = some σ' → W p l e rm_X8_findChance s m args below meth c H locs 0 0 (MQ below (sr_Qc D aC shM n0 σ' none) args s 0 0 (sr_A shM n0)) (F0 m 85 ls [])) (by intros; rename_i hf; exact absurd hf (by simp)) (fun rec hrec => k_X8_findChance_L85 hX h0  rec hrec) n
set_option maxHeartbeats 4000000 in
set_option maxRecDepth 100000 in
theorem c_X8_findChance {l : Launch} {D : va_G} {aC : Nat → ClassId} {n0 : Nat} {σ' : St}  {σ : St} {q0 : Nat} {x1 : Int32} (h0 : shM q0 = 9) (hf : f_X8_findChance q0 x1 σ = some σ') : sr_Met l D aC shM n0 yX8_findChance cX8_findChance 7 (none) rm_X8_findChance [.ref (n0 + q0), .int x1] σ none σ' := by
  refine s_met (own := RX8) (by decide) (Nat.le_of_ble_eq_true rfl) rfl ?_
  intro p e s m below meth c ls hX hV hl
  have hl : lv_has ls 7 [(0, .ref (n0 + q0)), (1, .int x1)] := hl
  have hx := hX.1.1
  have hb := hX.1.2.1
  unfold f_X8_findChance at hf
  refine lv_iload_n hx hb dX8_findChance_0 rfl (lv_at hl 1 rfl) ?_
  refine lv_iconst (v := 5) hx hb dX8_findChance_1 (by decide) ?_
  obtain ⟨v14, e13, hf⟩ := sr_bnd hf
  refine s_callS1 hX hV hl.1 (c_X8_at  e13) cs_X8_at lk_740 ⟨rfl, rfl, Nat.le_of_ble_eq_true rfl, Nat.le_of_ble_eq_true rfl⟩ rfl rfl (Nat.le_of_ble_eq_true rfl) dX8_findChance_2 ⟨Nat.le_of_ble_eq_true rfl, Nat.le_of_ble_eq_true rfl⟩ (fun H locs hV => ?_)
  refine lv_istore_n (lv' := [(2, .int v14), (0, .ref (n0 + q0)), (1, .int x1)]) hx hb dX8_findChance_5 rfl hl (by decide) rfl (fun ls hl => ?_)
  refine lv_aload_n hx hb dX8_findChance_6 rfl (lv_at hl 1 rfl) ?_
  refine fg_8_0 hX hV lk_666 (h0) dX8_findChance_7 ?_
  refine lv_iload_n hx hb dX8_findChance_10 rfl (lv_at hl 0 rfl) ?_
  obtain ⟨g15, hf⟩ := sr_gd hf
  refine s_iald hX hV (n := 257) (ch_8_0 (h0)) (by decide) (inb_in g15) dX8_findChance_11 ?_
  refine lv_aload_n hx hb dX8_findChance_12 rfl (lv_at hl 1 rfl) ?_
  refine fg_8_0 hX hV lk_666 (h0) dX8_findChance_13 ?_
  refine lv_iload_n hx hb dX8_findChance_16 rfl (lv_at hl 0 rfl) ?_
  refine lv_iconst (v := 1) hx hb dX8_findChance_17 (by decide) ?_
  refine lv_iadd hx hb dX8_findChance_18 ?_
  obtain ⟨v16, e17, hf⟩ := sr_bnd hf
  rw [e17]
  obtain ⟨g18, hf⟩ := sr_gd hf
  refine s_iald hX hV (n := 257) (ch_8_0 (h0)) (by decide) (inb_in g18) dX8_findChance_19 ?_
  refine lv_iadd hx hb dX8_findChance_20 ?_
  obtain ⟨v19, e20, hf⟩ := sr_bnd hf
  rw [e20]
  refine lv_istore_n (lv' := [(3, .int v19), (2, .int v14), (0, .ref (n0 + q0)), (1, .int x1)]) hx hb dX8_findChance_21 rfl hl (by decide) rfl (fun ls hl => ?_)
  refine lv_aload_n hx hb dX8_findChance_22 rfl (lv_at hl 2 rfl) ?_
  refine fg_8_0 hX hV lk_666 (h0) dX8_findChance_23 ?_
  refine lv_iload_n hx hb dX8_findChance_26 rfl (lv_at hl 1 rfl) ?_
  obtain ⟨g21, hf⟩ := sr_gd hf
  refine s_iald hX hV (n := 257) (ch_8_0 (h0)) (by decide) (inb_in g21) dX8_findChance_27 ?_
  refine lv_aload_n hx hb dX8_findChance_28 rfl (lv_at hl 2 rfl) ?_
  refine fg_8_0 hX hV lk_666 (h0) dX8_findChance_29 ?_
  refine lv_iload_n hx hb dX8_findChance_32 rfl (lv_at hl 1 rfl) ?_
  refine lv_iconst (v := 2) hx hb dX8_findChance_33 (by decide) ?_
  refine lv_iadd hx hb dX8_findChance_34 ?_
  obtain ⟨v22, e23, hf⟩ := sr_bnd hf
  rw [e23]
  obtain ⟨g24, hf⟩ := sr_gd hf
  refine s_iald hX hV (n := 257) (ch_8_0 (h0)) (by decide) (inb_in g24) dX8_findChance_35 ?_
  refine lv_iadd hx hb dX8_findChance_36 ?_
  obtain ⟨v25, e26, hf⟩ := sr_bnd hf
  rw [e26]
  refine lv_istore (lv' := [(4, .int v25), (3, .int v19), (2, .int v14), (0, .ref (n0 + q0)), (1, .int x1)]) hx hb dX8_findChance_37 hl (by decide) rfl (fun ls hl => ?_)
  refine lv_aload_n hx hb dX8_findChance_39 rfl (lv_at hl 3 rfl) ?_
  refine fg_8_0 hX hV lk_666 (h0) dX8_findChance_40 ?_
  refine lv_iload_n hx hb dX8_findChance_43 rfl (lv_at hl 2 rfl) ?_
  refine lv_iconst (v := 1) hx hb dX8_findChance_44 (by decide) ?_
  refine lv_iadd hx hb dX8_findChance_45 ?_
  obtain ⟨v27, e28, hf⟩ := sr_bnd hf
  rw [e28]
  obtain ⟨g29, hf⟩ := sr_gd hf
  refine s_iald hX hV (n := 257) (ch_8_0 (h0)) (by decide) (inb_in g29) dX8_findChance_46 ?_
  refine lv_aload_n hx hb dX8_findChance_47 rfl (lv_at hl 3 rfl) ?_
  refine fg_8_0 hX hV lk_666 (h0) dX8_findChance_48 ?_
  refine lv_iload_n hx hb dX8_findChance_51 rfl (lv_at hl 2 rfl) ?_
  refine lv_iconst (v := 3) hx hb dX8_findChance_52 (by decide) ?_
  refine lv_iadd hx hb dX8_findChance_53 ?_
  obtain ⟨v30, e31, hf⟩ := sr_bnd hf
  rw [e31]
  obtain ⟨g32, hf⟩ := sr_gd hf
  refine s_iald hX hV (n := 257) (ch_8_0 (h0)) (by decide) (inb_in g32) dX8_findChance_54 ?_
  refine lv_iadd hx hb dX8_findChance_55 ?_
  obtain ⟨v33, e34, hf⟩ := sr_bnd hf
  rw [e34]
  refine lv_istore (lv' := [(5, .int v33), (4, .int v25), (3, .int v19), (2, .int v14), (0, .ref (n0 + q0)), (1, .int x1)]) hx hb dX8_findChance_56 hl (by decide) rfl (fun ls hl => ?_)
  refine lv_aload_n hx hb dX8_findChance_58 rfl (lv_at hl 4 rfl) ?_
  refine lv_lconst (v := 0) hx hb dX8_findChance_59 (by decide) ?_
  obtain ⟨σ35, e36, hf⟩ := sr_bnd hf
  refine fp_8_13 (x := 0) hX hV lk_679 (h0) dX8_findChance_60 (fun H locs hV => ?_)
  rw [e36] at hV
  refine lv_aload_n hx hb dX8_findChance_63 rfl (lv_at hl 4 rfl) ?_
  refine lv_aload_n hx hb dX8_findChance_64 rfl (lv_at hl 4 rfl) ?_
  refine lv_iload hx hb dX8_findChance_65 (lv_at hl 1 rfl) ?_
  refine lv_iload hx hb dX8_findChance_67 (lv_at hl 0 rfl) ?_
  refine lv_iadd hx hb dX8_findChance_69 ?_
  refine lv_iload_n hx hb dX8_findChance_70 rfl (lv_at hl 2 rfl) ?_
  obtain ⟨v38, σ39, e37, hf⟩ := sr_ob2 hf
  refine s_callV1 (ci := 8) hX hV hl.1 (c_X8_sets (h0) e37) cv_X8_sets lk_877 ⟨rfl, rfl, Nat.le_of_ble_eq_true rfl, Nat.le_of_ble_eq_true rfl⟩ rfl (by decide) (h0) rfl rfl (Nat.le_of_ble_eq_true rfl) dX8_findChance_71 ⟨Nat.le_of_ble_eq_true rfl, Nat.le_of_ble_eq_true rfl⟩ (fun H locs hV => ?_)
  obtain ⟨σ40, e41, hf⟩ := sr_bnd hf
  refine fp_8_14 (x := v38) hX hV lk_680 (h0) dX8_findChance_74 (fun H locs hV => ?_)
  rw [e41] at hV
  refine lv_aload_n hx hb dX8_findChance_77 rfl (lv_at hl 4 rfl) ?_
  refine fg_8_0 hX hV lk_666 (h0) dX8_findChance_78 ?_
  refine lv_iload_n hx hb dX8_findChance_81 rfl (lv_at hl 3 rfl) ?_
  obtain ⟨g42, hf⟩ := sr_gd hf
  refine s_iald hX hV (n := 257) (ch_8_0 (h0)) (by decide) (inb_in g42) dX8_findChance_82 ?_
  obtain ⟨v43, e44, hf⟩ := sr_bnd hf
  rw [e44]
  refine lv_istore (lv' := [(6, .int v43), (5, .int v33), (4, .int v25), (3, .int v19), (2, .int v14), (0, .ref (n0 + q0)), (1, .int x1)]) hx hb dX8_findChance_83 hl (by decide) rfl (fun ls hl => ?_)
  exact k_X8_findChance_L85w hX h0  sr_fuel _ _ _ _ _ _ _ _  (lv_sub hl [5, 3, 2, 1, 0] rfl) hV hf
abbrev rm_X8_isBad : Room := { frames := 2, cells := 0, slots := 0, locals := 50 }
theorem cv_X8_isBad : sr_Cv yX8_isBad cX8_isBad 2 (Option.some FieldType.boolean) RX8 1 := ⟨lk_872, lk_871, lp_34, lk_9, rfl, by decide +kernel, by decide +kernel, by decide +kernel⟩
set_option maxHeartbeats 4000000 in
set_option maxRecDepth 100000 in
theorem c_X8_isBad {l : Launch} {D : va_G} {aC : Nat → ClassId} {n0 : Nat} {r : Bool} {σ' : St}  {σ : St} {q0 : Nat} {x1 : Int32} (h0 : shM q0 = 9) (hf : f_X8_isBad q0 x1 σ = some (r, σ')) : sr_Met l D aC shM n0 yX8_isBad cX8_isBad 2 (Option.some FieldType.boolean) rm_X8_isBad [.ref (n0 + q0), .int x1] σ (some (.int (bI r))) σ' := by
  refine s_met (own := RX8) (by decide) (Nat.le_of_ble_eq_true rfl) rfl ?_
  intro p e s m below meth c ls hX hV hl
  have hl : lv_has ls 2 [(0, .ref (n0 + q0)), (1, .int x1)] := hl
  have hx := hX.1.1
  have hb := hX.1.2.1
  unfold f_X8_isBad at hf
  refine lv_aload_n hx hb dX8_isBad_0 rfl (lv_at hl 0 rfl) ?_
  refine lv_iload_n hx hb dX8_isBad_1 rfl (lv_at hl 1 rfl) ?_
  obtain ⟨σ2, e1, hf⟩ := sr_obd hf
  refine s_callV0 (ci := 8) hX hV hl.1 (c_X8_findChance (h0) e1) cv_X8_findChance lk_873 ⟨rfl, rfl, Nat.le_of_ble_eq_true rfl, Nat.le_of_ble_eq_true rfl⟩ rfl (by decide) (h0) rfl rfl (Nat.le_of_ble_eq_true rfl) dX8_isBad_2 ⟨Nat.le_of_ble_eq_true rfl, Nat.le_of_ble_eq_true rfl⟩ (fun H locs hV => ?_)
  refine lv_aload_n hx hb dX8_isBad_5 rfl (lv_at hl 0 rfl) ?_
  refine fg_8_6 hX hV lk_672 (h0) dX8_isBad_6 ?_
  refine lv_if_ne (tgt := 40) hx hb dX8_isBad_9 (by decide) (fun c3 => ?_) (fun c3 => ?_)
  · have hf := sr_t hf (sr_b1 c3)
    refine lv_iconst (v := 0) hx hb dX8_isBad_40 (by decide) ?_
    cases hf
    exact s_zret (b := false) hX hV dX8_isBad_41
  · have hf := sr_f hf (sr_b0 c3)
    refine lv_ldc2 hx hb hX.1.2.2.2.1 (s_w hX lk_881) dX8_isBad_12 ?_
    refine lv_aload_n hx hb dX8_isBad_15 rfl (lv_at hl 0 rfl) ?_
    refine fg_8_13 hX hV lk_679 (h0) dX8_isBad_16 ?_
    refine lv_lmul hx hb dX8_isBad_19 ?_
    refine lv_aload_n hx hb dX8_isBad_20 rfl (lv_at hl 0 rfl) ?_
    refine fg_8_0 hX hV lk_666 (h0) dX8_isBad_21 ?_
    refine lv_iconst (v := 2) hx hb dX8_isBad_24 (by decide) ?_
    refine s_iald hX hV (n := 257) (ch_8_0 (h0)) (by decide) (by unfold vp_in; decide) dX8_isBad_25 ?_
    refine lv_i2l hx hb dX8_isBad_26 rfl ?_
    refine lv_aload_n hx hb dX8_isBad_27 rfl (lv_at hl 0 rfl) ?_
    refine fg_8_14 hX hV lk_680 (h0) dX8_isBad_28 ?_
    refine lv_lmul hx hb dX8_isBad_31 ?_
    refine W.lcmp hx hb dX8_isBad_32 ?_
    refine lv_if_gt (tgt := 40) hx hb dX8_isBad_33 (by decide) (fun c4 => ?_) (fun c4 => ?_)
    · have hf := sr_t hf c4
      refine lv_iconst (v := 0) hx hb dX8_isBad_40 (by decide) ?_
      cases hf
      exact s_zret (b := false) hX hV dX8_isBad_41
    · have hf := sr_f hf c4
      refine lv_iconst (v := 1) hx hb dX8_isBad_36 (by decide) ?_
      refine lv_goto (tgt := 41) hx hb dX8_isBad_37 (by decide) ?_
      cases hf
      exact s_zret (b := true) hX hV dX8_isBad_41
abbrev rm_X8_divisor : Room := { frames := 0, cells := 0, slots := 0, locals := 0 }
theorem cs_X8_divisor : sr_Cs yX8_divisor cX8_divisor 10 (Option.some FieldType.long) RX8 2 := ⟨lk_937, lk_936, lk_9, rfl, by decide +kernel, by decide +kernel, by decide +kernel⟩
set_option maxHeartbeats 4000000 in
set_option maxRecDepth 100000 in
theorem k_X8_divisor_L6 {p : Program} {l : Launch} {e : Env} {s : State} {m : MethodId} {args : Array Value} {below : List Frame} {meth : Method} {c : Code} {D : va_G} {aC : Nat → ClassId} {n0 : Nat} {sh : Nat → Nat} {r : Int64} {σ : St} {w0 : Int64} {w2 : Int64} (hX : sr_X p s m args meth c cX8_divisor 10 (Option.some FieldType.long) RX8 D aC)  (rec6 : Int64 → Int64 → Option Int64) (hrec6 : ∀ (w4 : Int64) (w6 : Int64) (H : Heap) (locs : List Loc) (ls : Array Slot) , lv_has ls 10 [(4, .long w4), (6, .long w6)] → sr_V D aC sh n0 σ s.heap H locs → rec6 w4 w6 = some r → W p l e rm_X8_divisor s m args below meth c H locs 0 0 (MQ below (sr_Qc D aC sh n0 σ (some (.long r))) args s 0 0 (sr_A sh n0)) (F0 m 6 ls [])) : ∀ (w4 : Int64) (w6 : Int64) (H : Heap) (locs : List Loc) (ls : Array Slot) , lv_has ls 10 [(4, .long w4), (6, .long w6)] → sr_V D aC sh n0 σ s.heap H locs → f_X8_divisor_L6 w0 w2 rec6 w4 w6 = some r → W p l e rm_X8_divisor s m args below meth c H locs 0 0 (MQ below (sr_Qc D aC sh n0 σ (some (.long r))) args s 0 0 (sr_A sh n0)) (F0 m 6 ls []) := by
  intro w4 w6 H locs ls  hl hV hf
  have hx := hX.1.1
  have hb := hX.1.2.1
  unfold f_X8_divisor_L6 at hf
  refine lv_lload hx hb dX8_divisor_6 (lv_at hl 1 rfl) ?_
  refine lv_lconst (v := 0) hx hb dX8_divisor_8 (by decide) ?_
  refine W.lcmp hx hb dX8_divisor_9 ?_
  refine lv_if_eq (tgt := 31) hx hb dX8_divisor_10 (by decide) (fun c1 => ?_) (fun c1 => ?_)
  · have hf := sr_t hf c1
    refine lv_lload hx hb dX8_divisor_31 (lv_at hl 0 rfl) ?_
    cases hf
    exact s_lret hX hV dX8_divisor_33
  · have hf := sr_f hf c1
    refine lv_lload hx hb dX8_divisor_13 (lv_at hl 0 rfl) ?_
    refine lv_lload hx hb dX8_divisor_15 (lv_at hl 1 rfl) ?_
    obtain ⟨g2, hf⟩ := sr_gd hf
    refine lv_lrem hx hb dX8_divisor_17 g2 ?_
    obtain ⟨v3, e4, hf⟩ := sr_bnd hf
    rw [e4]
    refine lv_lstore (lv' := [(8, .long v3), (4, .long w4), (6, .long w6)]) hx hb dX8_divisor_18 hl (by decide) rfl (fun ls hl => ?_)
    refine lv_lload hx hb dX8_divisor_20 (lv_at hl 2 rfl) ?_
    refine lv_lstore (lv' := [(4, .long w6), (8, .long v3), (6, .long w6)]) hx hb dX8_divisor_22 hl (by decide) rfl (fun ls hl => ?_)
    refine lv_lload hx hb dX8_divisor_24 (lv_at hl 1 rfl) ?_
    refine lv_lstore (lv' := [(6, .long v3), (4, .long w6), (8, .long v3)]) hx hb dX8_divisor_26 hl (by decide) rfl (fun ls hl => ?_)
    refine lv_goto (tgt := 6) hx hb dX8_divisor_28 (by decide) ?_
    exact hrec6 _ _ _ _ _  (lv_sub hl [1, 0] rfl) hV hf
set_option maxHeartbeats 4000000 in
set_option maxRecDepth 100000 in
theorem k_X8_divisor_L6w {p : Program} {l : Launch} {e : Env} {s : State} {m : MethodId} {args : Array Value} {below : List Frame} {meth : Method} {c : Code} {D : va_G} {aC : Nat → ClassId} {n0 : Nat} {sh : Nat → Nat} {r : Int64} {σ : St} {w0 : Int64} {w2 : Int64} (hX : sr_X p s m args meth c cX8_divisor 10 (Option.some FieldType.long) RX8 D aC)  (n : Nat) : ∀ (w4 : Int64) (w6 : Int64) (H : Heap) (locs : List Loc) (ls : Array Slot) , lv_has ls 10 [(4, .long w4), (6, .long w6)] → sr_V D aC sh n0 σ s.heap H locs → it2 (f_X8_divisor_L6 w0 w2) n w4 w6 = some r → W p l e rm_X8_divisor s m args below meth c H locs 0 0 (MQ below (sr_Qc D aC sh n0 σ (some (.long r))) args s 0 0 (sr_A sh n0)) (F0 m 6 ls []) :=
  it2_ind (fun rec6 => ∀ (w4 : Int64) (w6 : Int64) (H : Heap) (locs : List Loc) (ls : Array Slot) , lv_has ls 10 [(4, .long w4), (6, .long w6)] → sr_V D aC sh n0 σ s.heap H locs → rec6 w4 w6 = some r → W p l e rm_X8_divisor s m args below meth c H locs 0 0 (MQ below (sr_Qc D aC sh n0 σ (some (.long r))) args s 0 0 (sr_A sh n0)) (F0 m 6 ls [])) (by intros; rename_i hf; exact absurd hf (by simp)) (fun rec hrec => k_X8_divisor_L6 hX   rec hrec) n
set_option maxHeartbeats 4000000 in
set_option maxRecDepth 100000 in
theorem c_X8_divisor {l : Launch} {D : va_G} {aC : Nat → ClassId} {n0 : Nat} {sh : Nat → Nat} {r : Int64} {σ : St}  {w0 : Int64} {w2 : Int64}  (hf : f_X8_divisor w0 w2 = some r) : sr_Met l D aC sh n0 yX8_divisor cX8_divisor 10 (Option.some FieldType.long) rm_X8_divisor [.long w0, .long w2] σ (some (.long r)) σ := by
  refine s_met (own := RX8) (by decide) (Nat.le_of_ble_eq_true rfl) rfl ?_
  intro p e s m below meth c ls hX hV hl
  have hl : lv_has ls 10 [(0, .long w0), (2, .long w2)] := hl
  have hx := hX.1.1
  have hb := hX.1.2.1
  unfold f_X8_divisor at hf
  refine lv_lload_n hx hb dX8_divisor_0 rfl (lv_at hl 0 rfl) ?_
  refine lv_lstore (lv' := [(4, .long w0), (0, .long w0), (2, .long w2)]) hx hb dX8_divisor_1 hl (by decide) rfl (fun ls hl => ?_)
  refine lv_lload_n hx hb dX8_divisor_3 rfl (lv_at hl 2 rfl) ?_
  refine lv_lstore (lv' := [(6, .long w2), (4, .long w0), (0, .long w0), (2, .long w2)]) hx hb dX8_divisor_4 hl (by decide) rfl (fun ls hl => ?_)
  exact k_X8_divisor_L6w hX   sr_fuel _ _ _ _ _  (lv_sub hl [1, 0] rfl) hV hf
abbrev rm_X8_isFrozenHour : Room := { frames := 1, cells := 0, slots := 0, locals := 22 }
theorem cv_X8_isFrozenHour : sr_Cv yX8_isFrozenHour cX8_isFrozenHour 4 (Option.some FieldType.boolean) RX8 1 := ⟨lk_901, lk_900, lp_41, lk_9, rfl, by decide +kernel, by decide +kernel, by decide +kernel⟩
set_option maxHeartbeats 4000000 in
set_option maxRecDepth 100000 in
theorem k_X8_isFrozenHour_L4 {p : Program} {l : Launch} {e : Env} {s : State} {m : MethodId} {args : Array Value} {below : List Frame} {meth : Method} {c : Code} {D : va_G} {aC : Nat → ClassId} {n0 : Nat} {r : Bool} {σ : St} {q0 : Nat} {x1 : Int32} (hX : sr_X p s m args meth c cX8_isFrozenHour 4 (Option.some FieldType.boolean) RX8 D aC) (h0 : shM q0 = 9) (rec4 : Bool → Int32 → Option Bool) (hrec4 : ∀ (b2 : Bool) (x3 : Int32) (H : Heap) (locs : List Loc) (ls : Array Slot) , lv_has ls 4 [(0, .ref (n0 + q0)), (1, .int x1), (2, .int (bI b2)), (3, .int x3)] → sr_V D aC shM n0 σ s.heap H locs → rec4 b2 x3 = some r → W p l e rm_X8_isFrozenHour s m args below meth c H locs 0 0 (MQ below (sr_Qc D aC shM n0 σ (some (.int (bI r)))) args s 0 0 (sr_A shM n0)) (F0 m 4 ls [])) : ∀ (b2 : Bool) (x3 : Int32) (H : Heap) (locs : List Loc) (ls : Array Slot) , lv_has ls 4 [(0, .ref (n0 + q0)), (1, .int x1), (2, .int (bI b2)), (3, .int x3)] → sr_V D aC shM n0 σ s.heap H locs → f_X8_isFrozenHour_L4 σ q0 x1 rec4 b2 x3 = some r → W p l e rm_X8_isFrozenHour s m args below meth c H locs 0 0 (MQ below (sr_Qc D aC shM n0 σ (some (.int (bI r)))) args s 0 0 (sr_A shM n0)) (F0 m 4 ls []) := by
  intro b2 x3 H locs ls  hl hV hf
  have hx := hX.1.1
  have hb := hX.1.2.1
  unfold f_X8_isFrozenHour_L4 at hf
  refine lv_iload_n hx hb dX8_isFrozenHour_4 rfl (lv_at hl 3 rfl) ?_
  refine lv_aload_n hx hb dX8_isFrozenHour_5 rfl (lv_at hl 0 rfl) ?_
  refine fg_8_0 hX hV lk_666 (h0) dX8_isFrozenHour_6 ?_
  refine lv_iconst (v := 3) hx hb dX8_isFrozenHour_9 (by decide) ?_
  refine s_iald hX hV (n := 257) (ch_8_0 (h0)) (by decide) (by unfold vp_in; decide) dX8_isFrozenHour_10 ?_
  refine lv_icmp_ge (tgt := 61) hx hb dX8_isFrozenHour_11 (by decide) (fun c1 => ?_) (fun c1 => ?_)
  · have hf := sr_t hf c1
    refine lv_iload_n hx hb dX8_isFrozenHour_61 rfl (lv_at hl 2 rfl) ?_
    cases hf
    exact s_zret hX hV dX8_isFrozenHour_62
  · have hf := sr_f hf c1
    refine lv_iload_n hx hb dX8_isFrozenHour_14 rfl (lv_at hl 2 rfl) ?_
    refine lv_if_ne (tgt := 49) hx hb dX8_isFrozenHour_15 (by decide) (fun c2 => ?_) (fun c2 => ?_)
    · have hf := sr_t hf (sr_b1 c2)
      refine lv_iconst (v := 1) hx hb dX8_isFrozenHour_49 (by decide) ?_
      refine lv_goto (tgt := 54) hx hb dX8_isFrozenHour_50 (by decide) ?_
      refine lv_istore_n (lv' := [(2, .int 1), (0, .ref (n0 + q0)), (1, .int x1), (3, .int x3)]) hx hb dX8_isFrozenHour_54 rfl hl (by decide) rfl (fun ls hl => ?_)
      obtain ⟨v3, e4, hf⟩ := sr_bnd hf
      refine lv_iinc (v := v3) (lv' := [(3, .int v3), (2, .int 1), (0, .ref (n0 + q0)), (1, .int x1)]) hx hb dX8_isFrozenHour_55 hl (k := 3) rfl (by rw [← e4]; rfl) (by decide) rfl (fun ls hl => ?_)
      refine lv_goto (tgt := 4) hx hb dX8_isFrozenHour_58 (by decide) ?_
      exact hrec4 _ _ _ _ _  (lv_sub hl [2, 3, 1, 0] rfl) hV hf
    · have hf := sr_f hf (sr_b0 c2)
      refine lv_iload_n hx hb dX8_isFrozenHour_18 rfl (lv_at hl 1 rfl) ?_
      refine lv_aload_n hx hb dX8_isFrozenHour_19 rfl (lv_at hl 0 rfl) ?_
      refine fg_8_0 hX hV lk_666 (h0) dX8_isFrozenHour_20 ?_
      refine lv_iconst (v := 4) hx hb dX8_isFrozenHour_23 (by decide) ?_
      refine lv_iconst (v := 2) hx hb dX8_isFrozenHour_24 (by decide) ?_
      refine lv_iload_n hx hb dX8_isFrozenHour_25 rfl (lv_at hl 3 rfl) ?_
      refine lv_imul hx hb dX8_isFrozenHour_26 ?_
      refine lv_iadd hx hb dX8_isFrozenHour_27 ?_
      obtain ⟨v5, e6, hf⟩ := sr_bnd hf
      rw [e6]
      obtain ⟨g7, hf⟩ := sr_gd hf
      refine s_iald hX hV (n := 257) (ch_8_0 (h0)) (by decide) (inb_in g7) dX8_isFrozenHour_28 ?_
      refine lv_aload_n hx hb dX8_isFrozenHour_29 rfl (lv_at hl 0 rfl) ?_
      refine fg_8_0 hX hV lk_666 (h0) dX8_isFrozenHour_30 ?_
      refine lv_iconst (v := 4) hx hb dX8_isFrozenHour_33 (by decide) ?_
      refine lv_iconst (v := 2) hx hb dX8_isFrozenHour_34 (by decide) ?_
      refine lv_iload_n hx hb dX8_isFrozenHour_35 rfl (lv_at hl 3 rfl) ?_
      refine lv_imul hx hb dX8_isFrozenHour_36 ?_
      refine lv_iadd hx hb dX8_isFrozenHour_37 ?_
      refine lv_iconst (v := 1) hx hb dX8_isFrozenHour_38 (by decide) ?_
      refine lv_iadd hx hb dX8_isFrozenHour_39 ?_
      obtain ⟨v8, e9, hf⟩ := sr_bnd hf
      rw [e9]
      obtain ⟨g10, hf⟩ := sr_gd hf
      refine s_iald hX hV (n := 257) (ch_8_0 (h0)) (by decide) (inb_in g10) dX8_isFrozenHour_40 ?_
      refine lv_iconst (v := 1) hx hb dX8_isFrozenHour_41 (by decide) ?_
      refine lv_isub hx hb dX8_isFrozenHour_42 ?_
      obtain ⟨v12, e11, hf⟩ := sr_bnd hf
      refine s_callS1 hX hV hl.1 (c_X8_in  e11) cs_X8_in lk_717 ⟨rfl, rfl, Nat.le_of_ble_eq_true rfl, Nat.le_of_ble_eq_true rfl⟩ rfl rfl (Nat.le_of_ble_eq_true rfl) dX8_isFrozenHour_43 ⟨Nat.le_of_ble_eq_true rfl, Nat.le_of_ble_eq_true rfl⟩ (fun H locs hV => ?_)
      refine lv_if_eq (tgt := 53) hx hb dX8_isFrozenHour_46 (by decide) (fun c13 => ?_) (fun c13 => ?_)
      · have hf := sr_f hf (sr_b0 c13)
        refine lv_iconst (v := 0) hx hb dX8_isFrozenHour_53 (by decide) ?_
        refine lv_istore_n (lv' := [(2, .int 0), (0, .ref (n0 + q0)), (1, .int x1), (3, .int x3)]) hx hb dX8_isFrozenHour_54 rfl hl (by decide) rfl (fun ls hl => ?_)
        obtain ⟨v14, e15, hf⟩ := sr_bnd hf
        refine lv_iinc (v := v14) (lv' := [(3, .int v14), (2, .int 0), (0, .ref (n0 + q0)), (1, .int x1)]) hx hb dX8_isFrozenHour_55 hl (k := 3) rfl (by rw [← e15]; rfl) (by decide) rfl (fun ls hl => ?_)
        refine lv_goto (tgt := 4) hx hb dX8_isFrozenHour_58 (by decide) ?_
        exact hrec4 _ _ _ _ _  (lv_sub hl [2, 3, 1, 0] rfl) hV hf
      · have hf := sr_t hf (sr_b1 c13)
        refine lv_iconst (v := 1) hx hb dX8_isFrozenHour_49 (by decide) ?_
        refine lv_goto (tgt := 54) hx hb dX8_isFrozenHour_50 (by decide) ?_
        refine lv_istore_n (lv' := [(2, .int 1), (0, .ref (n0 + q0)), (1, .int x1), (3, .int x3)]) hx hb dX8_isFrozenHour_54 rfl hl (by decide) rfl (fun ls hl => ?_)
        obtain ⟨v16, e17, hf⟩ := sr_bnd hf
        refine lv_iinc (v := v16) (lv' := [(3, .int v16), (2, .int 1), (0, .ref (n0 + q0)), (1, .int x1)]) hx hb dX8_isFrozenHour_55 hl (k := 3) rfl (by rw [← e17]; rfl) (by decide) rfl (fun ls hl => ?_)
        refine lv_goto (tgt := 4) hx hb dX8_isFrozenHour_58 (by decide) ?_
        exact hrec4 _ _ _ _ _  (lv_sub hl [2, 3, 1, 0] rfl) hV hf
set_option maxHeartbeats 4000000 in
set_option maxRecDepth 100000 in
theorem k_X8_isFrozenHour_L4w {p : Program} {l : Launch} {e : Env} {s : State} {m : MethodId} {args : Array Value} {below : List Frame} {meth : Method} {c : Code} {D : va_G} {aC : Nat → ClassId} {n0 : Nat} {r : Bool} {σ : St} {q0 : Nat} {x1 : Int32} (hX : sr_X p s m args meth c cX8_isFrozenHour 4 (Option.some FieldType.boolean) RX8 D aC) (h0 : shM q0 = 9) (n : Nat) : ∀ (b2 : Bool) (x3 : Int32) (H : Heap) (locs : List Loc) (ls : Array Slot) , lv_has ls 4 [(0, .ref (n0 + q0)), (1, .int x1), (2, .int (bI b2)), (3, .int x3)] → sr_V D aC shM n0 σ s.heap H locs → it2 (f_X8_isFrozenHour_L4 σ q0 x1) n b2 x3 = some r → W p l e rm_X8_isFrozenHour s m args below meth c H locs 0 0 (MQ below (sr_Qc D aC shM n0 σ (some (.int (bI r)))) args s 0 0 (sr_A shM n0)) (F0 m 4 ls []) :=
  it2_ind (fun rec4 => ∀ (b2 : Bool) (x3 : Int32) (H : Heap) (locs : List Loc) (ls : Array Slot) , lv_has ls 4 [(0, .ref (n0 + q0)), (1, .int x1), (2, .int (bI b2)), (3, .int x3)] → sr_V D aC shM n0 σ s.heap H locs → rec4 b2 x3 = some r → W p l e rm_X8_isFrozenHour s m args below meth c H locs 0 0 (MQ below (sr_Qc D aC shM n0 σ (some (.int (bI r)))) args s 0 0 (sr_A shM n0)) (F0 m 4 ls [])) (by intros; rename_i hf; exact absurd hf (by simp)) (fun rec hrec => k_X8_isFrozenHour_L4 hX h0  rec hrec) n
set_option maxHeartbeats 4000000 in
set_option maxRecDepth 100000 in
theorem c_X8_isFrozenHour {l : Launch} {D : va_G} {aC : Nat → ClassId} {n0 : Nat} {r : Bool} {σ : St}  {q0 : Nat} {x1 : Int32} (h0 : shM q0 = 9) (hf : f_X8_isFrozenHour q0 x1 σ = some r) : sr_Met l D aC shM n0 yX8_isFrozenHour cX8_isFrozenHour 4 (Option.some FieldType.boolean) rm_X8_isFrozenHour [.ref (n0 + q0), .int x1] σ (some (.int (bI r))) σ := by
  refine s_met (own := RX8) (by decide) (Nat.le_of_ble_eq_true rfl) rfl ?_
  intro p e s m below meth c ls hX hV hl
  have hl : lv_has ls 4 [(0, .ref (n0 + q0)), (1, .int x1)] := hl
  have hx := hX.1.1
  have hb := hX.1.2.1
  unfold f_X8_isFrozenHour at hf
  refine lv_iconst (v := 0) hx hb dX8_isFrozenHour_0 (by decide) ?_
  refine lv_istore_n (lv' := [(2, .int 0), (0, .ref (n0 + q0)), (1, .int x1)]) hx hb dX8_isFrozenHour_1 rfl hl (by decide) rfl (fun ls hl => ?_)
  refine lv_iconst (v := 0) hx hb dX8_isFrozenHour_2 (by decide) ?_
  refine lv_istore_n (lv' := [(3, .int 0), (2, .int 0), (0, .ref (n0 + q0)), (1, .int x1)]) hx hb dX8_isFrozenHour_3 rfl hl (by decide) rfl (fun ls hl => ?_)
  exact k_X8_isFrozenHour_L4w hX h0  sr_fuel _ _ _ _ _  (lv_sub hl [2, 3, 1, 0] rfl) hV hf
abbrev rm_X8_hoursSince : Room := { frames := 2, cells := 0, slots := 0, locals := 43 }
theorem cv_X8_hoursSince : sr_Cv yX8_hoursSince cX8_hoursSince 3 (Option.some FieldType.int) RX8 1 := ⟨lk_893, lk_892, lp_39, lk_9, rfl, by decide +kernel, by decide +kernel, by decide +kernel⟩
set_option maxHeartbeats 4000000 in
set_option maxRecDepth 100000 in
theorem c_X8_hoursSince {l : Launch} {D : va_G} {aC : Nat → ClassId} {n0 : Nat} {r : Int32} {σ : St}  {q0 : Nat} {x1 : Int32} (h0 : shM q0 = 9) (hf : f_X8_hoursSince q0 x1 σ = some r) : sr_Met l D aC shM n0 yX8_hoursSince cX8_hoursSince 3 (Option.some FieldType.int) rm_X8_hoursSince [.ref (n0 + q0), .int x1] σ (some (.int r)) σ := by
  refine s_met (own := RX8) (by decide) (Nat.le_of_ble_eq_true rfl) rfl ?_
  intro p e s m below meth c ls hX hV hl
  have hl : lv_has ls 3 [(0, .ref (n0 + q0)), (1, .int x1)] := hl
  have hx := hX.1.1
  have hb := hX.1.2.1
  unfold f_X8_hoursSince at hf
  refine lv_aload_n hx hb dX8_hoursSince_0 rfl (lv_at hl 0 rfl) ?_
  refine fg_8_0 hX hV lk_666 (h0) dX8_hoursSince_1 ?_
  refine lv_iload_n hx hb dX8_hoursSince_4 rfl (lv_at hl 1 rfl) ?_
  refine lv_iconst (v := 3) hx hb dX8_hoursSince_5 (by decide) ?_
  obtain ⟨v2, e1, hf⟩ := sr_bnd hf
  refine s_callS1 hX hV hl.1 (c_X8_at  e1) cs_X8_at lk_740 ⟨rfl, rfl, Nat.le_of_ble_eq_true rfl, Nat.le_of_ble_eq_true rfl⟩ rfl rfl (Nat.le_of_ble_eq_true rfl) dX8_hoursSince_6 ⟨Nat.le_of_ble_eq_true rfl, Nat.le_of_ble_eq_true rfl⟩ (fun H locs hV => ?_)
  obtain ⟨g3, hf⟩ := sr_gd hf
  refine s_iald hX hV (n := 257) (ch_8_0 (h0)) (by decide) (inb_in g3) dX8_hoursSince_9 ?_
  obtain ⟨v4, e5, hf⟩ := sr_bnd hf
  rw [e5]
  refine lv_istore_n (lv' := [(2, .int v4), (0, .ref (n0 + q0)), (1, .int x1)]) hx hb dX8_hoursSince_10 rfl hl (by decide) rfl (fun ls hl => ?_)
  refine lv_iload_n hx hb dX8_hoursSince_11 rfl (lv_at hl 0 rfl) ?_
  refine lv_if_ne (tgt := 19) hx hb dX8_hoursSince_12 (by decide) (fun c6 => ?_) (fun c6 => ?_)
  · have hf := sr_f hf c6
    refine lv_aload_n hx hb dX8_hoursSince_19 rfl (lv_at hl 1 rfl) ?_
    refine fg_8_0 hX hV lk_666 (h0) dX8_hoursSince_20 ?_
    refine lv_iconst (v := 1) hx hb dX8_hoursSince_23 (by decide) ?_
    refine s_iald hX hV (n := 257) (ch_8_0 (h0)) (by decide) (by unfold vp_in; decide) dX8_hoursSince_24 ?_
    refine lv_aload_n hx hb dX8_hoursSince_25 rfl (lv_at hl 1 rfl) ?_
    refine fg_8_0 hX hV lk_666 (h0) dX8_hoursSince_26 ?_
    refine lv_iload_n hx hb dX8_hoursSince_29 rfl (lv_at hl 2 rfl) ?_
    refine lv_iload_n hx hb dX8_hoursSince_30 rfl (lv_at hl 0 rfl) ?_
    refine lv_iconst (v := 1) hx hb dX8_hoursSince_31 (by decide) ?_
    refine lv_isub hx hb dX8_hoursSince_32 ?_
    refine lv_iconst (v := 3) hx hb dX8_hoursSince_33 (by decide) ?_
    obtain ⟨v8, e7, hf⟩ := sr_bnd hf
    refine s_callS1 hX hV hl.1 (c_X8_stageAt  e7) cs_X8_stageAt lk_755 ⟨rfl, rfl, Nat.le_of_ble_eq_true rfl, Nat.le_of_ble_eq_true rfl⟩ rfl rfl (Nat.le_of_ble_eq_true rfl) dX8_hoursSince_34 ⟨Nat.le_of_ble_eq_true rfl, Nat.le_of_ble_eq_true rfl⟩ (fun H locs hV => ?_)
    obtain ⟨g9, hf⟩ := sr_gd hf
    refine s_iald hX hV (n := 257) (ch_8_0 (h0)) (by decide) (inb_in g9) dX8_hoursSince_37 ?_
    refine lv_isub hx hb dX8_hoursSince_38 ?_
    cases hf
    exact s_iret hX hV dX8_hoursSince_39
  · have hf := sr_t hf c6
    refine lv_iconst (v := 0) hx hb dX8_hoursSince_15 (by decide) ?_
    refine lv_goto (tgt := 39) hx hb dX8_hoursSince_16 (by decide) ?_
    cases hf
    exact s_iret hX hV dX8_hoursSince_39
abbrev rm_X8_lacks : Room := { frames := 4, cells := 0, slots := 0, locals := 88 }
theorem cv_X8_lacks : sr_Cv yX8_lacks cX8_lacks 5 (Option.some FieldType.boolean) RX8 1 := ⟨lk_897, lk_896, lp_40, lk_9, rfl, by decide +kernel, by decide +kernel, by decide +kernel⟩
set_option maxHeartbeats 4000000 in
set_option maxRecDepth 100000 in
theorem k_X8_lacks_B52 {p : Program} {l : Launch} {e : Env} {s : State} {m : MethodId} {args : Array Value} {below : List Frame} {meth : Method} {c : Code} {D : va_G} {aC : Nat → ClassId} {n0 : Nat} {r : Bool} {σ : St} {q0 : Nat} {x1 : Int32} (hX : sr_X p s m args meth c cX8_lacks 5 (Option.some FieldType.boolean) RX8 D aC) (h0 : shM q0 = 9) {x2 : Int32} {x3 : Int32} {sb0 : Bool}  {H : Heap} {locs : List Loc} {ls : Array Slot} (hl : lv_has ls 5 [(0, .ref (n0 + q0)), (2, .int x2), (3, .int x3)]) (hV : sr_V D aC shM n0 σ s.heap H locs) (hf : f_X8_lacks_B52 σ q0 x1 x2 x3 sb0 = some r) : W p l e rm_X8_lacks s m args below meth c H locs 0 0 (MQ below (sr_Qc D aC shM n0 σ (some (.int (bI r)))) args s 0 0 (sr_A shM n0)) (F0 m 52 ls [.int (bI sb0)]) := by
  have hx := hX.1.1
  have hb := hX.1.2.1
  unfold f_X8_lacks_B52 at hf
  refine lv_istore (lv' := [(4, .int (bI sb0)), (0, .ref (n0 + q0)), (2, .int x2), (3, .int x3)]) hx hb dX8_lacks_52 hl (by decide) rfl (fun ls hl => ?_)
  refine lv_aload_n hx hb dX8_lacks_54 rfl (lv_at hl 1 rfl) ?_
  refine fg_8_6 hX hV lk_672 (h0) dX8_lacks_55 ?_
  refine lv_if_ne (tgt := 110) hx hb dX8_lacks_58 (by decide) (fun c1 => ?_) (fun c1 => ?_)
  · have hf := sr_t hf (sr_b1 c1)
    refine lv_iconst (v := 0) hx hb dX8_lacks_110 (by decide) ?_
    cases hf
    exact s_zret (b := false) hX hV dX8_lacks_111
  · have hf := sr_f hf (sr_b0 c1)
    refine lv_aload_n hx hb dX8_lacks_61 rfl (lv_at hl 1 rfl) ?_
    refine fg_8_0 hX hV lk_666 (h0) dX8_lacks_62 ?_
    refine lv_iload_n hx hb dX8_lacks_65 rfl (lv_at hl 2 rfl) ?_
    obtain ⟨g2, hf⟩ := sr_gd hf
    refine s_iald hX hV (n := 257) (ch_8_0 (h0)) (by decide) (inb_in g2) dX8_lacks_66 ?_
    refine lv_aload_n hx hb dX8_lacks_67 rfl (lv_at hl 1 rfl) ?_
    refine fg_8_0 hX hV lk_666 (h0) dX8_lacks_68 ?_
    refine lv_iload_n hx hb dX8_lacks_71 rfl (lv_at hl 2 rfl) ?_
    refine lv_iconst (v := 1) hx hb dX8_lacks_72 (by decide) ?_
    refine lv_iadd hx hb dX8_lacks_73 ?_
    obtain ⟨v3, e4, hf⟩ := sr_bnd hf
    rw [e4]
    obtain ⟨g5, hf⟩ := sr_gd hf
    refine s_iald hX hV (n := 257) (ch_8_0 (h0)) (by decide) (inb_in g5) dX8_lacks_74 ?_
    refine lv_iadd hx hb dX8_lacks_75 ?_
    refine lv_iload_n hx hb dX8_lacks_76 rfl (lv_at hl 3 rfl) ?_
    refine lv_icmp_lt (tgt := 106) hx hb dX8_lacks_77 (by decide) (fun c6 => ?_) (fun c6 => ?_)
    · have hf := sr_t hf c6
      refine lv_iconst (v := 1) hx hb dX8_lacks_106 (by decide) ?_
      refine lv_goto (tgt := 111) hx hb dX8_lacks_107 (by decide) ?_
      cases hf
      exact s_zret (b := true) hX hV dX8_lacks_111
    · have hf := sr_f hf c6
      refine lv_iload hx hb dX8_lacks_80 (lv_at hl 0 rfl) ?_
      refine lv_if_ne (tgt := 110) hx hb dX8_lacks_82 (by decide) (fun c7 => ?_) (fun c7 => ?_)
      · have hf := sr_t hf (sr_b1 c7)
        refine lv_iconst (v := 0) hx hb dX8_lacks_110 (by decide) ?_
        cases hf
        exact s_zret (b := false) hX hV dX8_lacks_111
      · have hf := sr_f hf (sr_b0 c7)
        refine lv_aload_n hx hb dX8_lacks_85 rfl (lv_at hl 1 rfl) ?_
        refine fg_8_0 hX hV lk_666 (h0) dX8_lacks_86 ?_
        refine lv_iload_n hx hb dX8_lacks_89 rfl (lv_at hl 2 rfl) ?_
        refine lv_iconst (v := 2) hx hb dX8_lacks_90 (by decide) ?_
        refine lv_iadd hx hb dX8_lacks_91 ?_
        obtain ⟨v8, e9, hf⟩ := sr_bnd hf
        rw [e9]
        obtain ⟨g10, hf⟩ := sr_gd hf
        refine s_iald hX hV (n := 257) (ch_8_0 (h0)) (by decide) (inb_in g10) dX8_lacks_92 ?_
        refine lv_aload_n hx hb dX8_lacks_93 rfl (lv_at hl 1 rfl) ?_
        refine fg_8_0 hX hV lk_666 (h0) dX8_lacks_94 ?_
        refine lv_iload_n hx hb dX8_lacks_97 rfl (lv_at hl 2 rfl) ?_
        refine lv_iconst (v := 3) hx hb dX8_lacks_98 (by decide) ?_
        refine lv_iadd hx hb dX8_lacks_99 ?_
        obtain ⟨v11, e12, hf⟩ := sr_bnd hf
        rw [e12]
        obtain ⟨g13, hf⟩ := sr_gd hf
        refine s_iald hX hV (n := 257) (ch_8_0 (h0)) (by decide) (inb_in g13) dX8_lacks_100 ?_
        refine lv_iadd hx hb dX8_lacks_101 ?_
        refine lv_iload_n hx hb dX8_lacks_102 rfl (lv_at hl 3 rfl) ?_
        refine lv_icmp_ge (tgt := 110) hx hb dX8_lacks_103 (by decide) (fun c14 => ?_) (fun c14 => ?_)
        · have hf := sr_t hf c14
          refine lv_iconst (v := 0) hx hb dX8_lacks_110 (by decide) ?_
          cases hf
          exact s_zret (b := false) hX hV dX8_lacks_111
        · have hf := sr_f hf c14
          refine lv_iconst (v := 1) hx hb dX8_lacks_106 (by decide) ?_
          refine lv_goto (tgt := 111) hx hb dX8_lacks_107 (by decide) ?_
          cases hf
          exact s_zret (b := true) hX hV dX8_lacks_111
set_option maxHeartbeats 4000000 in
set_option maxRecDepth 100000 in
theorem c_X8_lacks {l : Launch} {D : va_G} {aC : Nat → ClassId} {n0 : Nat} {r : Bool} {σ : St}  {q0 : Nat} {x1 : Int32} (h0 : shM q0 = 9) (hf : f_X8_lacks q0 x1 σ = some r) : sr_Met l D aC shM n0 yX8_lacks cX8_lacks 5 (Option.some FieldType.boolean) rm_X8_lacks [.ref (n0 + q0), .int x1] σ (some (.int (bI r))) σ := by
  refine s_met (own := RX8) (by decide) (Nat.le_of_ble_eq_true rfl) rfl ?_
  intro p e s m below meth c ls hX hV hl
  have hl : lv_has ls 5 [(0, .ref (n0 + q0)), (1, .int x1)] := hl
  have hx := hX.1.1
  have hb := hX.1.2.1
  unfold f_X8_lacks at hf
  refine lv_iload_n hx hb dX8_lacks_0 rfl (lv_at hl 1 rfl) ?_
  refine lv_iconst (v := 5) hx hb dX8_lacks_1 (by decide) ?_
  obtain ⟨v16, e15, hf⟩ := sr_bnd hf
  refine s_callS1 hX hV hl.1 (c_X8_at  e15) cs_X8_at lk_740 ⟨rfl, rfl, Nat.le_of_ble_eq_true rfl, Nat.le_of_ble_eq_true rfl⟩ rfl rfl (Nat.le_of_ble_eq_true rfl) dX8_lacks_2 ⟨Nat.le_of_ble_eq_true rfl, Nat.le_of_ble_eq_true rfl⟩ (fun H locs hV => ?_)
  refine lv_istore_n (lv' := [(2, .int v16), (0, .ref (n0 + q0)), (1, .int x1)]) hx hb dX8_lacks_5 rfl hl (by decide) rfl (fun ls hl => ?_)
  refine lv_aload_n hx hb dX8_lacks_6 rfl (lv_at hl 1 rfl) ?_
  refine fg_8_0 hX hV lk_666 (h0) dX8_lacks_7 ?_
  refine lv_iload_n hx hb dX8_lacks_10 rfl (lv_at hl 2 rfl) ?_
  refine lv_aload_n hx hb dX8_lacks_11 rfl (lv_at hl 1 rfl) ?_
  refine fg_8_0 hX hV lk_666 (h0) dX8_lacks_12 ?_
  refine lv_iload_n hx hb dX8_lacks_15 rfl (lv_at hl 2 rfl) ?_
  refine lv_iconst (v := 3) hx hb dX8_lacks_16 (by decide) ?_
  obtain ⟨v18, e17, hf⟩ := sr_bnd hf
  refine s_callS1 hX hV hl.1 (c_X8_at  e17) cs_X8_at lk_740 ⟨rfl, rfl, Nat.le_of_ble_eq_true rfl, Nat.le_of_ble_eq_true rfl⟩ rfl rfl (Nat.le_of_ble_eq_true rfl) dX8_lacks_17 ⟨Nat.le_of_ble_eq_true rfl, Nat.le_of_ble_eq_true rfl⟩ (fun H locs hV => ?_)
  obtain ⟨g19, hf⟩ := sr_gd hf
  refine s_iald hX hV (n := 257) (ch_8_0 (h0)) (by decide) (inb_in g19) dX8_lacks_20 ?_
  refine lv_iconst (v := 1) hx hb dX8_lacks_21 (by decide) ?_
  refine lv_isub hx hb dX8_lacks_22 ?_
  refine lv_iconst (v := 2) hx hb dX8_lacks_23 (by decide) ?_
  obtain ⟨v21, e20, hf⟩ := sr_bnd hf
  refine s_callS1 hX hV hl.1 (c_X8_stageAt  e20) cs_X8_stageAt lk_755 ⟨rfl, rfl, Nat.le_of_ble_eq_true rfl, Nat.le_of_ble_eq_true rfl⟩ rfl rfl (Nat.le_of_ble_eq_true rfl) dX8_lacks_24 ⟨Nat.le_of_ble_eq_true rfl, Nat.le_of_ble_eq_true rfl⟩ (fun H locs hV => ?_)
  obtain ⟨g22, hf⟩ := sr_gd hf
  refine s_iald hX hV (n := 257) (ch_8_0 (h0)) (by decide) (inb_in g22) dX8_lacks_27 ?_
  obtain ⟨v23, e24, hf⟩ := sr_bnd hf
  rw [e24]
  refine lv_istore_n (lv' := [(3, .int v23), (2, .int v16), (0, .ref (n0 + q0)), (1, .int x1)]) hx hb dX8_lacks_28 rfl hl (by decide) rfl (fun ls hl => ?_)
  refine lv_aload_n hx hb dX8_lacks_29 rfl (lv_at hl 2 rfl) ?_
  refine lv_iload_n hx hb dX8_lacks_30 rfl (lv_at hl 3 rfl) ?_
  obtain ⟨v26, e25, hf⟩ := sr_obd hf
  refine s_callV1 (ci := 8) hX hV hl.1 (c_X8_reached (h0) e25) cv_X8_reached lk_853 ⟨rfl, rfl, Nat.le_of_ble_eq_true rfl, Nat.le_of_ble_eq_true rfl⟩ rfl (by decide) (h0) rfl rfl (Nat.le_of_ble_eq_true rfl) dX8_lacks_31 ⟨Nat.le_of_ble_eq_true rfl, Nat.le_of_ble_eq_true rfl⟩ (fun H locs hV => ?_)
  refine lv_iconst (v := 1) hx hb dX8_lacks_34 (by decide) ?_
  refine lv_aload_n hx hb dX8_lacks_35 rfl (lv_at hl 2 rfl) ?_
  refine fg_8_0 hX hV lk_666 (h0) dX8_lacks_36 ?_
  refine lv_iconst (v := 0) hx hb dX8_lacks_39 (by decide) ?_
  refine s_iald hX hV (n := 257) (ch_8_0 (h0)) (by decide) (by unfold vp_in; decide) dX8_lacks_40 ?_
  refine lv_ishl hx hb dX8_lacks_41 ?_
  refine lv_iconst (v := 1) hx hb dX8_lacks_42 (by decide) ?_
  refine lv_isub hx hb dX8_lacks_43 ?_
  refine lv_icmp_ne (tgt := 51) hx hb dX8_lacks_44 (by decide) (fun c27 => ?_) (fun c27 => ?_)
  · have hf := sr_f hf c27
    refine lv_iconst (v := 0) hx hb dX8_lacks_51 (by decide) ?_
    exact k_X8_lacks_B52 hX h0   (lv_sub hl [2, 1, 0] rfl) hV hf
  · have hf := sr_t hf c27
    refine lv_iconst (v := 1) hx hb dX8_lacks_47 (by decide) ?_
    refine lv_goto (tgt := 52) hx hb dX8_lacks_48 (by decide) ?_
    exact k_X8_lacks_B52 hX h0   (lv_sub hl [2, 1, 0] rfl) hV hf
abbrev rm_X8_areAllDone : Room := { frames := 1, cells := 0, slots := 0, locals := 21 }
theorem cv_X8_areAllDone : sr_Cv yX8_areAllDone cX8_areAllDone 4 (Option.some FieldType.boolean) RX8 1 := ⟨lk_905, lk_904, lp_42, lk_9, rfl, by decide +kernel, by decide +kernel, by decide +kernel⟩
set_option maxHeartbeats 4000000 in
set_option maxRecDepth 100000 in
theorem k_X8_areAllDone_L4 {p : Program} {l : Launch} {e : Env} {s : State} {m : MethodId} {args : Array Value} {below : List Frame} {meth : Method} {c : Code} {D : va_G} {aC : Nat → ClassId} {n0 : Nat} {r : Bool} {σ : St} {q0 : Nat} {x1 : Int32} (hX : sr_X p s m args meth c cX8_areAllDone 4 (Option.some FieldType.boolean) RX8 D aC) (h0 : shM q0 = 9) (rec4 : Bool → Int32 → Option Bool) (hrec4 : ∀ (b2 : Bool) (x3 : Int32) (H : Heap) (locs : List Loc) (ls : Array Slot) , lv_has ls 4 [(0, .ref (n0 + q0)), (1, .int x1), (2, .int (bI b2)), (3, .int x3)] → sr_V D aC shM n0 σ s.heap H locs → rec4 b2 x3 = some r → W p l e rm_X8_areAllDone s m args below meth c H locs 0 0 (MQ below (sr_Qc D aC shM n0 σ (some (.int (bI r)))) args s 0 0 (sr_A shM n0)) (F0 m 4 ls [])) : ∀ (b2 : Bool) (x3 : Int32) (H : Heap) (locs : List Loc) (ls : Array Slot) , lv_has ls 4 [(0, .ref (n0 + q0)), (1, .int x1), (2, .int (bI b2)), (3, .int x3)] → sr_V D aC shM n0 σ s.heap H locs → f_X8_areAllDone_L4 σ q0 x1 rec4 b2 x3 = some r → W p l e rm_X8_areAllDone s m args below meth c H locs 0 0 (MQ below (sr_Qc D aC shM n0 σ (some (.int (bI r)))) args s 0 0 (sr_A shM n0)) (F0 m 4 ls []) := by
  intro b2 x3 H locs ls  hl hV hf
  have hx := hX.1.1
  have hb := hX.1.2.1
  unfold f_X8_areAllDone_L4 at hf
  refine lv_iload_n hx hb dX8_areAllDone_4 rfl (lv_at hl 3 rfl) ?_
  refine lv_iconst (v := 5) hx hb dX8_areAllDone_5 (by decide) ?_
  refine lv_icmp_ge (tgt := 47) hx hb dX8_areAllDone_6 (by decide) (fun c1 => ?_) (fun c1 => ?_)
  · have hf := sr_t hf c1
    refine lv_iload_n hx hb dX8_areAllDone_47 rfl (lv_at hl 2 rfl) ?_
    cases hf
    exact s_zret hX hV dX8_areAllDone_48
  · have hf := sr_f hf c1
    refine lv_iload_n hx hb dX8_areAllDone_9 rfl (lv_at hl 2 rfl) ?_
    refine lv_if_eq (tgt := 39) hx hb dX8_areAllDone_10 (by decide) (fun c2 => ?_) (fun c2 => ?_)
    · have hf := sr_f hf (sr_b0 c2)
      refine lv_iconst (v := 0) hx hb dX8_areAllDone_39 (by decide) ?_
      refine lv_istore_n (lv' := [(2, .int 0), (0, .ref (n0 + q0)), (1, .int x1), (3, .int x3)]) hx hb dX8_areAllDone_40 rfl hl (by decide) rfl (fun ls hl => ?_)
      obtain ⟨v3, e4, hf⟩ := sr_bnd hf
      refine lv_iinc (v := v3) (lv' := [(3, .int v3), (2, .int 0), (0, .ref (n0 + q0)), (1, .int x1)]) hx hb dX8_areAllDone_41 hl (k := 3) rfl (by rw [← e4]; rfl) (by decide) rfl (fun ls hl => ?_)
      refine lv_goto (tgt := 4) hx hb dX8_areAllDone_44 (by decide) ?_
      exact hrec4 _ _ _ _ _  (lv_sub hl [2, 3, 1, 0] rfl) hV hf
    · have hf := sr_t hf (sr_b1 c2)
      refine lv_iload_n hx hb dX8_areAllDone_13 rfl (lv_at hl 1 rfl) ?_
      refine lv_iload_n hx hb dX8_areAllDone_14 rfl (lv_at hl 3 rfl) ?_
      refine lv_ishr hx hb dX8_areAllDone_15 ?_
      refine lv_iconst (v := 1) hx hb dX8_areAllDone_16 (by decide) ?_
      refine lv_iand hx hb dX8_areAllDone_17 ?_
      refine lv_if_eq (tgt := 35) hx hb dX8_areAllDone_18 (by decide) (fun c5 => ?_) (fun c5 => ?_)
      · have hf := sr_t hf c5
        refine lv_iconst (v := 1) hx hb dX8_areAllDone_35 (by decide) ?_
        refine lv_goto (tgt := 40) hx hb dX8_areAllDone_36 (by decide) ?_
        refine lv_istore_n (lv' := [(2, .int 1), (0, .ref (n0 + q0)), (1, .int x1), (3, .int x3)]) hx hb dX8_areAllDone_40 rfl hl (by decide) rfl (fun ls hl => ?_)
        obtain ⟨v6, e7, hf⟩ := sr_bnd hf
        refine lv_iinc (v := v6) (lv' := [(3, .int v6), (2, .int 1), (0, .ref (n0 + q0)), (1, .int x1)]) hx hb dX8_areAllDone_41 hl (k := 3) rfl (by rw [← e7]; rfl) (by decide) rfl (fun ls hl => ?_)
        refine lv_goto (tgt := 4) hx hb dX8_areAllDone_44 (by decide) ?_
        exact hrec4 _ _ _ _ _  (lv_sub hl [2, 3, 1, 0] rfl) hV hf
      · have hf := sr_f hf c5
        refine lv_aload_n hx hb dX8_areAllDone_21 rfl (lv_at hl 0 rfl) ?_
        refine fg_8_0 hX hV lk_666 (h0) dX8_areAllDone_22 ?_
        refine lv_iload_n hx hb dX8_areAllDone_25 rfl (lv_at hl 3 rfl) ?_
        refine lv_iconst (v := 1) hx hb dX8_areAllDone_26 (by decide) ?_
        obtain ⟨v9, e8, hf⟩ := sr_bnd hf
        refine s_callS1 hX hV hl.1 (c_X8_at  e8) cs_X8_at lk_740 ⟨rfl, rfl, Nat.le_of_ble_eq_true rfl, Nat.le_of_ble_eq_true rfl⟩ rfl rfl (Nat.le_of_ble_eq_true rfl) dX8_areAllDone_27 ⟨Nat.le_of_ble_eq_true rfl, Nat.le_of_ble_eq_true rfl⟩ (fun H locs hV => ?_)
        obtain ⟨g10, hf⟩ := sr_gd hf
        refine s_iald hX hV (n := 257) (ch_8_0 (h0)) (by decide) (inb_in g10) dX8_areAllDone_30 ?_
        refine lv_iconst (v := 3) hx hb dX8_areAllDone_31 (by decide) ?_
        refine lv_icmp_ne (tgt := 39) hx hb dX8_areAllDone_32 (by decide) (fun c11 => ?_) (fun c11 => ?_)
        · have hf := sr_f hf c11
          refine lv_iconst (v := 0) hx hb dX8_areAllDone_39 (by decide) ?_
          refine lv_istore_n (lv' := [(2, .int 0), (0, .ref (n0 + q0)), (1, .int x1), (3, .int x3)]) hx hb dX8_areAllDone_40 rfl hl (by decide) rfl (fun ls hl => ?_)
          obtain ⟨v12, e13, hf⟩ := sr_bnd hf
          refine lv_iinc (v := v12) (lv' := [(3, .int v12), (2, .int 0), (0, .ref (n0 + q0)), (1, .int x1)]) hx hb dX8_areAllDone_41 hl (k := 3) rfl (by rw [← e13]; rfl) (by decide) rfl (fun ls hl => ?_)
          refine lv_goto (tgt := 4) hx hb dX8_areAllDone_44 (by decide) ?_
          exact hrec4 _ _ _ _ _  (lv_sub hl [2, 3, 1, 0] rfl) hV hf
        · have hf := sr_t hf c11
          refine lv_iconst (v := 1) hx hb dX8_areAllDone_35 (by decide) ?_
          refine lv_goto (tgt := 40) hx hb dX8_areAllDone_36 (by decide) ?_
          refine lv_istore_n (lv' := [(2, .int 1), (0, .ref (n0 + q0)), (1, .int x1), (3, .int x3)]) hx hb dX8_areAllDone_40 rfl hl (by decide) rfl (fun ls hl => ?_)
          obtain ⟨v14, e15, hf⟩ := sr_bnd hf
          refine lv_iinc (v := v14) (lv' := [(3, .int v14), (2, .int 1), (0, .ref (n0 + q0)), (1, .int x1)]) hx hb dX8_areAllDone_41 hl (k := 3) rfl (by rw [← e15]; rfl) (by decide) rfl (fun ls hl => ?_)
          refine lv_goto (tgt := 4) hx hb dX8_areAllDone_44 (by decide) ?_
          exact hrec4 _ _ _ _ _  (lv_sub hl [2, 3, 1, 0] rfl) hV hf
set_option maxHeartbeats 4000000 in
set_option maxRecDepth 100000 in
theorem k_X8_areAllDone_L4w {p : Program} {l : Launch} {e : Env} {s : State} {m : MethodId} {args : Array Value} {below : List Frame} {meth : Method} {c : Code} {D : va_G} {aC : Nat → ClassId} {n0 : Nat} {r : Bool} {σ : St} {q0 : Nat} {x1 : Int32} (hX : sr_X p s m args meth c cX8_areAllDone 4 (Option.some FieldType.boolean) RX8 D aC) (h0 : shM q0 = 9) (n : Nat) : ∀ (b2 : Bool) (x3 : Int32) (H : Heap) (locs : List Loc) (ls : Array Slot) , lv_has ls 4 [(0, .ref (n0 + q0)), (1, .int x1), (2, .int (bI b2)), (3, .int x3)] → sr_V D aC shM n0 σ s.heap H locs → it2 (f_X8_areAllDone_L4 σ q0 x1) n b2 x3 = some r → W p l e rm_X8_areAllDone s m args below meth c H locs 0 0 (MQ below (sr_Qc D aC shM n0 σ (some (.int (bI r)))) args s 0 0 (sr_A shM n0)) (F0 m 4 ls []) :=
  it2_ind (fun rec4 => ∀ (b2 : Bool) (x3 : Int32) (H : Heap) (locs : List Loc) (ls : Array Slot) , lv_has ls 4 [(0, .ref (n0 + q0)), (1, .int x1), (2, .int (bI b2)), (3, .int x3)] → sr_V D aC shM n0 σ s.heap H locs → rec4 b2 x3 = some r → W p l e rm_X8_areAllDone s m args below meth c H locs 0 0 (MQ below (sr_Qc D aC shM n0 σ (some (.int (bI r)))) args s 0 0 (sr_A shM n0)) (F0 m 4 ls [])) (by intros; rename_i hf; exact absurd hf (by simp)) (fun rec hrec => k_X8_areAllDone_L4 hX h0  rec hrec) n
set_option maxHeartbeats 4000000 in
set_option maxRecDepth 100000 in
theorem c_X8_areAllDone {l : Launch} {D : va_G} {aC : Nat → ClassId} {n0 : Nat} {r : Bool} {σ : St}  {q0 : Nat} {x1 : Int32} (h0 : shM q0 = 9) (hf : f_X8_areAllDone q0 x1 σ = some r) : sr_Met l D aC shM n0 yX8_areAllDone cX8_areAllDone 4 (Option.some FieldType.boolean) rm_X8_areAllDone [.ref (n0 + q0), .int x1] σ (some (.int (bI r))) σ := by
  refine s_met (own := RX8) (by decide) (Nat.le_of_ble_eq_true rfl) rfl ?_
  intro p e s m below meth c ls hX hV hl
  have hl : lv_has ls 4 [(0, .ref (n0 + q0)), (1, .int x1)] := hl
  have hx := hX.1.1
  have hb := hX.1.2.1
  unfold f_X8_areAllDone at hf
  refine lv_iconst (v := 1) hx hb dX8_areAllDone_0 (by decide) ?_
  refine lv_istore_n (lv' := [(2, .int 1), (0, .ref (n0 + q0)), (1, .int x1)]) hx hb dX8_areAllDone_1 rfl hl (by decide) rfl (fun ls hl => ?_)
  refine lv_iconst (v := 0) hx hb dX8_areAllDone_2 (by decide) ?_
  refine lv_istore_n (lv' := [(3, .int 0), (2, .int 1), (0, .ref (n0 + q0)), (1, .int x1)]) hx hb dX8_areAllDone_3 rfl hl (by decide) rfl (fun ls hl => ?_)
  exact k_X8_areAllDone_L4w hX h0  sr_fuel _ _ _ _ _  (lv_sub hl [2, 3, 1, 0] rfl) hV hf
abbrev rm_X8_isOtherRisk : Room := { frames := 1, cells := 0, slots := 0, locals := 22 }
theorem cv_X8_isOtherRisk : sr_Cv yX8_isOtherRisk cX8_isOtherRisk 6 (Option.some FieldType.boolean) RX8 1 := ⟨lk_909, lk_908, lp_43, lk_9, rfl, by decide +kernel, by decide +kernel, by decide +kernel⟩
set_option maxHeartbeats 4000000 in
set_option maxRecDepth 100000 in
theorem k_X8_isOtherRisk_B48 {p : Program} {l : Launch} {e : Env} {s : State} {m : MethodId} {args : Array Value} {below : List Frame} {meth : Method} {c : Code} {D : va_G} {aC : Nat → ClassId} {n0 : Nat} {r : Bool} {σ : St} {q0 : Nat} {x1 : Int32} (hX : sr_X p s m args meth c cX8_isOtherRisk 6 (Option.some FieldType.boolean) RX8 D aC) (h0 : shM q0 = 9) {rec4 : Bool → Int32 → Option Bool} (hrec4 : ∀ (b2 : Bool) (x3 : Int32) (H : Heap) (locs : List Loc) (ls : Array Slot) , lv_has ls 6 [(0, .ref (n0 + q0)), (1, .int x1), (2, .int (bI b2)), (3, .int x3)] → sr_V D aC shM n0 σ s.heap H locs → rec4 b2 x3 = some r → W p l e rm_X8_isOtherRisk s m args below meth c H locs 0 0 (MQ below (sr_Qc D aC shM n0 σ (some (.int (bI r)))) args s 0 0 (sr_A shM n0)) (F0 m 4 ls [])) {b2 : Bool} {x3 : Int32} {sb0 : Bool}  {H : Heap} {locs : List Loc} {ls : Array Slot} (hl : lv_has ls 6 [(0, .ref (n0 + q0)), (1, .int x1), (2, .int (bI b2)), (3, .int x3)]) (hV : sr_V D aC shM n0 σ s.heap H locs) (hf : f_X8_isOtherRisk_B48 σ q0 x1 rec4 b2 x3 sb0 = some r) : W p l e rm_X8_isOtherRisk s m args below meth c H locs 0 0 (MQ below (sr_Qc D aC shM n0 σ (some (.int (bI r)))) args s 0 0 (sr_A shM n0)) (F0 m 48 ls [.int (bI sb0)]) := by
  have hx := hX.1.1
  have hb := hX.1.2.1
  unfold f_X8_isOtherRisk_B48 at hf
  refine lv_istore (lv' := [(5, .int (bI sb0)), (0, .ref (n0 + q0)), (1, .int x1), (2, .int (bI b2)), (3, .int x3)]) hx hb dX8_isOtherRisk_48 hl (by decide) rfl (fun ls hl => ?_)
  refine lv_iload_n hx hb dX8_isOtherRisk_50 rfl (lv_at hl 3 rfl) ?_
  refine lv_if_ne (tgt := 91) hx hb dX8_isOtherRisk_51 (by decide) (fun c1 => ?_) (fun c1 => ?_)
  · have hf := sr_t hf (sr_b1 c1)
    refine lv_iconst (v := 1) hx hb dX8_isOtherRisk_91 (by decide) ?_
    refine lv_goto (tgt := 96) hx hb dX8_isOtherRisk_92 (by decide) ?_
    refine lv_istore_n (lv' := [(2, .int 1), (5, .int (bI sb0)), (0, .ref (n0 + q0)), (1, .int x1), (3, .int x3)]) hx hb dX8_isOtherRisk_96 rfl hl (by decide) rfl (fun ls hl => ?_)
    obtain ⟨v2, e3, hf⟩ := sr_bnd hf
    refine lv_iinc (v := v2) (lv' := [(3, .int v2), (2, .int 1), (5, .int (bI sb0)), (0, .ref (n0 + q0)), (1, .int x1)]) hx hb dX8_isOtherRisk_97 hl (k := 4) rfl (by rw [← e3]; rfl) (by decide) rfl (fun ls hl => ?_)
    refine lv_goto (tgt := 4) hx hb dX8_isOtherRisk_100 (by decide) ?_
    exact hrec4 _ _ _ _ _  (lv_sub hl [3, 4, 1, 0] rfl) hV hf
  · have hf := sr_f hf (sr_b0 c1)
    refine lv_iload_n hx hb dX8_isOtherRisk_54 rfl (lv_at hl 4 rfl) ?_
    refine lv_iload_n hx hb dX8_isOtherRisk_55 rfl (lv_at hl 2 rfl) ?_
    refine lv_icmp_eq (tgt := 95) hx hb dX8_isOtherRisk_56 (by decide) (fun c4 => ?_) (fun c4 => ?_)
    · have hf := sr_t hf c4
      refine lv_iconst (v := 0) hx hb dX8_isOtherRisk_95 (by decide) ?_
      refine lv_istore_n (lv' := [(2, .int 0), (5, .int (bI sb0)), (0, .ref (n0 + q0)), (1, .int x1), (3, .int x3)]) hx hb dX8_isOtherRisk_96 rfl hl (by decide) rfl (fun ls hl => ?_)
      obtain ⟨v5, e6, hf⟩ := sr_bnd hf
      refine lv_iinc (v := v5) (lv' := [(3, .int v5), (2, .int 0), (5, .int (bI sb0)), (0, .ref (n0 + q0)), (1, .int x1)]) hx hb dX8_isOtherRisk_97 hl (k := 4) rfl (by rw [← e6]; rfl) (by decide) rfl (fun ls hl => ?_)
      refine lv_goto (tgt := 4) hx hb dX8_isOtherRisk_100 (by decide) ?_
      exact hrec4 _ _ _ _ _  (lv_sub hl [3, 4, 1, 0] rfl) hV hf
    · have hf := sr_f hf c4
      refine lv_aload_n hx hb dX8_isOtherRisk_59 rfl (lv_at hl 1 rfl) ?_
      refine fg_8_0 hX hV lk_666 (h0) dX8_isOtherRisk_60 ?_
      refine lv_iload_n hx hb dX8_isOtherRisk_63 rfl (lv_at hl 4 rfl) ?_
      refine lv_iconst (v := 0) hx hb dX8_isOtherRisk_64 (by decide) ?_
      obtain ⟨v8, e7, hf⟩ := sr_bnd hf
      refine s_callS1 hX hV hl.1 (c_X8_at  e7) cs_X8_at lk_740 ⟨rfl, rfl, Nat.le_of_ble_eq_true rfl, Nat.le_of_ble_eq_true rfl⟩ rfl rfl (Nat.le_of_ble_eq_true rfl) dX8_isOtherRisk_65 ⟨Nat.le_of_ble_eq_true rfl, Nat.le_of_ble_eq_true rfl⟩ (fun H locs hV => ?_)
      obtain ⟨g9, hf⟩ := sr_gd hf
      refine s_iald hX hV (n := 257) (ch_8_0 (h0)) (by decide) (inb_in g9) dX8_isOtherRisk_68 ?_
      refine lv_iconst (v := 1) hx hb dX8_isOtherRisk_69 (by decide) ?_
      refine lv_icmp_ne (tgt := 95) hx hb dX8_isOtherRisk_70 (by decide) (fun c10 => ?_) (fun c10 => ?_)
      · have hf := sr_f hf c10
        refine lv_iconst (v := 0) hx hb dX8_isOtherRisk_95 (by decide) ?_
        refine lv_istore_n (lv' := [(2, .int 0), (5, .int (bI sb0)), (0, .ref (n0 + q0)), (1, .int x1), (3, .int x3)]) hx hb dX8_isOtherRisk_96 rfl hl (by decide) rfl (fun ls hl => ?_)
        obtain ⟨v11, e12, hf⟩ := sr_bnd hf
        refine lv_iinc (v := v11) (lv' := [(3, .int v11), (2, .int 0), (5, .int (bI sb0)), (0, .ref (n0 + q0)), (1, .int x1)]) hx hb dX8_isOtherRisk_97 hl (k := 4) rfl (by rw [← e12]; rfl) (by decide) rfl (fun ls hl => ?_)
        refine lv_goto (tgt := 4) hx hb dX8_isOtherRisk_100 (by decide) ?_
        exact hrec4 _ _ _ _ _  (lv_sub hl [3, 4, 1, 0] rfl) hV hf
      · have hf := sr_t hf c10
        refine lv_iload hx hb dX8_isOtherRisk_73 (lv_at hl 0 rfl) ?_
        refine lv_if_eq (tgt := 95) hx hb dX8_isOtherRisk_75 (by decide) (fun c13 => ?_) (fun c13 => ?_)
        · have hf := sr_f hf (sr_b0 c13)
          refine lv_iconst (v := 0) hx hb dX8_isOtherRisk_95 (by decide) ?_
          refine lv_istore_n (lv' := [(2, .int 0), (5, .int (bI sb0)), (0, .ref (n0 + q0)), (1, .int x1), (3, .int x3)]) hx hb dX8_isOtherRisk_96 rfl hl (by decide) rfl (fun ls hl => ?_)
          obtain ⟨v14, e15, hf⟩ := sr_bnd hf
          refine lv_iinc (v := v14) (lv' := [(3, .int v14), (2, .int 0), (5, .int (bI sb0)), (0, .ref (n0 + q0)), (1, .int x1)]) hx hb dX8_isOtherRisk_97 hl (k := 4) rfl (by rw [← e15]; rfl) (by decide) rfl (fun ls hl => ?_)
          refine lv_goto (tgt := 4) hx hb dX8_isOtherRisk_100 (by decide) ?_
          exact hrec4 _ _ _ _ _  (lv_sub hl [3, 4, 1, 0] rfl) hV hf
        · have hf := sr_t hf (sr_b1 c13)
          refine lv_aload_n hx hb dX8_isOtherRisk_78 rfl (lv_at hl 1 rfl) ?_
          refine fg_8_0 hX hV lk_666 (h0) dX8_isOtherRisk_79 ?_
          refine lv_iload_n hx hb dX8_isOtherRisk_82 rfl (lv_at hl 4 rfl) ?_
          refine lv_iconst (v := 3) hx hb dX8_isOtherRisk_83 (by decide) ?_
          obtain ⟨v17, e16, hf⟩ := sr_bnd hf
          refine s_callS1 hX hV hl.1 (c_X8_at  e16) cs_X8_at lk_740 ⟨rfl, rfl, Nat.le_of_ble_eq_true rfl, Nat.le_of_ble_eq_true rfl⟩ rfl rfl (Nat.le_of_ble_eq_true rfl) dX8_isOtherRisk_84 ⟨Nat.le_of_ble_eq_true rfl, Nat.le_of_ble_eq_true rfl⟩ (fun H locs hV => ?_)
          obtain ⟨g18, hf⟩ := sr_gd hf
          refine s_iald hX hV (n := 257) (ch_8_0 (h0)) (by decide) (inb_in g18) dX8_isOtherRisk_87 ?_
          refine lv_if_le (tgt := 95) hx hb dX8_isOtherRisk_88 (by decide) (fun c19 => ?_) (fun c19 => ?_)
          · have hf := sr_t hf c19
            refine lv_iconst (v := 0) hx hb dX8_isOtherRisk_95 (by decide) ?_
            refine lv_istore_n (lv' := [(2, .int 0), (5, .int (bI sb0)), (0, .ref (n0 + q0)), (1, .int x1), (3, .int x3)]) hx hb dX8_isOtherRisk_96 rfl hl (by decide) rfl (fun ls hl => ?_)
            obtain ⟨v20, e21, hf⟩ := sr_bnd hf
            refine lv_iinc (v := v20) (lv' := [(3, .int v20), (2, .int 0), (5, .int (bI sb0)), (0, .ref (n0 + q0)), (1, .int x1)]) hx hb dX8_isOtherRisk_97 hl (k := 4) rfl (by rw [← e21]; rfl) (by decide) rfl (fun ls hl => ?_)
            refine lv_goto (tgt := 4) hx hb dX8_isOtherRisk_100 (by decide) ?_
            exact hrec4 _ _ _ _ _  (lv_sub hl [3, 4, 1, 0] rfl) hV hf
          · have hf := sr_f hf c19
            refine lv_iconst (v := 1) hx hb dX8_isOtherRisk_91 (by decide) ?_
            refine lv_goto (tgt := 96) hx hb dX8_isOtherRisk_92 (by decide) ?_
            refine lv_istore_n (lv' := [(2, .int 1), (5, .int (bI sb0)), (0, .ref (n0 + q0)), (1, .int x1), (3, .int x3)]) hx hb dX8_isOtherRisk_96 rfl hl (by decide) rfl (fun ls hl => ?_)
            obtain ⟨v22, e23, hf⟩ := sr_bnd hf
            refine lv_iinc (v := v22) (lv' := [(3, .int v22), (2, .int 1), (5, .int (bI sb0)), (0, .ref (n0 + q0)), (1, .int x1)]) hx hb dX8_isOtherRisk_97 hl (k := 4) rfl (by rw [← e23]; rfl) (by decide) rfl (fun ls hl => ?_)
            refine lv_goto (tgt := 4) hx hb dX8_isOtherRisk_100 (by decide) ?_
            exact hrec4 _ _ _ _ _  (lv_sub hl [3, 4, 1, 0] rfl) hV hf
set_option maxHeartbeats 4000000 in
set_option maxRecDepth 100000 in
theorem k_X8_isOtherRisk_L4 {p : Program} {l : Launch} {e : Env} {s : State} {m : MethodId} {args : Array Value} {below : List Frame} {meth : Method} {c : Code} {D : va_G} {aC : Nat → ClassId} {n0 : Nat} {r : Bool} {σ : St} {q0 : Nat} {x1 : Int32} (hX : sr_X p s m args meth c cX8_isOtherRisk 6 (Option.some FieldType.boolean) RX8 D aC) (h0 : shM q0 = 9) (rec4 : Bool → Int32 → Option Bool) (hrec4 : ∀ (b2 : Bool) (x3 : Int32) (H : Heap) (locs : List Loc) (ls : Array Slot) , lv_has ls 6 [(0, .ref (n0 + q0)), (1, .int x1), (2, .int (bI b2)), (3, .int x3)] → sr_V D aC shM n0 σ s.heap H locs → rec4 b2 x3 = some r → W p l e rm_X8_isOtherRisk s m args below meth c H locs 0 0 (MQ below (sr_Qc D aC shM n0 σ (some (.int (bI r)))) args s 0 0 (sr_A shM n0)) (F0 m 4 ls [])) : ∀ (b2 : Bool) (x3 : Int32) (H : Heap) (locs : List Loc) (ls : Array Slot) , lv_has ls 6 [(0, .ref (n0 + q0)), (1, .int x1), (2, .int (bI b2)), (3, .int x3)] → sr_V D aC shM n0 σ s.heap H locs → f_X8_isOtherRisk_L4 σ q0 x1 rec4 b2 x3 = some r → W p l e rm_X8_isOtherRisk s m args below meth c H locs 0 0 (MQ below (sr_Qc D aC shM n0 σ (some (.int (bI r)))) args s 0 0 (sr_A shM n0)) (F0 m 4 ls []) := by
  intro b2 x3 H locs ls  hl hV hf
  have hx := hX.1.1
  have hb := hX.1.2.1
  unfold f_X8_isOtherRisk_L4 at hf
  refine lv_iload_n hx hb dX8_isOtherRisk_4 rfl (lv_at hl 3 rfl) ?_
  refine lv_aload_n hx hb dX8_isOtherRisk_5 rfl (lv_at hl 0 rfl) ?_
  refine fg_8_0 hX hV lk_666 (h0) dX8_isOtherRisk_6 ?_
  refine lv_bipush (v := 10) hx hb dX8_isOtherRisk_9 (by decide) ?_
  refine s_iald hX hV (n := 257) (ch_8_0 (h0)) (by decide) (by unfold vp_in; decide) dX8_isOtherRisk_11 ?_
  refine lv_icmp_ge (tgt := 103) hx hb dX8_isOtherRisk_12 (by decide) (fun c24 => ?_) (fun c24 => ?_)
  · have hf := sr_t hf c24
    refine lv_iload_n hx hb dX8_isOtherRisk_103 rfl (lv_at hl 2 rfl) ?_
    refine lv_if_eq (tgt := 125) hx hb dX8_isOtherRisk_104 (by decide) (fun c25 => ?_) (fun c25 => ?_)
    · have hf := sr_f hf (sr_b0 c25)
      refine lv_iconst (v := 0) hx hb dX8_isOtherRisk_125 (by decide) ?_
      cases hf
      exact s_zret (b := false) hX hV dX8_isOtherRisk_126
    · have hf := sr_t hf (sr_b1 c25)
      refine lv_aload_n hx hb dX8_isOtherRisk_107 rfl (lv_at hl 0 rfl) ?_
      refine fg_8_0 hX hV lk_666 (h0) dX8_isOtherRisk_108 ?_
      refine lv_iload_n hx hb dX8_isOtherRisk_111 rfl (lv_at hl 1 rfl) ?_
      refine lv_iconst (v := 0) hx hb dX8_isOtherRisk_112 (by decide) ?_
      obtain ⟨v27, e26, hf⟩ := sr_bnd hf
      refine s_callS1 hX hV hl.1 (c_X8_at  e26) cs_X8_at lk_740 ⟨rfl, rfl, Nat.le_of_ble_eq_true rfl, Nat.le_of_ble_eq_true rfl⟩ rfl rfl (Nat.le_of_ble_eq_true rfl) dX8_isOtherRisk_113 ⟨Nat.le_of_ble_eq_true rfl, Nat.le_of_ble_eq_true rfl⟩ (fun H locs hV => ?_)
      obtain ⟨g28, hf⟩ := sr_gd hf
      refine s_iald hX hV (n := 257) (ch_8_0 (h0)) (by decide) (inb_in g28) dX8_isOtherRisk_116 ?_
      refine lv_iconst (v := 1) hx hb dX8_isOtherRisk_117 (by decide) ?_
      refine lv_icmp_ne (tgt := 125) hx hb dX8_isOtherRisk_118 (by decide) (fun c29 => ?_) (fun c29 => ?_)
      · have hf := sr_f hf c29
        refine lv_iconst (v := 0) hx hb dX8_isOtherRisk_125 (by decide) ?_
        cases hf
        exact s_zret (b := false) hX hV dX8_isOtherRisk_126
      · have hf := sr_t hf c29
        refine lv_iconst (v := 1) hx hb dX8_isOtherRisk_121 (by decide) ?_
        refine lv_goto (tgt := 126) hx hb dX8_isOtherRisk_122 (by decide) ?_
        cases hf
        exact s_zret (b := true) hX hV dX8_isOtherRisk_126
  · have hf := sr_f hf c24
    refine lv_aload_n hx hb dX8_isOtherRisk_15 rfl (lv_at hl 0 rfl) ?_
    refine fg_8_0 hX hV lk_666 (h0) dX8_isOtherRisk_16 ?_
    refine lv_iload_n hx hb dX8_isOtherRisk_19 rfl (lv_at hl 3 rfl) ?_
    refine lv_iconst (v := 1) hx hb dX8_isOtherRisk_20 (by decide) ?_
    obtain ⟨v31, e30, hf⟩ := sr_bnd hf
    refine s_callS1 hX hV hl.1 (c_X8_at  e30) cs_X8_at lk_740 ⟨rfl, rfl, Nat.le_of_ble_eq_true rfl, Nat.le_of_ble_eq_true rfl⟩ rfl rfl (Nat.le_of_ble_eq_true rfl) dX8_isOtherRisk_21 ⟨Nat.le_of_ble_eq_true rfl, Nat.le_of_ble_eq_true rfl⟩ (fun H locs hV => ?_)
    obtain ⟨g32, hf⟩ := sr_gd hf
    refine s_iald hX hV (n := 257) (ch_8_0 (h0)) (by decide) (inb_in g32) dX8_isOtherRisk_24 ?_
    obtain ⟨v33, e34, hf⟩ := sr_bnd hf
    rw [e34]
    refine lv_istore (lv' := [(4, .int v33), (0, .ref (n0 + q0)), (1, .int x1), (2, .int (bI b2)), (3, .int x3)]) hx hb dX8_isOtherRisk_25 hl (by decide) rfl (fun ls hl => ?_)
    refine lv_iload hx hb dX8_isOtherRisk_27 (lv_at hl 0 rfl) ?_
    refine lv_iconst (v := 1) hx hb dX8_isOtherRisk_29 (by decide) ?_
    refine lv_iconst (v := 2) hx hb dX8_isOtherRisk_30 (by decide) ?_
    obtain ⟨v36, e35, hf⟩ := sr_bnd hf
    refine s_callS1 hX hV hl.1 (c_X8_in  e35) cs_X8_in lk_717 ⟨rfl, rfl, Nat.le_of_ble_eq_true rfl, Nat.le_of_ble_eq_true rfl⟩ rfl rfl (Nat.le_of_ble_eq_true rfl) dX8_isOtherRisk_31 ⟨Nat.le_of_ble_eq_true rfl, Nat.le_of_ble_eq_true rfl⟩ (fun H locs hV => ?_)
    refine lv_if_ne (tgt := 43) hx hb dX8_isOtherRisk_34 (by decide) (fun c37 => ?_) (fun c37 => ?_)
    · have hf := sr_t hf (sr_b1 c37)
      refine lv_iconst (v := 1) hx hb dX8_isOtherRisk_43 (by decide) ?_
      refine lv_goto (tgt := 48) hx hb dX8_isOtherRisk_44 (by decide) ?_
      exact k_X8_isOtherRisk_B48 hX h0 hrec4  (lv_sub hl [1, 2, 3, 4] rfl) hV hf
    · have hf := sr_f hf (sr_b0 c37)
      refine lv_iload hx hb dX8_isOtherRisk_37 (lv_at hl 0 rfl) ?_
      refine lv_iconst (v := 4) hx hb dX8_isOtherRisk_39 (by decide) ?_
      refine lv_icmp_ne (tgt := 47) hx hb dX8_isOtherRisk_40 (by decide) (fun c38 => ?_) (fun c38 => ?_)
      · have hf := sr_f hf c38
        refine lv_iconst (v := 0) hx hb dX8_isOtherRisk_47 (by decide) ?_
        exact k_X8_isOtherRisk_B48 hX h0 hrec4  (lv_sub hl [1, 2, 3, 4] rfl) hV hf
      · have hf := sr_t hf c38
        refine lv_iconst (v := 1) hx hb dX8_isOtherRisk_43 (by decide) ?_
        refine lv_goto (tgt := 48) hx hb dX8_isOtherRisk_44 (by decide) ?_
        exact k_X8_isOtherRisk_B48 hX h0 hrec4  (lv_sub hl [1, 2, 3, 4] rfl) hV hf
set_option maxHeartbeats 4000000 in
set_option maxRecDepth 100000 in
theorem k_X8_isOtherRisk_L4w {p : Program} {l : Launch} {e : Env} {s : State} {m : MethodId} {args : Array Value} {below : List Frame} {meth : Method} {c : Code} {D : va_G} {aC : Nat → ClassId} {n0 : Nat} {r : Bool} {σ : St} {q0 : Nat} {x1 : Int32} (hX : sr_X p s m args meth c cX8_isOtherRisk 6 (Option.some FieldType.boolean) RX8 D aC) (h0 : shM q0 = 9) (n : Nat) : ∀ (b2 : Bool) (x3 : Int32) (H : Heap) (locs : List Loc) (ls : Array Slot) , lv_has ls 6 [(0, .ref (n0 + q0)), (1, .int x1), (2, .int (bI b2)), (3, .int x3)] → sr_V D aC shM n0 σ s.heap H locs → it2 (f_X8_isOtherRisk_L4 σ q0 x1) n b2 x3 = some r → W p l e rm_X8_isOtherRisk s m args below meth c H locs 0 0 (MQ below (sr_Qc D aC shM n0 σ (some (.int (bI r)))) args s 0 0 (sr_A shM n0)) (F0 m 4 ls []) :=
  it2_ind (fun rec4 => ∀ (b2 : Bool) (x3 : Int32) (H : Heap) (locs : List Loc) (ls : Array Slot) , lv_has ls 6 [(0, .ref (n0 + q0)), (1, .int x1), (2, .int (bI b2)), (3, .int x3)] → sr_V D aC shM n0 σ s.heap H locs → rec4 b2 x3 = some r → W p l e rm_X8_isOtherRisk s m args below meth c H locs 0 0 (MQ below (sr_Qc D aC shM n0 σ (some (.int (bI r)))) args s 0 0 (sr_A shM n0)) (F0 m 4 ls [])) (by intros; rename_i hf; exact absurd hf (by simp)) (fun rec hrec => k_X8_isOtherRisk_L4 hX h0  rec hrec) n
set_option maxHeartbeats 4000000 in
set_option maxRecDepth 100000 in
theorem c_X8_isOtherRisk {l : Launch} {D : va_G} {aC : Nat → ClassId} {n0 : Nat} {r : Bool} {σ : St}  {q0 : Nat} {x1 : Int32} (h0 : shM q0 = 9) (hf : f_X8_isOtherRisk q0 x1 σ = some r) : sr_Met l D aC shM n0 yX8_isOtherRisk cX8_isOtherRisk 6 (Option.some FieldType.boolean) rm_X8_isOtherRisk [.ref (n0 + q0), .int x1] σ (some (.int (bI r))) σ := by
  refine s_met (own := RX8) (by decide) (Nat.le_of_ble_eq_true rfl) rfl ?_
  intro p e s m below meth c ls hX hV hl
  have hl : lv_has ls 6 [(0, .ref (n0 + q0)), (1, .int x1)] := hl
  have hx := hX.1.1
  have hb := hX.1.2.1
  unfold f_X8_isOtherRisk at hf
  refine lv_iconst (v := 0) hx hb dX8_isOtherRisk_0 (by decide) ?_
  refine lv_istore_n (lv' := [(2, .int 0), (0, .ref (n0 + q0)), (1, .int x1)]) hx hb dX8_isOtherRisk_1 rfl hl (by decide) rfl (fun ls hl => ?_)
  refine lv_iconst (v := 0) hx hb dX8_isOtherRisk_2 (by decide) ?_
  refine lv_istore_n (lv' := [(3, .int 0), (2, .int 0), (0, .ref (n0 + q0)), (1, .int x1)]) hx hb dX8_isOtherRisk_3 rfl hl (by decide) rfl (fun ls hl => ?_)
  exact k_X8_isOtherRisk_L4w hX h0  sr_fuel _ _ _ _ _  (lv_sub hl [2, 3, 1, 0] rfl) hV hf
abbrev rm_X8_reason : Room := { frames := 5, cells := 0, slots := 0, locals := 112 }
theorem cv_X8_reason : sr_Cv yX8_reason cX8_reason 4 (Option.some FieldType.int) RX8 1 := ⟨lk_889, lk_888, lp_38, lk_9, rfl, by decide +kernel, by decide +kernel, by decide +kernel⟩
set_option maxHeartbeats 4000000 in
set_option maxRecDepth 100000 in
theorem k_X8_reason_B149 {p : Program} {l : Launch} {e : Env} {s : State} {m : MethodId} {args : Array Value} {below : List Frame} {meth : Method} {c : Code} {D : va_G} {aC : Nat → ClassId} {n0 : Nat} {r : Int32} {σ : St} {q0 : Nat} {x1 : Int32} (hX : sr_X p s m args meth c cX8_reason 4 (Option.some FieldType.int) RX8 D aC) (h0 : shM q0 = 9) {x3 : Int32}  {H : Heap} {locs : List Loc} {ls : Array Slot} (hl : lv_has ls 4 [(0, .ref (n0 + q0)), (1, .int x1), (3, .int x3)]) (hV : sr_V D aC shM n0 σ s.heap H locs) (hf : f_X8_reason_B149 σ q0 x1 x3 = some r) : W p l e rm_X8_reason s m args below meth c H locs 0 0 (MQ below (sr_Qc D aC shM n0 σ (some (.int r))) args s 0 0 (sr_A shM n0)) (F0 m 149 ls []) := by
  have hx := hX.1.1
  have hb := hX.1.2.1
  unfold f_X8_reason_B149 at hf
  refine lv_iload_n hx hb dX8_reason_149 rfl (lv_at hl 2 rfl) ?_
  refine lv_if_ne (tgt := 166) hx hb dX8_reason_150 (by decide) (fun c1 => ?_) (fun c1 => ?_)
  · have hf := sr_f hf c1
    refine lv_iconst (v := 0) hx hb dX8_reason_166 (by decide) ?_
    cases hf
    exact s_iret hX hV dX8_reason_167
  · have hf := sr_t hf c1
    refine lv_aload_n hx hb dX8_reason_153 rfl (lv_at hl 0 rfl) ?_
    refine lv_iload_n hx hb dX8_reason_154 rfl (lv_at hl 1 rfl) ?_
    obtain ⟨v3, e2, hf⟩ := sr_obd hf
    refine s_callV1 (ci := 8) hX hV hl.1 (c_X8_isOtherRisk (h0) e2) cv_X8_isOtherRisk lk_906 ⟨rfl, rfl, Nat.le_of_ble_eq_true rfl, Nat.le_of_ble_eq_true rfl⟩ rfl (by decide) (h0) rfl rfl (Nat.le_of_ble_eq_true rfl) dX8_reason_155 ⟨Nat.le_of_ble_eq_true rfl, Nat.le_of_ble_eq_true rfl⟩ (fun H locs hV => ?_)
    refine lv_if_eq (tgt := 166) hx hb dX8_reason_158 (by decide) (fun c4 => ?_) (fun c4 => ?_)
    · have hf := sr_f hf (sr_b0 c4)
      refine lv_iconst (v := 0) hx hb dX8_reason_166 (by decide) ?_
      cases hf
      exact s_iret hX hV dX8_reason_167
    · have hf := sr_t hf (sr_b1 c4)
      refine lv_bipush (v := 8) hx hb dX8_reason_161 (by decide) ?_
      refine lv_goto (tgt := 167) hx hb dX8_reason_163 (by decide) ?_
      cases hf
      exact s_iret hX hV dX8_reason_167
set_option maxHeartbeats 4000000 in
set_option maxRecDepth 100000 in
theorem k_X8_reason_B125 {p : Program} {l : Launch} {e : Env} {s : State} {m : MethodId} {args : Array Value} {below : List Frame} {meth : Method} {c : Code} {D : va_G} {aC : Nat → ClassId} {n0 : Nat} {r : Int32} {σ : St} {q0 : Nat} {x1 : Int32} (hX : sr_X p s m args meth c cX8_reason 4 (Option.some FieldType.int) RX8 D aC) (h0 : shM q0 = 9) {x3 : Int32}  {H : Heap} {locs : List Loc} {ls : Array Slot} (hl : lv_has ls 4 [(0, .ref (n0 + q0)), (1, .int x1), (3, .int x3)]) (hV : sr_V D aC shM n0 σ s.heap H locs) (hf : f_X8_reason_B125 σ q0 x1 x3 = some r) : W p l e rm_X8_reason s m args below meth c H locs 0 0 (MQ below (sr_Qc D aC shM n0 σ (some (.int r))) args s 0 0 (sr_A shM n0)) (F0 m 125 ls []) := by
  have hx := hX.1.1
  have hb := hX.1.2.1
  unfold f_X8_reason_B125 at hf
  refine lv_iload_n hx hb dX8_reason_125 rfl (lv_at hl 2 rfl) ?_
  refine lv_if_ne (tgt := 149) hx hb dX8_reason_126 (by decide) (fun c5 => ?_) (fun c5 => ?_)
  · have hf := sr_f hf c5
    exact k_X8_reason_B149 hX h0   (lv_sub hl [0, 1, 2] rfl) hV hf
  · have hf := sr_t hf c5
    refine lv_aload_n hx hb dX8_reason_129 rfl (lv_at hl 0 rfl) ?_
    refine lv_aload_n hx hb dX8_reason_130 rfl (lv_at hl 0 rfl) ?_
    refine fg_8_0 hX hV lk_666 (h0) dX8_reason_131 ?_
    refine lv_iload_n hx hb dX8_reason_134 rfl (lv_at hl 1 rfl) ?_
    refine lv_iconst (v := 4) hx hb dX8_reason_135 (by decide) ?_
    obtain ⟨v7, e6, hf⟩ := sr_bnd hf
    refine s_callS1 hX hV hl.1 (c_X8_at  e6) cs_X8_at lk_740 ⟨rfl, rfl, Nat.le_of_ble_eq_true rfl, Nat.le_of_ble_eq_true rfl⟩ rfl rfl (Nat.le_of_ble_eq_true rfl) dX8_reason_136 ⟨Nat.le_of_ble_eq_true rfl, Nat.le_of_ble_eq_true rfl⟩ (fun H locs hV => ?_)
    obtain ⟨g8, hf⟩ := sr_gd hf
    refine s_iald hX hV (n := 257) (ch_8_0 (h0)) (by decide) (inb_in g8) dX8_reason_139 ?_
    obtain ⟨v10, e9, hf⟩ := sr_obd hf
    refine s_callV1 (ci := 8) hX hV hl.1 (c_X8_areAllDone (h0) e9) cv_X8_areAllDone lk_902 ⟨rfl, rfl, Nat.le_of_ble_eq_true rfl, Nat.le_of_ble_eq_true rfl⟩ rfl (by decide) (h0) rfl rfl (Nat.le_of_ble_eq_true rfl) dX8_reason_140 ⟨Nat.le_of_ble_eq_true rfl, Nat.le_of_ble_eq_true rfl⟩ (fun H locs hV => ?_)
    refine lv_if_ne (tgt := 149) hx hb dX8_reason_143 (by decide) (fun c11 => ?_) (fun c11 => ?_)
    · have hf := sr_t hf (sr_b1 c11)
      exact k_X8_reason_B149 hX h0   (lv_sub hl [0, 1, 2] rfl) hV hf
    · have hf := sr_f hf (sr_b0 c11)
      refine lv_bipush (v := 7) hx hb dX8_reason_146 (by decide) ?_
      cases hf
      exact s_iret hX hV dX8_reason_148
set_option maxHeartbeats 4000000 in
set_option maxRecDepth 100000 in
theorem k_X8_reason_B91 {p : Program} {l : Launch} {e : Env} {s : State} {m : MethodId} {args : Array Value} {below : List Frame} {meth : Method} {c : Code} {D : va_G} {aC : Nat → ClassId} {n0 : Nat} {r : Int32} {σ : St} {q0 : Nat} {x1 : Int32} (hX : sr_X p s m args meth c cX8_reason 4 (Option.some FieldType.int) RX8 D aC) (h0 : shM q0 = 9) {x3 : Int32}  {H : Heap} {locs : List Loc} {ls : Array Slot} (hl : lv_has ls 4 [(0, .ref (n0 + q0)), (1, .int x1), (3, .int x3)]) (hV : sr_V D aC shM n0 σ s.heap H locs) (hf : f_X8_reason_B91 σ q0 x1 x3 = some r) : W p l e rm_X8_reason s m args below meth c H locs 0 0 (MQ below (sr_Qc D aC shM n0 σ (some (.int r))) args s 0 0 (sr_A shM n0)) (F0 m 91 ls []) := by
  have hx := hX.1.1
  have hb := hX.1.2.1
  unfold f_X8_reason_B91 at hf
  refine lv_iload_n hx hb dX8_reason_91 rfl (lv_at hl 2 rfl) ?_
  refine lv_aload_n hx hb dX8_reason_92 rfl (lv_at hl 0 rfl) ?_
  refine fg_8_0 hX hV lk_666 (h0) dX8_reason_93 ?_
  refine lv_iload_n hx hb dX8_reason_96 rfl (lv_at hl 1 rfl) ?_
  refine lv_iconst (v := 2) hx hb dX8_reason_97 (by decide) ?_
  obtain ⟨v13, e12, hf⟩ := sr_bnd hf
  refine s_callS1 hX hV hl.1 (c_X8_at  e12) cs_X8_at lk_740 ⟨rfl, rfl, Nat.le_of_ble_eq_true rfl, Nat.le_of_ble_eq_true rfl⟩ rfl rfl (Nat.le_of_ble_eq_true rfl) dX8_reason_98 ⟨Nat.le_of_ble_eq_true rfl, Nat.le_of_ble_eq_true rfl⟩ (fun H locs hV => ?_)
  obtain ⟨g14, hf⟩ := sr_gd hf
  refine s_iald hX hV (n := 257) (ch_8_0 (h0)) (by decide) (inb_in g14) dX8_reason_101 ?_
  refine lv_icmp_ge (tgt := 125) hx hb dX8_reason_102 (by decide) (fun c15 => ?_) (fun c15 => ?_)
  · have hf := sr_t hf c15
    exact k_X8_reason_B125 hX h0   (lv_sub hl [0, 1, 2] rfl) hV hf
  · have hf := sr_f hf c15
    refine lv_aload_n hx hb dX8_reason_105 rfl (lv_at hl 0 rfl) ?_
    refine lv_aload_n hx hb dX8_reason_106 rfl (lv_at hl 0 rfl) ?_
    refine fg_8_0 hX hV lk_666 (h0) dX8_reason_107 ?_
    refine lv_iconst (v := 1) hx hb dX8_reason_110 (by decide) ?_
    refine s_iald hX hV (n := 257) (ch_8_0 (h0)) (by decide) (by unfold vp_in; decide) dX8_reason_111 ?_
    refine lv_sipush (v := 168) hx hb dX8_reason_112 (by decide) ?_
    refine lv_irem hx hb dX8_reason_115 (by decide) ?_
    change W _ _ _ _ _ _ _ _ _ _ _ _ _ _ _ (F0 m 116 ls (.int (irm (gI σ (q0 + 1) (Int32.toNatClampNeg 1)) 168) :: _))
    obtain ⟨v17, e16, hf⟩ := sr_obd hf
    refine s_callV1 (ci := 8) hX hV hl.1 (c_X8_isFrozenHour (h0) e16) cv_X8_isFrozenHour lk_898 ⟨rfl, rfl, Nat.le_of_ble_eq_true rfl, Nat.le_of_ble_eq_true rfl⟩ rfl (by decide) (h0) rfl rfl (Nat.le_of_ble_eq_true rfl) dX8_reason_116 ⟨Nat.le_of_ble_eq_true rfl, Nat.le_of_ble_eq_true rfl⟩ (fun H locs hV => ?_)
    refine lv_if_eq (tgt := 125) hx hb dX8_reason_119 (by decide) (fun c18 => ?_) (fun c18 => ?_)
    · have hf := sr_f hf (sr_b0 c18)
      exact k_X8_reason_B125 hX h0   (lv_sub hl [0, 1, 2] rfl) hV hf
    · have hf := sr_t hf (sr_b1 c18)
      refine lv_bipush (v := 6) hx hb dX8_reason_122 (by decide) ?_
      cases hf
      exact s_iret hX hV dX8_reason_124
set_option maxHeartbeats 4000000 in
set_option maxRecDepth 100000 in
theorem k_X8_reason_B77 {p : Program} {l : Launch} {e : Env} {s : State} {m : MethodId} {args : Array Value} {below : List Frame} {meth : Method} {c : Code} {D : va_G} {aC : Nat → ClassId} {n0 : Nat} {r : Int32} {σ : St} {q0 : Nat} {x1 : Int32} (hX : sr_X p s m args meth c cX8_reason 4 (Option.some FieldType.int) RX8 D aC) (h0 : shM q0 = 9) {x3 : Int32}  {H : Heap} {locs : List Loc} {ls : Array Slot} (hl : lv_has ls 4 [(0, .ref (n0 + q0)), (1, .int x1), (3, .int x3)]) (hV : sr_V D aC shM n0 σ s.heap H locs) (hf : f_X8_reason_B77 σ q0 x1 x3 = some r) : W p l e rm_X8_reason s m args below meth c H locs 0 0 (MQ below (sr_Qc D aC shM n0 σ (some (.int r))) args s 0 0 (sr_A shM n0)) (F0 m 77 ls []) := by
  have hx := hX.1.1
  have hb := hX.1.2.1
  unfold f_X8_reason_B77 at hf
  refine lv_iload_n hx hb dX8_reason_77 rfl (lv_at hl 2 rfl) ?_
  refine lv_if_le (tgt := 91) hx hb dX8_reason_78 (by decide) (fun c19 => ?_) (fun c19 => ?_)
  · have hf := sr_t hf c19
    exact k_X8_reason_B91 hX h0   (lv_sub hl [0, 1, 2] rfl) hV hf
  · have hf := sr_f hf c19
    refine lv_aload_n hx hb dX8_reason_81 rfl (lv_at hl 0 rfl) ?_
    refine lv_iload_n hx hb dX8_reason_82 rfl (lv_at hl 1 rfl) ?_
    obtain ⟨v21, e20, hf⟩ := sr_obd hf
    refine s_callV1 (ci := 8) hX hV hl.1 (c_X8_lacks (h0) e20) cv_X8_lacks lk_894 ⟨rfl, rfl, Nat.le_of_ble_eq_true rfl, Nat.le_of_ble_eq_true rfl⟩ rfl (by decide) (h0) rfl rfl (Nat.le_of_ble_eq_true rfl) dX8_reason_83 ⟨Nat.le_of_ble_eq_true rfl, Nat.le_of_ble_eq_true rfl⟩ (fun H locs hV => ?_)
    refine lv_if_eq (tgt := 91) hx hb dX8_reason_86 (by decide) (fun c22 => ?_) (fun c22 => ?_)
    · have hf := sr_f hf (sr_b0 c22)
      exact k_X8_reason_B91 hX h0   (lv_sub hl [0, 1, 2] rfl) hV hf
    · have hf := sr_t hf (sr_b1 c22)
      refine lv_iconst (v := 5) hx hb dX8_reason_89 (by decide) ?_
      cases hf
      exact s_iret hX hV dX8_reason_90
set_option maxHeartbeats 4000000 in
set_option maxRecDepth 100000 in
theorem c_X8_reason {l : Launch} {D : va_G} {aC : Nat → ClassId} {n0 : Nat} {r : Int32} {σ : St}  {q0 : Nat} {x1 : Int32} (h0 : shM q0 = 9) (hf : f_X8_reason q0 x1 σ = some r) : sr_Met l D aC shM n0 yX8_reason cX8_reason 4 (Option.some FieldType.int) rm_X8_reason [.ref (n0 + q0), .int x1] σ (some (.int r)) σ := by
  refine s_met (own := RX8) (by decide) (Nat.le_of_ble_eq_true rfl) rfl ?_
  intro p e s m below meth c ls hX hV hl
  have hl : lv_has ls 4 [(0, .ref (n0 + q0)), (1, .int x1)] := hl
  have hx := hX.1.1
  have hb := hX.1.2.1
  unfold f_X8_reason at hf
  refine lv_aload_n hx hb dX8_reason_0 rfl (lv_at hl 0 rfl) ?_
  refine fg_8_0 hX hV lk_666 (h0) dX8_reason_1 ?_
  refine lv_iload_n hx hb dX8_reason_4 rfl (lv_at hl 1 rfl) ?_
  refine lv_iconst (v := 1) hx hb dX8_reason_5 (by decide) ?_
  obtain ⟨v24, e23, hf⟩ := sr_bnd hf
  refine s_callS1 hX hV hl.1 (c_X8_at  e23) cs_X8_at lk_740 ⟨rfl, rfl, Nat.le_of_ble_eq_true rfl, Nat.le_of_ble_eq_true rfl⟩ rfl rfl (Nat.le_of_ble_eq_true rfl) dX8_reason_6 ⟨Nat.le_of_ble_eq_true rfl, Nat.le_of_ble_eq_true rfl⟩ (fun H locs hV => ?_)
  obtain ⟨g25, hf⟩ := sr_gd hf
  refine s_iald hX hV (n := 257) (ch_8_0 (h0)) (by decide) (inb_in g25) dX8_reason_9 ?_
  obtain ⟨v26, e27, hf⟩ := sr_bnd hf
  rw [e27]
  refine lv_istore_n (lv' := [(2, .int v26), (0, .ref (n0 + q0)), (1, .int x1)]) hx hb dX8_reason_10 rfl hl (by decide) rfl (fun ls hl => ?_)
  refine lv_aload_n hx hb dX8_reason_11 rfl (lv_at hl 1 rfl) ?_
  refine fg_8_0 hX hV lk_666 (h0) dX8_reason_12 ?_
  refine lv_iload_n hx hb dX8_reason_15 rfl (lv_at hl 2 rfl) ?_
  refine lv_iconst (v := 3) hx hb dX8_reason_16 (by decide) ?_
  obtain ⟨v29, e28, hf⟩ := sr_bnd hf
  refine s_callS1 hX hV hl.1 (c_X8_at  e28) cs_X8_at lk_740 ⟨rfl, rfl, Nat.le_of_ble_eq_true rfl, Nat.le_of_ble_eq_true rfl⟩ rfl rfl (Nat.le_of_ble_eq_true rfl) dX8_reason_17 ⟨Nat.le_of_ble_eq_true rfl, Nat.le_of_ble_eq_true rfl⟩ (fun H locs hV => ?_)
  obtain ⟨g30, hf⟩ := sr_gd hf
  refine s_iald hX hV (n := 257) (ch_8_0 (h0)) (by decide) (inb_in g30) dX8_reason_20 ?_
  obtain ⟨v31, e32, hf⟩ := sr_bnd hf
  rw [e32]
  refine lv_istore_n (lv' := [(3, .int v31), (2, .int v26), (0, .ref (n0 + q0)), (1, .int x1)]) hx hb dX8_reason_21 rfl hl (by decide) rfl (fun ls hl => ?_)
  refine lv_iload_n hx hb dX8_reason_22 rfl (lv_at hl 1 rfl) ?_
  refine lv_iconst (v := 4) hx hb dX8_reason_23 (by decide) ?_
  refine lv_icmp_eq (tgt := 32) hx hb dX8_reason_24 (by decide) (fun c33 => ?_) (fun c33 => ?_)
  · have hf := sr_t hf c33
    refine lv_iload_n hx hb dX8_reason_32 rfl (lv_at hl 1 rfl) ?_
    refine lv_iconst (v := 4) hx hb dX8_reason_33 (by decide) ?_
    refine lv_icmp_ne (tgt := 41) hx hb dX8_reason_34 (by decide) (fun c34 => ?_) (fun c34 => ?_)
    · have hf := sr_f hf c34
      refine lv_iconst (v := 3) hx hb dX8_reason_41 (by decide) ?_
      cases hf
      exact s_iret hX hV dX8_reason_42
    · have hf := sr_t hf c34
      refine lv_iconst (v := 2) hx hb dX8_reason_37 (by decide) ?_
      refine lv_goto (tgt := 42) hx hb dX8_reason_38 (by decide) ?_
      cases hf
      exact s_iret hX hV dX8_reason_42
  · have hf := sr_f hf c33
    refine lv_iload_n hx hb dX8_reason_27 rfl (lv_at hl 1 rfl) ?_
    refine lv_iconst (v := 2) hx hb dX8_reason_28 (by decide) ?_
    refine lv_icmp_ne (tgt := 43) hx hb dX8_reason_29 (by decide) (fun c35 => ?_) (fun c35 => ?_)
    · have hf := sr_f hf c35
      refine lv_iload_n hx hb dX8_reason_43 rfl (lv_at hl 1 rfl) ?_
      refine lv_iconst (v := 1) hx hb dX8_reason_44 (by decide) ?_
      refine lv_icmp_eq (tgt := 50) hx hb dX8_reason_45 (by decide) (fun c36 => ?_) (fun c36 => ?_)
      · have hf := sr_t hf c36
        refine lv_iload_n hx hb dX8_reason_50 rfl (lv_at hl 0 rfl) ?_
        refine lv_if_le (tgt := 77) hx hb dX8_reason_51 (by decide) (fun c37 => ?_) (fun c37 => ?_)
        · have hf := sr_t hf c37
          exact k_X8_reason_B77 hX h0   (lv_sub hl [2, 3, 0] rfl) hV hf
        · have hf := sr_f hf c37
          refine lv_aload_n hx hb dX8_reason_54 rfl (lv_at hl 2 rfl) ?_
          refine lv_iload_n hx hb dX8_reason_55 rfl (lv_at hl 3 rfl) ?_
          obtain ⟨v39, e38, hf⟩ := sr_obd hf
          refine s_callV1 (ci := 8) hX hV hl.1 (c_X8_hoursSince (h0) e38) cv_X8_hoursSince lk_890 ⟨rfl, rfl, Nat.le_of_ble_eq_true rfl, Nat.le_of_ble_eq_true rfl⟩ rfl (by decide) (h0) rfl rfl (Nat.le_of_ble_eq_true rfl) dX8_reason_56 ⟨Nat.le_of_ble_eq_true rfl, Nat.le_of_ble_eq_true rfl⟩ (fun H locs hV => ?_)
          refine lv_aload_n hx hb dX8_reason_59 rfl (lv_at hl 2 rfl) ?_
          refine fg_8_0 hX hV lk_666 (h0) dX8_reason_60 ?_
          refine lv_iload_n hx hb dX8_reason_63 rfl (lv_at hl 3 rfl) ?_
          refine lv_iload_n hx hb dX8_reason_64 rfl (lv_at hl 0 rfl) ?_
          refine lv_iconst (v := 1) hx hb dX8_reason_65 (by decide) ?_
          refine lv_isub hx hb dX8_reason_66 ?_
          refine lv_iconst (v := 1) hx hb dX8_reason_67 (by decide) ?_
          obtain ⟨v41, e40, hf⟩ := sr_bnd hf
          refine s_callS1 hX hV hl.1 (c_X8_stageAt  e40) cs_X8_stageAt lk_755 ⟨rfl, rfl, Nat.le_of_ble_eq_true rfl, Nat.le_of_ble_eq_true rfl⟩ rfl rfl (Nat.le_of_ble_eq_true rfl) dX8_reason_68 ⟨Nat.le_of_ble_eq_true rfl, Nat.le_of_ble_eq_true rfl⟩ (fun H locs hV => ?_)
          obtain ⟨g42, hf⟩ := sr_gd hf
          refine s_iald hX hV (n := 257) (ch_8_0 (h0)) (by decide) (inb_in g42) dX8_reason_71 ?_
          refine lv_icmp_ge (tgt := 77) hx hb dX8_reason_72 (by decide) (fun c43 => ?_) (fun c43 => ?_)
          · have hf := sr_t hf c43
            exact k_X8_reason_B77 hX h0   (lv_sub hl [2, 3, 0] rfl) hV hf
          · have hf := sr_f hf c43
            refine lv_iconst (v := 4) hx hb dX8_reason_75 (by decide) ?_
            cases hf
            exact s_iret hX hV dX8_reason_76
      · have hf := sr_f hf c36
        refine lv_iconst (v := 1) hx hb dX8_reason_48 (by decide) ?_
        cases hf
        exact s_iret hX hV dX8_reason_49
    · have hf := sr_t hf c35
      refine lv_iload_n hx hb dX8_reason_32 rfl (lv_at hl 1 rfl) ?_
      refine lv_iconst (v := 4) hx hb dX8_reason_33 (by decide) ?_
      refine lv_icmp_ne (tgt := 41) hx hb dX8_reason_34 (by decide) (fun c44 => ?_) (fun c44 => ?_)
      · have hf := sr_f hf c44
        refine lv_iconst (v := 3) hx hb dX8_reason_41 (by decide) ?_
        cases hf
        exact s_iret hX hV dX8_reason_42
      · have hf := sr_t hf c44
        refine lv_iconst (v := 2) hx hb dX8_reason_37 (by decide) ?_
        refine lv_goto (tgt := 42) hx hb dX8_reason_38 (by decide) ?_
        cases hf
        exact s_iret hX hV dX8_reason_42
