abbrev rm_X5_parseStage : Room := { frames := 4, cells := 0, slots := 0, locals := 91 }
theorem cv_X5_parseStage : sr_Cv yX5_parseStage cX5_parseStage 5 (Option.some FieldType.boolean) RX5 1 := ⟨lk_345, lk_344, lp_0, lk_8, rfl, by decide +kernel, by decide +kernel, by decide +kernel⟩
set_option maxHeartbeats 4000000 in
set_option maxRecDepth 100000 in
theorem c_X5_parseStage {l : Launch} {D : va_G} {aC : Nat → ClassId} {n0 : Nat} {r : Bool} {σ' : St}  {σ : St} {q0 : Nat} {x1 : Int32} (h0 : shC q0 = 6) (hf : f_X5_parseStage q0 x1 σ = some (r, σ')) : sr_Met l D aC shC n0 yX5_parseStage cX5_parseStage 5 (Option.some FieldType.boolean) rm_X5_parseStage [.ref (n0 + q0), .int x1] σ (some (.int (bI r))) σ' := by
  refine s_met (own := RX5) (by decide) (Nat.le_of_ble_eq_true rfl) rfl ?_
  intro p e s m below meth c ls hX hV hl
  have hl : lv_has ls 5 [(0, .ref (n0 + q0)), (1, .int x1)] := hl
  have hx := hX.1.1
  have hb := hX.1.2.1
  unfold f_X5_parseStage at hf
  refine lv_aload_n hx hb dX5_parseStage_0 rfl (lv_at hl 0 rfl) ?_
  refine lv_iload_n hx hb dX5_parseStage_1 rfl (lv_at hl 1 rfl) ?_
  obtain ⟨v2, σ3, e1, hf⟩ := sr_ob2 hf
  refine s_callV1 (ci := 5) hX hV hl.1 (c_X5_parseCells (h0) e1) cv_X5_parseCells lk_346 ⟨rfl, rfl, Nat.le_of_ble_eq_true rfl, Nat.le_of_ble_eq_true rfl⟩ rfl (by decide) (h0) rfl rfl (Nat.le_of_ble_eq_true rfl) dX5_parseStage_2 ⟨Nat.le_of_ble_eq_true rfl, Nat.le_of_ble_eq_true rfl⟩ (fun H locs hV => ?_)
  refine lv_istore_n (lv' := [(2, .int v2), (0, .ref (n0 + q0)), (1, .int x1)]) hx hb dX5_parseStage_5 rfl hl (by decide) rfl (fun ls hl => ?_)
  refine lv_iload_n hx hb dX5_parseStage_6 rfl (lv_at hl 0 rfl) ?_
  refine lv_if_eq (tgt := 19) hx hb dX5_parseStage_7 (by decide) (fun c4 => ?_) (fun c4 => ?_)
  · have hf := sr_t hf c4
    refine lv_iconst (v := 0) hx hb dX5_parseStage_19 (by decide) ?_
    cases hf
    exact s_zret (b := false) hX hV dX5_parseStage_20
  · have hf := sr_f hf c4
    refine lv_aload_n hx hb dX5_parseStage_10 rfl (lv_at hl 1 rfl) ?_
    refine lv_bipush (v := 58) hx hb dX5_parseStage_11 (by decide) ?_
    obtain ⟨v6, σ7, e5, hf⟩ := sr_ob2 hf
    refine s_callV1 (ci := 5) hX hV hl.1 (c_X5_skip (h0) e5) cv_X5_skip lk_360 ⟨rfl, rfl, Nat.le_of_ble_eq_true rfl, Nat.le_of_ble_eq_true rfl⟩ rfl (by decide) (h0) rfl rfl (Nat.le_of_ble_eq_true rfl) dX5_parseStage_13 ⟨Nat.le_of_ble_eq_true rfl, Nat.le_of_ble_eq_true rfl⟩ (fun H locs hV => ?_)
    refine lv_if_ne (tgt := 21) hx hb dX5_parseStage_16 (by decide) (fun c8 => ?_) (fun c8 => ?_)
    · have hf := sr_t hf (sr_b1 c8)
      refine lv_aload_n hx hb dX5_parseStage_21 rfl (lv_at hl 1 rfl) ?_
      refine lv_bipush (v := 48) hx hb dX5_parseStage_22 (by decide) ?_
      obtain ⟨v10, σ11, e9, hf⟩ := sr_ob2 hf
      refine s_callV1 (ci := 5) hX hV hl.1 (c_X5_parseNumber (h0) e9) cv_X5_parseNumber lk_364 ⟨rfl, rfl, Nat.le_of_ble_eq_true rfl, Nat.le_of_ble_eq_true rfl⟩ rfl (by decide) (h0) rfl rfl (Nat.le_of_ble_eq_true rfl) dX5_parseStage_24 ⟨Nat.le_of_ble_eq_true rfl, Nat.le_of_ble_eq_true rfl⟩ (fun H locs hV => ?_)
      refine lv_istore_n (lv' := [(3, .int v10), (2, .int v2), (0, .ref (n0 + q0)), (1, .int x1)]) hx hb dX5_parseStage_27 rfl hl (by decide) rfl (fun ls hl => ?_)
      refine lv_iload_n hx hb dX5_parseStage_28 rfl (lv_at hl 0 rfl) ?_
      refine lv_if_lt (tgt := 41) hx hb dX5_parseStage_29 (by decide) (fun c12 => ?_) (fun c12 => ?_)
      · have hf := sr_t hf c12
        refine lv_iconst (v := 0) hx hb dX5_parseStage_41 (by decide) ?_
        cases hf
        exact s_zret (b := false) hX hV dX5_parseStage_42
      · have hf := sr_f hf c12
        refine lv_aload_n hx hb dX5_parseStage_32 rfl (lv_at hl 2 rfl) ?_
        refine lv_bipush (v := 47) hx hb dX5_parseStage_33 (by decide) ?_
        obtain ⟨v14, σ15, e13, hf⟩ := sr_ob2 hf
        refine s_callV1 (ci := 5) hX hV hl.1 (c_X5_skip (h0) e13) cv_X5_skip lk_360 ⟨rfl, rfl, Nat.le_of_ble_eq_true rfl, Nat.le_of_ble_eq_true rfl⟩ rfl (by decide) (h0) rfl rfl (Nat.le_of_ble_eq_true rfl) dX5_parseStage_35 ⟨Nat.le_of_ble_eq_true rfl, Nat.le_of_ble_eq_true rfl⟩ (fun H locs hV => ?_)
        refine lv_if_ne (tgt := 43) hx hb dX5_parseStage_38 (by decide) (fun c16 => ?_) (fun c16 => ?_)
        · have hf := sr_t hf (sr_b1 c16)
          refine lv_aload_n hx hb dX5_parseStage_43 rfl (lv_at hl 2 rfl) ?_
          refine lv_bipush (v := 25) hx hb dX5_parseStage_44 (by decide) ?_
          obtain ⟨v18, σ19, e17, hf⟩ := sr_ob2 hf
          refine s_callV1 (ci := 5) hX hV hl.1 (c_X5_parseNumber (h0) e17) cv_X5_parseNumber lk_364 ⟨rfl, rfl, Nat.le_of_ble_eq_true rfl, Nat.le_of_ble_eq_true rfl⟩ rfl (by decide) (h0) rfl rfl (Nat.le_of_ble_eq_true rfl) dX5_parseStage_46 ⟨Nat.le_of_ble_eq_true rfl, Nat.le_of_ble_eq_true rfl⟩ (fun H locs hV => ?_)
          refine lv_istore (lv' := [(4, .int v18), (3, .int v10), (2, .int v2), (0, .ref (n0 + q0)), (1, .int x1)]) hx hb dX5_parseStage_49 hl (by decide) rfl (fun ls hl => ?_)
          refine lv_iload hx hb dX5_parseStage_51 (lv_at hl 0 rfl) ?_
          refine lv_if_lt (tgt := 65) hx hb dX5_parseStage_53 (by decide) (fun c20 => ?_) (fun c20 => ?_)
          · have hf := sr_t hf c20
            refine lv_iconst (v := 0) hx hb dX5_parseStage_65 (by decide) ?_
            cases hf
            exact s_zret (b := false) hX hV dX5_parseStage_66
          · have hf := sr_f hf c20
            refine lv_aload_n hx hb dX5_parseStage_56 rfl (lv_at hl 3 rfl) ?_
            refine lv_bipush (v := 59) hx hb dX5_parseStage_57 (by decide) ?_
            obtain ⟨v22, σ23, e21, hf⟩ := sr_ob2 hf
            refine s_callV1 (ci := 5) hX hV hl.1 (c_X5_skip (h0) e21) cv_X5_skip lk_360 ⟨rfl, rfl, Nat.le_of_ble_eq_true rfl, Nat.le_of_ble_eq_true rfl⟩ rfl (by decide) (h0) rfl rfl (Nat.le_of_ble_eq_true rfl) dX5_parseStage_59 ⟨Nat.le_of_ble_eq_true rfl, Nat.le_of_ble_eq_true rfl⟩ (fun H locs hV => ?_)
            refine lv_if_ne (tgt := 67) hx hb dX5_parseStage_62 (by decide) (fun c24 => ?_) (fun c24 => ?_)
            · have hf := sr_t hf (sr_b1 c24)
              refine lv_aload_n hx hb dX5_parseStage_67 rfl (lv_at hl 3 rfl) ?_
              refine fg_5_1 hX hV lk_199 (h0) dX5_parseStage_68 ?_
              refine lv_iload_n hx hb dX5_parseStage_71 rfl (lv_at hl 2 rfl) ?_
              refine lv_iload_n hx hb dX5_parseStage_72 rfl (lv_at hl 1 rfl) ?_
              refine lv_iload hx hb dX5_parseStage_73 (lv_at hl 0 rfl) ?_
              obtain ⟨v26, σ27, e25, hf⟩ := sr_ob2 hf
              refine s_callV1 (ci := 4) hX hV hl.1 (c_X4_put (ch_5_1 (h0)) e25) cv_X4_put lk_368 ⟨rfl, rfl, Nat.le_of_ble_eq_true rfl, Nat.le_of_ble_eq_true rfl⟩ rfl (by decide) (ch_5_1 (h0)) rfl rfl (Nat.le_of_ble_eq_true rfl) dX5_parseStage_75 ⟨Nat.le_of_ble_eq_true rfl, Nat.le_of_ble_eq_true rfl⟩ (fun H locs hV => ?_)
              cases hf
              exact s_zret hX hV dX5_parseStage_78
            · have hf := sr_f hf (sr_b0 c24)
              refine lv_iconst (v := 0) hx hb dX5_parseStage_65 (by decide) ?_
              cases hf
              exact s_zret (b := false) hX hV dX5_parseStage_66
        · have hf := sr_f hf (sr_b0 c16)
          refine lv_iconst (v := 0) hx hb dX5_parseStage_41 (by decide) ?_
          cases hf
          exact s_zret (b := false) hX hV dX5_parseStage_42
    · have hf := sr_f hf (sr_b0 c8)
      refine lv_iconst (v := 0) hx hb dX5_parseStage_19 (by decide) ?_
      cases hf
      exact s_zret (b := false) hX hV dX5_parseStage_20
abbrev rm_X5_parse : Room := { frames := 5, cells := 0, slots := 0, locals := 115 }
theorem cv_X5_parse : sr_Cv yX5_parse cX5_parse 3 (Option.some FieldType.boolean) RX5 1 := ⟨lk_341, lk_339, lk_340, lk_8, rfl, by decide +kernel, by decide +kernel, by decide +kernel⟩
set_option maxHeartbeats 4000000 in
set_option maxRecDepth 100000 in
theorem k_X5_parse_B48 {p : Program} {l : Launch} {e : Env} {s : State} {m : MethodId} {args : Array Value} {below : List Frame} {meth : Method} {c : Code} {D : va_G} {aC : Nat → ClassId} {n0 : Nat} {r : Bool} {σ' : St} {q0 : Nat} {x1 : Int32} {σ : St} (hX : sr_X p s m args meth c cX5_parse 3 (Option.some FieldType.boolean) RX5 D aC) (h0 : shC q0 = 6)   {H : Heap} {locs : List Loc} {ls : Array Slot} (hl : lv_has ls 3 [(0, .ref (n0 + q0))]) (hV : sr_V D aC shC n0 σ s.heap H locs) (hf : f_X5_parse_B48 q0 x1 σ = some (r, σ')) : W p l e rm_X5_parse s m args below meth c H locs 0 0 (MQ below (sr_Qc D aC shC n0 σ' (some (.int (bI r)))) args s 0 0 (sr_A shC n0)) (F0 m 48 ls []) := by
  have hx := hX.1.1
  have hb := hX.1.2.1
  unfold f_X5_parse_B48 at hf
  refine lv_aload_n hx hb dX5_parse_48 rfl (lv_at hl 0 rfl) ?_
  refine fg_5_3 hX hV lk_203 (h0) dX5_parse_49 ?_
  refine lv_aload_n hx hb dX5_parse_52 rfl (lv_at hl 0 rfl) ?_
  refine fg_5_2 hX hV lk_201 (h0) dX5_parse_53 ?_
  refine lv_icmp_lt (tgt := 63) hx hb dX5_parse_56 (by decide) (fun c1 => ?_) (fun c1 => ?_)
  · have hf := sr_t hf c1
    refine lv_iconst (v := 0) hx hb dX5_parse_63 (by decide) ?_
    cases hf
    exact s_zret (b := false) hX hV dX5_parse_64
  · have hf := sr_f hf c1
    refine lv_iconst (v := 1) hx hb dX5_parse_59 (by decide) ?_
    refine lv_goto (tgt := 64) hx hb dX5_parse_60 (by decide) ?_
    cases hf
    exact s_zret (b := true) hX hV dX5_parse_64
set_option maxHeartbeats 4000000 in
set_option maxRecDepth 100000 in
theorem k_X5_parse_L15 {p : Program} {l : Launch} {e : Env} {s : State} {m : MethodId} {args : Array Value} {below : List Frame} {meth : Method} {c : Code} {D : va_G} {aC : Nat → ClassId} {n0 : Nat} {r : Bool} {σ' : St} {q0 : Nat} {x1 : Int32} (hX : sr_X p s m args meth c cX5_parse 3 (Option.some FieldType.boolean) RX5 D aC) (h0 : shC q0 = 6) (rec15 : Int32 → St → Option (Bool × St)) (hrec15 : ∀ (x2 : Int32) (σ : St) (H : Heap) (locs : List Loc) (ls : Array Slot) , lv_has ls 3 [(0, .ref (n0 + q0)), (1, .int x1), (2, .int x2)] → sr_V D aC shC n0 σ s.heap H locs → rec15 x2 σ = some (r, σ') → W p l e rm_X5_parse s m args below meth c H locs 0 0 (MQ below (sr_Qc D aC shC n0 σ' (some (.int (bI r)))) args s 0 0 (sr_A shC n0)) (F0 m 15 ls [])) : ∀ (x2 : Int32) (σ : St) (H : Heap) (locs : List Loc) (ls : Array Slot) , lv_has ls 3 [(0, .ref (n0 + q0)), (1, .int x1), (2, .int x2)] → sr_V D aC shC n0 σ s.heap H locs → f_X5_parse_L15 q0 x1 rec15 x2 σ = some (r, σ') → W p l e rm_X5_parse s m args below meth c H locs 0 0 (MQ below (sr_Qc D aC shC n0 σ' (some (.int (bI r)))) args s 0 0 (sr_A shC n0)) (F0 m 15 ls []) := by
  intro x2 σ H locs ls  hl hV hf
  have hx := hX.1.1
  have hb := hX.1.2.1
  unfold f_X5_parse_L15 at hf
  refine lv_iload_n hx hb dX5_parse_15 rfl (lv_at hl 2 rfl) ?_
  refine lv_bipush (v := 6) hx hb dX5_parse_16 (by decide) ?_
  refine lv_icmp_ge (tgt := 48) hx hb dX5_parse_18 (by decide) (fun c2 => ?_) (fun c2 => ?_)
  · have hf := sr_t hf c2
    exact k_X5_parse_B48 hX h0   (lv_sub hl [0] rfl) hV hf
  · have hf := sr_f hf c2
    refine lv_aload_n hx hb dX5_parse_21 rfl (lv_at hl 0 rfl) ?_
    refine fg_5_3 hX hV lk_203 (h0) dX5_parse_22 ?_
    refine lv_aload_n hx hb dX5_parse_25 rfl (lv_at hl 0 rfl) ?_
    refine fg_5_2 hX hV lk_201 (h0) dX5_parse_26 ?_
    refine lv_icmp_ge (tgt := 48) hx hb dX5_parse_29 (by decide) (fun c3 => ?_) (fun c3 => ?_)
    · have hf := sr_t hf c3
      exact k_X5_parse_B48 hX h0   (lv_sub hl [0] rfl) hV hf
    · have hf := sr_f hf c3
      refine lv_aload_n hx hb dX5_parse_32 rfl (lv_at hl 0 rfl) ?_
      refine lv_iload_n hx hb dX5_parse_33 rfl (lv_at hl 1 rfl) ?_
      obtain ⟨v5, σ6, e4, hf⟩ := sr_ob2 hf
      refine s_callV1 (ci := 5) hX hV hl.1 (c_X5_parseStage (h0) e4) cv_X5_parseStage lk_342 ⟨rfl, rfl, Nat.le_of_ble_eq_true rfl, Nat.le_of_ble_eq_true rfl⟩ rfl (by decide) (h0) rfl rfl (Nat.le_of_ble_eq_true rfl) dX5_parse_34 ⟨Nat.le_of_ble_eq_true rfl, Nat.le_of_ble_eq_true rfl⟩ (fun H locs hV => ?_)
      refine lv_if_ne (tgt := 42) hx hb dX5_parse_37 (by decide) (fun c7 => ?_) (fun c7 => ?_)
      · have hf := sr_t hf (sr_b1 c7)
        obtain ⟨v8, e9, hf⟩ := sr_bnd hf
        refine lv_iinc (v := v8) (lv' := [(2, .int v8), (0, .ref (n0 + q0)), (1, .int x1)]) hx hb dX5_parse_42 hl (k := 2) rfl (by rw [← e9]; rfl) (by decide) rfl (fun ls hl => ?_)
        refine lv_goto (tgt := 15) hx hb dX5_parse_45 (by decide) ?_
        exact hrec15 _ _ _ _ _  (lv_sub hl [1, 2, 0] rfl) hV hf
      · have hf := sr_f hf (sr_b0 c7)
        refine lv_iconst (v := 0) hx hb dX5_parse_40 (by decide) ?_
        cases hf
        exact s_zret (b := false) hX hV dX5_parse_41
set_option maxHeartbeats 4000000 in
set_option maxRecDepth 100000 in
theorem k_X5_parse_L15w {p : Program} {l : Launch} {e : Env} {s : State} {m : MethodId} {args : Array Value} {below : List Frame} {meth : Method} {c : Code} {D : va_G} {aC : Nat → ClassId} {n0 : Nat} {r : Bool} {σ' : St} {q0 : Nat} {x1 : Int32} (hX : sr_X p s m args meth c cX5_parse 3 (Option.some FieldType.boolean) RX5 D aC) (h0 : shC q0 = 6) (n : Nat) : ∀ (x2 : Int32) (σ : St) (H : Heap) (locs : List Loc) (ls : Array Slot) , lv_has ls 3 [(0, .ref (n0 + q0)), (1, .int x1), (2, .int x2)] → sr_V D aC shC n0 σ s.heap H locs → it2 (f_X5_parse_L15 q0 x1) n x2 σ = some (r, σ') → W p l e rm_X5_parse s m args below meth c H locs 0 0 (MQ below (sr_Qc D aC shC n0 σ' (some (.int (bI r)))) args s 0 0 (sr_A shC n0)) (F0 m 15 ls []) :=
  it2_ind (fun rec15 => ∀ (x2 : Int32) (σ : St) (H : Heap) (locs : List Loc) (ls : Array Slot) , lv_has ls 3 [(0, .ref (n0 + q0)), (1, .int x1), (2, .int x2)] → sr_V D aC shC n0 σ s.heap H locs → rec15 x2 σ = some (r, σ') → W p l e rm_X5_parse s m args below meth c H locs 0 0 (MQ below (sr_Qc D aC shC n0 σ' (some (.int (bI r)))) args s 0 0 (sr_A shC n0)) (F0 m 15 ls [])) (by intros; rename_i hf; exact absurd hf (by simp)) (fun rec hrec => k_X5_parse_L15 hX h0  rec hrec) n
set_option maxHeartbeats 4000000 in
set_option maxRecDepth 100000 in
theorem c_X5_parse {l : Launch} {D : va_G} {aC : Nat → ClassId} {n0 : Nat} {r : Bool} {σ' : St}  {σ : St} {q0 : Nat} {x1 : Int32} (h0 : shC q0 = 6) (hf : f_X5_parse q0 x1 σ = some (r, σ')) : sr_Met l D aC shC n0 yX5_parse cX5_parse 3 (Option.some FieldType.boolean) rm_X5_parse [.ref (n0 + q0), .int x1] σ (some (.int (bI r))) σ' := by
  refine s_met (own := RX5) (by decide) (Nat.le_of_ble_eq_true rfl) rfl ?_
  intro p e s m below meth c ls hX hV hl
  have hl : lv_has ls 3 [(0, .ref (n0 + q0)), (1, .int x1)] := hl
  have hx := hX.1.1
  have hb := hX.1.2.1
  unfold f_X5_parse at hf
  refine lv_aload_n hx hb dX5_parse_0 rfl (lv_at hl 0 rfl) ?_
  refine lv_iconst (v := 0) hx hb dX5_parse_1 (by decide) ?_
  obtain ⟨σ10, e11, hf⟩ := sr_bnd hf
  refine fp_5_3 (x := 0) hX hV lk_203 (h0) dX5_parse_2 (fun H locs hV => ?_)
  rw [e11] at hV
  refine lv_aload_n hx hb dX5_parse_5 rfl (lv_at hl 0 rfl) ?_
  refine fg_5_1 hX hV lk_199 (h0) dX5_parse_6 ?_
  refine lv_iconst (v := 0) hx hb dX5_parse_9 (by decide) ?_
  obtain ⟨σ12, e13, hf⟩ := sr_bnd hf
  refine fp_4_1 (x := 0) hX hV lk_43 (ch_5_1 (h0)) dX5_parse_10 (fun H locs hV => ?_)
  rw [e13] at hV
  refine lv_iconst (v := 0) hx hb dX5_parse_13 (by decide) ?_
  refine lv_istore_n (lv' := [(2, .int 0), (0, .ref (n0 + q0)), (1, .int x1)]) hx hb dX5_parse_14 rfl hl (by decide) rfl (fun ls hl => ?_)
  exact k_X5_parse_L15w hX h0  sr_fuel _ _ _ _ _  (lv_sub hl [1, 2, 0] rfl) hV hf
abbrev rm_X7_begin : Room := { frames := 2, cells := 0, slots := 0, locals := 41 }
theorem cv_X7_begin : sr_Cv yX7_begin cX7_begin 3 (Option.some FieldType.int) RX7 1 := ⟨lk_235, lk_233, lk_234, lk_1, rfl, by decide +kernel, by decide +kernel, by decide +kernel⟩
set_option maxHeartbeats 4000000 in
set_option maxRecDepth 100000 in
theorem c_X7_begin {l : Launch} {D : va_G} {aC : Nat → ClassId} {n0 : Nat} {r : Int32} {σ' : St}  {σ : St} {q0 : Nat} {x1 : Int32} (h0 : shC q0 = 8) (hf : f_X7_begin q0 x1 σ = (r, σ')) : sr_Met l D aC shC n0 yX7_begin cX7_begin 3 (Option.some FieldType.int) rm_X7_begin [.ref (n0 + q0), .int x1] σ (some (.int r)) σ' := by
  refine s_met (own := RX7) (by decide) (Nat.le_of_ble_eq_true rfl) rfl ?_
  intro p e s m below meth c ls hX hV hl
  have hl : lv_has ls 3 [(0, .ref (n0 + q0)), (1, .int x1)] := hl
  have hx := hX.1.1
  have hb := hX.1.2.1
  unfold f_X7_begin at hf
  refine lv_iload_n hx hb dX7_begin_0 rfl (lv_at hl 1 rfl) ?_
  refine lv_iconst (v := 1) hx hb dX7_begin_1 (by decide) ?_
  refine lv_bipush (v := 8) hx hb dX7_begin_2 (by decide) ?_
  obtain ⟨v2, e1, hf⟩ := sr_bnd hf
  refine s_callS1 hX hV hl.1 (c_X7_isWithin  e1) cs_X7_isWithin lk_236 ⟨rfl, rfl, Nat.le_of_ble_eq_true rfl, Nat.le_of_ble_eq_true rfl⟩ rfl rfl (Nat.le_of_ble_eq_true rfl) dX7_begin_4 ⟨Nat.le_of_ble_eq_true rfl, Nat.le_of_ble_eq_true rfl⟩ (fun H locs hV => ?_)
  refine lv_if_ne (tgt := 13) hx hb dX7_begin_7 (by decide) (fun c3 => ?_) (fun c3 => ?_)
  · have hf := sr_t hf (sr_b1 c3)
    refine lv_aload_n hx hb dX7_begin_13 rfl (lv_at hl 0 rfl) ?_
    refine fg_7_0 hX hV lk_216 (h0) dX7_begin_14 ?_
    refine fg_1_5 hX hV lk_167 (ch_7_0 (h0)) dX7_begin_17 ?_
    obtain ⟨v4, e5, hf⟩ := sr_bnd hf
    rw [e5]
    refine lv_istore_n (lv' := [(2, .int v4), (0, .ref (n0 + q0)), (1, .int x1)]) hx hb dX7_begin_20 rfl hl (by decide) rfl (fun ls hl => ?_)
    refine lv_aload_n hx hb dX7_begin_21 rfl (lv_at hl 1 rfl) ?_
    refine fg_7_0 hX hV lk_216 (h0) dX7_begin_22 ?_
    refine lv_iload_n hx hb dX7_begin_25 rfl (lv_at hl 2 rfl) ?_
    obtain ⟨σ7, e6, hf⟩ := sr_bnd hf
    refine s_callV0 (ci := 1) hX hV hl.1 (c_X1_beginAnew (ch_7_0 (h0)) e6) cv_X1_beginAnew lk_239 ⟨rfl, rfl, Nat.le_of_ble_eq_true rfl, Nat.le_of_ble_eq_true rfl⟩ rfl (by decide) (ch_7_0 (h0)) rfl rfl (Nat.le_of_ble_eq_true rfl) dX7_begin_26 ⟨Nat.le_of_ble_eq_true rfl, Nat.le_of_ble_eq_true rfl⟩ (fun H locs hV => ?_)
    refine lv_iload_n hx hb dX7_begin_29 rfl (lv_at hl 0 rfl) ?_
    cases hf
    exact s_iret hX hV dX7_begin_30
  · have hf := sr_f hf (sr_b0 c3)
    refine lv_bipush (v := (-12)) hx hb dX7_begin_10 (by decide) ?_
    cases hf
    exact s_iret hX hV dX7_begin_12
abbrev rm_X7_setLimit : Room := { frames := 1, cells := 0, slots := 0, locals := 22 }
theorem cv_X7_setLimit : sr_Cv yX7_setLimit cX7_setLimit 3 (Option.some FieldType.int) RX7 1 := ⟨lk_250, lk_248, lk_249, lk_1, rfl, by decide +kernel, by decide +kernel, by decide +kernel⟩
set_option maxHeartbeats 4000000 in
set_option maxRecDepth 100000 in
theorem c_X7_setLimit {l : Launch} {D : va_G} {aC : Nat → ClassId} {n0 : Nat} {r : Int32} {σ' : St}  {σ : St} {q0 : Nat} {x1 : Int32} (h0 : shC q0 = 8) (hf : f_X7_setLimit q0 x1 σ = (r, σ')) : sr_Met l D aC shC n0 yX7_setLimit cX7_setLimit 3 (Option.some FieldType.int) rm_X7_setLimit [.ref (n0 + q0), .int x1] σ (some (.int r)) σ' := by
  refine s_met (own := RX7) (by decide) (Nat.le_of_ble_eq_true rfl) rfl ?_
  intro p e s m below meth c ls hX hV hl
  have hl : lv_has ls 3 [(0, .ref (n0 + q0)), (1, .int x1)] := hl
  have hx := hX.1.1
  have hb := hX.1.2.1
  unfold f_X7_setLimit at hf
  refine lv_iload_n hx hb dX7_setLimit_0 rfl (lv_at hl 1 rfl) ?_
  refine lv_iconst (v := 0) hx hb dX7_setLimit_1 (by decide) ?_
  refine lv_sipush (v := 1000) hx hb dX7_setLimit_2 (by decide) ?_
  obtain ⟨v2, e1, hf⟩ := sr_bnd hf
  refine s_callS1 hX hV hl.1 (c_X7_isWithin  e1) cs_X7_isWithin lk_236 ⟨rfl, rfl, Nat.le_of_ble_eq_true rfl, Nat.le_of_ble_eq_true rfl⟩ rfl rfl (Nat.le_of_ble_eq_true rfl) dX7_setLimit_5 ⟨Nat.le_of_ble_eq_true rfl, Nat.le_of_ble_eq_true rfl⟩ (fun H locs hV => ?_)
  refine lv_if_ne (tgt := 14) hx hb dX7_setLimit_8 (by decide) (fun c3 => ?_) (fun c3 => ?_)
  · have hf := sr_t hf (sr_b1 c3)
    refine lv_aload_n hx hb dX7_setLimit_14 rfl (lv_at hl 0 rfl) ?_
    refine fg_7_0 hX hV lk_216 (h0) dX7_setLimit_15 ?_
    refine fg_1_7 hX hV lk_171 (ch_7_0 (h0)) dX7_setLimit_18 ?_
    obtain ⟨v4, e5, hf⟩ := sr_bnd hf
    rw [e5]
    refine lv_istore_n (lv' := [(2, .int v4), (0, .ref (n0 + q0)), (1, .int x1)]) hx hb dX7_setLimit_21 rfl hl (by decide) rfl (fun ls hl => ?_)
    refine lv_aload_n hx hb dX7_setLimit_22 rfl (lv_at hl 1 rfl) ?_
    refine fg_7_0 hX hV lk_216 (h0) dX7_setLimit_23 ?_
    refine lv_iload_n hx hb dX7_setLimit_26 rfl (lv_at hl 2 rfl) ?_
    obtain ⟨σ6, e7, hf⟩ := sr_bnd hf
    refine fp_1_7 (x := x1) hX hV lk_171 (ch_7_0 (h0)) dX7_setLimit_27 (fun H locs hV => ?_)
    rw [e7] at hV
    refine lv_iload_n hx hb dX7_setLimit_30 rfl (lv_at hl 0 rfl) ?_
    cases hf
    exact s_iret hX hV dX7_setLimit_31
  · have hf := sr_f hf (sr_b0 c3)
    refine lv_bipush (v := (-12)) hx hb dX7_setLimit_11 (by decide) ?_
    cases hf
    exact s_iret hX hV dX7_setLimit_13
abbrev rm_X7_freeze : Room := { frames := 1, cells := 0, slots := 0, locals := 22 }
theorem cv_X7_freeze : sr_Cv yX7_freeze cX7_freeze 3 (Option.some FieldType.int) RX7 2 := ⟨lk_254, lk_252, lk_253, lk_1, rfl, by decide +kernel, by decide +kernel, by decide +kernel⟩
set_option maxHeartbeats 4000000 in
set_option maxRecDepth 100000 in
theorem c_X7_freeze {l : Launch} {D : va_G} {aC : Nat → ClassId} {n0 : Nat} {r : Int32} {σ' : St}  {σ : St} {q0 : Nat} {x1 : Int32} {x2 : Int32} (h0 : shC q0 = 8) (hf : f_X7_freeze q0 x1 x2 σ = some (r, σ')) : sr_Met l D aC shC n0 yX7_freeze cX7_freeze 3 (Option.some FieldType.int) rm_X7_freeze [.ref (n0 + q0), .int x1, .int x2] σ (some (.int r)) σ' := by
  refine s_met (own := RX7) (by decide) (Nat.le_of_ble_eq_true rfl) rfl ?_
  intro p e s m below meth c ls hX hV hl
  have hl : lv_has ls 3 [(0, .ref (n0 + q0)), (1, .int x1), (2, .int x2)] := hl
  have hx := hX.1.1
  have hb := hX.1.2.1
  unfold f_X7_freeze at hf
  refine lv_iload_n hx hb dX7_freeze_0 rfl (lv_at hl 1 rfl) ?_
  refine lv_iconst (v := 0) hx hb dX7_freeze_1 (by decide) ?_
  refine lv_sipush (v := 167) hx hb dX7_freeze_2 (by decide) ?_
  obtain ⟨v2, e1, hf⟩ := sr_bnd hf
  refine s_callS1 hX hV hl.1 (c_X7_isWithin  e1) cs_X7_isWithin lk_236 ⟨rfl, rfl, Nat.le_of_ble_eq_true rfl, Nat.le_of_ble_eq_true rfl⟩ rfl rfl (Nat.le_of_ble_eq_true rfl) dX7_freeze_5 ⟨Nat.le_of_ble_eq_true rfl, Nat.le_of_ble_eq_true rfl⟩ (fun H locs hV => ?_)
  refine lv_if_eq (tgt := 24) hx hb dX7_freeze_8 (by decide) (fun c3 => ?_) (fun c3 => ?_)
  · have hf := sr_f hf (sr_b0 c3)
    refine lv_bipush (v := (-12)) hx hb dX7_freeze_24 (by decide) ?_
    cases hf
    exact s_iret hX hV dX7_freeze_26
  · have hf := sr_t hf (sr_b1 c3)
    refine lv_iload_n hx hb dX7_freeze_11 rfl (lv_at hl 2 rfl) ?_
    refine lv_iload_n hx hb dX7_freeze_12 rfl (lv_at hl 1 rfl) ?_
    refine lv_iconst (v := 1) hx hb dX7_freeze_13 (by decide) ?_
    refine lv_iadd hx hb dX7_freeze_14 ?_
    refine lv_sipush (v := 168) hx hb dX7_freeze_15 (by decide) ?_
    obtain ⟨v5, e4, hf⟩ := sr_bnd hf
    refine s_callS1 hX hV hl.1 (c_X7_isWithin  e4) cs_X7_isWithin lk_236 ⟨rfl, rfl, Nat.le_of_ble_eq_true rfl, Nat.le_of_ble_eq_true rfl⟩ rfl rfl (Nat.le_of_ble_eq_true rfl) dX7_freeze_18 ⟨Nat.le_of_ble_eq_true rfl, Nat.le_of_ble_eq_true rfl⟩ (fun H locs hV => ?_)
    refine lv_if_ne (tgt := 27) hx hb dX7_freeze_21 (by decide) (fun c6 => ?_) (fun c6 => ?_)
    · have hf := sr_t hf (sr_b1 c6)
      refine lv_aload_n hx hb dX7_freeze_27 rfl (lv_at hl 0 rfl) ?_
      refine fg_7_0 hX hV lk_216 (h0) dX7_freeze_28 ?_
      refine fg_1_1 hX hV lk_160 (ch_7_0 (h0)) dX7_freeze_31 ?_
      refine lv_iload_n hx hb dX7_freeze_34 rfl (lv_at hl 1 rfl) ?_
      refine lv_iload_n hx hb dX7_freeze_35 rfl (lv_at hl 2 rfl) ?_
      obtain ⟨v8, σ9, e7, hf⟩ := sr_ob2 hf
      refine s_callV1 (ci := 2) hX hV hl.1 (c_X2_put (ch_1_1 (ch_7_0 (h0))) e7) cv_X2_put lk_255 ⟨rfl, rfl, Nat.le_of_ble_eq_true rfl, Nat.le_of_ble_eq_true rfl⟩ rfl (by decide) (ch_1_1 (ch_7_0 (h0))) rfl rfl (Nat.le_of_ble_eq_true rfl) dX7_freeze_36 ⟨Nat.le_of_ble_eq_true rfl, Nat.le_of_ble_eq_true rfl⟩ (fun H locs hV => ?_)
      refine lv_if_eq (tgt := 55) hx hb dX7_freeze_39 (by decide) (fun c10 => ?_) (fun c10 => ?_)
      · have hf := sr_f hf (sr_b0 c10)
        refine lv_bipush (v := (-14)) hx hb dX7_freeze_55 (by decide) ?_
        cases hf
        exact s_iret hX hV dX7_freeze_57
      · have hf := sr_t hf (sr_b1 c10)
        refine lv_aload_n hx hb dX7_freeze_42 rfl (lv_at hl 0 rfl) ?_
        refine fg_7_0 hX hV lk_216 (h0) dX7_freeze_43 ?_
        refine fg_1_1 hX hV lk_160 (ch_7_0 (h0)) dX7_freeze_46 ?_
        refine fg_2_2 hX hV lk_129 (ch_1_1 (ch_7_0 (h0))) dX7_freeze_49 ?_
        refine lv_goto (tgt := 57) hx hb dX7_freeze_52 (by decide) ?_
        cases hf
        exact s_iret hX hV dX7_freeze_57
    · have hf := sr_f hf (sr_b0 c6)
      refine lv_bipush (v := (-12)) hx hb dX7_freeze_24 (by decide) ?_
      cases hf
      exact s_iret hX hV dX7_freeze_26
abbrev rm_X7_thaw : Room := { frames := 0, cells := 0, slots := 0, locals := 0 }
theorem cv_X7_thaw : sr_Cv yX7_thaw cX7_thaw 2 (Option.some FieldType.int) RX7 0 := ⟨lk_262, lk_260, lk_261, lk_1, rfl, by decide +kernel, by decide +kernel, by decide +kernel⟩
set_option maxHeartbeats 4000000 in
set_option maxRecDepth 100000 in
theorem c_X7_thaw {l : Launch} {D : va_G} {aC : Nat → ClassId} {n0 : Nat} {r : Int32} {σ' : St}  {σ : St} {q0 : Nat} (h0 : shC q0 = 8) (hf : f_X7_thaw q0 σ = (r, σ')) : sr_Met l D aC shC n0 yX7_thaw cX7_thaw 2 (Option.some FieldType.int) rm_X7_thaw [.ref (n0 + q0)] σ (some (.int r)) σ' := by
  refine s_met (own := RX7) (by decide) (Nat.le_of_ble_eq_true rfl) rfl ?_
  intro p e s m below meth c ls hX hV hl
  have hl : lv_has ls 2 [(0, .ref (n0 + q0))] := hl
  have hx := hX.1.1
  have hb := hX.1.2.1
  unfold f_X7_thaw at hf
  refine lv_aload_n hx hb dX7_thaw_0 rfl (lv_at hl 0 rfl) ?_
  refine fg_7_0 hX hV lk_216 (h0) dX7_thaw_1 ?_
  refine fg_1_1 hX hV lk_160 (ch_7_0 (h0)) dX7_thaw_4 ?_
  refine fg_2_2 hX hV lk_129 (ch_1_1 (ch_7_0 (h0))) dX7_thaw_7 ?_
  obtain ⟨v1, e2, hf⟩ := sr_bnd hf
  rw [e2]
  refine lv_istore_n (lv' := [(1, .int v1), (0, .ref (n0 + q0))]) hx hb dX7_thaw_10 rfl hl (by decide) rfl (fun ls hl => ?_)
  refine lv_aload_n hx hb dX7_thaw_11 rfl (lv_at hl 1 rfl) ?_
  refine fg_7_0 hX hV lk_216 (h0) dX7_thaw_12 ?_
  refine fg_1_1 hX hV lk_160 (ch_7_0 (h0)) dX7_thaw_15 ?_
  refine lv_iconst (v := 0) hx hb dX7_thaw_18 (by decide) ?_
  obtain ⟨σ3, e4, hf⟩ := sr_bnd hf
  refine fp_2_2 (x := 0) hX hV lk_129 (ch_1_1 (ch_7_0 (h0))) dX7_thaw_19 (fun H locs hV => ?_)
  rw [e4] at hV
  refine lv_iload_n hx hb dX7_thaw_22 rfl (lv_at hl 0 rfl) ?_
  cases hf
  exact s_iret hX hV dX7_thaw_23
abbrev rm_X7_addChange : Room := { frames := 3, cells := 0, slots := 0, locals := 62 }
theorem cv_X7_addChange : sr_Cv yX7_addChange cX7_addChange 2 (Option.some FieldType.int) RX7 1 := ⟨lk_266, lk_264, lk_265, lk_1, rfl, by decide +kernel, by decide +kernel, by decide +kernel⟩
set_option maxHeartbeats 4000000 in
set_option maxRecDepth 100000 in
theorem c_X7_addChange {l : Launch} {D : va_G} {aC : Nat → ClassId} {n0 : Nat} {r : Int32} {σ' : St}  {σ : St} {q0 : Nat} {b1 : Bool} (h0 : shC q0 = 8) (hf : f_X7_addChange q0 b1 σ = some (r, σ')) : sr_Met l D aC shC n0 yX7_addChange cX7_addChange 2 (Option.some FieldType.int) rm_X7_addChange [.ref (n0 + q0), .int (bI b1)] σ (some (.int r)) σ' := by
  refine s_met (own := RX7) (by decide) (Nat.le_of_ble_eq_true rfl) rfl ?_
  intro p e s m below meth c ls hX hV hl
  have hl : lv_has ls 2 [(0, .ref (n0 + q0)), (1, .int (bI b1))] := hl
  have hx := hX.1.1
  have hb := hX.1.2.1
  unfold f_X7_addChange at hf
  refine lv_aload_n hx hb dX7_addChange_0 rfl (lv_at hl 0 rfl) ?_
  refine fg_7_0 hX hV lk_216 (h0) dX7_addChange_1 ?_
  refine lv_iload_n hx hb dX7_addChange_4 rfl (lv_at hl 1 rfl) ?_
  obtain ⟨v2, σ3, e1, hf⟩ := sr_ob2 hf
  refine s_callV1 (ci := 1) hX hV hl.1 (c_X1_putChange (ch_7_0 (h0)) e1) cv_X1_putChange lk_267 ⟨rfl, rfl, Nat.le_of_ble_eq_true rfl, Nat.le_of_ble_eq_true rfl⟩ rfl (by decide) (ch_7_0 (h0)) rfl rfl (Nat.le_of_ble_eq_true rfl) dX7_addChange_5 ⟨Nat.le_of_ble_eq_true rfl, Nat.le_of_ble_eq_true rfl⟩ (fun H locs hV => ?_)
  refine lv_if_eq (tgt := 23) hx hb dX7_addChange_8 (by decide) (fun c4 => ?_) (fun c4 => ?_)
  · have hf := sr_f hf (sr_b0 c4)
    refine lv_bipush (v := (-14)) hx hb dX7_addChange_23 (by decide) ?_
    cases hf
    exact s_iret hX hV dX7_addChange_25
  · have hf := sr_t hf (sr_b1 c4)
    refine lv_aload_n hx hb dX7_addChange_11 rfl (lv_at hl 0 rfl) ?_
    refine fg_7_0 hX hV lk_216 (h0) dX7_addChange_12 ?_
    refine fg_1_4 hX hV lk_165 (ch_7_0 (h0)) dX7_addChange_15 ?_
    refine lv_iconst (v := 1) hx hb dX7_addChange_18 (by decide) ?_
    refine lv_isub hx hb dX7_addChange_19 ?_
    refine lv_goto (tgt := 25) hx hb dX7_addChange_20 (by decide) ?_
    cases hf
    exact s_iret hX hV dX7_addChange_25
abbrev rm_X7_addStage : Room := { frames := 1, cells := 0, slots := 0, locals := 24 }
theorem cv_X7_addStage : sr_Cv yX7_addStage cX7_addStage 6 (Option.some FieldType.int) RX7 4 := ⟨lk_282, lk_280, lk_281, lk_1, rfl, by decide +kernel, by decide +kernel, by decide +kernel⟩
set_option maxHeartbeats 4000000 in
set_option maxRecDepth 100000 in
theorem c_X7_addStage {l : Launch} {D : va_G} {aC : Nat → ClassId} {n0 : Nat} {r : Int32} {σ' : St}  {σ : St} {q0 : Nat} {x1 : Int32} {x2 : Int32} {x3 : Int32} {x4 : Int32} (h0 : shC q0 = 8) (hf : f_X7_addStage q0 x1 x2 x3 x4 σ = some (r, σ')) : sr_Met l D aC shC n0 yX7_addStage cX7_addStage 6 (Option.some FieldType.int) rm_X7_addStage [.ref (n0 + q0), .int x1, .int x2, .int x3, .int x4] σ (some (.int r)) σ' := by
  refine s_met (own := RX7) (by decide) (Nat.le_of_ble_eq_true rfl) rfl ?_
  intro p e s m below meth c ls hX hV hl
  have hl : lv_has ls 6 [(0, .ref (n0 + q0)), (1, .int x1), (2, .int x2), (3, .int x3), (4, .int x4)] := hl
  have hx := hX.1.1
  have hb := hX.1.2.1
  unfold f_X7_addStage at hf
  refine lv_aload_n hx hb dX7_addStage_0 rfl (lv_at hl 0 rfl) ?_
  refine fg_7_0 hX hV lk_216 (h0) dX7_addStage_1 ?_
  refine lv_iload_n hx hb dX7_addStage_4 rfl (lv_at hl 1 rfl) ?_
  obtain ⟨v2, e1, hf⟩ := sr_obd hf
  refine s_callV1 (ci := 1) hX hV hl.1 (c_X1_find (ch_7_0 (h0)) e1) cv_X1_find lk_283 ⟨rfl, rfl, Nat.le_of_ble_eq_true rfl, Nat.le_of_ble_eq_true rfl⟩ rfl (by decide) (ch_7_0 (h0)) rfl rfl (Nat.le_of_ble_eq_true rfl) dX7_addStage_5 ⟨Nat.le_of_ble_eq_true rfl, Nat.le_of_ble_eq_true rfl⟩ (fun H locs hV => ?_)
  rcases v2 with _ | q3
  · have hf := sr_on hf
    refine lv_astoreN (lv' := [(5, .null), (0, .ref (n0 + q0)), (1, .int x1), (2, .int x2), (3, .int x3), (4, .int x4)]) hx hb dX7_addStage_8 hl (by decide) rfl (fun ls hl => ?_)
    refine lv_aloadN hx hb dX7_addStage_10 (lv_at hl 0 rfl) ?_
    refine lv_ifnonnullN hx hb dX7_addStage_12 ?_
    refine lv_bipush (v := (-11)) hx hb dX7_addStage_15 (by decide) ?_
    cases hf
    exact s_iret hX hV dX7_addStage_17
  · have hf := sr_os hf
    obtain ⟨g4, hf⟩ := sr_gd hf
    refine lv_astore (lv' := [(5, .ref (n0 + q3)), (0, .ref (n0 + q0)), (1, .int x1), (2, .int x2), (3, .int x3), (4, .int x4)]) hx hb dX7_addStage_8 hl (by decide) rfl (fun ls hl => ?_)
    refine lv_aload hx hb dX7_addStage_10 (lv_at hl 0 rfl) ?_
    refine lv_ifnonnull (tgt := 18) hx hb dX7_addStage_12 (by decide) ?_
    refine lv_iload_n hx hb dX7_addStage_18 rfl (lv_at hl 3 rfl) ?_
    refine lv_iconst (v := 1) hx hb dX7_addStage_19 (by decide) ?_
    refine lv_aload_n hx hb dX7_addStage_20 rfl (lv_at hl 1 rfl) ?_
    refine fg_7_0 hX hV lk_216 (h0) dX7_addStage_21 ?_
    obtain ⟨v6, e5, hf⟩ := sr_bnd hf
    refine s_callV1 (ci := 1) hX hV hl.1 (c_X1_allCells (ch_7_0 (h0)) e5) cv_X1_allCells lk_287 ⟨rfl, rfl, Nat.le_of_ble_eq_true rfl, Nat.le_of_ble_eq_true rfl⟩ rfl (by decide) (ch_7_0 (h0)) rfl rfl (Nat.le_of_ble_eq_true rfl) dX7_addStage_24 ⟨Nat.le_of_ble_eq_true rfl, Nat.le_of_ble_eq_true rfl⟩ (fun H locs hV => ?_)
    obtain ⟨v8, e7, hf⟩ := sr_bnd hf
    refine s_callS1 hX hV hl.1 (c_X7_isWithin  e7) cs_X7_isWithin lk_236 ⟨rfl, rfl, Nat.le_of_ble_eq_true rfl, Nat.le_of_ble_eq_true rfl⟩ rfl rfl (Nat.le_of_ble_eq_true rfl) dX7_addStage_27 ⟨Nat.le_of_ble_eq_true rfl, Nat.le_of_ble_eq_true rfl⟩ (fun H locs hV => ?_)
    refine lv_if_eq (tgt := 54) hx hb dX7_addStage_30 (by decide) (fun c9 => ?_) (fun c9 => ?_)
    · have hf := sr_f hf (sr_b0 c9)
      refine lv_bipush (v := (-12)) hx hb dX7_addStage_54 (by decide) ?_
      cases hf
      exact s_iret hX hV dX7_addStage_56
    · have hf := sr_t hf (sr_b1 c9)
      refine lv_iload_n hx hb dX7_addStage_33 rfl (lv_at hl 4 rfl) ?_
      refine lv_iconst (v := 0) hx hb dX7_addStage_34 (by decide) ?_
      refine lv_bipush (v := 48) hx hb dX7_addStage_35 (by decide) ?_
      obtain ⟨v11, e10, hf⟩ := sr_bnd hf
      refine s_callS1 hX hV hl.1 (c_X7_isWithin  e10) cs_X7_isWithin lk_236 ⟨rfl, rfl, Nat.le_of_ble_eq_true rfl, Nat.le_of_ble_eq_true rfl⟩ rfl rfl (Nat.le_of_ble_eq_true rfl) dX7_addStage_37 ⟨Nat.le_of_ble_eq_true rfl, Nat.le_of_ble_eq_true rfl⟩ (fun H locs hV => ?_)
      refine lv_if_eq (tgt := 54) hx hb dX7_addStage_40 (by decide) (fun c12 => ?_) (fun c12 => ?_)
      · have hf := sr_f hf (sr_b0 c12)
        refine lv_bipush (v := (-12)) hx hb dX7_addStage_54 (by decide) ?_
        cases hf
        exact s_iret hX hV dX7_addStage_56
      · have hf := sr_t hf (sr_b1 c12)
        refine lv_iload hx hb dX7_addStage_43 (lv_at hl 5 rfl) ?_
        refine lv_iconst (v := 0) hx hb dX7_addStage_45 (by decide) ?_
        refine lv_bipush (v := 25) hx hb dX7_addStage_46 (by decide) ?_
        obtain ⟨v14, e13, hf⟩ := sr_bnd hf
        refine s_callS1 hX hV hl.1 (c_X7_isWithin  e13) cs_X7_isWithin lk_236 ⟨rfl, rfl, Nat.le_of_ble_eq_true rfl, Nat.le_of_ble_eq_true rfl⟩ rfl rfl (Nat.le_of_ble_eq_true rfl) dX7_addStage_48 ⟨Nat.le_of_ble_eq_true rfl, Nat.le_of_ble_eq_true rfl⟩ (fun H locs hV => ?_)
        refine lv_if_ne (tgt := 57) hx hb dX7_addStage_51 (by decide) (fun c15 => ?_) (fun c15 => ?_)
        · have hf := sr_t hf (sr_b1 c15)
          refine lv_aload hx hb dX7_addStage_57 (lv_at hl 0 rfl) ?_
          refine fg_0_5 hX hV lk_94 (g4) dX7_addStage_59 ?_
          refine lv_if_ne (tgt := 80) hx hb dX7_addStage_62 (by decide) (fun c16 => ?_) (fun c16 => ?_)
          · have hf := sr_f hf c16
            refine lv_bipush (v := (-13)) hx hb dX7_addStage_80 (by decide) ?_
            cases hf
            exact s_iret hX hV dX7_addStage_82
          · have hf := sr_t hf c16
            refine lv_aload hx hb dX7_addStage_65 (lv_at hl 0 rfl) ?_
            refine fg_0_1 hX hV lk_85 (g4) dX7_addStage_67 ?_
            refine lv_bipush (v := 6) hx hb dX7_addStage_70 (by decide) ?_
            obtain ⟨v18, e17, hf⟩ := sr_obd hf
            refine s_callV1 (ci := 4) hX hV hl.1 (c_X4_cellsOfFirst (ch_0_1 (g4)) e17) cv_X4_cellsOfFirst lk_291 ⟨rfl, rfl, Nat.le_of_ble_eq_true rfl, Nat.le_of_ble_eq_true rfl⟩ rfl (by decide) (ch_0_1 (g4)) rfl rfl (Nat.le_of_ble_eq_true rfl) dX7_addStage_72 ⟨Nat.le_of_ble_eq_true rfl, Nat.le_of_ble_eq_true rfl⟩ (fun H locs hV => ?_)
            refine lv_iload_n hx hb dX7_addStage_75 rfl (lv_at hl 3 rfl) ?_
            refine lv_iand hx hb dX7_addStage_76 ?_
            refine lv_if_eq (tgt := 83) hx hb dX7_addStage_77 (by decide) (fun c19 => ?_) (fun c19 => ?_)
            · have hf := sr_t hf c19
              refine lv_aload hx hb dX7_addStage_83 (lv_at hl 0 rfl) ?_
              refine fg_0_1 hX hV lk_85 (g4) dX7_addStage_85 ?_
              refine lv_iload_n hx hb dX7_addStage_88 rfl (lv_at hl 3 rfl) ?_
              refine lv_iload_n hx hb dX7_addStage_89 rfl (lv_at hl 4 rfl) ?_
              refine lv_iload hx hb dX7_addStage_90 (lv_at hl 5 rfl) ?_
              obtain ⟨v21, σ22, e20, hf⟩ := sr_ob2 hf
              refine s_callV1 (ci := 4) hX hV hl.1 (c_X4_put (ch_0_1 (g4)) e20) cv_X4_put lk_295 ⟨rfl, rfl, Nat.le_of_ble_eq_true rfl, Nat.le_of_ble_eq_true rfl⟩ rfl (by decide) (ch_0_1 (g4)) rfl rfl (Nat.le_of_ble_eq_true rfl) dX7_addStage_92 ⟨Nat.le_of_ble_eq_true rfl, Nat.le_of_ble_eq_true rfl⟩ (fun H locs hV => ?_)
              refine lv_if_eq (tgt := 109) hx hb dX7_addStage_95 (by decide) (fun c23 => ?_) (fun c23 => ?_)
              · have hf := sr_f hf (sr_b0 c23)
                refine lv_bipush (v := (-14)) hx hb dX7_addStage_109 (by decide) ?_
                cases hf
                exact s_iret hX hV dX7_addStage_111
              · have hf := sr_t hf (sr_b1 c23)
                refine lv_aload hx hb dX7_addStage_98 (lv_at hl 0 rfl) ?_
                refine fg_0_1 hX hV lk_85 (g4) dX7_addStage_100 ?_
                refine fg_4_1 hX hV lk_44 (ch_0_1 (g4)) dX7_addStage_103 ?_
                refine lv_goto (tgt := 111) hx hb dX7_addStage_106 (by decide) ?_
                cases hf
                exact s_iret hX hV dX7_addStage_111
            · have hf := sr_f hf c19
              refine lv_bipush (v := (-13)) hx hb dX7_addStage_80 (by decide) ?_
              cases hf
              exact s_iret hX hV dX7_addStage_82
        · have hf := sr_f hf (sr_b0 c15)
          refine lv_bipush (v := (-12)) hx hb dX7_addStage_54 (by decide) ?_
          cases hf
          exact s_iret hX hV dX7_addStage_56
abbrev rm_J6_bitCount_0f7a4 : Room := { frames := 0, cells := 0, slots := 0, locals := 0 }
theorem cs_J6_bitCount_0f7a4 : sr_Cs yJ6_bitCount_0f7a4 cJ6_bitCount_0f7a4 1 (Option.some FieldType.int) RJ6 1 := ⟨lk_305, lk_304, lk_10, rfl, by decide +kernel, by decide +kernel, by decide +kernel⟩
set_option maxHeartbeats 4000000 in
set_option maxRecDepth 100000 in
theorem c_J6_bitCount_0f7a4 {l : Launch} {D : va_G} {aC : Nat → ClassId} {n0 : Nat} {sh : Nat → Nat} {r : Int32} {σ : St}  {x0 : Int32}  (hf : f_J6_bitCount_0f7a4 x0 = r) : sr_Met l D aC sh n0 yJ6_bitCount_0f7a4 cJ6_bitCount_0f7a4 1 (Option.some FieldType.int) rm_J6_bitCount_0f7a4 [.int x0] σ (some (.int r)) σ := by
  refine s_met (own := RJ6) (by decide) (Nat.le_of_ble_eq_true rfl) rfl ?_
  intro p e s m below meth c ls hX hV hl
  have hl : lv_has ls 1 [(0, .int x0)] := hl
  have hx := hX.1.1
  have hb := hX.1.2.1
  unfold f_J6_bitCount_0f7a4 at hf
  refine lv_iload_n hx hb dJ6_bitCount_0f7a4_0 rfl (lv_at hl 0 rfl) ?_
  refine lv_iload_n hx hb dJ6_bitCount_0f7a4_1 rfl (lv_at hl 0 rfl) ?_
  refine lv_iconst (v := 1) hx hb dJ6_bitCount_0f7a4_2 (by decide) ?_
  refine lv_iushr hx hb dJ6_bitCount_0f7a4_3 rfl ?_
  refine lv_ldcw hx hb hX.1.2.2.2.1 (s_w hX lk_306) dJ6_bitCount_0f7a4_4 ?_
  refine lv_iand hx hb dJ6_bitCount_0f7a4_7 ?_
  refine lv_isub hx hb dJ6_bitCount_0f7a4_8 ?_
  obtain ⟨v1, e2, hf⟩ := sr_bnd hf
  rw [e2]
  refine lv_istore_n (lv' := [(0, .int v1)]) hx hb dJ6_bitCount_0f7a4_9 rfl hl (by decide) rfl (fun ls hl => ?_)
  refine lv_iload_n hx hb dJ6_bitCount_0f7a4_10 rfl (lv_at hl 0 rfl) ?_
  refine lv_ldcw hx hb hX.1.2.2.2.1 (s_w hX lk_307) dJ6_bitCount_0f7a4_11 ?_
  refine lv_iand hx hb dJ6_bitCount_0f7a4_14 ?_
  refine lv_iload_n hx hb dJ6_bitCount_0f7a4_15 rfl (lv_at hl 0 rfl) ?_
  refine lv_iconst (v := 2) hx hb dJ6_bitCount_0f7a4_16 (by decide) ?_
  refine lv_iushr hx hb dJ6_bitCount_0f7a4_17 rfl ?_
  refine lv_ldcw hx hb hX.1.2.2.2.1 (s_w hX lk_307) dJ6_bitCount_0f7a4_18 ?_
  refine lv_iand hx hb dJ6_bitCount_0f7a4_21 ?_
  refine lv_iadd hx hb dJ6_bitCount_0f7a4_22 ?_
  obtain ⟨v3, e4, hf⟩ := sr_bnd hf
  rw [e4]
  refine lv_istore_n (lv' := [(0, .int v3)]) hx hb dJ6_bitCount_0f7a4_23 rfl hl (by decide) rfl (fun ls hl => ?_)
  refine lv_iload_n hx hb dJ6_bitCount_0f7a4_24 rfl (lv_at hl 0 rfl) ?_
  refine lv_iload_n hx hb dJ6_bitCount_0f7a4_25 rfl (lv_at hl 0 rfl) ?_
  refine lv_iconst (v := 4) hx hb dJ6_bitCount_0f7a4_26 (by decide) ?_
  refine lv_iushr hx hb dJ6_bitCount_0f7a4_27 rfl ?_
  refine lv_iadd hx hb dJ6_bitCount_0f7a4_28 ?_
  refine lv_ldcw hx hb hX.1.2.2.2.1 (s_w hX lk_308) dJ6_bitCount_0f7a4_29 ?_
  refine lv_iand hx hb dJ6_bitCount_0f7a4_32 ?_
  obtain ⟨v5, e6, hf⟩ := sr_bnd hf
  rw [e6]
  refine lv_istore_n (lv' := [(0, .int v5)]) hx hb dJ6_bitCount_0f7a4_33 rfl hl (by decide) rfl (fun ls hl => ?_)
  refine lv_iload_n hx hb dJ6_bitCount_0f7a4_34 rfl (lv_at hl 0 rfl) ?_
  refine lv_iload_n hx hb dJ6_bitCount_0f7a4_35 rfl (lv_at hl 0 rfl) ?_
  refine lv_bipush (v := 8) hx hb dJ6_bitCount_0f7a4_36 (by decide) ?_
  refine lv_iushr hx hb dJ6_bitCount_0f7a4_38 rfl ?_
  refine lv_iadd hx hb dJ6_bitCount_0f7a4_39 ?_
  obtain ⟨v7, e8, hf⟩ := sr_bnd hf
  rw [e8]
  refine lv_istore_n (lv' := [(0, .int v7)]) hx hb dJ6_bitCount_0f7a4_40 rfl hl (by decide) rfl (fun ls hl => ?_)
  refine lv_iload_n hx hb dJ6_bitCount_0f7a4_41 rfl (lv_at hl 0 rfl) ?_
  refine lv_iload_n hx hb dJ6_bitCount_0f7a4_42 rfl (lv_at hl 0 rfl) ?_
  refine lv_bipush (v := 16) hx hb dJ6_bitCount_0f7a4_43 (by decide) ?_
  refine lv_iushr hx hb dJ6_bitCount_0f7a4_45 rfl ?_
  refine lv_iadd hx hb dJ6_bitCount_0f7a4_46 ?_
  obtain ⟨v9, e10, hf⟩ := sr_bnd hf
  rw [e10]
  refine lv_istore_n (lv' := [(0, .int v9)]) hx hb dJ6_bitCount_0f7a4_47 rfl hl (by decide) rfl (fun ls hl => ?_)
  refine lv_iload_n hx hb dJ6_bitCount_0f7a4_48 rfl (lv_at hl 0 rfl) ?_
  refine lv_bipush (v := 63) hx hb dJ6_bitCount_0f7a4_49 (by decide) ?_
  refine lv_iand hx hb dJ6_bitCount_0f7a4_51 ?_
  cases hf
  exact s_iret hX hV dJ6_bitCount_0f7a4_52
abbrev rm_X7_putAfter : Room := { frames := 1, cells := 0, slots := 0, locals := 22 }
theorem cv_X7_putAfter : sr_Cv yX7_putAfter cX7_putAfter 4 (Option.some FieldType.int) RX7 2 := ⟨lk_302, lk_300, lk_301, lk_1, rfl, by decide +kernel, by decide +kernel, by decide +kernel⟩
set_option maxHeartbeats 4000000 in
set_option maxRecDepth 100000 in
theorem c_X7_putAfter {l : Launch} {D : va_G} {aC : Nat → ClassId} {n0 : Nat} {r : Int32} {σ' : St}  {σ : St} {q0 : Nat} {x1 : Int32} {x2 : Int32} (h0 : shC q0 = 8) (hf : f_X7_putAfter q0 x1 x2 σ = some (r, σ')) : sr_Met l D aC shC n0 yX7_putAfter cX7_putAfter 4 (Option.some FieldType.int) rm_X7_putAfter [.ref (n0 + q0), .int x1, .int x2] σ (some (.int r)) σ' := by
  refine s_met (own := RX7) (by decide) (Nat.le_of_ble_eq_true rfl) rfl ?_
  intro p e s m below meth c ls hX hV hl
  have hl : lv_has ls 4 [(0, .ref (n0 + q0)), (1, .int x1), (2, .int x2)] := hl
  have hx := hX.1.1
  have hb := hX.1.2.1
  unfold f_X7_putAfter at hf
  refine lv_aload_n hx hb dX7_putAfter_0 rfl (lv_at hl 0 rfl) ?_
  refine fg_7_0 hX hV lk_216 (h0) dX7_putAfter_1 ?_
  refine lv_iload_n hx hb dX7_putAfter_4 rfl (lv_at hl 1 rfl) ?_
  obtain ⟨v2, e1, hf⟩ := sr_obd hf
  refine s_callV1 (ci := 1) hX hV hl.1 (c_X1_find (ch_7_0 (h0)) e1) cv_X1_find lk_283 ⟨rfl, rfl, Nat.le_of_ble_eq_true rfl, Nat.le_of_ble_eq_true rfl⟩ rfl (by decide) (ch_7_0 (h0)) rfl rfl (Nat.le_of_ble_eq_true rfl) dX7_putAfter_5 ⟨Nat.le_of_ble_eq_true rfl, Nat.le_of_ble_eq_true rfl⟩ (fun H locs hV => ?_)
  rcases v2 with _ | q3
  · have hf := sr_on hf
    refine lv_astore_nN (lv' := [(3, .null), (0, .ref (n0 + q0)), (1, .int x1), (2, .int x2)]) hx hb dX7_putAfter_8 rfl hl (by decide) rfl (fun ls hl => ?_)
    refine lv_aload_nN hx hb dX7_putAfter_9 rfl (lv_at hl 0 rfl) ?_
    refine lv_ifnullN (tgt := 24) hx hb dX7_putAfter_10 (by decide) ?_
    refine lv_bipush (v := (-11)) hx hb dX7_putAfter_24 (by decide) ?_
    cases hf
    exact s_iret hX hV dX7_putAfter_26
  · have hf := sr_os hf
    obtain ⟨g4, hf⟩ := sr_gd hf
    refine lv_astore_n (lv' := [(3, .ref (n0 + q3)), (0, .ref (n0 + q0)), (1, .int x1), (2, .int x2)]) hx hb dX7_putAfter_8 rfl hl (by decide) rfl (fun ls hl => ?_)
    refine lv_aload_n hx hb dX7_putAfter_9 rfl (lv_at hl 0 rfl) ?_
    refine lv_ifnull hx hb dX7_putAfter_10 ?_
    refine lv_iload_n hx hb dX7_putAfter_13 rfl (lv_at hl 3 rfl) ?_
    refine lv_iconst (v := 0) hx hb dX7_putAfter_14 (by decide) ?_
    refine lv_iload_n hx hb dX7_putAfter_15 rfl (lv_at hl 2 rfl) ?_
    refine lv_iconst (v := 1) hx hb dX7_putAfter_16 (by decide) ?_
    refine lv_isub hx hb dX7_putAfter_17 ?_
    obtain ⟨v6, e5, hf⟩ := sr_bnd hf
    refine s_callS1 hX hV hl.1 (c_X7_isWithin  e5) cs_X7_isWithin lk_236 ⟨rfl, rfl, Nat.le_of_ble_eq_true rfl, Nat.le_of_ble_eq_true rfl⟩ rfl rfl (Nat.le_of_ble_eq_true rfl) dX7_putAfter_18 ⟨Nat.le_of_ble_eq_true rfl, Nat.le_of_ble_eq_true rfl⟩ (fun H locs hV => ?_)
    refine lv_if_ne (tgt := 27) hx hb dX7_putAfter_21 (by decide) (fun c7 => ?_) (fun c7 => ?_)
    · have hf := sr_t hf (sr_b1 c7)
      refine lv_aload_n hx hb dX7_putAfter_27 rfl (lv_at hl 0 rfl) ?_
      refine fg_0_5 hX hV lk_94 (g4) dX7_putAfter_28 ?_
      refine lv_if_eq (tgt := 37) hx hb dX7_putAfter_31 (by decide) (fun c8 => ?_) (fun c8 => ?_)
      · have hf := sr_t hf c8
        refine lv_aload_n hx hb dX7_putAfter_37 rfl (lv_at hl 0 rfl) ?_
        refine lv_dup hx hb dX7_putAfter_38 rfl ?_
        refine fg_0_4 hX hV lk_91 (g4) dX7_putAfter_39 ?_
        refine lv_iconst (v := 1) hx hb dX7_putAfter_42 (by decide) ?_
        refine lv_iload_n hx hb dX7_putAfter_43 rfl (lv_at hl 3 rfl) ?_
        refine lv_ishl hx hb dX7_putAfter_44 ?_
        refine lv_ior hx hb dX7_putAfter_45 ?_
        obtain ⟨σ9, e10, hf⟩ := sr_bnd hf
        refine fp_0_4 (x := ((gI σ q3 4) ||| (1 <<< (x2 &&& 31)))) hX hV lk_91 (g4) dX7_putAfter_46 (fun H locs hV => ?_)
        rw [e10] at hV
        refine lv_aload_n hx hb dX7_putAfter_49 rfl (lv_at hl 0 rfl) ?_
        refine fg_0_4 hX hV lk_91 (g4) dX7_putAfter_50 ?_
        obtain ⟨v12, e11, hf⟩ := sr_bnd hf
        refine s_callS1 hX hV hl.1 (c_J6_bitCount_0f7a4  e11) cs_J6_bitCount_0f7a4 lk_303 ⟨rfl, rfl, Nat.le_of_ble_eq_true rfl, Nat.le_of_ble_eq_true rfl⟩ rfl rfl (Nat.le_of_ble_eq_true rfl) dX7_putAfter_53 ⟨Nat.le_of_ble_eq_true rfl, Nat.le_of_ble_eq_true rfl⟩ (fun H locs hV => ?_)
        cases hf
        exact s_iret hX hV dX7_putAfter_56
      · have hf := sr_f hf c8
        refine lv_bipush (v := (-13)) hx hb dX7_putAfter_34 (by decide) ?_
        cases hf
        exact s_iret hX hV dX7_putAfter_36
    · have hf := sr_f hf (sr_b0 c7)
      refine lv_bipush (v := (-11)) hx hb dX7_putAfter_24 (by decide) ?_
      cases hf
      exact s_iret hX hV dX7_putAfter_26
abbrev rm_X7_changes : Room := { frames := 0, cells := 0, slots := 0, locals := 0 }
theorem cv_X7_changes : sr_Cv yX7_changes cX7_changes 1 (Option.some FieldType.int) RX7 0 := ⟨lk_312, lk_310, lk_311, lk_1, rfl, by decide +kernel, by decide +kernel, by decide +kernel⟩
set_option maxHeartbeats 4000000 in
set_option maxRecDepth 100000 in
theorem c_X7_changes {l : Launch} {D : va_G} {aC : Nat → ClassId} {n0 : Nat} {r : Int32} {σ : St}  {q0 : Nat} (h0 : shC q0 = 8) (hf : f_X7_changes q0 σ = r) : sr_Met l D aC shC n0 yX7_changes cX7_changes 1 (Option.some FieldType.int) rm_X7_changes [.ref (n0 + q0)] σ (some (.int r)) σ := by
  refine s_met (own := RX7) (by decide) (Nat.le_of_ble_eq_true rfl) rfl ?_
  intro p e s m below meth c ls hX hV hl
  have hl : lv_has ls 1 [(0, .ref (n0 + q0))] := hl
  have hx := hX.1.1
  have hb := hX.1.2.1
  unfold f_X7_changes at hf
  refine lv_aload_n hx hb dX7_changes_0 rfl (lv_at hl 0 rfl) ?_
  refine fg_7_0 hX hV lk_216 (h0) dX7_changes_1 ?_
  refine fg_1_4 hX hV lk_165 (ch_7_0 (h0)) dX7_changes_4 ?_
  cases hf
  exact s_iret hX hV dX7_changes_7
abbrev rm_X7_stage : Room := { frames := 2, cells := 0, slots := 0, locals := 46 }
theorem cv_X7_stage : sr_Cv yX7_stage cX7_stage 5 (Option.some FieldType.int) RX7 3 := ⟨lk_316, lk_314, lk_315, lk_1, rfl, by decide +kernel, by decide +kernel, by decide +kernel⟩
set_option maxHeartbeats 4000000 in
set_option maxRecDepth 100000 in
theorem c_X7_stage {l : Launch} {D : va_G} {aC : Nat → ClassId} {n0 : Nat} {r : Int32} {σ : St}  {q0 : Nat} {x1 : Int32} {x2 : Int32} {x3 : Int32} (h0 : shC q0 = 8) (hf : f_X7_stage q0 x1 x2 x3 σ = some r) : sr_Met l D aC shC n0 yX7_stage cX7_stage 5 (Option.some FieldType.int) rm_X7_stage [.ref (n0 + q0), .int x1, .int x2, .int x3] σ (some (.int r)) σ := by
  refine s_met (own := RX7) (by decide) (Nat.le_of_ble_eq_true rfl) rfl ?_
  intro p e s m below meth c ls hX hV hl
  have hl : lv_has ls 5 [(0, .ref (n0 + q0)), (1, .int x1), (2, .int x2), (3, .int x3)] := hl
  have hx := hX.1.1
  have hb := hX.1.2.1
  unfold f_X7_stage at hf
  refine lv_aload_n hx hb dX7_stage_0 rfl (lv_at hl 0 rfl) ?_
  refine fg_7_0 hX hV lk_216 (h0) dX7_stage_1 ?_
  refine lv_iload_n hx hb dX7_stage_4 rfl (lv_at hl 1 rfl) ?_
  obtain ⟨v2, e1, hf⟩ := sr_obd hf
  refine s_callV1 (ci := 1) hX hV hl.1 (c_X1_find (ch_7_0 (h0)) e1) cv_X1_find lk_283 ⟨rfl, rfl, Nat.le_of_ble_eq_true rfl, Nat.le_of_ble_eq_true rfl⟩ rfl (by decide) (ch_7_0 (h0)) rfl rfl (Nat.le_of_ble_eq_true rfl) dX7_stage_5 ⟨Nat.le_of_ble_eq_true rfl, Nat.le_of_ble_eq_true rfl⟩ (fun H locs hV => ?_)
  rcases v2 with _ | q3
  · have hf := sr_on hf
    refine lv_astoreN (lv' := [(4, .null), (0, .ref (n0 + q0)), (1, .int x1), (2, .int x2), (3, .int x3)]) hx hb dX7_stage_8 hl (by decide) rfl (fun ls hl => ?_)
    refine lv_aloadN hx hb dX7_stage_10 (lv_at hl 0 rfl) ?_
    refine lv_ifnullN (tgt := 33) hx hb dX7_stage_12 (by decide) ?_
    refine lv_bipush (v := (-11)) hx hb dX7_stage_33 (by decide) ?_
    cases hf
    exact s_iret hX hV dX7_stage_35
  · have hf := sr_os hf
    obtain ⟨g4, hf⟩ := sr_gd hf
    refine lv_astore (lv' := [(4, .ref (n0 + q3)), (0, .ref (n0 + q0)), (1, .int x1), (2, .int x2), (3, .int x3)]) hx hb dX7_stage_8 hl (by decide) rfl (fun ls hl => ?_)
    refine lv_aload hx hb dX7_stage_10 (lv_at hl 0 rfl) ?_
    refine lv_ifnull hx hb dX7_stage_12 ?_
    refine lv_iload_n hx hb dX7_stage_15 rfl (lv_at hl 3 rfl) ?_
    refine lv_iconst (v := 0) hx hb dX7_stage_16 (by decide) ?_
    refine lv_aload hx hb dX7_stage_17 (lv_at hl 0 rfl) ?_
    refine fg_0_1 hX hV lk_85 (g4) dX7_stage_19 ?_
    refine fg_4_1 hX hV lk_44 (ch_0_1 (g4)) dX7_stage_22 ?_
    refine lv_iconst (v := 1) hx hb dX7_stage_25 (by decide) ?_
    refine lv_isub hx hb dX7_stage_26 ?_
    obtain ⟨v6, e5, hf⟩ := sr_bnd hf
    refine s_callS1 hX hV hl.1 (c_X7_isWithin  e5) cs_X7_isWithin lk_236 ⟨rfl, rfl, Nat.le_of_ble_eq_true rfl, Nat.le_of_ble_eq_true rfl⟩ rfl rfl (Nat.le_of_ble_eq_true rfl) dX7_stage_27 ⟨Nat.le_of_ble_eq_true rfl, Nat.le_of_ble_eq_true rfl⟩ (fun H locs hV => ?_)
    refine lv_if_ne (tgt := 36) hx hb dX7_stage_30 (by decide) (fun c7 => ?_) (fun c7 => ?_)
    · have hf := sr_t hf (sr_b1 c7)
      refine lv_iload_n hx hb dX7_stage_36 rfl (lv_at hl 4 rfl) ?_
      refine lv_iconst (v := 0) hx hb dX7_stage_37 (by decide) ?_
      refine lv_iconst (v := 2) hx hb dX7_stage_38 (by decide) ?_
      obtain ⟨v9, e8, hf⟩ := sr_bnd hf
      refine s_callS1 hX hV hl.1 (c_X7_isWithin  e8) cs_X7_isWithin lk_236 ⟨rfl, rfl, Nat.le_of_ble_eq_true rfl, Nat.le_of_ble_eq_true rfl⟩ rfl rfl (Nat.le_of_ble_eq_true rfl) dX7_stage_39 ⟨Nat.le_of_ble_eq_true rfl, Nat.le_of_ble_eq_true rfl⟩ (fun H locs hV => ?_)
      refine lv_if_ne (tgt := 48) hx hb dX7_stage_42 (by decide) (fun c10 => ?_) (fun c10 => ?_)
      · have hf := sr_t hf (sr_b1 c10)
        refine lv_aload hx hb dX7_stage_48 (lv_at hl 0 rfl) ?_
        refine fg_0_1 hX hV lk_85 (g4) dX7_stage_50 ?_
        refine lv_iload_n hx hb dX7_stage_53 rfl (lv_at hl 3 rfl) ?_
        refine lv_iload_n hx hb dX7_stage_54 rfl (lv_at hl 4 rfl) ?_
        obtain ⟨v12, e11, hf⟩ := sr_obd hf
        refine s_callV1 (ci := 4) hX hV hl.1 (c_X4_number (ch_0_1 (g4)) e11) cv_X4_number lk_317 ⟨rfl, rfl, Nat.le_of_ble_eq_true rfl, Nat.le_of_ble_eq_true rfl⟩ rfl (by decide) (ch_0_1 (g4)) rfl rfl (Nat.le_of_ble_eq_true rfl) dX7_stage_55 ⟨Nat.le_of_ble_eq_true rfl, Nat.le_of_ble_eq_true rfl⟩ (fun H locs hV => ?_)
        cases hf
        exact s_iret hX hV dX7_stage_58
      · have hf := sr_f hf (sr_b0 c10)
        refine lv_bipush (v := (-12)) hx hb dX7_stage_45 (by decide) ?_
        cases hf
        exact s_iret hX hV dX7_stage_47
    · have hf := sr_f hf (sr_b0 c7)
      refine lv_bipush (v := (-11)) hx hb dX7_stage_33 (by decide) ?_
      cases hf
      exact s_iret hX hV dX7_stage_35
abbrev rm_X7_append : Room := { frames := 1, cells := 0, slots := 0, locals := 22 }
theorem cv_X7_append : sr_Cv yX7_append cX7_append 2 (Option.some FieldType.int) RX7 1 := ⟨lk_325, lk_323, lk_324, lk_1, rfl, by decide +kernel, by decide +kernel, by decide +kernel⟩
set_option maxHeartbeats 4000000 in
set_option maxRecDepth 100000 in
theorem c_X7_append {l : Launch} {D : va_G} {aC : Nat → ClassId} {n0 : Nat} {r : Int32} {σ' : St}  {σ : St} {q0 : Nat} {x1 : Int32} (h0 : shC q0 = 8) (hf : f_X7_append q0 x1 σ = some (r, σ')) : sr_Met l D aC shC n0 yX7_append cX7_append 2 (Option.some FieldType.int) rm_X7_append [.ref (n0 + q0), .int x1] σ (some (.int r)) σ' := by
  refine s_met (own := RX7) (by decide) (Nat.le_of_ble_eq_true rfl) rfl ?_
  intro p e s m below meth c ls hX hV hl
  have hl : lv_has ls 2 [(0, .ref (n0 + q0)), (1, .int x1)] := hl
  have hx := hX.1.1
  have hb := hX.1.2.1
  unfold f_X7_append at hf
  refine lv_iload_n hx hb dX7_append_0 rfl (lv_at hl 1 rfl) ?_
  refine lv_iconst (v := 0) hx hb dX7_append_1 (by decide) ?_
  refine lv_bipush (v := 127) hx hb dX7_append_2 (by decide) ?_
  obtain ⟨v2, e1, hf⟩ := sr_bnd hf
  refine s_callS1 hX hV hl.1 (c_X7_isWithin  e1) cs_X7_isWithin lk_236 ⟨rfl, rfl, Nat.le_of_ble_eq_true rfl, Nat.le_of_ble_eq_true rfl⟩ rfl rfl (Nat.le_of_ble_eq_true rfl) dX7_append_4 ⟨Nat.le_of_ble_eq_true rfl, Nat.le_of_ble_eq_true rfl⟩ (fun H locs hV => ?_)
  refine lv_if_ne (tgt := 13) hx hb dX7_append_7 (by decide) (fun c3 => ?_) (fun c3 => ?_)
  · have hf := sr_t hf (sr_b1 c3)
    refine lv_aload_n hx hb dX7_append_13 rfl (lv_at hl 0 rfl) ?_
    refine fg_7_4 hX hV lk_220 (h0) dX7_append_14 ?_
    refine lv_iload_n hx hb dX7_append_17 rfl (lv_at hl 1 rfl) ?_
    obtain ⟨v5, σ6, e4, hf⟩ := sr_ob2 hf
    refine s_callV1 (ci := 5) hX hV hl.1 (c_X5_put (ch_7_4 (h0)) e4) cv_X5_put lk_326 ⟨rfl, rfl, Nat.le_of_ble_eq_true rfl, Nat.le_of_ble_eq_true rfl⟩ rfl (by decide) (ch_7_4 (h0)) rfl rfl (Nat.le_of_ble_eq_true rfl) dX7_append_18 ⟨Nat.le_of_ble_eq_true rfl, Nat.le_of_ble_eq_true rfl⟩ (fun H locs hV => ?_)
    refine lv_if_eq (tgt := 34) hx hb dX7_append_21 (by decide) (fun c7 => ?_) (fun c7 => ?_)
    · have hf := sr_f hf (sr_b0 c7)
      refine lv_bipush (v := (-14)) hx hb dX7_append_34 (by decide) ?_
      cases hf
      exact s_iret hX hV dX7_append_36
    · have hf := sr_t hf (sr_b1 c7)
      refine lv_aload_n hx hb dX7_append_24 rfl (lv_at hl 0 rfl) ?_
      refine fg_7_4 hX hV lk_220 (h0) dX7_append_25 ?_
      refine fg_5_2 hX hV lk_202 (ch_7_4 (h0)) dX7_append_28 ?_
      refine lv_goto (tgt := 36) hx hb dX7_append_31 (by decide) ?_
      cases hf
      exact s_iret hX hV dX7_append_36
  · have hf := sr_f hf (sr_b0 c3)
    refine lv_bipush (v := (-12)) hx hb dX7_append_10 (by decide) ?_
    cases hf
    exact s_iret hX hV dX7_append_12
abbrev rm_X7_clearText : Room := { frames := 0, cells := 0, slots := 0, locals := 0 }
theorem cv_X7_clearText : sr_Cv yX7_clearText cX7_clearText 2 (Option.some FieldType.int) RX7 0 := ⟨lk_333, lk_331, lk_332, lk_1, rfl, by decide +kernel, by decide +kernel, by decide +kernel⟩
set_option maxHeartbeats 4000000 in
set_option maxRecDepth 100000 in
theorem c_X7_clearText {l : Launch} {D : va_G} {aC : Nat → ClassId} {n0 : Nat} {r : Int32} {σ' : St}  {σ : St} {q0 : Nat} (h0 : shC q0 = 8) (hf : f_X7_clearText q0 σ = (r, σ')) : sr_Met l D aC shC n0 yX7_clearText cX7_clearText 2 (Option.some FieldType.int) rm_X7_clearText [.ref (n0 + q0)] σ (some (.int r)) σ' := by
  refine s_met (own := RX7) (by decide) (Nat.le_of_ble_eq_true rfl) rfl ?_
  intro p e s m below meth c ls hX hV hl
  have hl : lv_has ls 2 [(0, .ref (n0 + q0))] := hl
  have hx := hX.1.1
  have hb := hX.1.2.1
  unfold f_X7_clearText at hf
  refine lv_aload_n hx hb dX7_clearText_0 rfl (lv_at hl 0 rfl) ?_
  refine fg_7_4 hX hV lk_220 (h0) dX7_clearText_1 ?_
  refine fg_5_2 hX hV lk_202 (ch_7_4 (h0)) dX7_clearText_4 ?_
  obtain ⟨v1, e2, hf⟩ := sr_bnd hf
  rw [e2]
  refine lv_istore_n (lv' := [(1, .int v1), (0, .ref (n0 + q0))]) hx hb dX7_clearText_7 rfl hl (by decide) rfl (fun ls hl => ?_)
  refine lv_aload_n hx hb dX7_clearText_8 rfl (lv_at hl 1 rfl) ?_
  refine fg_7_4 hX hV lk_220 (h0) dX7_clearText_9 ?_
  refine lv_iconst (v := 0) hx hb dX7_clearText_12 (by decide) ?_
  obtain ⟨σ3, e4, hf⟩ := sr_bnd hf
  refine fp_5_2 (x := 0) hX hV lk_202 (ch_7_4 (h0)) dX7_clearText_13 (fun H locs hV => ?_)
  rw [e4] at hV
  refine lv_iload_n hx hb dX7_clearText_16 rfl (lv_at hl 0 rfl) ?_
  cases hf
  exact s_iret hX hV dX7_clearText_17
abbrev rm_X7_faultPosition : Room := { frames := 6, cells := 0, slots := 0, locals := 137 }
theorem cv_X7_faultPosition : sr_Cv yX7_faultPosition cX7_faultPosition 1 (Option.some FieldType.int) RX7 0 := ⟨lk_337, lk_335, lk_336, lk_1, rfl, by decide +kernel, by decide +kernel, by decide +kernel⟩
set_option maxHeartbeats 4000000 in
set_option maxRecDepth 100000 in
theorem c_X7_faultPosition {l : Launch} {D : va_G} {aC : Nat → ClassId} {n0 : Nat} {r : Int32} {σ' : St}  {σ : St} {q0 : Nat} (h0 : shC q0 = 8) (hf : f_X7_faultPosition q0 σ = some (r, σ')) : sr_Met l D aC shC n0 yX7_faultPosition cX7_faultPosition 1 (Option.some FieldType.int) rm_X7_faultPosition [.ref (n0 + q0)] σ (some (.int r)) σ' := by
  refine s_met (own := RX7) (by decide) (Nat.le_of_ble_eq_true rfl) rfl ?_
  intro p e s m below meth c ls hX hV hl
  have hl : lv_has ls 1 [(0, .ref (n0 + q0))] := hl
  have hx := hX.1.1
  have hb := hX.1.2.1
  unfold f_X7_faultPosition at hf
  refine lv_aload_n hx hb dX7_faultPosition_0 rfl (lv_at hl 0 rfl) ?_
  refine fg_7_4 hX hV lk_220 (h0) dX7_faultPosition_1 ?_
  refine lv_aload_n hx hb dX7_faultPosition_4 rfl (lv_at hl 0 rfl) ?_
  refine fg_7_0 hX hV lk_216 (h0) dX7_faultPosition_5 ?_
  refine fg_1_5 hX hV lk_167 (ch_7_0 (h0)) dX7_faultPosition_8 ?_
  obtain ⟨v2, σ3, e1, hf⟩ := sr_ob2 hf
  refine s_callV1 (ci := 5) hX hV hl.1 (c_X5_parse (ch_7_4 (h0)) e1) cv_X5_parse lk_338 ⟨rfl, rfl, Nat.le_of_ble_eq_true rfl, Nat.le_of_ble_eq_true rfl⟩ rfl (by decide) (ch_7_4 (h0)) rfl rfl (Nat.le_of_ble_eq_true rfl) dX7_faultPosition_11 ⟨Nat.le_of_ble_eq_true rfl, Nat.le_of_ble_eq_true rfl⟩ (fun H locs hV => ?_)
  refine lv_if_eq (tgt := 22) hx hb dX7_faultPosition_14 (by decide) (fun c4 => ?_) (fun c4 => ?_)
  · have hf := sr_f hf (sr_b0 c4)
    refine lv_aload_n hx hb dX7_faultPosition_22 rfl (lv_at hl 0 rfl) ?_
    refine fg_7_4 hX hV lk_220 (h0) dX7_faultPosition_23 ?_
    refine fg_5_3 hX hV lk_204 (ch_7_4 (h0)) dX7_faultPosition_26 ?_
    cases hf
    exact s_iret hX hV dX7_faultPosition_29
  · have hf := sr_t hf (sr_b1 c4)
    refine lv_bipush (v := (-15)) hx hb dX7_faultPosition_17 (by decide) ?_
    refine lv_goto (tgt := 29) hx hb dX7_faultPosition_19 (by decide) ?_
    cases hf
    exact s_iret hX hV dX7_faultPosition_29
abbrev rm_X7_read : Room := { frames := 6, cells := 0, slots := 0, locals := 137 }
theorem cv_X7_read : sr_Cv yX7_read cX7_read 3 (Option.some FieldType.int) RX7 1 := ⟨lk_372, lk_370, lk_371, lk_1, rfl, by decide +kernel, by decide +kernel, by decide +kernel⟩
set_option maxHeartbeats 4000000 in
set_option maxRecDepth 100000 in
theorem c_X7_read {l : Launch} {D : va_G} {aC : Nat → ClassId} {n0 : Nat} {r : Int32} {σ' : St}  {σ : St} {q0 : Nat} {x1 : Int32} (h0 : shC q0 = 8) (hf : f_X7_read q0 x1 σ = some (r, σ')) : sr_Met l D aC shC n0 yX7_read cX7_read 3 (Option.some FieldType.int) rm_X7_read [.ref (n0 + q0), .int x1] σ (some (.int r)) σ' := by
  refine s_met (own := RX7) (by decide) (Nat.le_of_ble_eq_true rfl) rfl ?_
  intro p e s m below meth c ls hX hV hl
  have hl : lv_has ls 3 [(0, .ref (n0 + q0)), (1, .int x1)] := hl
  have hx := hX.1.1
  have hb := hX.1.2.1
  unfold f_X7_read at hf
  refine lv_aload_n hx hb dX7_read_0 rfl (lv_at hl 0 rfl) ?_
  refine fg_7_0 hX hV lk_216 (h0) dX7_read_1 ?_
  refine lv_iload_n hx hb dX7_read_4 rfl (lv_at hl 1 rfl) ?_
  obtain ⟨v2, e1, hf⟩ := sr_obd hf
  refine s_callV1 (ci := 1) hX hV hl.1 (c_X1_find (ch_7_0 (h0)) e1) cv_X1_find lk_283 ⟨rfl, rfl, Nat.le_of_ble_eq_true rfl, Nat.le_of_ble_eq_true rfl⟩ rfl (by decide) (ch_7_0 (h0)) rfl rfl (Nat.le_of_ble_eq_true rfl) dX7_read_5 ⟨Nat.le_of_ble_eq_true rfl, Nat.le_of_ble_eq_true rfl⟩ (fun H locs hV => ?_)
  rcases v2 with _ | q3
  · have hf := sr_on hf
    refine lv_astore_nN (lv' := [(2, .null), (0, .ref (n0 + q0)), (1, .int x1)]) hx hb dX7_read_8 rfl hl (by decide) rfl (fun ls hl => ?_)
    refine lv_aload_nN hx hb dX7_read_9 rfl (lv_at hl 0 rfl) ?_
    refine lv_ifnonnullN hx hb dX7_read_10 ?_
    refine lv_bipush (v := (-11)) hx hb dX7_read_13 (by decide) ?_
    cases hf
    exact s_iret hX hV dX7_read_15
  · have hf := sr_os hf
    obtain ⟨g4, hf⟩ := sr_gd hf
    refine lv_astore_n (lv' := [(2, .ref (n0 + q3)), (0, .ref (n0 + q0)), (1, .int x1)]) hx hb dX7_read_8 rfl hl (by decide) rfl (fun ls hl => ?_)
    refine lv_aload_n hx hb dX7_read_9 rfl (lv_at hl 0 rfl) ?_
    refine lv_ifnonnull (tgt := 16) hx hb dX7_read_10 (by decide) ?_
    refine lv_aload_n hx hb dX7_read_16 rfl (lv_at hl 0 rfl) ?_
    refine fg_0_5 hX hV lk_94 (g4) dX7_read_17 ?_
    refine lv_if_ne (tgt := 40) hx hb dX7_read_20 (by decide) (fun c5 => ?_) (fun c5 => ?_)
    · have hf := sr_f hf c5
      refine lv_bipush (v := (-13)) hx hb dX7_read_40 (by decide) ?_
      cases hf
      exact s_iret hX hV dX7_read_42
    · have hf := sr_t hf c5
      refine lv_aload_n hx hb dX7_read_23 rfl (lv_at hl 1 rfl) ?_
      refine fg_7_4 hX hV lk_220 (h0) dX7_read_24 ?_
      refine lv_aload_n hx hb dX7_read_27 rfl (lv_at hl 1 rfl) ?_
      refine fg_7_0 hX hV lk_216 (h0) dX7_read_28 ?_
      refine fg_1_5 hX hV lk_167 (ch_7_0 (h0)) dX7_read_31 ?_
      obtain ⟨v7, σ8, e6, hf⟩ := sr_ob2 hf
      refine s_callV1 (ci := 5) hX hV hl.1 (c_X5_parse (ch_7_4 (h0)) e6) cv_X5_parse lk_338 ⟨rfl, rfl, Nat.le_of_ble_eq_true rfl, Nat.le_of_ble_eq_true rfl⟩ rfl (by decide) (ch_7_4 (h0)) rfl rfl (Nat.le_of_ble_eq_true rfl) dX7_read_34 ⟨Nat.le_of_ble_eq_true rfl, Nat.le_of_ble_eq_true rfl⟩ (fun H locs hV => ?_)
      refine lv_if_ne (tgt := 43) hx hb dX7_read_37 (by decide) (fun c9 => ?_) (fun c9 => ?_)
      · have hf := sr_t hf (sr_b1 c9)
        refine lv_aload_n hx hb dX7_read_43 rfl (lv_at hl 0 rfl) ?_
        refine fg_0_1 hX hV lk_85 (g4) dX7_read_44 ?_
        refine lv_aload_n hx hb dX7_read_47 rfl (lv_at hl 1 rfl) ?_
        refine fg_7_4 hX hV lk_220 (h0) dX7_read_48 ?_
        refine fg_5_1 hX hV lk_200 (ch_7_4 (h0)) dX7_read_51 ?_
        obtain ⟨σ11, e10, hf⟩ := sr_bnd hf
        refine s_callV0 (ci := 4) hX hV hl.1 (c_X4_copyFrom (ch_0_1 (g4)) (ch_5_1 (ch_7_4 (h0))) e10) cv_X4_copyFrom lk_373 ⟨rfl, rfl, Nat.le_of_ble_eq_true rfl, Nat.le_of_ble_eq_true rfl⟩ rfl (by decide) (ch_0_1 (g4)) rfl rfl (Nat.le_of_ble_eq_true rfl) dX7_read_54 ⟨Nat.le_of_ble_eq_true rfl, Nat.le_of_ble_eq_true rfl⟩ (fun H locs hV => ?_)
        refine lv_aload_n hx hb dX7_read_57 rfl (lv_at hl 0 rfl) ?_
        refine fg_0_1 hX hV lk_85 (g4) dX7_read_58 ?_
        refine fg_4_1 hX hV lk_44 (ch_0_1 (g4)) dX7_read_61 ?_
        cases hf
        exact s_iret hX hV dX7_read_64
      · have hf := sr_f hf (sr_b0 c9)
        refine lv_bipush (v := (-13)) hx hb dX7_read_40 (by decide) ?_
        cases hf
        exact s_iret hX hV dX7_read_42
