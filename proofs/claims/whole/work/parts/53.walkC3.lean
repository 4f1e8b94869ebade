abbrev rm_X1_goOn : Room := { frames := 3, cells := 0, slots := 0, locals := 70 }
theorem cv_X1_goOn : sr_Cv yX1_goOn cX1_goOn 2 (none) RX1 1 := ⟨lk_544, lk_543, lp_15, lk_2, rfl, by decide +kernel, by decide +kernel, by decide +kernel⟩
set_option maxHeartbeats 4000000 in
set_option maxRecDepth 100000 in
theorem c_X1_goOn {l : Launch} {D : va_G} {aC : Nat → ClassId} {n0 : Nat} {σ' : St}  {σ : St} {q0 : Nat} {q1 : Nat} (h0 : shC q0 = 2) (h1 : shC q1 = 1) (hf : f_X1_goOn q0 q1 σ = some σ') : sr_Met l D aC shC n0 yX1_goOn cX1_goOn 2 (none) rm_X1_goOn [.ref (n0 + q0), .ref (n0 + q1)] σ none σ' := by
  refine s_met (own := RX1) (by decide) (Nat.le_of_ble_eq_true rfl) rfl ?_
  intro p e s m below meth c ls hX hV hl
  have hl : lv_has ls 2 [(0, .ref (n0 + q0)), (1, .ref (n0 + q1))] := hl
  have hx := hX.1.1
  have hb := hX.1.2.1
  unfold f_X1_goOn at hf
  refine lv_aload_n hx hb dX1_goOn_0 rfl (lv_at hl 1 rfl) ?_
  obtain ⟨v2, e1, hf⟩ := sr_bnd hf
  refine s_callV1 (ci := 0) hX hV hl.1 (c_X0_hasFurtherStage (h1) e1) cv_X0_hasFurtherStage lk_521 ⟨rfl, rfl, Nat.le_of_ble_eq_true rfl, Nat.le_of_ble_eq_true rfl⟩ rfl (by decide) (h1) rfl rfl (Nat.le_of_ble_eq_true rfl) dX1_goOn_1 ⟨Nat.le_of_ble_eq_true rfl, Nat.le_of_ble_eq_true rfl⟩ (fun H locs hV => ?_)
  refine lv_if_eq (tgt := 38) hx hb dX1_goOn_4 (by decide) (fun c3 => ?_) (fun c3 => ?_)
  · have hf := sr_f hf (sr_b0 c3)
    refine lv_aload_n hx hb dX1_goOn_38 rfl (lv_at hl 0 rfl) ?_
    refine lv_aload_n hx hb dX1_goOn_39 rfl (lv_at hl 1 rfl) ?_
    refine lv_iconst (v := 3) hx hb dX1_goOn_40 (by decide) ?_
    refine lv_iconst (v := 2) hx hb dX1_goOn_41 (by decide) ?_
    obtain ⟨σ5, e4, hf⟩ := sr_obd hf
    refine s_callV0 (ci := 1) hX hV hl.1 (c_X1_become (h0) (h1) e4) cv_X1_become lk_492 ⟨rfl, rfl, Nat.le_of_ble_eq_true rfl, Nat.le_of_ble_eq_true rfl⟩ rfl (by decide) (h0) rfl rfl (Nat.le_of_ble_eq_true rfl) dX1_goOn_42 ⟨Nat.le_of_ble_eq_true rfl, Nat.le_of_ble_eq_true rfl⟩ (fun H locs hV => ?_)
    cases hf
    exact s_vret hX hV dX1_goOn_45
  · have hf := sr_t hf (sr_b1 c3)
    refine lv_aload_n hx hb dX1_goOn_7 rfl (lv_at hl 0 rfl) ?_
    refine fg_1_2 hX hV lk_161 (h0) dX1_goOn_8 ?_
    refine lv_aload_n hx hb dX1_goOn_11 rfl (lv_at hl 0 rfl) ?_
    refine fg_1_6 hX hV lk_168 (h0) dX1_goOn_12 ?_
    refine lv_aload_n hx hb dX1_goOn_15 rfl (lv_at hl 1 rfl) ?_
    refine fg_0_0 hX hV lk_83 (h1) dX1_goOn_16 ?_
    refine lv_iconst (v := 1) hx hb dX1_goOn_19 (by decide) ?_
    refine lv_aload_n hx hb dX1_goOn_20 rfl (lv_at hl 1 rfl) ?_
    refine fg_0_6 hX hV lk_97 (h1) dX1_goOn_21 ?_
    obtain ⟨σ7, e6, hf⟩ := sr_obd hf
    refine s_callV0 (ci := 3) hX hV hl.1 (c_X3_put (ch_1_2 (h0)) e6) cv_X3_put lk_396 ⟨rfl, rfl, Nat.le_of_ble_eq_true rfl, Nat.le_of_ble_eq_true rfl⟩ rfl (by decide) (ch_1_2 (h0)) rfl rfl (Nat.le_of_ble_eq_true rfl) dX1_goOn_24 ⟨Nat.le_of_ble_eq_true rfl, Nat.le_of_ble_eq_true rfl⟩ (fun H locs hV => ?_)
    refine lv_aload_n hx hb dX1_goOn_27 rfl (lv_at hl 1 rfl) ?_
    refine lv_aload_n hx hb dX1_goOn_28 rfl (lv_at hl 0 rfl) ?_
    refine fg_1_6 hX hV lk_168 (h0) dX1_goOn_29 ?_
    obtain ⟨σ9, e8, hf⟩ := sr_obd hf
    refine s_callV0 (ci := 0) hX hV hl.1 (c_X0_beginStage (h1) e8) cv_X0_beginStage lk_545 ⟨rfl, rfl, Nat.le_of_ble_eq_true rfl, Nat.le_of_ble_eq_true rfl⟩ rfl (by decide) (h1) rfl rfl (Nat.le_of_ble_eq_true rfl) dX1_goOn_32 ⟨Nat.le_of_ble_eq_true rfl, Nat.le_of_ble_eq_true rfl⟩ (fun H locs hV => ?_)
    refine lv_goto (tgt := 45) hx hb dX1_goOn_35 (by decide) ?_
    cases hf
    exact s_vret hX hV dX1_goOn_45
abbrev rm_X1_moveInHour : Room := { frames := 4, cells := 0, slots := 0, locals := 91 }
theorem cv_X1_moveInHour : sr_Cv yX1_moveInHour cX1_moveInHour 2 (none) RX1 1 := ⟨lk_481, lk_480, lp_9, lk_2, rfl, by decide +kernel, by decide +kernel, by decide +kernel⟩
set_option maxHeartbeats 4000000 in
set_option maxRecDepth 100000 in
theorem c_X1_moveInHour {l : Launch} {D : va_G} {aC : Nat → ClassId} {n0 : Nat} {σ' : St}  {σ : St} {q0 : Nat} {q1 : Nat} (h0 : shC q0 = 2) (h1 : shC q1 = 1) (hf : f_X1_moveInHour q0 q1 σ = some σ') : sr_Met l D aC shC n0 yX1_moveInHour cX1_moveInHour 2 (none) rm_X1_moveInHour [.ref (n0 + q0), .ref (n0 + q1)] σ none σ' := by
  refine s_met (own := RX1) (by decide) (Nat.le_of_ble_eq_true rfl) rfl ?_
  intro p e s m below meth c ls hX hV hl
  have hl : lv_has ls 2 [(0, .ref (n0 + q0)), (1, .ref (n0 + q1))] := hl
  have hx := hX.1.1
  have hb := hX.1.2.1
  unfold f_X1_moveInHour at hf
  refine lv_aload_n hx hb dX1_moveInHour_0 rfl (lv_at hl 0 rfl) ?_
  refine lv_aload_n hx hb dX1_moveInHour_1 rfl (lv_at hl 1 rfl) ?_
  obtain ⟨v2, e1, hf⟩ := sr_bnd hf
  refine s_callV1 (ci := 1) hX hV hl.1 (c_X1_hasBadChance (h0) (h1) e1) cv_X1_hasBadChance lk_482 ⟨rfl, rfl, Nat.le_of_ble_eq_true rfl, Nat.le_of_ble_eq_true rfl⟩ rfl (by decide) (h0) rfl rfl (Nat.le_of_ble_eq_true rfl) dX1_moveInHour_2 ⟨Nat.le_of_ble_eq_true rfl, Nat.le_of_ble_eq_true rfl⟩ (fun H locs hV => ?_)
  refine lv_if_eq (tgt := 18) hx hb dX1_moveInHour_5 (by decide) (fun c3 => ?_) (fun c3 => ?_)
  · have hf := sr_f hf (sr_b0 c3)
    refine lv_aload_n hx hb dX1_moveInHour_18 rfl (lv_at hl 1 rfl) ?_
    refine fg_0_5 hX hV lk_95 (h1) dX1_moveInHour_19 ?_
    refine lv_iconst (v := 4) hx hb dX1_moveInHour_22 (by decide) ?_
    refine lv_icmp_ne (tgt := 34) hx hb dX1_moveInHour_23 (by decide) (fun c4 => ?_) (fun c4 => ?_)
    · have hf := sr_f hf c4
      refine lv_aload_n hx hb dX1_moveInHour_34 rfl (lv_at hl 1 rfl) ?_
      refine fg_0_5 hX hV lk_95 (h1) dX1_moveInHour_35 ?_
      refine lv_iconst (v := 1) hx hb dX1_moveInHour_38 (by decide) ?_
      refine lv_icmp_ne (tgt := 55) hx hb dX1_moveInHour_39 (by decide) (fun c5 => ?_) (fun c5 => ?_)
      · have hf := sr_f hf c5
        cases hf
        exact s_vret hX hV dX1_moveInHour_55
      · have hf := sr_t hf c5
        refine lv_aload_n hx hb dX1_moveInHour_42 rfl (lv_at hl 0 rfl) ?_
        refine lv_aload_n hx hb dX1_moveInHour_43 rfl (lv_at hl 1 rfl) ?_
        obtain ⟨v7, e6, hf⟩ := sr_obd hf
        refine s_callV1 (ci := 1) hX hV hl.1 (c_X1_reasonOf (h0) (h1) e6) cv_X1_reasonOf lk_497 ⟨rfl, rfl, Nat.le_of_ble_eq_true rfl, Nat.le_of_ble_eq_true rfl⟩ rfl (by decide) (h0) rfl rfl (Nat.le_of_ble_eq_true rfl) dX1_moveInHour_44 ⟨Nat.le_of_ble_eq_true rfl, Nat.le_of_ble_eq_true rfl⟩ (fun H locs hV => ?_)
        refine lv_if_ne (tgt := 55) hx hb dX1_moveInHour_47 (by decide) (fun c8 => ?_) (fun c8 => ?_)
        · have hf := sr_f hf c8
          cases hf
          exact s_vret hX hV dX1_moveInHour_55
        · have hf := sr_t hf c8
          refine lv_aload_n hx hb dX1_moveInHour_50 rfl (lv_at hl 0 rfl) ?_
          refine lv_aload_n hx hb dX1_moveInHour_51 rfl (lv_at hl 1 rfl) ?_
          obtain ⟨σ10, e9, hf⟩ := sr_obd hf
          refine s_callV0 (ci := 1) hX hV hl.1 (c_X1_goOn (h0) (h1) e9) cv_X1_goOn lk_541 ⟨rfl, rfl, Nat.le_of_ble_eq_true rfl, Nat.le_of_ble_eq_true rfl⟩ rfl (by decide) (h0) rfl rfl (Nat.le_of_ble_eq_true rfl) dX1_moveInHour_52 ⟨Nat.le_of_ble_eq_true rfl, Nat.le_of_ble_eq_true rfl⟩ (fun H locs hV => ?_)
          cases hf
          exact s_vret hX hV dX1_moveInHour_55
    · have hf := sr_t hf c4
      refine lv_aload_n hx hb dX1_moveInHour_26 rfl (lv_at hl 0 rfl) ?_
      refine lv_aload_n hx hb dX1_moveInHour_27 rfl (lv_at hl 1 rfl) ?_
      obtain ⟨σ12, e11, hf⟩ := sr_obd hf
      refine s_callV0 (ci := 1) hX hV hl.1 (c_X1_turnStage (h0) (h1) e11) cv_X1_turnStage lk_493 ⟨rfl, rfl, Nat.le_of_ble_eq_true rfl, Nat.le_of_ble_eq_true rfl⟩ rfl (by decide) (h0) rfl rfl (Nat.le_of_ble_eq_true rfl) dX1_moveInHour_28 ⟨Nat.le_of_ble_eq_true rfl, Nat.le_of_ble_eq_true rfl⟩ (fun H locs hV => ?_)
      refine lv_goto (tgt := 55) hx hb dX1_moveInHour_31 (by decide) ?_
      cases hf
      exact s_vret hX hV dX1_moveInHour_55
  · have hf := sr_t hf (sr_b1 c3)
    refine lv_aload_n hx hb dX1_moveInHour_8 rfl (lv_at hl 0 rfl) ?_
    refine lv_aload_n hx hb dX1_moveInHour_9 rfl (lv_at hl 1 rfl) ?_
    refine lv_iconst (v := 4) hx hb dX1_moveInHour_10 (by decide) ?_
    refine lv_iconst (v := 3) hx hb dX1_moveInHour_11 (by decide) ?_
    obtain ⟨σ14, e13, hf⟩ := sr_obd hf
    refine s_callV0 (ci := 1) hX hV hl.1 (c_X1_become (h0) (h1) e13) cv_X1_become lk_492 ⟨rfl, rfl, Nat.le_of_ble_eq_true rfl, Nat.le_of_ble_eq_true rfl⟩ rfl (by decide) (h0) rfl rfl (Nat.le_of_ble_eq_true rfl) dX1_moveInHour_12 ⟨Nat.le_of_ble_eq_true rfl, Nat.le_of_ble_eq_true rfl⟩ (fun H locs hV => ?_)
    refine lv_goto (tgt := 55) hx hb dX1_moveInHour_15 (by decide) ?_
    cases hf
    exact s_vret hX hV dX1_moveInHour_55
abbrev rm_X1_passHour : Room := { frames := 5, cells := 0, slots := 0, locals := 112 }
theorem cv_X1_passHour : sr_Cv yX1_passHour cX1_passHour 2 (none) RX1 0 := ⟨lk_477, lk_475, lk_476, lk_2, rfl, by decide +kernel, by decide +kernel, by decide +kernel⟩
set_option maxHeartbeats 4000000 in
set_option maxRecDepth 100000 in
theorem k_X1_passHour_L2 {p : Program} {l : Launch} {e : Env} {s : State} {m : MethodId} {args : Array Value} {below : List Frame} {meth : Method} {c : Code} {D : va_G} {aC : Nat → ClassId} {n0 : Nat} {σ' : St} {q0 : Nat} (hX : sr_X p s m args meth c cX1_passHour 2 (none) RX1 D aC) (h0 : shC q0 = 2) (rec2 : Int32 → St → Option St) (hrec2 : ∀ (x1 : Int32) (σ : St) (H : Heap) (locs : List Loc) (ls : Array Slot) , lv_has ls 2 [(0, .ref (n0 + q0)), (1, .int x1)] → sr_V D aC shC n0 σ s.heap H locs → rec2 x1 σ = some σ' → W p l e rm_X1_passHour s m args below meth c H locs 0 0 (MQ below (sr_Qc D aC shC n0 σ' none) args s 0 0 (sr_A shC n0)) (F0 m 2 ls [])) : ∀ (x1 : Int32) (σ : St) (H : Heap) (locs : List Loc) (ls : Array Slot) , lv_has ls 2 [(0, .ref (n0 + q0)), (1, .int x1)] → sr_V D aC shC n0 σ s.heap H locs → f_X1_passHour_L2 q0 rec2 x1 σ = some σ' → W p l e rm_X1_passHour s m args below meth c H locs 0 0 (MQ below (sr_Qc D aC shC n0 σ' none) args s 0 0 (sr_A shC n0)) (F0 m 2 ls []) := by
  intro x1 σ H locs ls  hl hV hf
  have hx := hX.1.1
  have hb := hX.1.2.1
  unfold f_X1_passHour_L2 at hf
  refine lv_iload_n hx hb dX1_passHour_2 rfl (lv_at hl 1 rfl) ?_
  refine lv_aload_n hx hb dX1_passHour_3 rfl (lv_at hl 0 rfl) ?_
  refine fg_1_4 hX hV lk_164 (h0) dX1_passHour_4 ?_
  refine lv_icmp_ge (tgt := 31) hx hb dX1_passHour_7 (by decide) (fun c1 => ?_) (fun c1 => ?_)
  · have hf := sr_t hf c1
    refine lv_aload_n hx hb dX1_passHour_31 rfl (lv_at hl 0 rfl) ?_
    refine lv_dup hx hb dX1_passHour_32 rfl ?_
    refine fg_1_6 hX hV lk_168 (h0) dX1_passHour_33 ?_
    refine lv_iconst (v := 1) hx hb dX1_passHour_36 (by decide) ?_
    refine lv_iadd hx hb dX1_passHour_37 ?_
    obtain ⟨σ2, e3, hf⟩ := sr_bnd hf
    refine fp_1_6 (x := ((gI σ q0 6) + 1)) hX hV lk_168 (h0) dX1_passHour_38 (fun H locs hV => ?_)
    rw [e3] at hV
    cases hf
    exact s_vret hX hV dX1_passHour_41
  · have hf := sr_f hf c1
    refine lv_iload_n hx hb dX1_passHour_10 rfl (lv_at hl 1 rfl) ?_
    refine lv_iconst (v := 5) hx hb dX1_passHour_11 (by decide) ?_
    refine lv_icmp_ge (tgt := 31) hx hb dX1_passHour_12 (by decide) (fun c4 => ?_) (fun c4 => ?_)
    · have hf := sr_t hf c4
      refine lv_aload_n hx hb dX1_passHour_31 rfl (lv_at hl 0 rfl) ?_
      refine lv_dup hx hb dX1_passHour_32 rfl ?_
      refine fg_1_6 hX hV lk_168 (h0) dX1_passHour_33 ?_
      refine lv_iconst (v := 1) hx hb dX1_passHour_36 (by decide) ?_
      refine lv_iadd hx hb dX1_passHour_37 ?_
      obtain ⟨σ5, e6, hf⟩ := sr_bnd hf
      refine fp_1_6 (x := ((gI σ q0 6) + 1)) hX hV lk_168 (h0) dX1_passHour_38 (fun H locs hV => ?_)
      rw [e6] at hV
      cases hf
      exact s_vret hX hV dX1_passHour_41
    · have hf := sr_f hf c4
      refine lv_aload_n hx hb dX1_passHour_15 rfl (lv_at hl 0 rfl) ?_
      refine lv_aload_n hx hb dX1_passHour_16 rfl (lv_at hl 0 rfl) ?_
      refine fg_1_0 hX hV lk_158 (h0) dX1_passHour_17 ?_
      refine lv_iload_n hx hb dX1_passHour_20 rfl (lv_at hl 1 rfl) ?_
      obtain ⟨g7, hf⟩ := sr_gd hf
      refine s_cald hX hV (n := 5) (ch_1_0 (h0)) (by decide) (inb_in g7) dX1_passHour_21 ?_
      obtain ⟨σ9, e8, hf⟩ := sr_obd hf
      refine s_callV0 (ci := 1) hX hV hl.1 (c_X1_moveInHour (h0) (ch_list (ch_1_0 (h0)) (vp_lt (inb_in g7))) e8) cv_X1_moveInHour lk_478 ⟨rfl, rfl, Nat.le_of_ble_eq_true rfl, Nat.le_of_ble_eq_true rfl⟩ rfl (by decide) (h0) rfl rfl (Nat.le_of_ble_eq_true rfl) dX1_passHour_22 ⟨Nat.le_of_ble_eq_true rfl, Nat.le_of_ble_eq_true rfl⟩ (fun H locs hV => ?_)
      obtain ⟨v10, e11, hf⟩ := sr_bnd hf
      refine lv_iinc (v := v10) (lv' := [(1, .int v10), (0, .ref (n0 + q0))]) hx hb dX1_passHour_25 hl (k := 1) rfl (by rw [← e11]; rfl) (by decide) rfl (fun ls hl => ?_)
      refine lv_goto (tgt := 2) hx hb dX1_passHour_28 (by decide) ?_
      exact hrec2 _ _ _ _ _  (lv_sub hl [1, 0] rfl) hV hf
set_option maxHeartbeats 4000000 in
set_option maxRecDepth 100000 in
theorem k_X1_passHour_L2w {p : Program} {l : Launch} {e : Env} {s : State} {m : MethodId} {args : Array Value} {below : List Frame} {meth : Method} {c : Code} {D : va_G} {aC : Nat → ClassId} {n0 : Nat} {σ' : St} {q0 : Nat} (hX : sr_X p s m args meth c cX1_passHour 2 (none) RX1 D aC) (h0 : shC q0 = 2) (n : Nat) : ∀ (x1 : Int32) (σ : St) (H : Heap) (locs : List Loc) (ls : Array Slot) , lv_has ls 2 [(0, .ref (n0 + q0)), (1, .int x1)] → sr_V D aC shC n0 σ s.heap H locs → it2 (f_X1_passHour_L2 q0) n x1 σ = some σ' → W p l e rm_X1_passHour s m args below meth c H locs 0 0 (MQ below (sr_Qc D aC shC n0 σ' none) args s 0 0 (sr_A shC n0)) (F0 m 2 ls []) :=
  it2_ind (fun rec2 => ∀ (x1 : Int32) (σ : St) (H : Heap) (locs : List Loc) (ls : Array Slot) , lv_has ls 2 [(0, .ref (n0 + q0)), (1, .int x1)] → sr_V D aC shC n0 σ s.heap H locs → rec2 x1 σ = some σ' → W p l e rm_X1_passHour s m args below meth c H locs 0 0 (MQ below (sr_Qc D aC shC n0 σ' none) args s 0 0 (sr_A shC n0)) (F0 m 2 ls [])) (by intros; rename_i hf; exact absurd hf (by simp)) (fun rec hrec => k_X1_passHour_L2 hX h0  rec hrec) n
set_option maxHeartbeats 4000000 in
set_option maxRecDepth 100000 in
theorem c_X1_passHour {l : Launch} {D : va_G} {aC : Nat → ClassId} {n0 : Nat} {σ' : St}  {σ : St} {q0 : Nat} (h0 : shC q0 = 2) (hf : f_X1_passHour q0 σ = some σ') : sr_Met l D aC shC n0 yX1_passHour cX1_passHour 2 (none) rm_X1_passHour [.ref (n0 + q0)] σ none σ' := by
  refine s_met (own := RX1) (by decide) (Nat.le_of_ble_eq_true rfl) rfl ?_
  intro p e s m below meth c ls hX hV hl
  have hl : lv_has ls 2 [(0, .ref (n0 + q0))] := hl
  have hx := hX.1.1
  have hb := hX.1.2.1
  unfold f_X1_passHour at hf
  refine lv_iconst (v := 0) hx hb dX1_passHour_0 (by decide) ?_
  refine lv_istore_n (lv' := [(1, .int 0), (0, .ref (n0 + q0))]) hx hb dX1_passHour_1 rfl hl (by decide) rfl (fun ls hl => ?_)
  exact k_X1_passHour_L2w hX h0  sr_fuel _ _ _ _ _  (lv_sub hl [1, 0] rfl) hV hf
abbrev rm_X2_put : Room := { frames := 0, cells := 0, slots := 0, locals := 0 }
theorem cv_X2_put : sr_Cv yX2_put cX2_put 3 (Option.some FieldType.boolean) RX2 2 := ⟨lk_258, lk_256, lk_257, lk_6, rfl, by decide +kernel, by decide +kernel, by decide +kernel⟩
set_option maxHeartbeats 4000000 in
set_option maxRecDepth 100000 in
theorem c_X2_put {l : Launch} {D : va_G} {aC : Nat → ClassId} {n0 : Nat} {r : Bool} {σ' : St}  {σ : St} {q0 : Nat} {x1 : Int32} {x2 : Int32} (h0 : shC q0 = 3) (hf : f_X2_put q0 x1 x2 σ = some (r, σ')) : sr_Met l D aC shC n0 yX2_put cX2_put 3 (Option.some FieldType.boolean) rm_X2_put [.ref (n0 + q0), .int x1, .int x2] σ (some (.int (bI r))) σ' := by
  refine s_met (own := RX2) (by decide) (Nat.le_of_ble_eq_true rfl) rfl ?_
  intro p e s m below meth c ls hX hV hl
  have hl : lv_has ls 3 [(0, .ref (n0 + q0)), (1, .int x1), (2, .int x2)] := hl
  have hx := hX.1.1
  have hb := hX.1.2.1
  unfold f_X2_put at hf
  refine lv_aload_n hx hb dX2_put_0 rfl (lv_at hl 0 rfl) ?_
  refine fg_2_2 hX hV lk_127 (h0) dX2_put_1 ?_
  refine lv_if_lt (tgt := 15) hx hb dX2_put_4 (by decide) (fun c1 => ?_) (fun c1 => ?_)
  · have hf := sr_t hf c1
    refine lv_iconst (v := 0) hx hb dX2_put_15 (by decide) ?_
    cases hf
    exact s_zret (b := false) hX hV dX2_put_16
  · have hf := sr_f hf c1
    refine lv_aload_n hx hb dX2_put_7 rfl (lv_at hl 0 rfl) ?_
    refine fg_2_2 hX hV lk_127 (h0) dX2_put_8 ?_
    refine lv_iconst (v := 3) hx hb dX2_put_11 (by decide) ?_
    refine lv_icmp_lt (tgt := 17) hx hb dX2_put_12 (by decide) (fun c2 => ?_) (fun c2 => ?_)
    · have hf := sr_t hf c2
      refine lv_aload_n hx hb dX2_put_17 rfl (lv_at hl 0 rfl) ?_
      refine fg_2_0 hX hV lk_125 (h0) dX2_put_18 ?_
      refine lv_aload_n hx hb dX2_put_21 rfl (lv_at hl 0 rfl) ?_
      refine fg_2_2 hX hV lk_127 (h0) dX2_put_22 ?_
      refine lv_iload_n hx hb dX2_put_25 rfl (lv_at hl 1 rfl) ?_
      obtain ⟨v3, e4, hf⟩ := sr_bnd hf
      rw [e4]
      obtain ⟨g5, hf⟩ := sr_gd hf
      obtain ⟨σ6, e7, hf⟩ := sr_bnd hf
      refine s_iast hX hV (n := 3) (ch_2_0 (h0)) (by decide) (inb_in g5) dX2_put_26 (fun H locs hV => ?_)
      rw [e7] at hV
      refine lv_aload_n hx hb dX2_put_27 rfl (lv_at hl 0 rfl) ?_
      refine fg_2_1 hX hV lk_126 (h0) dX2_put_28 ?_
      refine lv_aload_n hx hb dX2_put_31 rfl (lv_at hl 0 rfl) ?_
      refine fg_2_2 hX hV lk_127 (h0) dX2_put_32 ?_
      refine lv_iload_n hx hb dX2_put_35 rfl (lv_at hl 2 rfl) ?_
      obtain ⟨v8, e9, hf⟩ := sr_bnd hf
      rw [e9]
      obtain ⟨g10, hf⟩ := sr_gd hf
      obtain ⟨σ11, e12, hf⟩ := sr_bnd hf
      refine s_iast hX hV (n := 3) (ch_2_1 (h0)) (by decide) (inb_in g10) dX2_put_36 (fun H locs hV => ?_)
      rw [e12] at hV
      refine lv_aload_n hx hb dX2_put_37 rfl (lv_at hl 0 rfl) ?_
      refine lv_dup hx hb dX2_put_38 rfl ?_
      refine fg_2_2 hX hV lk_127 (h0) dX2_put_39 ?_
      refine lv_iconst (v := 1) hx hb dX2_put_42 (by decide) ?_
      refine lv_iadd hx hb dX2_put_43 ?_
      obtain ⟨σ13, e14, hf⟩ := sr_bnd hf
      refine fp_2_2 (x := ((gI σ11 q0 2) + 1)) hX hV lk_127 (h0) dX2_put_44 (fun H locs hV => ?_)
      rw [e14] at hV
      refine lv_iconst (v := 1) hx hb dX2_put_47 (by decide) ?_
      cases hf
      exact s_zret (b := true) hX hV dX2_put_48
    · have hf := sr_f hf c2
      refine lv_iconst (v := 0) hx hb dX2_put_15 (by decide) ?_
      cases hf
      exact s_zret (b := false) hX hV dX2_put_16
abbrev rm_X3_number : Room := { frames := 1, cells := 0, slots := 0, locals := 22 }
theorem cv_X3_number : sr_Cv yX3_number cX3_number 4 (Option.some FieldType.int) RX3 2 := ⟨lk_626, lk_624, lk_625, lk_7, rfl, by decide +kernel, by decide +kernel, by decide +kernel⟩
set_option maxHeartbeats 4000000 in
set_option maxRecDepth 100000 in
theorem c_X3_number {l : Launch} {D : va_G} {aC : Nat → ClassId} {n0 : Nat} {r : Int32} {σ : St}  {q0 : Nat} {x1 : Int32} {x2 : Int32} (h0 : shC q0 = 4) (hf : f_X3_number q0 x1 x2 σ = some r) : sr_Met l D aC shC n0 yX3_number cX3_number 4 (Option.some FieldType.int) rm_X3_number [.ref (n0 + q0), .int x1, .int x2] σ (some (.int r)) σ := by
  refine s_met (own := RX3) (by decide) (Nat.le_of_ble_eq_true rfl) rfl ?_
  intro p e s m below meth c ls hX hV hl
  have hl : lv_has ls 4 [(0, .ref (n0 + q0)), (1, .int x1), (2, .int x2)] := hl
  have hx := hX.1.1
  have hb := hX.1.2.1
  unfold f_X3_number at hf
  refine lv_aload_n hx hb dX3_number_0 rfl (lv_at hl 0 rfl) ?_
  refine lv_iload_n hx hb dX3_number_1 rfl (lv_at hl 1 rfl) ?_
  refine lv_iload_n hx hb dX3_number_2 rfl (lv_at hl 2 rfl) ?_
  obtain ⟨v2, e1, hf⟩ := sr_bnd hf
  refine s_callV1 (ci := 3) hX hV hl.1 (c_X3_placeOf (h0) e1) cv_X3_placeOf lk_400 ⟨rfl, rfl, Nat.le_of_ble_eq_true rfl, Nat.le_of_ble_eq_true rfl⟩ rfl (by decide) (h0) rfl rfl (Nat.le_of_ble_eq_true rfl) dX3_number_3 ⟨Nat.le_of_ble_eq_true rfl, Nat.le_of_ble_eq_true rfl⟩ (fun H locs hV => ?_)
  refine lv_istore_n (lv' := [(3, .int v2), (0, .ref (n0 + q0)), (1, .int x1), (2, .int x2)]) hx hb dX3_number_6 rfl hl (by decide) rfl (fun ls hl => ?_)
  refine lv_iload_n hx hb dX3_number_7 rfl (lv_at hl 0 rfl) ?_
  refine lv_iconst (v := 0) hx hb dX3_number_8 (by decide) ?_
  refine lv_aload_n hx hb dX3_number_9 rfl (lv_at hl 1 rfl) ?_
  refine fg_3_0 hX hV lk_143 (h0) dX3_number_10 ?_
  refine s_alen hX hV (n := 80) (v := 80) (ch_3_0 (h0)) (by decide) (by decide) dX3_number_13 ?_
  refine lv_iconst (v := 1) hx hb dX3_number_14 (by decide) ?_
  refine lv_isub hx hb dX3_number_15 ?_
  obtain ⟨v4, e3, hf⟩ := sr_bnd hf
  refine s_callN1 hX hV hl.1 (c_X7_isWithin  e3) cs_X7_isWithin hX.2.1.2.2.1 ⟨rfl, rfl, Nat.le_of_ble_eq_true rfl, Nat.le_of_ble_eq_true rfl⟩ rfl rfl (Nat.le_of_ble_eq_true rfl) dX3_number_16 ⟨Nat.le_of_ble_eq_true rfl, Nat.le_of_ble_eq_true rfl⟩ (fun H locs hV => ?_)
  refine lv_if_eq (tgt := 31) hx hb dX3_number_19 (by decide) (fun c5 => ?_) (fun c5 => ?_)
  · have hf := sr_f hf (sr_b0 c5)
    refine lv_iconst (v := 0) hx hb dX3_number_31 (by decide) ?_
    cases hf
    exact s_iret hX hV dX3_number_32
  · have hf := sr_t hf (sr_b1 c5)
    refine lv_aload_n hx hb dX3_number_22 rfl (lv_at hl 1 rfl) ?_
    refine fg_3_0 hX hV lk_143 (h0) dX3_number_23 ?_
    refine lv_iload_n hx hb dX3_number_26 rfl (lv_at hl 0 rfl) ?_
    obtain ⟨g6, hf⟩ := sr_gd hf
    refine s_iald hX hV (n := 80) (ch_3_0 (h0)) (by decide) (inb_in g6) dX3_number_27 ?_
    refine lv_goto (tgt := 32) hx hb dX3_number_28 (by decide) ?_
    cases hf
    exact s_iret hX hV dX3_number_32
abbrev rm_X3_countOf : Room := { frames := 2, cells := 0, slots := 0, locals := 45 }
theorem cv_X3_countOf : sr_Cv yX3_countOf cX3_countOf 6 (Option.some FieldType.int) RX3 2 := ⟨lk_634, lk_632, lk_633, lk_7, rfl, by decide +kernel, by decide +kernel, by decide +kernel⟩
set_option maxHeartbeats 4000000 in
set_option maxRecDepth 100000 in
theorem k_X3_countOf_B42 {p : Program} {l : Launch} {e : Env} {s : State} {m : MethodId} {args : Array Value} {below : List Frame} {meth : Method} {c : Code} {D : va_G} {aC : Nat → ClassId} {n0 : Nat} {r : Int32} {σ : St} {q0 : Nat} {x1 : Int32} {x2 : Int32} (hX : sr_X p s m args meth c cX3_countOf 6 (Option.some FieldType.int) RX3 D aC) (h0 : shC q0 = 4) {rec5 : Int32 → Int32 → Option Int32} (hrec5 : ∀ (x3 : Int32) (x4 : Int32) (H : Heap) (locs : List Loc) (ls : Array Slot) , lv_has ls 6 [(0, .ref (n0 + q0)), (1, .int x1), (2, .int x2), (3, .int x3), (4, .int x4)] → sr_V D aC shC n0 σ s.heap H locs → rec5 x3 x4 = some r → W p l e rm_X3_countOf s m args below meth c H locs 0 0 (MQ below (sr_Qc D aC shC n0 σ (some (.int r))) args s 0 0 (sr_A shC n0)) (F0 m 5 ls [])) {x3 : Int32} {x4 : Int32} {sb0 : Bool}  {H : Heap} {locs : List Loc} {ls : Array Slot} (hl : lv_has ls 6 [(0, .ref (n0 + q0)), (1, .int x1), (2, .int x2), (3, .int x3), (4, .int x4)]) (hV : sr_V D aC shC n0 σ s.heap H locs) (hf : f_X3_countOf_B42 σ q0 x1 x2 rec5 x3 x4 sb0 = some r) : W p l e rm_X3_countOf s m args below meth c H locs 0 0 (MQ below (sr_Qc D aC shC n0 σ (some (.int r))) args s 0 0 (sr_A shC n0)) (F0 m 42 ls [.int (bI sb0)]) := by
  have hx := hX.1.1
  have hb := hX.1.2.1
  unfold f_X3_countOf_B42 at hf
  refine lv_istore (lv' := [(5, .int (bI sb0)), (0, .ref (n0 + q0)), (1, .int x1), (2, .int x2), (3, .int x3), (4, .int x4)]) hx hb dX3_countOf_42 hl (by decide) rfl (fun ls hl => ?_)
  refine lv_iload hx hb dX3_countOf_44 (lv_at hl 0 rfl) ?_
  refine lv_if_eq (tgt := 63) hx hb dX3_countOf_46 (by decide) (fun c1 => ?_) (fun c1 => ?_)
  · have hf := sr_f hf (sr_b0 c1)
    obtain ⟨v2, e3, hf⟩ := sr_bnd hf
    refine lv_iinc (v := v2) (lv' := [(4, .int v2), (5, .int (bI sb0)), (0, .ref (n0 + q0)), (1, .int x1), (2, .int x2), (3, .int x3)]) hx hb dX3_countOf_63 hl (k := 5) rfl (by rw [← e3]; rfl) (by decide) rfl (fun ls hl => ?_)
    refine lv_goto (tgt := 5) hx hb dX3_countOf_66 (by decide) ?_
    exact hrec5 _ _ _ _ _  (lv_sub hl [2, 3, 4, 5, 0] rfl) hV hf
  · have hf := sr_t hf (sr_b1 c1)
    refine lv_aload_n hx hb dX3_countOf_49 rfl (lv_at hl 1 rfl) ?_
    refine lv_iload hx hb dX3_countOf_50 (lv_at hl 5 rfl) ?_
    refine lv_iconst (v := 2) hx hb dX3_countOf_52 (by decide) ?_
    obtain ⟨v5, e4, hf⟩ := sr_obd hf
    refine s_callV1 (ci := 3) hX hV hl.1 (c_X3_number (h0) e4) cv_X3_number lk_635 ⟨rfl, rfl, Nat.le_of_ble_eq_true rfl, Nat.le_of_ble_eq_true rfl⟩ rfl (by decide) (h0) rfl rfl (Nat.le_of_ble_eq_true rfl) dX3_countOf_53 ⟨Nat.le_of_ble_eq_true rfl, Nat.le_of_ble_eq_true rfl⟩ (fun H locs hV => ?_)
    refine lv_iload_n hx hb dX3_countOf_56 rfl (lv_at hl 2 rfl) ?_
    refine lv_icmp_ne (tgt := 63) hx hb dX3_countOf_57 (by decide) (fun c6 => ?_) (fun c6 => ?_)
    · have hf := sr_f hf c6
      obtain ⟨v7, e8, hf⟩ := sr_bnd hf
      refine lv_iinc (v := v7) (lv' := [(4, .int v7), (5, .int (bI sb0)), (0, .ref (n0 + q0)), (1, .int x1), (2, .int x2), (3, .int x3)]) hx hb dX3_countOf_63 hl (k := 5) rfl (by rw [← e8]; rfl) (by decide) rfl (fun ls hl => ?_)
      refine lv_goto (tgt := 5) hx hb dX3_countOf_66 (by decide) ?_
      exact hrec5 _ _ _ _ _  (lv_sub hl [2, 3, 4, 5, 0] rfl) hV hf
    · have hf := sr_t hf c6
      obtain ⟨v9, e10, hf⟩ := sr_bnd hf
      refine lv_iinc (v := v9) (lv' := [(3, .int v9), (5, .int (bI sb0)), (0, .ref (n0 + q0)), (1, .int x1), (2, .int x2), (4, .int x4)]) hx hb dX3_countOf_60 hl (k := 4) rfl (by rw [← e10]; rfl) (by decide) rfl (fun ls hl => ?_)
      obtain ⟨v11, e12, hf⟩ := sr_bnd hf
      refine lv_iinc (v := v11) (lv' := [(4, .int v11), (3, .int v9), (5, .int (bI sb0)), (0, .ref (n0 + q0)), (1, .int x1), (2, .int x2)]) hx hb dX3_countOf_63 hl (k := 5) rfl (by rw [← e12]; rfl) (by decide) rfl (fun ls hl => ?_)
      refine lv_goto (tgt := 5) hx hb dX3_countOf_66 (by decide) ?_
      exact hrec5 _ _ _ _ _  (lv_sub hl [3, 4, 5, 1, 0] rfl) hV hf
set_option maxHeartbeats 4000000 in
set_option maxRecDepth 100000 in
theorem k_X3_countOf_L5 {p : Program} {l : Launch} {e : Env} {s : State} {m : MethodId} {args : Array Value} {below : List Frame} {meth : Method} {c : Code} {D : va_G} {aC : Nat → ClassId} {n0 : Nat} {r : Int32} {σ : St} {q0 : Nat} {x1 : Int32} {x2 : Int32} (hX : sr_X p s m args meth c cX3_countOf 6 (Option.some FieldType.int) RX3 D aC) (h0 : shC q0 = 4) (rec5 : Int32 → Int32 → Option Int32) (hrec5 : ∀ (x3 : Int32) (x4 : Int32) (H : Heap) (locs : List Loc) (ls : Array Slot) , lv_has ls 6 [(0, .ref (n0 + q0)), (1, .int x1), (2, .int x2), (3, .int x3), (4, .int x4)] → sr_V D aC shC n0 σ s.heap H locs → rec5 x3 x4 = some r → W p l e rm_X3_countOf s m args below meth c H locs 0 0 (MQ below (sr_Qc D aC shC n0 σ (some (.int r))) args s 0 0 (sr_A shC n0)) (F0 m 5 ls [])) : ∀ (x3 : Int32) (x4 : Int32) (H : Heap) (locs : List Loc) (ls : Array Slot) , lv_has ls 6 [(0, .ref (n0 + q0)), (1, .int x1), (2, .int x2), (3, .int x3), (4, .int x4)] → sr_V D aC shC n0 σ s.heap H locs → f_X3_countOf_L5 σ q0 x1 x2 rec5 x3 x4 = some r → W p l e rm_X3_countOf s m args below meth c H locs 0 0 (MQ below (sr_Qc D aC shC n0 σ (some (.int r))) args s 0 0 (sr_A shC n0)) (F0 m 5 ls []) := by
  intro x3 x4 H locs ls  hl hV hf
  have hx := hX.1.1
  have hb := hX.1.2.1
  unfold f_X3_countOf_L5 at hf
  refine lv_iload hx hb dX3_countOf_5 (lv_at hl 4 rfl) ?_
  refine lv_aload_n hx hb dX3_countOf_7 rfl (lv_at hl 0 rfl) ?_
  refine fg_3_2 hX hV lk_145 (h0) dX3_countOf_8 ?_
  refine lv_icmp_ge (tgt := 69) hx hb dX3_countOf_11 (by decide) (fun c13 => ?_) (fun c13 => ?_)
  · have hf := sr_t hf c13
    refine lv_iload_n hx hb dX3_countOf_69 rfl (lv_at hl 3 rfl) ?_
    cases hf
    exact s_iret hX hV dX3_countOf_70
  · have hf := sr_f hf c13
    refine lv_iload hx hb dX3_countOf_14 (lv_at hl 4 rfl) ?_
    refine lv_bipush (v := 20) hx hb dX3_countOf_16 (by decide) ?_
    refine lv_icmp_ge (tgt := 69) hx hb dX3_countOf_18 (by decide) (fun c14 => ?_) (fun c14 => ?_)
    · have hf := sr_t hf c14
      refine lv_iload_n hx hb dX3_countOf_69 rfl (lv_at hl 3 rfl) ?_
      cases hf
      exact s_iret hX hV dX3_countOf_70
    · have hf := sr_f hf c14
      refine lv_iload_n hx hb dX3_countOf_21 rfl (lv_at hl 2 rfl) ?_
      refine lv_iconst (v := (-1)) hx hb dX3_countOf_22 (by decide) ?_
      refine lv_icmp_eq (tgt := 37) hx hb dX3_countOf_23 (by decide) (fun c15 => ?_) (fun c15 => ?_)
      · have hf := sr_t hf c15
        refine lv_iconst (v := 1) hx hb dX3_countOf_37 (by decide) ?_
        refine lv_goto (tgt := 42) hx hb dX3_countOf_38 (by decide) ?_
        exact k_X3_countOf_B42 hX h0 hrec5  (lv_sub hl [0, 1, 2, 3, 4] rfl) hV hf
      · have hf := sr_f hf c15
        refine lv_aload_n hx hb dX3_countOf_26 rfl (lv_at hl 0 rfl) ?_
        refine lv_iload hx hb dX3_countOf_27 (lv_at hl 4 rfl) ?_
        refine lv_iconst (v := 1) hx hb dX3_countOf_29 (by decide) ?_
        obtain ⟨v17, e16, hf⟩ := sr_obd hf
        refine s_callV1 (ci := 3) hX hV hl.1 (c_X3_number (h0) e16) cv_X3_number lk_635 ⟨rfl, rfl, Nat.le_of_ble_eq_true rfl, Nat.le_of_ble_eq_true rfl⟩ rfl (by decide) (h0) rfl rfl (Nat.le_of_ble_eq_true rfl) dX3_countOf_30 ⟨Nat.le_of_ble_eq_true rfl, Nat.le_of_ble_eq_true rfl⟩ (fun H locs hV => ?_)
        refine lv_iload_n hx hb dX3_countOf_33 rfl (lv_at hl 2 rfl) ?_
        refine lv_icmp_ne (tgt := 41) hx hb dX3_countOf_34 (by decide) (fun c18 => ?_) (fun c18 => ?_)
        · have hf := sr_f hf c18
          refine lv_iconst (v := 0) hx hb dX3_countOf_41 (by decide) ?_
          exact k_X3_countOf_B42 hX h0 hrec5  (lv_sub hl [0, 1, 2, 3, 4] rfl) hV hf
        · have hf := sr_t hf c18
          refine lv_iconst (v := 1) hx hb dX3_countOf_37 (by decide) ?_
          refine lv_goto (tgt := 42) hx hb dX3_countOf_38 (by decide) ?_
          exact k_X3_countOf_B42 hX h0 hrec5  (lv_sub hl [0, 1, 2, 3, 4] rfl) hV hf
set_option maxHeartbeats 4000000 in
set_option maxRecDepth 100000 in
theorem k_X3_countOf_L5w {p : Program} {l : Launch} {e : Env} {s : State} {m : MethodId} {args : Array Value} {below : List Frame} {meth : Method} {c : Code} {D : va_G} {aC : Nat → ClassId} {n0 : Nat} {r : Int32} {σ : St} {q0 : Nat} {x1 : Int32} {x2 : Int32} (hX : sr_X p s m args meth c cX3_countOf 6 (Option.some FieldType.int) RX3 D aC) (h0 : shC q0 = 4) (n : Nat) : ∀ (x3 : Int32) (x4 : Int32) (H : Heap) (locs : List Loc) (ls : Array Slot) , lv_has ls 6 [(0, .ref (n0 + q0)), (1, .int x1), (2, .int x2), (3, .int x3), (4, .int x4)] → sr_V D aC shC n0 σ s.heap H locs → it2 (f_X3_countOf_L5 σ q0 x1 x2) n x3 x4 = some r → W p l e rm_X3_countOf s m args below meth c H locs 0 0 (MQ below (sr_Qc D aC shC n0 σ (some (.int r))) args s 0 0 (sr_A shC n0)) (F0 m 5 ls []) :=
  it2_ind (fun rec5 => ∀ (x3 : Int32) (x4 : Int32) (H : Heap) (locs : List Loc) (ls : Array Slot) , lv_has ls 6 [(0, .ref (n0 + q0)), (1, .int x1), (2, .int x2), (3, .int x3), (4, .int x4)] → sr_V D aC shC n0 σ s.heap H locs → rec5 x3 x4 = some r → W p l e rm_X3_countOf s m args below meth c H locs 0 0 (MQ below (sr_Qc D aC shC n0 σ (some (.int r))) args s 0 0 (sr_A shC n0)) (F0 m 5 ls [])) (by intros; rename_i hf; exact absurd hf (by simp)) (fun rec hrec => k_X3_countOf_L5 hX h0  rec hrec) n
set_option maxHeartbeats 4000000 in
set_option maxRecDepth 100000 in
theorem c_X3_countOf {l : Launch} {D : va_G} {aC : Nat → ClassId} {n0 : Nat} {r : Int32} {σ : St}  {q0 : Nat} {x1 : Int32} {x2 : Int32} (h0 : shC q0 = 4) (hf : f_X3_countOf q0 x1 x2 σ = some r) : sr_Met l D aC shC n0 yX3_countOf cX3_countOf 6 (Option.some FieldType.int) rm_X3_countOf [.ref (n0 + q0), .int x1, .int x2] σ (some (.int r)) σ := by
  refine s_met (own := RX3) (by decide) (Nat.le_of_ble_eq_true rfl) rfl ?_
  intro p e s m below meth c ls hX hV hl
  have hl : lv_has ls 6 [(0, .ref (n0 + q0)), (1, .int x1), (2, .int x2)] := hl
  have hx := hX.1.1
  have hb := hX.1.2.1
  unfold f_X3_countOf at hf
  refine lv_iconst (v := 0) hx hb dX3_countOf_0 (by decide) ?_
  refine lv_istore_n (lv' := [(3, .int 0), (0, .ref (n0 + q0)), (1, .int x1), (2, .int x2)]) hx hb dX3_countOf_1 rfl hl (by decide) rfl (fun ls hl => ?_)
  refine lv_iconst (v := 0) hx hb dX3_countOf_2 (by decide) ?_
  refine lv_istore (lv' := [(4, .int 0), (3, .int 0), (0, .ref (n0 + q0)), (1, .int x1), (2, .int x2)]) hx hb dX3_countOf_3 hl (by decide) rfl (fun ls hl => ?_)
  exact k_X3_countOf_L5w hX h0  sr_fuel _ _ _ _ _  (lv_sub hl [2, 3, 4, 1, 0] rfl) hV hf
abbrev rm_X4_put : Room := { frames := 0, cells := 0, slots := 0, locals := 0 }
theorem cv_X4_put : sr_Cv yX4_put cX4_put 5 (Option.some FieldType.boolean) RX4 3 := ⟨lk_298, lk_296, lk_297, lk_4, rfl, by decide +kernel, by decide +kernel, by decide +kernel⟩
set_option maxHeartbeats 4000000 in
set_option maxRecDepth 100000 in
theorem c_X4_put {l : Launch} {D : va_G} {aC : Nat → ClassId} {n0 : Nat} {r : Bool} {σ' : St}  {σ : St} {q0 : Nat} {x1 : Int32} {x2 : Int32} {x3 : Int32} (h0 : shC q0 = 5) (hf : f_X4_put q0 x1 x2 x3 σ = some (r, σ')) : sr_Met l D aC shC n0 yX4_put cX4_put 5 (Option.some FieldType.boolean) rm_X4_put [.ref (n0 + q0), .int x1, .int x2, .int x3] σ (some (.int (bI r))) σ' := by
  refine s_met (own := RX4) (by decide) (Nat.le_of_ble_eq_true rfl) rfl ?_
  intro p e s m below meth c ls hX hV hl
  have hl : lv_has ls 5 [(0, .ref (n0 + q0)), (1, .int x1), (2, .int x2), (3, .int x3)] := hl
  have hx := hX.1.1
  have hb := hX.1.2.1
  unfold f_X4_put at hf
  refine lv_aload_n hx hb dX4_put_0 rfl (lv_at hl 0 rfl) ?_
  refine fg_4_1 hX hV lk_41 (h0) dX4_put_1 ?_
  refine lv_if_lt (tgt := 16) hx hb dX4_put_4 (by decide) (fun c1 => ?_) (fun c1 => ?_)
  · have hf := sr_t hf c1
    refine lv_iconst (v := 0) hx hb dX4_put_16 (by decide) ?_
    cases hf
    exact s_zret (b := false) hX hV dX4_put_17
  · have hf := sr_f hf c1
    refine lv_aload_n hx hb dX4_put_7 rfl (lv_at hl 0 rfl) ?_
    refine fg_4_1 hX hV lk_41 (h0) dX4_put_8 ?_
    refine lv_bipush (v := 6) hx hb dX4_put_11 (by decide) ?_
    refine lv_icmp_lt (tgt := 18) hx hb dX4_put_13 (by decide) (fun c2 => ?_) (fun c2 => ?_)
    · have hf := sr_t hf c2
      refine lv_aload_n hx hb dX4_put_18 rfl (lv_at hl 0 rfl) ?_
      refine fg_4_1 hX hV lk_41 (h0) dX4_put_19 ?_
      refine lv_iconst (v := 3) hx hb dX4_put_22 (by decide) ?_
      refine lv_imul hx hb dX4_put_23 ?_
      obtain ⟨v3, e4, hf⟩ := sr_bnd hf
      rw [e4]
      refine lv_istore (lv' := [(4, .int v3), (0, .ref (n0 + q0)), (1, .int x1), (2, .int x2), (3, .int x3)]) hx hb dX4_put_24 hl (by decide) rfl (fun ls hl => ?_)
      refine lv_aload_n hx hb dX4_put_26 rfl (lv_at hl 1 rfl) ?_
      refine fg_4_0 hX hV lk_40 (h0) dX4_put_27 ?_
      refine lv_iload hx hb dX4_put_30 (lv_at hl 0 rfl) ?_
      refine lv_iconst (v := 0) hx hb dX4_put_32 (by decide) ?_
      refine lv_iadd hx hb dX4_put_33 ?_
      refine lv_iload_n hx hb dX4_put_34 rfl (lv_at hl 2 rfl) ?_
      obtain ⟨v5, e6, hf⟩ := sr_bnd hf
      rw [e6]
      obtain ⟨g7, hf⟩ := sr_gd hf
      obtain ⟨σ8, e9, hf⟩ := sr_bnd hf
      refine s_iast hX hV (n := 18) (ch_4_0 (h0)) (by decide) (inb_in g7) dX4_put_35 (fun H locs hV => ?_)
      rw [e9] at hV
      refine lv_aload_n hx hb dX4_put_36 rfl (lv_at hl 1 rfl) ?_
      refine fg_4_0 hX hV lk_40 (h0) dX4_put_37 ?_
      refine lv_iload hx hb dX4_put_40 (lv_at hl 0 rfl) ?_
      refine lv_iconst (v := 1) hx hb dX4_put_42 (by decide) ?_
      refine lv_iadd hx hb dX4_put_43 ?_
      refine lv_iload_n hx hb dX4_put_44 rfl (lv_at hl 3 rfl) ?_
      obtain ⟨v10, e11, hf⟩ := sr_bnd hf
      rw [e11]
      obtain ⟨g12, hf⟩ := sr_gd hf
      obtain ⟨σ13, e14, hf⟩ := sr_bnd hf
      refine s_iast hX hV (n := 18) (ch_4_0 (h0)) (by decide) (inb_in g12) dX4_put_45 (fun H locs hV => ?_)
      rw [e14] at hV
      refine lv_aload_n hx hb dX4_put_46 rfl (lv_at hl 1 rfl) ?_
      refine fg_4_0 hX hV lk_40 (h0) dX4_put_47 ?_
      refine lv_iload hx hb dX4_put_50 (lv_at hl 0 rfl) ?_
      refine lv_iconst (v := 2) hx hb dX4_put_52 (by decide) ?_
      refine lv_iadd hx hb dX4_put_53 ?_
      refine lv_iload_n hx hb dX4_put_54 rfl (lv_at hl 4 rfl) ?_
      obtain ⟨v15, e16, hf⟩ := sr_bnd hf
      rw [e16]
      obtain ⟨g17, hf⟩ := sr_gd hf
      obtain ⟨σ18, e19, hf⟩ := sr_bnd hf
      refine s_iast hX hV (n := 18) (ch_4_0 (h0)) (by decide) (inb_in g17) dX4_put_55 (fun H locs hV => ?_)
      rw [e19] at hV
      refine lv_aload_n hx hb dX4_put_56 rfl (lv_at hl 1 rfl) ?_
      refine lv_dup hx hb dX4_put_57 rfl ?_
      refine fg_4_1 hX hV lk_41 (h0) dX4_put_58 ?_
      refine lv_iconst (v := 1) hx hb dX4_put_61 (by decide) ?_
      refine lv_iadd hx hb dX4_put_62 ?_
      obtain ⟨σ20, e21, hf⟩ := sr_bnd hf
      refine fp_4_1 (x := ((gI σ18 q0 1) + 1)) hX hV lk_41 (h0) dX4_put_63 (fun H locs hV => ?_)
      rw [e21] at hV
      refine lv_iconst (v := 1) hx hb dX4_put_66 (by decide) ?_
      cases hf
      exact s_zret (b := true) hX hV dX4_put_67
    · have hf := sr_f hf c2
      refine lv_iconst (v := 0) hx hb dX4_put_16 (by decide) ?_
      cases hf
      exact s_zret (b := false) hX hV dX4_put_17
abbrev rm_X5_put : Room := { frames := 0, cells := 0, slots := 0, locals := 0 }
theorem cv_X5_put : sr_Cv yX5_put cX5_put 2 (Option.some FieldType.boolean) RX5 1 := ⟨lk_329, lk_327, lk_328, lk_8, rfl, by decide +kernel, by decide +kernel, by decide +kernel⟩
set_option maxHeartbeats 4000000 in
set_option maxRecDepth 100000 in
theorem c_X5_put {l : Launch} {D : va_G} {aC : Nat → ClassId} {n0 : Nat} {r : Bool} {σ' : St}  {σ : St} {q0 : Nat} {x1 : Int32} (h0 : shC q0 = 6) (hf : f_X5_put q0 x1 σ = some (r, σ')) : sr_Met l D aC shC n0 yX5_put cX5_put 2 (Option.some FieldType.boolean) rm_X5_put [.ref (n0 + q0), .int x1] σ (some (.int (bI r))) σ' := by
  refine s_met (own := RX5) (by decide) (Nat.le_of_ble_eq_true rfl) rfl ?_
  intro p e s m below meth c ls hX hV hl
  have hl : lv_has ls 2 [(0, .ref (n0 + q0)), (1, .int x1)] := hl
  have hx := hX.1.1
  have hb := hX.1.2.1
  unfold f_X5_put at hf
  refine lv_aload_n hx hb dX5_put_0 rfl (lv_at hl 0 rfl) ?_
  refine fg_5_2 hX hV lk_201 (h0) dX5_put_1 ?_
  refine lv_if_lt (tgt := 16) hx hb dX5_put_4 (by decide) (fun c1 => ?_) (fun c1 => ?_)
  · have hf := sr_t hf c1
    refine lv_iconst (v := 0) hx hb dX5_put_16 (by decide) ?_
    cases hf
    exact s_zret (b := false) hX hV dX5_put_17
  · have hf := sr_f hf c1
    refine lv_aload_n hx hb dX5_put_7 rfl (lv_at hl 0 rfl) ?_
    refine fg_5_2 hX hV lk_201 (h0) dX5_put_8 ?_
    refine lv_bipush (v := 60) hx hb dX5_put_11 (by decide) ?_
    refine lv_icmp_lt (tgt := 18) hx hb dX5_put_13 (by decide) (fun c2 => ?_) (fun c2 => ?_)
    · have hf := sr_t hf c2
      refine lv_aload_n hx hb dX5_put_18 rfl (lv_at hl 0 rfl) ?_
      refine fg_5_0 hX hV lk_198 (h0) dX5_put_19 ?_
      refine lv_aload_n hx hb dX5_put_22 rfl (lv_at hl 0 rfl) ?_
      refine fg_5_2 hX hV lk_201 (h0) dX5_put_23 ?_
      refine lv_iload_n hx hb dX5_put_26 rfl (lv_at hl 1 rfl) ?_
      refine lv_i2b hx hb dX5_put_27 rfl ?_
      obtain ⟨v3, e4, hf⟩ := sr_bnd hf
      rw [e4]
      obtain ⟨g5, hf⟩ := sr_gd hf
      obtain ⟨σ6, e7, hf⟩ := sr_bnd hf
      refine s_bast hX hV (n := 60) (ch_5_0 (h0)) (by decide) (inb_in g5) dX5_put_28 (fun H locs hV => ?_)
      rw [e7] at hV
      refine lv_aload_n hx hb dX5_put_29 rfl (lv_at hl 0 rfl) ?_
      refine lv_dup hx hb dX5_put_30 rfl ?_
      refine fg_5_2 hX hV lk_201 (h0) dX5_put_31 ?_
      refine lv_iconst (v := 1) hx hb dX5_put_34 (by decide) ?_
      refine lv_iadd hx hb dX5_put_35 ?_
      obtain ⟨σ8, e9, hf⟩ := sr_bnd hf
      refine fp_5_2 (x := ((gI σ6 q0 2) + 1)) hX hV lk_201 (h0) dX5_put_36 (fun H locs hV => ?_)
      rw [e9] at hV
      refine lv_iconst (v := 1) hx hb dX5_put_39 (by decide) ?_
      cases hf
      exact s_zret (b := true) hX hV dX5_put_40
    · have hf := sr_f hf c2
      refine lv_iconst (v := 0) hx hb dX5_put_16 (by decide) ?_
      cases hf
      exact s_zret (b := false) hX hV dX5_put_17
abbrev rm_X5_letterAt : Room := { frames := 1, cells := 0, slots := 0, locals := 22 }
theorem cv_X5_letterAt : sr_Cv yX5_letterAt cX5_letterAt 2 (Option.some FieldType.int) RX5 1 := ⟨lk_358, lk_357, lp_3, lk_8, rfl, by decide +kernel, by decide +kernel, by decide +kernel⟩
set_option maxHeartbeats 4000000 in
set_option maxRecDepth 100000 in
theorem c_X5_letterAt {l : Launch} {D : va_G} {aC : Nat → ClassId} {n0 : Nat} {r : Int32} {σ : St}  {q0 : Nat} {x1 : Int32} (h0 : shC q0 = 6) (hf : f_X5_letterAt q0 x1 σ = some r) : sr_Met l D aC shC n0 yX5_letterAt cX5_letterAt 2 (Option.some FieldType.int) rm_X5_letterAt [.ref (n0 + q0), .int x1] σ (some (.int r)) σ := by
  refine s_met (own := RX5) (by decide) (Nat.le_of_ble_eq_true rfl) rfl ?_
  intro p e s m below meth c ls hX hV hl
  have hl : lv_has ls 2 [(0, .ref (n0 + q0)), (1, .int x1)] := hl
  have hx := hX.1.1
  have hb := hX.1.2.1
  unfold f_X5_letterAt at hf
  refine lv_iload_n hx hb dX5_letterAt_0 rfl (lv_at hl 1 rfl) ?_
  refine lv_iconst (v := 0) hx hb dX5_letterAt_1 (by decide) ?_
  refine lv_aload_n hx hb dX5_letterAt_2 rfl (lv_at hl 0 rfl) ?_
  refine fg_5_2 hX hV lk_201 (h0) dX5_letterAt_3 ?_
  refine lv_iconst (v := 1) hx hb dX5_letterAt_6 (by decide) ?_
  refine lv_isub hx hb dX5_letterAt_7 ?_
  obtain ⟨v2, e1, hf⟩ := sr_bnd hf
  refine s_callN1 hX hV hl.1 (c_X7_isWithin  e1) cs_X7_isWithin hX.2.1.2.2.2.1 ⟨rfl, rfl, Nat.le_of_ble_eq_true rfl, Nat.le_of_ble_eq_true rfl⟩ rfl rfl (Nat.le_of_ble_eq_true rfl) dX5_letterAt_8 ⟨Nat.le_of_ble_eq_true rfl, Nat.le_of_ble_eq_true rfl⟩ (fun H locs hV => ?_)
  refine lv_if_eq (tgt := 29) hx hb dX5_letterAt_11 (by decide) (fun c3 => ?_) (fun c3 => ?_)
  · have hf := sr_f hf (sr_b0 c3)
    refine lv_iconst (v := (-1)) hx hb dX5_letterAt_29 (by decide) ?_
    cases hf
    exact s_iret hX hV dX5_letterAt_30
  · have hf := sr_t hf (sr_b1 c3)
    refine lv_iload_n hx hb dX5_letterAt_14 rfl (lv_at hl 1 rfl) ?_
    refine lv_bipush (v := 60) hx hb dX5_letterAt_15 (by decide) ?_
    refine lv_icmp_ge (tgt := 29) hx hb dX5_letterAt_17 (by decide) (fun c4 => ?_) (fun c4 => ?_)
    · have hf := sr_t hf c4
      refine lv_iconst (v := (-1)) hx hb dX5_letterAt_29 (by decide) ?_
      cases hf
      exact s_iret hX hV dX5_letterAt_30
    · have hf := sr_f hf c4
      refine lv_aload_n hx hb dX5_letterAt_20 rfl (lv_at hl 0 rfl) ?_
      refine fg_5_0 hX hV lk_198 (h0) dX5_letterAt_21 ?_
      refine lv_iload_n hx hb dX5_letterAt_24 rfl (lv_at hl 1 rfl) ?_
      obtain ⟨g5, hf⟩ := sr_gd hf
      refine s_bald hX hV (n := 60) (ch_5_0 (h0)) (by decide) (inb_in g5) dX5_letterAt_25 ?_
      refine lv_goto (tgt := 30) hx hb dX5_letterAt_26 (by decide) ?_
      cases hf
      exact s_iret hX hV dX5_letterAt_30
abbrev rm_X5_digitAt : Room := { frames := 2, cells := 0, slots := 0, locals := 43 }
theorem cv_X5_digitAt : sr_Cv yX5_digitAt cX5_digitAt 3 (Option.some FieldType.int) RX5 1 := ⟨lk_354, lk_353, lp_2, lk_8, rfl, by decide +kernel, by decide +kernel, by decide +kernel⟩
set_option maxHeartbeats 4000000 in
set_option maxRecDepth 100000 in
theorem c_X5_digitAt {l : Launch} {D : va_G} {aC : Nat → ClassId} {n0 : Nat} {r : Int32} {σ : St}  {q0 : Nat} {x1 : Int32} (h0 : shC q0 = 6) (hf : f_X5_digitAt q0 x1 σ = some r) : sr_Met l D aC shC n0 yX5_digitAt cX5_digitAt 3 (Option.some FieldType.int) rm_X5_digitAt [.ref (n0 + q0), .int x1] σ (some (.int r)) σ := by
  refine s_met (own := RX5) (by decide) (Nat.le_of_ble_eq_true rfl) rfl ?_
  intro p e s m below meth c ls hX hV hl
  have hl : lv_has ls 3 [(0, .ref (n0 + q0)), (1, .int x1)] := hl
  have hx := hX.1.1
  have hb := hX.1.2.1
  unfold f_X5_digitAt at hf
  refine lv_aload_n hx hb dX5_digitAt_0 rfl (lv_at hl 0 rfl) ?_
  refine lv_iload_n hx hb dX5_digitAt_1 rfl (lv_at hl 1 rfl) ?_
  obtain ⟨v2, e1, hf⟩ := sr_obd hf
  refine s_callV1 (ci := 5) hX hV hl.1 (c_X5_letterAt (h0) e1) cv_X5_letterAt lk_355 ⟨rfl, rfl, Nat.le_of_ble_eq_true rfl, Nat.le_of_ble_eq_true rfl⟩ rfl (by decide) (h0) rfl rfl (Nat.le_of_ble_eq_true rfl) dX5_digitAt_2 ⟨Nat.le_of_ble_eq_true rfl, Nat.le_of_ble_eq_true rfl⟩ (fun H locs hV => ?_)
  refine lv_bipush (v := 48) hx hb dX5_digitAt_5 (by decide) ?_
  refine lv_isub hx hb dX5_digitAt_7 ?_
  obtain ⟨v3, e4, hf⟩ := sr_bnd hf
  rw [e4]
  refine lv_istore_n (lv' := [(2, .int v3), (0, .ref (n0 + q0)), (1, .int x1)]) hx hb dX5_digitAt_8 rfl hl (by decide) rfl (fun ls hl => ?_)
  refine lv_iload_n hx hb dX5_digitAt_9 rfl (lv_at hl 0 rfl) ?_
  refine lv_iconst (v := 0) hx hb dX5_digitAt_10 (by decide) ?_
  refine lv_bipush (v := 9) hx hb dX5_digitAt_11 (by decide) ?_
  obtain ⟨v6, e5, hf⟩ := sr_bnd hf
  refine s_callN1 hX hV hl.1 (c_X7_isWithin  e5) cs_X7_isWithin hX.2.1.2.2.2.1 ⟨rfl, rfl, Nat.le_of_ble_eq_true rfl, Nat.le_of_ble_eq_true rfl⟩ rfl rfl (Nat.le_of_ble_eq_true rfl) dX5_digitAt_13 ⟨Nat.le_of_ble_eq_true rfl, Nat.le_of_ble_eq_true rfl⟩ (fun H locs hV => ?_)
  refine lv_if_eq (tgt := 23) hx hb dX5_digitAt_16 (by decide) (fun c7 => ?_) (fun c7 => ?_)
  · have hf := sr_f hf (sr_b0 c7)
    refine lv_iconst (v := (-1)) hx hb dX5_digitAt_23 (by decide) ?_
    cases hf
    exact s_iret hX hV dX5_digitAt_24
  · have hf := sr_t hf (sr_b1 c7)
    refine lv_iload_n hx hb dX5_digitAt_19 rfl (lv_at hl 0 rfl) ?_
    refine lv_goto (tgt := 24) hx hb dX5_digitAt_20 (by decide) ?_
    cases hf
    exact s_iret hX hV dX5_digitAt_24
abbrev rm_X5_parseCells : Room := { frames := 3, cells := 0, slots := 0, locals := 65 }
theorem cv_X5_parseCells : sr_Cv yX5_parseCells cX5_parseCells 7 (Option.some FieldType.int) RX5 1 := ⟨lk_349, lk_348, lp_1, lk_8, rfl, by decide +kernel, by decide +kernel, by decide +kernel⟩
set_option maxHeartbeats 4000000 in
set_option maxRecDepth 100000 in
theorem k_X5_parseCells_L18 {p : Program} {l : Launch} {e : Env} {s : State} {m : MethodId} {args : Array Value} {below : List Frame} {meth : Method} {c : Code} {D : va_G} {aC : Nat → ClassId} {n0 : Nat} {r : Int32} {σ' : St} {q0 : Nat} {x1 : Int32} (hX : sr_X p s m args meth c cX5_parseCells 7 (Option.some FieldType.int) RX5 D aC) (h0 : shC q0 = 6) (rec18 : Int32 → Int32 → Int32 → Int32 → St → Option (Int32 × St)) (hrec18 : ∀ (x2 : Int32) (x3 : Int32) (x4 : Int32) (x5 : Int32) (σ : St) (H : Heap) (locs : List Loc) (ls : Array Slot) , lv_has ls 7 [(0, .ref (n0 + q0)), (1, .int x1), (2, .int x2), (3, .int x3), (4, .int x4), (5, .int x5)] → sr_V D aC shC n0 σ s.heap H locs → rec18 x2 x3 x4 x5 σ = some (r, σ') → W p l e rm_X5_parseCells s m args below meth c H locs 0 0 (MQ below (sr_Qc D aC shC n0 σ' (some (.int r))) args s 0 0 (sr_A shC n0)) (F0 m 18 ls [])) : ∀ (x2 : Int32) (x3 : Int32) (x4 : Int32) (x5 : Int32) (σ : St) (H : Heap) (locs : List Loc) (ls : Array Slot) , lv_has ls 7 [(0, .ref (n0 + q0)), (1, .int x1), (2, .int x2), (3, .int x3), (4, .int x4), (5, .int x5)] → sr_V D aC shC n0 σ s.heap H locs → f_X5_parseCells_L18 q0 x1 rec18 x2 x3 x4 x5 σ = some (r, σ') → W p l e rm_X5_parseCells s m args below meth c H locs 0 0 (MQ below (sr_Qc D aC shC n0 σ' (some (.int r))) args s 0 0 (sr_A shC n0)) (F0 m 18 ls []) := by
  intro x2 x3 x4 x5 σ H locs ls  hl hV hf
  have hx := hX.1.1
  have hb := hX.1.2.1
  unfold f_X5_parseCells_L18 at hf
  refine lv_iload hx hb dX5_parseCells_18 (lv_at hl 5 rfl) ?_
  refine lv_bipush (v := 8) hx hb dX5_parseCells_20 (by decide) ?_
  refine lv_icmp_ge (tgt := 89) hx hb dX5_parseCells_22 (by decide) (fun c1 => ?_) (fun c1 => ?_)
  · have hf := sr_t hf c1
    refine lv_iload_n hx hb dX5_parseCells_89 rfl (lv_at hl 3 rfl) ?_
    cases hf
    exact s_iret hX hV dX5_parseCells_90
  · have hf := sr_f hf c1
    refine lv_aload_n hx hb dX5_parseCells_25 rfl (lv_at hl 0 rfl) ?_
    refine lv_aload_n hx hb dX5_parseCells_26 rfl (lv_at hl 0 rfl) ?_
    refine fg_5_3 hX hV lk_203 (h0) dX5_parseCells_27 ?_
    obtain ⟨v3, e2, hf⟩ := sr_obd hf
    refine s_callV1 (ci := 5) hX hV hl.1 (c_X5_digitAt (h0) e2) cv_X5_digitAt lk_351 ⟨rfl, rfl, Nat.le_of_ble_eq_true rfl, Nat.le_of_ble_eq_true rfl⟩ rfl (by decide) (h0) rfl rfl (Nat.le_of_ble_eq_true rfl) dX5_parseCells_30 ⟨Nat.le_of_ble_eq_true rfl, Nat.le_of_ble_eq_true rfl⟩ (fun H locs hV => ?_)
    refine lv_istore (lv' := [(6, .int v3), (0, .ref (n0 + q0)), (1, .int x1), (2, .int x2), (3, .int x3), (4, .int x4), (5, .int x5)]) hx hb dX5_parseCells_33 hl (by decide) rfl (fun ls hl => ?_)
    refine lv_iload hx hb dX5_parseCells_35 (lv_at hl 0 rfl) ?_
    refine lv_iload hx hb dX5_parseCells_37 (lv_at hl 5 rfl) ?_
    refine lv_icmp_lt (tgt := 89) hx hb dX5_parseCells_39 (by decide) (fun c4 => ?_) (fun c4 => ?_)
    · have hf := sr_t hf c4
      refine lv_iload_n hx hb dX5_parseCells_89 rfl (lv_at hl 4 rfl) ?_
      cases hf
      exact s_iret hX hV dX5_parseCells_90
    · have hf := sr_f hf c4
      refine lv_iload hx hb dX5_parseCells_42 (lv_at hl 0 rfl) ?_
      refine lv_iload_n hx hb dX5_parseCells_44 rfl (lv_at hl 2 rfl) ?_
      refine lv_icmp_ge (tgt := 89) hx hb dX5_parseCells_45 (by decide) (fun c5 => ?_) (fun c5 => ?_)
      · have hf := sr_t hf c5
        refine lv_iload_n hx hb dX5_parseCells_89 rfl (lv_at hl 4 rfl) ?_
        cases hf
        exact s_iret hX hV dX5_parseCells_90
      · have hf := sr_f hf c5
        refine lv_iload_n hx hb dX5_parseCells_48 rfl (lv_at hl 3 rfl) ?_
        refine lv_iload hx hb dX5_parseCells_49 (lv_at hl 0 rfl) ?_
        refine lv_ishr hx hb dX5_parseCells_51 ?_
        refine lv_iconst (v := 1) hx hb dX5_parseCells_52 (by decide) ?_
        refine lv_iand hx hb dX5_parseCells_53 ?_
        refine lv_if_eq (tgt := 60) hx hb dX5_parseCells_54 (by decide) (fun c6 => ?_) (fun c6 => ?_)
        · have hf := sr_t hf c6
          refine lv_iload_n hx hb dX5_parseCells_60 rfl (lv_at hl 4 rfl) ?_
          refine lv_iconst (v := 1) hx hb dX5_parseCells_61 (by decide) ?_
          refine lv_iload hx hb dX5_parseCells_62 (lv_at hl 0 rfl) ?_
          refine lv_ishl hx hb dX5_parseCells_64 ?_
          refine lv_ior hx hb dX5_parseCells_65 ?_
          obtain ⟨v7, e8, hf⟩ := sr_bnd hf
          rw [e8]
          refine lv_istore_n (lv' := [(3, .int v7), (6, .int v3), (0, .ref (n0 + q0)), (1, .int x1), (2, .int x2), (4, .int x4), (5, .int x5)]) hx hb dX5_parseCells_66 rfl hl (by decide) rfl (fun ls hl => ?_)
          refine lv_iload hx hb dX5_parseCells_67 (lv_at hl 1 rfl) ?_
          refine lv_iconst (v := 1) hx hb dX5_parseCells_69 (by decide) ?_
          refine lv_iadd hx hb dX5_parseCells_70 ?_
          obtain ⟨v9, e10, hf⟩ := sr_bnd hf
          rw [e10]
          refine lv_istore (lv' := [(4, .int v9), (3, .int v7), (6, .int v3), (0, .ref (n0 + q0)), (1, .int x1), (2, .int x2), (5, .int x5)]) hx hb dX5_parseCells_71 hl (by decide) rfl (fun ls hl => ?_)
          refine lv_aload_n hx hb dX5_parseCells_73 rfl (lv_at hl 3 rfl) ?_
          refine lv_dup hx hb dX5_parseCells_74 rfl ?_
          refine fg_5_3 hX hV lk_203 (h0) dX5_parseCells_75 ?_
          refine lv_iconst (v := 1) hx hb dX5_parseCells_78 (by decide) ?_
          refine lv_iadd hx hb dX5_parseCells_79 ?_
          obtain ⟨σ11, e12, hf⟩ := sr_bnd hf
          refine fp_5_3 (x := ((gI σ q0 3) + 1)) hX hV lk_203 (h0) dX5_parseCells_80 (fun H locs hV => ?_)
          rw [e12] at hV
          obtain ⟨v13, e14, hf⟩ := sr_bnd hf
          refine lv_iinc (v := v13) (lv' := [(5, .int v13), (4, .int v9), (3, .int v7), (6, .int v3), (0, .ref (n0 + q0)), (1, .int x1), (2, .int x2)]) hx hb dX5_parseCells_83 hl (k := 6) rfl (by rw [← e14]; rfl) (by decide) rfl (fun ls hl => ?_)
          refine lv_goto (tgt := 18) hx hb dX5_parseCells_86 (by decide) ?_
          exact hrec18 _ _ _ _ _ _ _ _  (lv_sub hl [4, 5, 6, 2, 1, 0] rfl) hV hf
        · have hf := sr_f hf c6
          refine lv_goto (tgt := 89) hx hb dX5_parseCells_57 (by decide) ?_
          refine lv_iload_n hx hb dX5_parseCells_89 rfl (lv_at hl 4 rfl) ?_
          cases hf
          exact s_iret hX hV dX5_parseCells_90
set_option maxHeartbeats 4000000 in
set_option maxRecDepth 100000 in
theorem k_X5_parseCells_L18w {p : Program} {l : Launch} {e : Env} {s : State} {m : MethodId} {args : Array Value} {below : List Frame} {meth : Method} {c : Code} {D : va_G} {aC : Nat → ClassId} {n0 : Nat} {r : Int32} {σ' : St} {q0 : Nat} {x1 : Int32} (hX : sr_X p s m args meth c cX5_parseCells 7 (Option.some FieldType.int) RX5 D aC) (h0 : shC q0 = 6) (n : Nat) : ∀ (x2 : Int32) (x3 : Int32) (x4 : Int32) (x5 : Int32) (σ : St) (H : Heap) (locs : List Loc) (ls : Array Slot) , lv_has ls 7 [(0, .ref (n0 + q0)), (1, .int x1), (2, .int x2), (3, .int x3), (4, .int x4), (5, .int x5)] → sr_V D aC shC n0 σ s.heap H locs → it5 (f_X5_parseCells_L18 q0 x1) n x2 x3 x4 x5 σ = some (r, σ') → W p l e rm_X5_parseCells s m args below meth c H locs 0 0 (MQ below (sr_Qc D aC shC n0 σ' (some (.int r))) args s 0 0 (sr_A shC n0)) (F0 m 18 ls []) :=
  it5_ind (fun rec18 => ∀ (x2 : Int32) (x3 : Int32) (x4 : Int32) (x5 : Int32) (σ : St) (H : Heap) (locs : List Loc) (ls : Array Slot) , lv_has ls 7 [(0, .ref (n0 + q0)), (1, .int x1), (2, .int x2), (3, .int x3), (4, .int x4), (5, .int x5)] → sr_V D aC shC n0 σ s.heap H locs → rec18 x2 x3 x4 x5 σ = some (r, σ') → W p l e rm_X5_parseCells s m args below meth c H locs 0 0 (MQ below (sr_Qc D aC shC n0 σ' (some (.int r))) args s 0 0 (sr_A shC n0)) (F0 m 18 ls [])) (by intros; rename_i hf; exact absurd hf (by simp)) (fun rec hrec => k_X5_parseCells_L18 hX h0  rec hrec) n
set_option maxHeartbeats 4000000 in
set_option maxRecDepth 100000 in
theorem c_X5_parseCells {l : Launch} {D : va_G} {aC : Nat → ClassId} {n0 : Nat} {r : Int32} {σ' : St}  {σ : St} {q0 : Nat} {x1 : Int32} (h0 : shC q0 = 6) (hf : f_X5_parseCells q0 x1 σ = some (r, σ')) : sr_Met l D aC shC n0 yX5_parseCells cX5_parseCells 7 (Option.some FieldType.int) rm_X5_parseCells [.ref (n0 + q0), .int x1] σ (some (.int r)) σ' := by
  refine s_met (own := RX5) (by decide) (Nat.le_of_ble_eq_true rfl) rfl ?_
  intro p e s m below meth c ls hX hV hl
  have hl : lv_has ls 7 [(0, .ref (n0 + q0)), (1, .int x1)] := hl
  have hx := hX.1.1
  have hb := hX.1.2.1
  unfold f_X5_parseCells at hf
  refine lv_aload_n hx hb dX5_parseCells_0 rfl (lv_at hl 0 rfl) ?_
  refine fg_5_1 hX hV lk_199 (h0) dX5_parseCells_1 ?_
  refine lv_bipush (v := 6) hx hb dX5_parseCells_4 (by decide) ?_
  obtain ⟨v16, e15, hf⟩ := sr_obd hf
  refine s_callV1 (ci := 4) hX hV hl.1 (c_X4_cellsOfFirst (ch_5_1 (h0)) e15) cv_X4_cellsOfFirst lk_350 ⟨rfl, rfl, Nat.le_of_ble_eq_true rfl, Nat.le_of_ble_eq_true rfl⟩ rfl (by decide) (ch_5_1 (h0)) rfl rfl (Nat.le_of_ble_eq_true rfl) dX5_parseCells_6 ⟨Nat.le_of_ble_eq_true rfl, Nat.le_of_ble_eq_true rfl⟩ (fun H locs hV => ?_)
  refine lv_istore_n (lv' := [(2, .int v16), (0, .ref (n0 + q0)), (1, .int x1)]) hx hb dX5_parseCells_9 rfl hl (by decide) rfl (fun ls hl => ?_)
  refine lv_iconst (v := 0) hx hb dX5_parseCells_10 (by decide) ?_
  refine lv_istore_n (lv' := [(3, .int 0), (2, .int v16), (0, .ref (n0 + q0)), (1, .int x1)]) hx hb dX5_parseCells_11 rfl hl (by decide) rfl (fun ls hl => ?_)
  refine lv_iconst (v := 0) hx hb dX5_parseCells_12 (by decide) ?_
  refine lv_istore (lv' := [(4, .int 0), (3, .int 0), (2, .int v16), (0, .ref (n0 + q0)), (1, .int x1)]) hx hb dX5_parseCells_13 hl (by decide) rfl (fun ls hl => ?_)
  refine lv_iconst (v := 0) hx hb dX5_parseCells_15 (by decide) ?_
  refine lv_istore (lv' := [(5, .int 0), (4, .int 0), (3, .int 0), (2, .int v16), (0, .ref (n0 + q0)), (1, .int x1)]) hx hb dX5_parseCells_16 hl (by decide) rfl (fun ls hl => ?_)
  exact k_X5_parseCells_L18w hX h0  sr_fuel _ _ _ _ _ _ _ _  (lv_sub hl [4, 5, 3, 2, 1, 0] rfl) hV hf
abbrev rm_X5_skip : Room := { frames := 2, cells := 0, slots := 0, locals := 43 }
theorem cv_X5_skip : sr_Cv yX5_skip cX5_skip 2 (Option.some FieldType.boolean) RX5 1 := ⟨lk_363, lk_362, lp_4, lk_8, rfl, by decide +kernel, by decide +kernel, by decide +kernel⟩
set_option maxHeartbeats 4000000 in
set_option maxRecDepth 100000 in
theorem c_X5_skip {l : Launch} {D : va_G} {aC : Nat → ClassId} {n0 : Nat} {r : Bool} {σ' : St}  {σ : St} {q0 : Nat} {x1 : Int32} (h0 : shC q0 = 6) (hf : f_X5_skip q0 x1 σ = some (r, σ')) : sr_Met l D aC shC n0 yX5_skip cX5_skip 2 (Option.some FieldType.boolean) rm_X5_skip [.ref (n0 + q0), .int x1] σ (some (.int (bI r))) σ' := by
  refine s_met (own := RX5) (by decide) (Nat.le_of_ble_eq_true rfl) rfl ?_
  intro p e s m below meth c ls hX hV hl
  have hl : lv_has ls 2 [(0, .ref (n0 + q0)), (1, .int x1)] := hl
  have hx := hX.1.1
  have hb := hX.1.2.1
  unfold f_X5_skip at hf
  refine lv_aload_n hx hb dX5_skip_0 rfl (lv_at hl 0 rfl) ?_
  refine lv_aload_n hx hb dX5_skip_1 rfl (lv_at hl 0 rfl) ?_
  refine fg_5_3 hX hV lk_203 (h0) dX5_skip_2 ?_
  obtain ⟨v2, e1, hf⟩ := sr_obd hf
  refine s_callV1 (ci := 5) hX hV hl.1 (c_X5_letterAt (h0) e1) cv_X5_letterAt lk_355 ⟨rfl, rfl, Nat.le_of_ble_eq_true rfl, Nat.le_of_ble_eq_true rfl⟩ rfl (by decide) (h0) rfl rfl (Nat.le_of_ble_eq_true rfl) dX5_skip_5 ⟨Nat.le_of_ble_eq_true rfl, Nat.le_of_ble_eq_true rfl⟩ (fun H locs hV => ?_)
  refine lv_iload_n hx hb dX5_skip_8 rfl (lv_at hl 1 rfl) ?_
  refine lv_icmp_eq (tgt := 14) hx hb dX5_skip_9 (by decide) (fun c3 => ?_) (fun c3 => ?_)
  · have hf := sr_t hf c3
    refine lv_aload_n hx hb dX5_skip_14 rfl (lv_at hl 0 rfl) ?_
    refine lv_dup hx hb dX5_skip_15 rfl ?_
    refine fg_5_3 hX hV lk_203 (h0) dX5_skip_16 ?_
    refine lv_iconst (v := 1) hx hb dX5_skip_19 (by decide) ?_
    refine lv_iadd hx hb dX5_skip_20 ?_
    obtain ⟨σ4, e5, hf⟩ := sr_bnd hf
    refine fp_5_3 (x := ((gI σ q0 3) + 1)) hX hV lk_203 (h0) dX5_skip_21 (fun H locs hV => ?_)
    rw [e5] at hV
    refine lv_iconst (v := 1) hx hb dX5_skip_24 (by decide) ?_
    cases hf
    exact s_zret (b := true) hX hV dX5_skip_25
  · have hf := sr_f hf c3
    refine lv_iconst (v := 0) hx hb dX5_skip_12 (by decide) ?_
    cases hf
    exact s_zret (b := false) hX hV dX5_skip_13
abbrev rm_X5_parseNumber : Room := { frames := 3, cells := 0, slots := 0, locals := 65 }
theorem cv_X5_parseNumber : sr_Cv yX5_parseNumber cX5_parseNumber 5 (Option.some FieldType.int) RX5 1 := ⟨lk_367, lk_366, lp_5, lk_8, rfl, by decide +kernel, by decide +kernel, by decide +kernel⟩
set_option maxHeartbeats 4000000 in
set_option maxRecDepth 100000 in
theorem k_X5_parseNumber_B56 {p : Program} {l : Launch} {e : Env} {s : State} {m : MethodId} {args : Array Value} {below : List Frame} {meth : Method} {c : Code} {D : va_G} {aC : Nat → ClassId} {n0 : Nat} {r : Int32} {σ' : St} {q0 : Nat} {x1 : Int32} {σ : St} (hX : sr_X p s m args meth c cX5_parseNumber 5 (Option.some FieldType.int) RX5 D aC) (h0 : shC q0 = 6) {x2 : Int32} {x4 : Int32}  {H : Heap} {locs : List Loc} {ls : Array Slot} (hl : lv_has ls 5 [(0, .ref (n0 + q0)), (1, .int x1), (2, .int x2), (4, .int x4)]) (hV : sr_V D aC shC n0 σ s.heap H locs) (hf : f_X5_parseNumber_B56 q0 x1 x2 x4 σ = some (r, σ')) : W p l e rm_X5_parseNumber s m args below meth c H locs 0 0 (MQ below (sr_Qc D aC shC n0 σ' (some (.int r))) args s 0 0 (sr_A shC n0)) (F0 m 56 ls []) := by
  have hx := hX.1.1
  have hb := hX.1.2.1
  unfold f_X5_parseNumber_B56 at hf
  refine lv_iload_n hx hb dX5_parseNumber_56 rfl (lv_at hl 2 rfl) ?_
  refine lv_iload_n hx hb dX5_parseNumber_57 rfl (lv_at hl 1 rfl) ?_
  refine lv_icmp_le (tgt := 63) hx hb dX5_parseNumber_58 (by decide) (fun c1 => ?_) (fun c1 => ?_)
  · have hf := sr_t hf c1
    refine lv_aload_n hx hb dX5_parseNumber_63 rfl (lv_at hl 0 rfl) ?_
    refine lv_dup hx hb dX5_parseNumber_64 rfl ?_
    refine fg_5_3 hX hV lk_203 (h0) dX5_parseNumber_65 ?_
    refine lv_iload hx hb dX5_parseNumber_68 (lv_at hl 3 rfl) ?_
    refine lv_iadd hx hb dX5_parseNumber_70 ?_
    obtain ⟨σ2, e3, hf⟩ := sr_bnd hf
    refine fp_5_3 (x := ((gI σ q0 3) + x4)) hX hV lk_203 (h0) dX5_parseNumber_71 (fun H locs hV => ?_)
    rw [e3] at hV
    refine lv_iload_n hx hb dX5_parseNumber_74 rfl (lv_at hl 2 rfl) ?_
    cases hf
    exact s_iret hX hV dX5_parseNumber_75
  · have hf := sr_f hf c1
    refine lv_iconst (v := (-1)) hx hb dX5_parseNumber_61 (by decide) ?_
    cases hf
    exact s_iret hX hV dX5_parseNumber_62
set_option maxHeartbeats 4000000 in
set_option maxRecDepth 100000 in
theorem k_X5_parseNumber_B43 {p : Program} {l : Launch} {e : Env} {s : State} {m : MethodId} {args : Array Value} {below : List Frame} {meth : Method} {c : Code} {D : va_G} {aC : Nat → ClassId} {n0 : Nat} {r : Int32} {σ' : St} {q0 : Nat} {x1 : Int32} {σ : St} (hX : sr_X p s m args meth c cX5_parseNumber 5 (Option.some FieldType.int) RX5 D aC) (h0 : shC q0 = 6) {x2 : Int32} {x3 : Int32} {sx0 : Int32}  {H : Heap} {locs : List Loc} {ls : Array Slot} (hl : lv_has ls 5 [(0, .ref (n0 + q0)), (1, .int x1), (2, .int x2), (3, .int x3)]) (hV : sr_V D aC shC n0 σ s.heap H locs) (hf : f_X5_parseNumber_B43 q0 x1 x2 x3 sx0 σ = some (r, σ')) : W p l e rm_X5_parseNumber s m args below meth c H locs 0 0 (MQ below (sr_Qc D aC shC n0 σ' (some (.int r))) args s 0 0 (sr_A shC n0)) (F0 m 43 ls [.int sx0]) := by
  have hx := hX.1.1
  have hb := hX.1.2.1
  unfold f_X5_parseNumber_B43 at hf
  refine lv_istore (lv' := [(4, .int sx0), (0, .ref (n0 + q0)), (1, .int x1), (2, .int x2), (3, .int x3)]) hx hb dX5_parseNumber_43 hl (by decide) rfl (fun ls hl => ?_)
  refine lv_iload_n hx hb dX5_parseNumber_45 rfl (lv_at hl 4 rfl) ?_
  refine lv_if_lt (tgt := 56) hx hb dX5_parseNumber_46 (by decide) (fun c4 => ?_) (fun c4 => ?_)
  · have hf := sr_t hf c4
    exact k_X5_parseNumber_B56 hX h0   (lv_sub hl [1, 2, 3, 0] rfl) hV hf
  · have hf := sr_f hf c4
    refine lv_bipush (v := 10) hx hb dX5_parseNumber_49 (by decide) ?_
    refine lv_iload_n hx hb dX5_parseNumber_51 rfl (lv_at hl 3 rfl) ?_
    refine lv_imul hx hb dX5_parseNumber_52 ?_
    refine lv_iload_n hx hb dX5_parseNumber_53 rfl (lv_at hl 4 rfl) ?_
    refine lv_iadd hx hb dX5_parseNumber_54 ?_
    obtain ⟨v5, e6, hf⟩ := sr_bnd hf
    rw [e6]
    refine lv_istore_n (lv' := [(2, .int v5), (4, .int sx0), (0, .ref (n0 + q0)), (1, .int x1), (3, .int x3)]) hx hb dX5_parseNumber_55 rfl hl (by decide) rfl (fun ls hl => ?_)
    exact k_X5_parseNumber_B56 hX h0   (lv_sub hl [2, 3, 0, 1] rfl) hV hf
set_option maxHeartbeats 4000000 in
set_option maxRecDepth 100000 in
theorem c_X5_parseNumber {l : Launch} {D : va_G} {aC : Nat → ClassId} {n0 : Nat} {r : Int32} {σ' : St}  {σ : St} {q0 : Nat} {x1 : Int32} (h0 : shC q0 = 6) (hf : f_X5_parseNumber q0 x1 σ = some (r, σ')) : sr_Met l D aC shC n0 yX5_parseNumber cX5_parseNumber 5 (Option.some FieldType.int) rm_X5_parseNumber [.ref (n0 + q0), .int x1] σ (some (.int r)) σ' := by
  refine s_met (own := RX5) (by decide) (Nat.le_of_ble_eq_true rfl) rfl ?_
  intro p e s m below meth c ls hX hV hl
  have hl : lv_has ls 5 [(0, .ref (n0 + q0)), (1, .int x1)] := hl
  have hx := hX.1.1
  have hb := hX.1.2.1
  unfold f_X5_parseNumber at hf
  refine lv_aload_n hx hb dX5_parseNumber_0 rfl (lv_at hl 0 rfl) ?_
  refine lv_aload_n hx hb dX5_parseNumber_1 rfl (lv_at hl 0 rfl) ?_
  refine fg_5_3 hX hV lk_203 (h0) dX5_parseNumber_2 ?_
  obtain ⟨v8, e7, hf⟩ := sr_obd hf
  refine s_callV1 (ci := 5) hX hV hl.1 (c_X5_digitAt (h0) e7) cv_X5_digitAt lk_351 ⟨rfl, rfl, Nat.le_of_ble_eq_true rfl, Nat.le_of_ble_eq_true rfl⟩ rfl (by decide) (h0) rfl rfl (Nat.le_of_ble_eq_true rfl) dX5_parseNumber_5 ⟨Nat.le_of_ble_eq_true rfl, Nat.le_of_ble_eq_true rfl⟩ (fun H locs hV => ?_)
  refine lv_istore_n (lv' := [(2, .int v8), (0, .ref (n0 + q0)), (1, .int x1)]) hx hb dX5_parseNumber_8 rfl hl (by decide) rfl (fun ls hl => ?_)
  refine lv_iload_n hx hb dX5_parseNumber_9 rfl (lv_at hl 0 rfl) ?_
  refine lv_if_ge (tgt := 15) hx hb dX5_parseNumber_10 (by decide) (fun c9 => ?_) (fun c9 => ?_)
  · have hf := sr_t hf c9
    refine lv_iload_n hx hb dX5_parseNumber_15 rfl (lv_at hl 0 rfl) ?_
    refine lv_if_ne (tgt := 23) hx hb dX5_parseNumber_16 (by decide) (fun c10 => ?_) (fun c10 => ?_)
    · have hf := sr_f hf c10
      refine lv_aload_n hx hb dX5_parseNumber_23 rfl (lv_at hl 1 rfl) ?_
      refine lv_aload_n hx hb dX5_parseNumber_24 rfl (lv_at hl 1 rfl) ?_
      refine fg_5_3 hX hV lk_203 (h0) dX5_parseNumber_25 ?_
      refine lv_iconst (v := 1) hx hb dX5_parseNumber_28 (by decide) ?_
      refine lv_iadd hx hb dX5_parseNumber_29 ?_
      obtain ⟨v12, e11, hf⟩ := sr_obd hf
      refine s_callV1 (ci := 5) hX hV hl.1 (c_X5_digitAt (h0) e11) cv_X5_digitAt lk_351 ⟨rfl, rfl, Nat.le_of_ble_eq_true rfl, Nat.le_of_ble_eq_true rfl⟩ rfl (by decide) (h0) rfl rfl (Nat.le_of_ble_eq_true rfl) dX5_parseNumber_30 ⟨Nat.le_of_ble_eq_true rfl, Nat.le_of_ble_eq_true rfl⟩ (fun H locs hV => ?_)
      refine lv_istore_n (lv' := [(3, .int v12), (2, .int v8), (0, .ref (n0 + q0)), (1, .int x1)]) hx hb dX5_parseNumber_33 rfl hl (by decide) rfl (fun ls hl => ?_)
      refine lv_iload_n hx hb dX5_parseNumber_34 rfl (lv_at hl 0 rfl) ?_
      refine lv_if_ge (tgt := 42) hx hb dX5_parseNumber_35 (by decide) (fun c13 => ?_) (fun c13 => ?_)
      · have hf := sr_t hf c13
        refine lv_iconst (v := 2) hx hb dX5_parseNumber_42 (by decide) ?_
        exact k_X5_parseNumber_B43 hX h0   (lv_sub hl [2, 3, 1, 0] rfl) hV hf
      · have hf := sr_f hf c13
        refine lv_iconst (v := 1) hx hb dX5_parseNumber_38 (by decide) ?_
        refine lv_goto (tgt := 43) hx hb dX5_parseNumber_39 (by decide) ?_
        exact k_X5_parseNumber_B43 hX h0   (lv_sub hl [2, 3, 1, 0] rfl) hV hf
    · have hf := sr_t hf c10
      refine lv_iconst (v := (-1)) hx hb dX5_parseNumber_19 (by decide) ?_
      refine lv_goto (tgt := 33) hx hb dX5_parseNumber_20 (by decide) ?_
      refine lv_istore_n (lv' := [(3, .int (-1)), (2, .int v8), (0, .ref (n0 + q0)), (1, .int x1)]) hx hb dX5_parseNumber_33 rfl hl (by decide) rfl (fun ls hl => ?_)
      refine lv_iload_n hx hb dX5_parseNumber_34 rfl (lv_at hl 0 rfl) ?_
      refine lv_if_ge (tgt := 42) hx hb dX5_parseNumber_35 (by decide) (fun c14 => ?_) (fun c14 => ?_)
      · have hf := sr_t hf c14
        refine lv_iconst (v := 2) hx hb dX5_parseNumber_42 (by decide) ?_
        exact k_X5_parseNumber_B43 hX h0   (lv_sub hl [2, 3, 1, 0] rfl) hV hf
      · have hf := sr_f hf c14
        refine lv_iconst (v := 1) hx hb dX5_parseNumber_38 (by decide) ?_
        refine lv_goto (tgt := 43) hx hb dX5_parseNumber_39 (by decide) ?_
        exact k_X5_parseNumber_B43 hX h0   (lv_sub hl [2, 3, 1, 0] rfl) hV hf
  · have hf := sr_f hf c9
    refine lv_iconst (v := (-1)) hx hb dX5_parseNumber_13 (by decide) ?_
    cases hf
    exact s_iret hX hV dX5_parseNumber_14
