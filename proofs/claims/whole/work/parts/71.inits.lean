def shB0 (q : Nat) : Nat := ([1, 5, 10018, 7, 10006] : List Nat).getD q 0
def shB1 (q : Nat) : Nat := ([2, 50005, 1, 5, 10018, 7, 10006, 1, 5, 10018, 7, 10006, 1, 5, 10018, 7, 10006, 1, 5, 10018, 7, 10006, 1, 5, 10018, 7, 10006, 3, 10003, 10003, 4, 10080] : List Nat).getD q 0
def shB2 (q : Nat) : Nat := ([3, 10003, 10003] : List Nat).getD q 0
def shB3 (q : Nat) : Nat := ([4, 10080] : List Nat).getD q 0
def shB4 (q : Nat) : Nat := ([5, 10018] : List Nat).getD q 0
def shB5 (q : Nat) : Nat := ([6, 30060, 5, 10018] : List Nat).getD q 0
def shB6 (q : Nat) : Nat := ([7] : List Nat).getD q 0
def nmC (q : Nat) : Int32 := nI (([0, 0, 0, 0, 0, 0, 0, 0, 1, 0, 0, 0, 0, 2, 0, 0, 0, 0, 3, 0, 0, 0, 0, 4, 0, 0, 0, 0, 0, 0, 0, 0, 0, 0, 0, 0, 0, 0, 0, 0, 1, 0, 0, 0, 0, 2, 0, 0, 0, 0, 3, 0, 0, 0, 0, 4, 0, 0, 0, 0, 0, 0, 0, 0, 0, 0, 0, 0, 0, 0, 0, 0, 0, 0, 1, 0, 0, 0, 0, 2, 0, 0, 0, 0, 3, 0, 0, 0, 0, 4, 0, 0, 0, 0, 0, 0, 0, 0, 0, 0, 0, 0, 0, 0, 0, 0, 1, 0, 0, 0, 0, 2, 0, 0, 0, 0, 3, 0, 0, 0, 0, 4, 0, 0, 0, 0, 0, 0, 0, 0, 0, 0, 0, 0, 0] : List Nat).getD q 0)
def igC (q : Nat) : Bool := decide (q = 33)
/-- the component's cells while its constructor runs: its own object, the row of slots, and what is done -/
def sr_cn (aC : Nat → ClassId) (a : Nat) (P0 P65 : va_E) : Nat → va_E := fun j => if j = 0 then P0 else if j = 65 then P65 else sr_e aC shC a (sr_I shC nmC igC) j
theorem sr_cn_0 {aC : Nat → ClassId} {a j : Nat} {P0 P65 e : va_E} : upE (sr_cn aC a P0 P65) 0 e j = sr_cn aC a e P65 j := by
  unfold upE sr_cn
  by_cases h : j = 0
  · rw [if_pos h, if_pos h]
  · rw [if_neg h, if_neg h, if_neg h]
theorem sr_cn_65 {aC : Nat → ClassId} {a j : Nat} {P0 P65 e : va_E} : upE (sr_cn aC a P0 P65) 65 e j = sr_cn aC a P0 e j := by
  unfold upE sr_cn
  by_cases h : j = 65
  · rw [if_pos h, if_neg (by omega), if_pos h]
  · rw [if_neg h, if_neg h]
    by_cases h0 : j = 0
    · rw [if_pos h0, if_pos h0]
    · rw [if_neg h0, if_neg h0, if_neg h]
theorem sr_cn_66 {aC : Nat → ClassId} {a j : Nat} {P0 P65 : va_E} : upE (sr_cn aC a P0 P65) 66 (.inl (aC 2, (2, .inl (fun _ => 0)))) j = sr_cn aC a P0 P65 j := by
  unfold upE sr_cn
  by_cases h : j = 66
  · rw [if_pos h, h]
    simp [sr_e, sr_E, sr_I, shC, bI]
  · rw [if_neg h]
theorem sr_cn_call {aC : Nat → ClassId} {a k0 sz : Nat} {P0 P65 B : va_E} {sh' : Nat → Nat} (h0 : 0 < k0) (h65 : 65 < k0 ∨ k0 + sz ≤ 65) (hs : ∀ j, j < sz → shC (k0 + j) = sh' j) : ∀ j, j < k0 + sz → (fun j => if j < k0 then upE (sr_cn aC a P0 P65) k0 B j else sr_e aC sh' (a + k0) (sr_I sh' (fun j => nmC (k0 + j)) (fun j => igC (k0 + j))) (j - k0)) j = sr_cn aC a P0 P65 j := by
  intro j hj
  show (if j < k0 then upE (sr_cn aC a P0 P65) k0 B j else sr_e aC sh' (a + k0) (sr_I sh' (fun j => nmC (k0 + j)) (fun j => igC (k0 + j))) (j - k0)) = sr_cn aC a P0 P65 j
  by_cases h : j < k0
  · rw [if_pos h]
    unfold upE
    rw [if_neg (by omega)]
  · rw [if_neg h]
    obtain ⟨i, rfl⟩ : ∃ i, j = k0 + i := ⟨j - k0, by omega⟩
    rw [Nat.add_sub_cancel_left]
    unfold sr_cn
    rw [if_neg (by omega), if_neg (by omega)]
    exact sr_emb (hs i (by omega)) rfl rfl
theorem sr_cn_call_1 {aC : Nat → ClassId} {a : Nat} {P0 P65 B : va_E} : ∀ j, j < 1 + 32 → (fun j => if j < 1 then upE (sr_cn aC a P0 P65) 1 B j else sr_e aC shB1 (a + 1) (sr_I shB1 (fun j => nmC (1 + j)) (fun j => igC (1 + j))) (j - 1)) j = sr_cn aC a P0 P65 j := sr_cn_call (by decide) (by decide) (by decide +kernel)
theorem sr_cn_call_33 {aC : Nat → ClassId} {a : Nat} {P0 P65 B : va_E} : ∀ j, j < 33 + 32 → (fun j => if j < 33 then upE (sr_cn aC a P0 P65) 33 B j else sr_e aC shB1 (a + 33) (sr_I shB1 (fun j => nmC (33 + j)) (fun j => igC (33 + j))) (j - 33)) j = sr_cn aC a P0 P65 j := sr_cn_call (by decide) (by decide) (by decide +kernel)
theorem sr_cn_call_67 {aC : Nat → ClassId} {a : Nat} {P0 P65 B : va_E} : ∀ j, j < 67 + 32 → (fun j => if j < 67 then upE (sr_cn aC a P0 P65) 67 B j else sr_e aC shB1 (a + 67) (sr_I shB1 (fun j => nmC (67 + j)) (fun j => igC (67 + j))) (j - 67)) j = sr_cn aC a P0 P65 j := sr_cn_call (by decide) (by decide) (by decide +kernel)
theorem sr_cn_call_99 {aC : Nat → ClassId} {a : Nat} {P0 P65 B : va_E} : ∀ j, j < 99 + 32 → (fun j => if j < 99 then upE (sr_cn aC a P0 P65) 99 B j else sr_e aC shB1 (a + 99) (sr_I shB1 (fun j => nmC (99 + j)) (fun j => igC (99 + j))) (j - 99)) j = sr_cn aC a P0 P65 j := sr_cn_call (by decide) (by decide) (by decide +kernel)
theorem sr_cn_call_131 {aC : Nat → ClassId} {a : Nat} {P0 P65 B : va_E} : ∀ j, j < 131 + 4 → (fun j => if j < 131 then upE (sr_cn aC a P0 P65) 131 B j else sr_e aC shB5 (a + 131) (sr_I shB5 (fun j => nmC (131 + j)) (fun j => igC (131 + j))) (j - 131)) j = sr_cn aC a P0 P65 j := sr_cn_call (by decide) (by decide) (by decide +kernel)
def σM0 : St := (fun q j => if q = 1 ∧ j = 0 then 4 else if q = 1 ∧ j = 2 then 50 else 0, fun _ _ => 0, fun _ _ => false)
theorem sr_cn_end {aC : Nat → ClassId} {a : Nat} : ∀ k, k < 135 → sr_eq (sr_cn aC a (.inr (7, [.ref (a + 1), .ref (a + 33), .ref (a + 65), .ref (a + 66), .ref (a + 131)])) (.inl (aC 5, 2, .inr (.inr (.inr (.inr (va_up (va_up (fun _ => none) (Int32.toNatClampNeg 0) (some (a + 67))) (Int32.toNatClampNeg 1) (some (a + 99)))))))) k) (sr_e aC shC a (sr_I shC nmC igC) k) := by
  intro k hk
  unfold sr_cn
  by_cases h : k = 0
  · rw [if_pos h, h]
    left
    simp [sr_e, sr_E, sr_F, shC]
  · rw [if_neg h]
    by_cases h5 : k = 65
    · rw [if_pos h5, h5]
      refine Or.inr ⟨aC 5, 2, _, fun j => some (a + (65 + 2 + 32 * j)), rfl, by simp [sr_e, sr_E, shC], fun j hj => ?_⟩
      have hj2 : j = 0 ∨ j = 1 := by omega
      rcases hj2 with rfl | rfl <;> rfl
    · rw [if_neg h5]
      left
      rfl

abbrev rm_X4_init : Room := { frames := 1, cells := 1, slots := 18, locals := 12 }
set_option maxHeartbeats 4000000 in
set_option maxRecDepth 100000 in
theorem c_X4_init {l : Launch} {D : va_G} {aC : Nat → ClassId} {a : Nat} (num : Nat → Int32) (ign : Nat → Bool) : sr_MetI l D aC yX4_init cX4_init 1 rm_X4_init [] a 4 [.null, .int 0] 2 (sr_e aC shB4 a (sr_I shB4 num ign)) := by
  refine g_met (own := RX4) (by decide) (Nat.le_of_ble_eq_true rfl) rfl rfl ?_
  intro p e s m below meth c ls hX hin hV hl
  have hl : lv_has ls 1 [(0, .ref (a + 0))] := hl
  have hx := hX.1.1
  have hb := hX.1.2.1
  refine lv_aload_n hx hb dX4_init_0 rfl (lv_at hl 0 rfl) ?_
  refine g_obj (a := a + 0) hX hl.1 lk_39 (Nat.le_of_ble_eq_true rfl) (Nat.le_of_ble_eq_true rfl) dX4_init_1 ?_
  refine lv_aload_n hx hb dX4_init_4 rfl (lv_at hl 0 rfl) ?_
  refine lv_bipush (v := 18) hx hb dX4_init_5 (by decide) ?_
  refine g_newa (t0 := 0) (ty := .int) (atype := .int) (n := 18) (a0 := (18, .inl (fun _ => 0))) hX hV rfl lk_50 (g_ar hX rfl (by intro C h; cases h)) (fun _ => rfl) (by decide) (by decide) (Nat.le_of_ble_eq_true rfl) (Nat.le_of_ble_eq_true rfl) (Nat.le_of_ble_eq_true rfl) dX4_init_7 (fun H hV => ?_)
  refine g_put (ci := 4) (j := 0) (k := 0) (fs := [.null, .int 0]) (v := .ref (a + 1)) (ty := .array .int) hX hV iG4 tyX4 tyX4_ok nmX4 rfl (by decide) lk_40 (by decide) (by simp [upE]) (Or.inr ⟨rfl, hin, rfl⟩) (by decide +kernel) rfl rfl (Nat.le_of_ble_eq_true rfl) dX4_init_9 (fun H locs hV => ?_)
  refine g_ret hX hV (fun k hk => ?_) dX4_init_12
  have hk2 : k = 0 ∨ k = 1 := by omega
  rcases hk2 with rfl | rfl
  · left; simp [upE, sr_e, sr_E, sr_F, sr_I, shB4, Nat.add_assoc, bI, upd, va_up, shB0, shB1, shB2, shB3, shB5, shB6]
  · left; simp [upE, sr_e, sr_E, sr_F, sr_I, shB4, Nat.add_assoc, bI, upd, va_up, shB0, shB1, shB2, shB3, shB5, shB6]
abbrev rm_X6_init : Room := { frames := 1, cells := 0, slots := 0, locals := 12 }
set_option maxHeartbeats 4000000 in
set_option maxRecDepth 100000 in
theorem c_X6_init {l : Launch} {D : va_G} {aC : Nat → ClassId} {a : Nat} (num : Nat → Int32) (ign : Nat → Bool) : sr_MetI l D aC yX6_init cX6_init 1 rm_X6_init [] a 6 [.int 0, .int 0, .int 0, .int 0, .long 0, .long 0] 1 (sr_e aC shB6 a (sr_I shB6 num ign)) := by
  refine g_met (own := RX6) (by decide) (Nat.le_of_ble_eq_true rfl) rfl rfl ?_
  intro p e s m below meth c ls hX hin hV hl
  have hl : lv_has ls 1 [(0, .ref (a + 0))] := hl
  have hx := hX.1.1
  have hb := hX.1.2.1
  refine lv_aload_n hx hb dX6_init_0 rfl (lv_at hl 0 rfl) ?_
  refine g_obj (a := a + 0) hX hl.1 lk_56 (Nat.le_of_ble_eq_true rfl) (Nat.le_of_ble_eq_true rfl) dX6_init_1 ?_
  refine lv_aload_n hx hb dX6_init_4 rfl (lv_at hl 0 rfl) ?_
  refine lv_lconst (v := 1) hx hb dX6_init_5 (by decide) ?_
  refine g_put (ci := 6) (j := 4) (k := 0) (fs := [.int 0, .int 0, .int 0, .int 0, .long 0, .long 0]) (v := .long 1) (ty := .long) hX hV iG6 tyX6 tyX6_ok nmX6 rfl (by decide) lk_65 (by decide) (by simp [upE]) (Or.inl rfl) (by decide +kernel) rfl rfl (Nat.le_of_ble_eq_true rfl) dX6_init_6 (fun H locs hV => ?_)
  refine lv_aload_n hx hb dX6_init_9 rfl (lv_at hl 0 rfl) ?_
  refine lv_lconst (v := 1) hx hb dX6_init_10 (by decide) ?_
  refine g_put (ci := 6) (j := 5) (k := 0) (fs := [.int 0, .int 0, .int 0, .int 0, .long 1, .long 0]) (v := .long 1) (ty := .long) hX hV iG6 tyX6 tyX6_ok nmX6 rfl (by decide) lk_67 (by decide) (by simp [upE]) (Or.inl rfl) (by decide +kernel) rfl rfl (Nat.le_of_ble_eq_true rfl) dX6_init_11 (fun H locs hV => ?_)
  refine g_ret hX hV (fun k hk => ?_) dX6_init_14
  rw [show k = 0 by omega]
  left; simp [upE, sr_e, sr_E, sr_F, sr_I, shB6]
abbrev rm_X0_init : Room := { frames := 2, cells := 4, slots := 32, locals := 32 }
set_option maxHeartbeats 4000000 in
set_option maxRecDepth 100000 in
theorem c_X0_init {l : Launch} {D : va_G} {aC : Nat → ClassId} {a : Nat} (num : Nat → Int32) (ign : Nat → Bool) {x1 : Int32} (hnum : num 0 = x1) : sr_MetI l D aC yX0_init cX0_init 2 rm_X0_init [.int x1] a 0 [.int 0, .null, .null, .null, .int 0, .int 0, .int 0, .int 0] 5 (sr_e aC shB0 a (sr_I shB0 num ign)) := by
  refine g_met (own := RX0) (by decide) (Nat.le_of_ble_eq_true rfl) rfl rfl ?_
  intro p e s m below meth c ls hX hin hV hl
  have hl : lv_has ls 2 [(0, .ref (a + 0)), (1, .int x1)] := hl
  have hx := hX.1.1
  have hb := hX.1.2.1
  refine lv_aload_n hx hb dX0_init_0 rfl (lv_at hl 0 rfl) ?_
  refine g_obj (a := a + 0) hX hl.1 lk_33 (Nat.le_of_ble_eq_true rfl) (Nat.le_of_ble_eq_true rfl) dX0_init_1 ?_
  refine lv_aload_n hx hb dX0_init_4 rfl (lv_at hl 0 rfl) ?_
  refine lv_iload_n hx hb dX0_init_5 rfl (lv_at hl 1 rfl) ?_
  refine g_put (ci := 0) (j := 0) (k := 0) (fs := [.int 0, .null, .null, .null, .int 0, .int 0, .int 0, .int 0]) (v := .int x1) (ty := .int) hX hV iG0 tyX0 tyX0_ok nmX0 rfl (by decide) lk_82 (by decide) (by simp [upE]) (Or.inr ⟨rfl, hin, rfl⟩) (by decide +kernel) rfl rfl (Nat.le_of_ble_eq_true rfl) dX0_init_6 (fun H locs hV => ?_)
  refine lv_aload_n hx hb dX0_init_9 rfl (lv_at hl 0 rfl) ?_
  refine g_new (ci := 4) (fs := [.null, .int 0]) hX hV iG4 tyX4 tyX4_ok rfl lk_34 lk_35 lk_4 (by decide +kernel) (Nat.le_of_ble_eq_true rfl) (Nat.le_of_ble_eq_true rfl) dX0_init_10 (fun H hV => ?_)
  refine lv_dup hx hb dX0_init_13 rfl ?_
  refine g_call (k := 1) (ci := 4) (fs := [.null, .int 0]) (sz := 2) hX hV hl.1 (by simp [upE]) (c_X4_init (a := a + 1) (fun j => num (1 + j)) (fun j => ign (1 + j))) lk_38 lk_37 lk_4 rfl ⟨by decide +kernel, by decide +kernel, by decide +kernel⟩ lk_36 ⟨Nat.le_of_ble_eq_true rfl, Nat.le_of_ble_eq_true rfl⟩ rfl rfl (Nat.le_of_ble_eq_true rfl) dX0_init_14 ⟨Nat.le_of_ble_eq_true rfl, Nat.le_of_ble_eq_true rfl⟩ (fun H locs hV => ?_)
  refine g_put (ci := 0) (j := 1) (k := 0) (fs := [.int x1, .null, .null, .null, .int 0, .int 0, .int 0, .int 0]) (v := .ref (a + 1)) (ty := .object "StagedRollout$Plan") hX hV iG0 tyX0 tyX0_ok nmX0 rfl (by decide) lk_84 (by decide) (by simp [upE]) (Or.inr ⟨rfl, hin, rfl⟩) (by decide +kernel) rfl rfl (Nat.le_of_ble_eq_true rfl) dX0_init_17 (fun H locs hV => ?_)
  refine lv_aload_n hx hb dX0_init_20 rfl (lv_at hl 0 rfl) ?_
  refine g_new (ci := 6) (fs := [.int 0, .int 0, .int 0, .int 0, .long 0, .long 0]) hX hV iG6 tyX6 tyX6_ok rfl lk_51 lk_52 lk_5 (by decide +kernel) (Nat.le_of_ble_eq_true rfl) (Nat.le_of_ble_eq_true rfl) dX0_init_21 (fun H hV => ?_)
  refine lv_dup hx hb dX0_init_24 rfl ?_
  refine g_call (k := 3) (ci := 6) (fs := [.int 0, .int 0, .int 0, .int 0, .long 0, .long 0]) (sz := 1) hX hV hl.1 (by simp [upE]) (c_X6_init (a := a + 3) (fun j => num (3 + j)) (fun j => ign (3 + j))) lk_55 lk_54 lk_5 rfl ⟨by decide +kernel, by decide +kernel, by decide +kernel⟩ lk_53 ⟨Nat.le_of_ble_eq_true rfl, Nat.le_of_ble_eq_true rfl⟩ rfl rfl (Nat.le_of_ble_eq_true rfl) dX0_init_25 ⟨Nat.le_of_ble_eq_true rfl, Nat.le_of_ble_eq_true rfl⟩ (fun H locs hV => ?_)
  refine g_put (ci := 0) (j := 2) (k := 0) (fs := [.int x1, .ref (a + 1), .null, .null, .int 0, .int 0, .int 0, .int 0]) (v := .ref (a + 3)) (ty := .object "StagedRollout$Tally") hX hV iG0 tyX0 tyX0_ok nmX0 rfl (by decide) lk_86 (by decide) (by simp [upE]) (Or.inr ⟨rfl, hin, rfl⟩) (by decide +kernel) rfl rfl (Nat.le_of_ble_eq_true rfl) dX0_init_28 (fun H locs hV => ?_)
  refine lv_aload_n hx hb dX0_init_31 rfl (lv_at hl 0 rfl) ?_
  refine lv_bipush (v := 6) hx hb dX0_init_32 (by decide) ?_
  refine g_newa (t0 := 0) (ty := .int) (atype := .int) (n := 6) (a0 := (6, .inl (fun _ => 0))) hX hV rfl lk_50 (g_ar hX rfl (by intro C h; cases h)) (fun _ => rfl) (by decide) (by decide) (Nat.le_of_ble_eq_true rfl) (Nat.le_of_ble_eq_true rfl) (Nat.le_of_ble_eq_true rfl) dX0_init_34 (fun H hV => ?_)
  refine g_put (ci := 0) (j := 3) (k := 0) (fs := [.int x1, .ref (a + 1), .ref (a + 3), .null, .int 0, .int 0, .int 0, .int 0]) (v := .ref (a + 4)) (ty := .array .int) hX hV iG0 tyX0 tyX0_ok nmX0 rfl (by decide) lk_89 (by decide) (by simp [upE]) (Or.inr ⟨rfl, hin, rfl⟩) (by decide +kernel) rfl rfl (Nat.le_of_ble_eq_true rfl) dX0_init_36 (fun H locs hV => ?_)
  refine g_ret hX hV (fun k hk => ?_) dX0_init_39
  have hk2 : k = 0 ∨ k = 1 ∨ k = 2 ∨ k = 3 ∨ k = 4 := by omega
  rcases hk2 with rfl | rfl | rfl | rfl | rfl
  · left; simp [upE, sr_e, sr_E, sr_F, sr_I, shB0, Nat.add_assoc, bI, upd, va_up, shB1, shB2, shB3, shB4, shB5, shB6, hnum]
  · left; simp [upE, sr_e, sr_E, sr_F, sr_I, shB0, Nat.add_assoc, bI, upd, va_up, shB1, shB2, shB3, shB4, shB5, shB6, hnum]
  · left; simp [upE, sr_e, sr_E, sr_F, sr_I, shB0, Nat.add_assoc, bI, upd, va_up, shB1, shB2, shB3, shB4, shB5, shB6, hnum]
  · left; simp [upE, sr_e, sr_E, sr_F, sr_I, shB0, Nat.add_assoc, bI, upd, va_up, shB1, shB2, shB3, shB4, shB5, shB6, hnum]
  · left; simp [upE, sr_e, sr_E, sr_F, sr_I, shB0, Nat.add_assoc, bI, upd, va_up, shB1, shB2, shB3, shB4, shB5, shB6, hnum]
abbrev rm_X2_init : Room := { frames := 1, cells := 2, slots := 6, locals := 12 }
set_option maxHeartbeats 4000000 in
set_option maxRecDepth 100000 in
theorem c_X2_init {l : Launch} {D : va_G} {aC : Nat → ClassId} {a : Nat} (num : Nat → Int32) (ign : Nat → Bool) : sr_MetI l D aC yX2_init cX2_init 1 rm_X2_init [] a 2 [.null, .null, .int 0] 3 (sr_e aC shB2 a (sr_I shB2 num ign)) := by
  refine g_met (own := RX2) (by decide) (Nat.le_of_ble_eq_true rfl) rfl rfl ?_
  intro p e s m below meth c ls hX hin hV hl
  have hl : lv_has ls 1 [(0, .ref (a + 0))] := hl
  have hx := hX.1.1
  have hb := hX.1.2.1
  refine lv_aload_n hx hb dX2_init_0 rfl (lv_at hl 0 rfl) ?_
  refine g_obj (a := a + 0) hX hl.1 lk_124 (Nat.le_of_ble_eq_true rfl) (Nat.le_of_ble_eq_true rfl) dX2_init_1 ?_
  refine lv_aload_n hx hb dX2_init_4 rfl (lv_at hl 0 rfl) ?_
  refine lv_iconst (v := 3) hx hb dX2_init_5 (by decide) ?_
  refine g_newa (t0 := 0) (ty := .int) (atype := .int) (n := 3) (a0 := (3, .inl (fun _ => 0))) hX hV rfl lk_50 (g_ar hX rfl (by intro C h; cases h)) (fun _ => rfl) (by decide) (by decide) (Nat.le_of_ble_eq_true rfl) (Nat.le_of_ble_eq_true rfl) (Nat.le_of_ble_eq_true rfl) dX2_init_6 (fun H hV => ?_)
  refine g_put (ci := 2) (j := 0) (k := 0) (fs := [.null, .null, .int 0]) (v := .ref (a + 1)) (ty := .array .int) hX hV iG2 tyX2 tyX2_ok nmX2 rfl (by decide) lk_125 (by decide) (by simp [upE]) (Or.inr ⟨rfl, hin, rfl⟩) (by decide +kernel) rfl rfl (Nat.le_of_ble_eq_true rfl) dX2_init_8 (fun H locs hV => ?_)
  refine lv_aload_n hx hb dX2_init_11 rfl (lv_at hl 0 rfl) ?_
  refine lv_iconst (v := 3) hx hb dX2_init_12 (by decide) ?_
  refine g_newa (t0 := 0) (ty := .int) (atype := .int) (n := 3) (a0 := (3, .inl (fun _ => 0))) hX hV rfl lk_50 (g_ar hX rfl (by intro C h; cases h)) (fun _ => rfl) (by decide) (by decide) (Nat.le_of_ble_eq_true rfl) (Nat.le_of_ble_eq_true rfl) (Nat.le_of_ble_eq_true rfl) dX2_init_13 (fun H hV => ?_)
  refine g_put (ci := 2) (j := 1) (k := 0) (fs := [.ref (a + 1), .null, .int 0]) (v := .ref (a + 2)) (ty := .array .int) hX hV iG2 tyX2 tyX2_ok nmX2 rfl (by decide) lk_126 (by decide) (by simp [upE]) (Or.inr ⟨rfl, hin, rfl⟩) (by decide +kernel) rfl rfl (Nat.le_of_ble_eq_true rfl) dX2_init_15 (fun H locs hV => ?_)
  refine g_ret hX hV (fun k hk => ?_) dX2_init_18
  have hk2 : k = 0 ∨ k = 1 ∨ k = 2 := by omega
  rcases hk2 with rfl | rfl | rfl
  · left; simp [upE, sr_e, sr_E, sr_F, sr_I, shB2, Nat.add_assoc, bI, upd, va_up, shB0, shB1, shB3, shB4, shB5, shB6]
  · left; simp [upE, sr_e, sr_E, sr_F, sr_I, shB2, Nat.add_assoc, bI, upd, va_up, shB0, shB1, shB3, shB4, shB5, shB6]
  · left; simp [upE, sr_e, sr_E, sr_F, sr_I, shB2, Nat.add_assoc, bI, upd, va_up, shB0, shB1, shB3, shB4, shB5, shB6]
abbrev rm_X3_init : Room := { frames := 1, cells := 1, slots := 80, locals := 12 }
set_option maxHeartbeats 4000000 in
set_option maxRecDepth 100000 in
theorem c_X3_init {l : Launch} {D : va_G} {aC : Nat → ClassId} {a : Nat} (num : Nat → Int32) (ign : Nat → Bool) : sr_MetI l D aC yX3_init cX3_init 1 rm_X3_init [] a 3 [.null, .int 0, .int 0, .int 0] 2 (sr_e aC shB3 a (sr_I shB3 num ign)) := by
  refine g_met (own := RX3) (by decide) (Nat.le_of_ble_eq_true rfl) rfl rfl ?_
  intro p e s m below meth c ls hX hin hV hl
  have hl : lv_has ls 1 [(0, .ref (a + 0))] := hl
  have hx := hX.1.1
  have hb := hX.1.2.1
  refine lv_aload_n hx hb dX3_init_0 rfl (lv_at hl 0 rfl) ?_
  refine g_obj (a := a + 0) hX hl.1 lk_142 (Nat.le_of_ble_eq_true rfl) (Nat.le_of_ble_eq_true rfl) dX3_init_1 ?_
  refine lv_aload_n hx hb dX3_init_4 rfl (lv_at hl 0 rfl) ?_
  refine lv_bipush (v := 80) hx hb dX3_init_5 (by decide) ?_
  refine g_newa (t0 := 0) (ty := .int) (atype := .int) (n := 80) (a0 := (80, .inl (fun _ => 0))) hX hV rfl lk_50 (g_ar hX rfl (by intro C h; cases h)) (fun _ => rfl) (by decide) (by decide) (Nat.le_of_ble_eq_true rfl) (Nat.le_of_ble_eq_true rfl) (Nat.le_of_ble_eq_true rfl) dX3_init_7 (fun H hV => ?_)
  refine g_put (ci := 3) (j := 0) (k := 0) (fs := [.null, .int 0, .int 0, .int 0]) (v := .ref (a + 1)) (ty := .array .int) hX hV iG3 tyX3 tyX3_ok nmX3 rfl (by decide) lk_143 (by decide) (by simp [upE]) (Or.inr ⟨rfl, hin, rfl⟩) (by decide +kernel) rfl rfl (Nat.le_of_ble_eq_true rfl) dX3_init_9 (fun H locs hV => ?_)
  refine g_ret hX hV (fun k hk => ?_) dX3_init_12
  have hk2 : k = 0 ∨ k = 1 := by omega
  rcases hk2 with rfl | rfl
  · left; simp [upE, sr_e, sr_E, sr_F, sr_I, shB3, Nat.add_assoc, bI, upd, va_up, shB0, shB1, shB2, shB4, shB5, shB6]
  · left; simp [upE, sr_e, sr_E, sr_F, sr_I, shB3, Nat.add_assoc, bI, upd, va_up, shB0, shB1, shB2, shB4, shB5, shB6]
abbrev rm_X1_init : Room := { frames := 3, cells := 31, slots := 298, locals := 53 }
set_option maxHeartbeats 4000000 in
set_option maxRecDepth 100000 in
theorem c_X1_init {l : Launch} {D : va_G} {aC : Nat → ClassId} {a : Nat} (num : Nat → Int32) (ign : Nat → Bool) {b1 : Bool} (hnum : ∀ j, j < 32 → shB1 j = 1 → num j = nI ((j - 2) / 5)) (hign : ign 0 = b1) : sr_MetI l D aC yX1_init cX1_init 3 rm_X1_init [.int (bI b1)] a 1 [.null, .null, .null, .int 0, .int 0, .int 0, .int 0, .int 0] 32 (sr_e aC shB1 a (sr_I shB1 num ign)) := by
  refine g_met (own := RX1) (by decide) (Nat.le_of_ble_eq_true rfl) rfl rfl ?_
  intro p e s m below meth c ls hX hin hV hl
  have hl : lv_has ls 3 [(0, .ref (a + 0)), (1, .int (bI b1))] := hl
  have hx := hX.1.1
  have hb := hX.1.2.1
  refine lv_aload_n hx hb dX1_init_0 rfl (lv_at hl 0 rfl) ?_
  refine g_obj (a := a + 0) hX hl.1 lk_26 (Nat.le_of_ble_eq_true rfl) (Nat.le_of_ble_eq_true rfl) dX1_init_1 ?_
  refine lv_aload_n hx hb dX1_init_4 rfl (lv_at hl 0 rfl) ?_
  refine lv_iload_n hx hb dX1_init_5 rfl (lv_at hl 1 rfl) ?_
  refine g_put (ci := 1) (j := 3) (k := 0) (fs := [.null, .null, .null, .int 0, .int 0, .int 0, .int 0, .int 0]) (v := .int (bI b1)) (ty := .boolean) hX hV iG1 tyX1 tyX1_ok nmX1 rfl (by decide) lk_163 (by decide) (by simp [upE]) (Or.inr ⟨rfl, hin, rfl⟩) (by decide +kernel) (sr_nb b1) (sr_fb b1) (Nat.le_of_ble_eq_true rfl) dX1_init_6 (fun H locs hV => ?_)
  refine lv_aload_n hx hb dX1_init_9 rfl (lv_at hl 0 rfl) ?_
  refine lv_iconst (v := 5) hx hb dX1_init_10 (by decide) ?_
  refine g_anew (t0 := 4) (n := 5) hX hV lk_27 hX.2.1.2.2.2.2.1 (g_arO hX rfl) (by decide) (by decide) (Nat.le_of_ble_eq_true rfl) (Nat.le_of_ble_eq_true rfl) (Nat.le_of_ble_eq_true rfl) dX1_init_11 (fun H hV => ?_)
  refine g_put (ci := 1) (j := 0) (k := 0) (fs := [.null, .null, .null, .int (bI b1), .int 0, .int 0, .int 0, .int 0]) (v := .ref (a + 1)) (ty := .array (.object "StagedRollout$Change")) hX hV iG1 tyX1 tyX1_ok nmX1 rfl (by decide) lk_158 (by decide) (by simp [upE]) (Or.inr ⟨rfl, hin, rfl⟩) (by decide +kernel) rfl rfl (Nat.le_of_ble_eq_true rfl) dX1_init_14 (fun H locs hV => ?_)
  refine lv_iconst (v := 0) hx hb dX1_init_17 (by decide) ?_
  refine lv_istore_n (lv' := [(2, .int 0), (0, .ref (a + 0)), (1, .int (bI b1))]) hx hb dX1_init_18 rfl hl (by decide) rfl (fun ls hl => ?_)
  refine lv_iload_n hx hb dX1_init_19 rfl (lv_at hl 0 rfl) ?_
  refine lv_iconst (v := 5) hx hb dX1_init_20 (by decide) ?_
  refine lv_icmp_ge (tgt := 44) hx hb dX1_init_21 (by decide) (fun z => absurd z (by decide)) (fun _ => ?_)
  refine lv_aload_n hx hb dX1_init_24 rfl (lv_at hl 1 rfl) ?_
  refine g_get (ci := 1) (j := 0) (k := 0) (fs := [.ref (a + 1), .null, .null, .int (bI b1), .int 0, .int 0, .int 0, .int 0]) (v := .ref (a + 1)) hX hV iG1 rfl (by decide) lk_158 (by decide) (by simp [upE]) rfl dX1_init_25 ?_
  refine lv_iload_n hx hb dX1_init_28 rfl (lv_at hl 0 rfl) ?_
  refine g_new (ci := 0) (fs := [.int 0, .null, .null, .null, .int 0, .int 0, .int 0, .int 0]) hX hV iG0 tyX0 tyX0_ok rfl lk_27 lk_29 lk_3 (by decide +kernel) (Nat.le_of_ble_eq_true rfl) (Nat.le_of_ble_eq_true rfl) dX1_init_29 (fun H hV => ?_)
  refine lv_dup hx hb dX1_init_32 rfl ?_
  refine lv_iload_n hx hb dX1_init_33 rfl (lv_at hl 0 rfl) ?_
  refine g_call (k := 2) (ci := 0) (fs := [.int 0, .null, .null, .null, .int 0, .int 0, .int 0, .int 0]) (sz := 5) hX hV hl.1 (by simp [upE]) (c_X0_init (a := a + 2) (fun j => num (2 + j)) (fun j => ign (2 + j)) (x1 := 0) ((hnum 2 (by decide) rfl).trans (by decide))) lk_32 lk_31 lk_3 rfl ⟨by decide +kernel, by decide +kernel, by decide +kernel⟩ lk_30 ⟨Nat.le_of_ble_eq_true rfl, Nat.le_of_ble_eq_true rfl⟩ rfl rfl (Nat.le_of_ble_eq_true rfl) dX1_init_34 ⟨Nat.le_of_ble_eq_true rfl, Nat.le_of_ble_eq_true rfl⟩ (fun H locs hV => ?_)
  refine g_aast (k := 1) (k2 := 2) (ci := 0) (t0 := 4) (n := 5) (f := (fun _ => none)) (r := (RX0, TX0, 8)) (vs := (sr_F (a + 2) ((sr_I shB0 (fun j => num (2 + j)) (fun j => ign (2 + j))).1 0) ((sr_I shB0 (fun j => num (2 + j)) (fun j => ign (2 + j))).2.1 0) ((sr_I shB0 (fun j => num (2 + j)) (fun j => ign (2 + j))).2.2 0) 0 1)) hX hV (by decide) (by decide) (by simp [upE]) rfl (by show sr_e aC shB0 (a + 2) (sr_I shB0 (fun j => num (2 + j)) (fun j => ign (2 + j))) 0 = _; exact sr_e_o (ci := 0) rfl (by decide)) rfl (by unfold vp_in; decide) dX1_init_37 (fun H locs hV => ?_)
  refine lv_iinc (v := 1) (lv' := [(2, .int 1), (0, .ref (a + 0)), (1, .int (bI b1))]) hx hb dX1_init_38 hl (k := 0) rfl (by decide) (by decide) rfl (fun ls hl => ?_)
  refine lv_goto (tgt := 19) hx hb dX1_init_41 (by decide) ?_
  refine lv_iload_n hx hb dX1_init_19 rfl (lv_at hl 0 rfl) ?_
  refine lv_iconst (v := 5) hx hb dX1_init_20 (by decide) ?_
  refine lv_icmp_ge (tgt := 44) hx hb dX1_init_21 (by decide) (fun z => absurd z (by decide)) (fun _ => ?_)
  refine lv_aload_n hx hb dX1_init_24 rfl (lv_at hl 1 rfl) ?_
  refine g_get (ci := 1) (j := 0) (k := 0) (fs := [.ref (a + 1), .null, .null, .int (bI b1), .int 0, .int 0, .int 0, .int 0]) (v := .ref (a + 1)) hX hV iG1 rfl (by decide) lk_158 (by decide) (by simp [upE]) rfl dX1_init_25 ?_
  refine lv_iload_n hx hb dX1_init_28 rfl (lv_at hl 0 rfl) ?_
  refine g_new (ci := 0) (fs := [.int 0, .null, .null, .null, .int 0, .int 0, .int 0, .int 0]) hX hV iG0 tyX0 tyX0_ok rfl lk_27 lk_29 lk_3 (by decide +kernel) (Nat.le_of_ble_eq_true rfl) (Nat.le_of_ble_eq_true rfl) dX1_init_29 (fun H hV => ?_)
  refine lv_dup hx hb dX1_init_32 rfl ?_
  refine lv_iload_n hx hb dX1_init_33 rfl (lv_at hl 0 rfl) ?_
  refine g_call (k := 7) (ci := 0) (fs := [.int 0, .null, .null, .null, .int 0, .int 0, .int 0, .int 0]) (sz := 5) hX hV hl.1 (by simp [upE]) (c_X0_init (a := a + 7) (fun j => num (7 + j)) (fun j => ign (7 + j)) (x1 := 1) ((hnum 7 (by decide) rfl).trans (by decide))) lk_32 lk_31 lk_3 rfl ⟨by decide +kernel, by decide +kernel, by decide +kernel⟩ lk_30 ⟨Nat.le_of_ble_eq_true rfl, Nat.le_of_ble_eq_true rfl⟩ rfl rfl (Nat.le_of_ble_eq_true rfl) dX1_init_34 ⟨Nat.le_of_ble_eq_true rfl, Nat.le_of_ble_eq_true rfl⟩ (fun H locs hV => ?_)
  refine g_aast (k := 1) (k2 := 7) (ci := 0) (t0 := 4) (n := 5) (f := (va_up (fun _ => none) (Int32.toNatClampNeg 0) (some (a + 2)))) (r := (RX0, TX0, 8)) (vs := (sr_F (a + 7) ((sr_I shB0 (fun j => num (7 + j)) (fun j => ign (7 + j))).1 0) ((sr_I shB0 (fun j => num (7 + j)) (fun j => ign (7 + j))).2.1 0) ((sr_I shB0 (fun j => num (7 + j)) (fun j => ign (7 + j))).2.2 0) 0 1)) hX hV (by decide) (by decide) (by simp [upE]) rfl (by show sr_e aC shB0 (a + 7) (sr_I shB0 (fun j => num (7 + j)) (fun j => ign (7 + j))) 0 = _; exact sr_e_o (ci := 0) rfl (by decide)) rfl (by unfold vp_in; decide) dX1_init_37 (fun H locs hV => ?_)
  refine lv_iinc (v := 2) (lv' := [(2, .int 2), (0, .ref (a + 0)), (1, .int (bI b1))]) hx hb dX1_init_38 hl (k := 0) rfl (by decide) (by decide) rfl (fun ls hl => ?_)
  refine lv_goto (tgt := 19) hx hb dX1_init_41 (by decide) ?_
  refine lv_iload_n hx hb dX1_init_19 rfl (lv_at hl 0 rfl) ?_
  refine lv_iconst (v := 5) hx hb dX1_init_20 (by decide) ?_
  refine lv_icmp_ge (tgt := 44) hx hb dX1_init_21 (by decide) (fun z => absurd z (by decide)) (fun _ => ?_)
  refine lv_aload_n hx hb dX1_init_24 rfl (lv_at hl 1 rfl) ?_
  refine g_get (ci := 1) (j := 0) (k := 0) (fs := [.ref (a + 1), .null, .null, .int (bI b1), .int 0, .int 0, .int 0, .int 0]) (v := .ref (a + 1)) hX hV iG1 rfl (by decide) lk_158 (by decide) (by simp [upE]) rfl dX1_init_25 ?_
  refine lv_iload_n hx hb dX1_init_28 rfl (lv_at hl 0 rfl) ?_
  refine g_new (ci := 0) (fs := [.int 0, .null, .null, .null, .int 0, .int 0, .int 0, .int 0]) hX hV iG0 tyX0 tyX0_ok rfl lk_27 lk_29 lk_3 (by decide +kernel) (Nat.le_of_ble_eq_true rfl) (Nat.le_of_ble_eq_true rfl) dX1_init_29 (fun H hV => ?_)
  refine lv_dup hx hb dX1_init_32 rfl ?_
  refine lv_iload_n hx hb dX1_init_33 rfl (lv_at hl 0 rfl) ?_
  refine g_call (k := 12) (ci := 0) (fs := [.int 0, .null, .null, .null, .int 0, .int 0, .int 0, .int 0]) (sz := 5) hX hV hl.1 (by simp [upE]) (c_X0_init (a := a + 12) (fun j => num (12 + j)) (fun j => ign (12 + j)) (x1 := 2) ((hnum 12 (by decide) rfl).trans (by decide))) lk_32 lk_31 lk_3 rfl ⟨by decide +kernel, by decide +kernel, by decide +kernel⟩ lk_30 ⟨Nat.le_of_ble_eq_true rfl, Nat.le_of_ble_eq_true rfl⟩ rfl rfl (Nat.le_of_ble_eq_true rfl) dX1_init_34 ⟨Nat.le_of_ble_eq_true rfl, Nat.le_of_ble_eq_true rfl⟩ (fun H locs hV => ?_)
  refine g_aast (k := 1) (k2 := 12) (ci := 0) (t0 := 4) (n := 5) (f := (va_up (va_up (fun _ => none) (Int32.toNatClampNeg 0) (some (a + 2))) (Int32.toNatClampNeg 1) (some (a + 7)))) (r := (RX0, TX0, 8)) (vs := (sr_F (a + 12) ((sr_I shB0 (fun j => num (12 + j)) (fun j => ign (12 + j))).1 0) ((sr_I shB0 (fun j => num (12 + j)) (fun j => ign (12 + j))).2.1 0) ((sr_I shB0 (fun j => num (12 + j)) (fun j => ign (12 + j))).2.2 0) 0 1)) hX hV (by decide) (by decide) (by simp [upE]) rfl (by show sr_e aC shB0 (a + 12) (sr_I shB0 (fun j => num (12 + j)) (fun j => ign (12 + j))) 0 = _; exact sr_e_o (ci := 0) rfl (by decide)) rfl (by unfold vp_in; decide) dX1_init_37 (fun H locs hV => ?_)
  refine lv_iinc (v := 3) (lv' := [(2, .int 3), (0, .ref (a + 0)), (1, .int (bI b1))]) hx hb dX1_init_38 hl (k := 0) rfl (by decide) (by decide) rfl (fun ls hl => ?_)
  refine lv_goto (tgt := 19) hx hb dX1_init_41 (by decide) ?_
  refine lv_iload_n hx hb dX1_init_19 rfl (lv_at hl 0 rfl) ?_
  refine lv_iconst (v := 5) hx hb dX1_init_20 (by decide) ?_
  refine lv_icmp_ge (tgt := 44) hx hb dX1_init_21 (by decide) (fun z => absurd z (by decide)) (fun _ => ?_)
  refine lv_aload_n hx hb dX1_init_24 rfl (lv_at hl 1 rfl) ?_
  refine g_get (ci := 1) (j := 0) (k := 0) (fs := [.ref (a + 1), .null, .null, .int (bI b1), .int 0, .int 0, .int 0, .int 0]) (v := .ref (a + 1)) hX hV iG1 rfl (by decide) lk_158 (by decide) (by simp [upE]) rfl dX1_init_25 ?_
  refine lv_iload_n hx hb dX1_init_28 rfl (lv_at hl 0 rfl) ?_
  refine g_new (ci := 0) (fs := [.int 0, .null, .null, .null, .int 0, .int 0, .int 0, .int 0]) hX hV iG0 tyX0 tyX0_ok rfl lk_27 lk_29 lk_3 (by decide +kernel) (Nat.le_of_ble_eq_true rfl) (Nat.le_of_ble_eq_true rfl) dX1_init_29 (fun H hV => ?_)
  refine lv_dup hx hb dX1_init_32 rfl ?_
  refine lv_iload_n hx hb dX1_init_33 rfl (lv_at hl 0 rfl) ?_
  refine g_call (k := 17) (ci := 0) (fs := [.int 0, .null, .null, .null, .int 0, .int 0, .int 0, .int 0]) (sz := 5) hX hV hl.1 (by simp [upE]) (c_X0_init (a := a + 17) (fun j => num (17 + j)) (fun j => ign (17 + j)) (x1 := 3) ((hnum 17 (by decide) rfl).trans (by decide))) lk_32 lk_31 lk_3 rfl ⟨by decide +kernel, by decide +kernel, by decide +kernel⟩ lk_30 ⟨Nat.le_of_ble_eq_true rfl, Nat.le_of_ble_eq_true rfl⟩ rfl rfl (Nat.le_of_ble_eq_true rfl) dX1_init_34 ⟨Nat.le_of_ble_eq_true rfl, Nat.le_of_ble_eq_true rfl⟩ (fun H locs hV => ?_)
  refine g_aast (k := 1) (k2 := 17) (ci := 0) (t0 := 4) (n := 5) (f := (va_up (va_up (va_up (fun _ => none) (Int32.toNatClampNeg 0) (some (a + 2))) (Int32.toNatClampNeg 1) (some (a + 7))) (Int32.toNatClampNeg 2) (some (a + 12)))) (r := (RX0, TX0, 8)) (vs := (sr_F (a + 17) ((sr_I shB0 (fun j => num (17 + j)) (fun j => ign (17 + j))).1 0) ((sr_I shB0 (fun j => num (17 + j)) (fun j => ign (17 + j))).2.1 0) ((sr_I shB0 (fun j => num (17 + j)) (fun j => ign (17 + j))).2.2 0) 0 1)) hX hV (by decide) (by decide) (by simp [upE]) rfl (by show sr_e aC shB0 (a + 17) (sr_I shB0 (fun j => num (17 + j)) (fun j => ign (17 + j))) 0 = _; exact sr_e_o (ci := 0) rfl (by decide)) rfl (by unfold vp_in; decide) dX1_init_37 (fun H locs hV => ?_)
  refine lv_iinc (v := 4) (lv' := [(2, .int 4), (0, .ref (a + 0)), (1, .int (bI b1))]) hx hb dX1_init_38 hl (k := 0) rfl (by decide) (by decide) rfl (fun ls hl => ?_)
  refine lv_goto (tgt := 19) hx hb dX1_init_41 (by decide) ?_
  refine lv_iload_n hx hb dX1_init_19 rfl (lv_at hl 0 rfl) ?_
  refine lv_iconst (v := 5) hx hb dX1_init_20 (by decide) ?_
  refine lv_icmp_ge (tgt := 44) hx hb dX1_init_21 (by decide) (fun z => absurd z (by decide)) (fun _ => ?_)
  refine lv_aload_n hx hb dX1_init_24 rfl (lv_at hl 1 rfl) ?_
  refine g_get (ci := 1) (j := 0) (k := 0) (fs := [.ref (a + 1), .null, .null, .int (bI b1), .int 0, .int 0, .int 0, .int 0]) (v := .ref (a + 1)) hX hV iG1 rfl (by decide) lk_158 (by decide) (by simp [upE]) rfl dX1_init_25 ?_
  refine lv_iload_n hx hb dX1_init_28 rfl (lv_at hl 0 rfl) ?_
  refine g_new (ci := 0) (fs := [.int 0, .null, .null, .null, .int 0, .int 0, .int 0, .int 0]) hX hV iG0 tyX0 tyX0_ok rfl lk_27 lk_29 lk_3 (by decide +kernel) (Nat.le_of_ble_eq_true rfl) (Nat.le_of_ble_eq_true rfl) dX1_init_29 (fun H hV => ?_)
  refine lv_dup hx hb dX1_init_32 rfl ?_
  refine lv_iload_n hx hb dX1_init_33 rfl (lv_at hl 0 rfl) ?_
  refine g_call (k := 22) (ci := 0) (fs := [.int 0, .null, .null, .null, .int 0, .int 0, .int 0, .int 0]) (sz := 5) hX hV hl.1 (by simp [upE]) (c_X0_init (a := a + 22) (fun j => num (22 + j)) (fun j => ign (22 + j)) (x1 := 4) ((hnum 22 (by decide) rfl).trans (by decide))) lk_32 lk_31 lk_3 rfl ⟨by decide +kernel, by decide +kernel, by decide +kernel⟩ lk_30 ⟨Nat.le_of_ble_eq_true rfl, Nat.le_of_ble_eq_true rfl⟩ rfl rfl (Nat.le_of_ble_eq_true rfl) dX1_init_34 ⟨Nat.le_of_ble_eq_true rfl, Nat.le_of_ble_eq_true rfl⟩ (fun H locs hV => ?_)
  refine g_aast (k := 1) (k2 := 22) (ci := 0) (t0 := 4) (n := 5) (f := (va_up (va_up (va_up (va_up (fun _ => none) (Int32.toNatClampNeg 0) (some (a + 2))) (Int32.toNatClampNeg 1) (some (a + 7))) (Int32.toNatClampNeg 2) (some (a + 12))) (Int32.toNatClampNeg 3) (some (a + 17)))) (r := (RX0, TX0, 8)) (vs := (sr_F (a + 22) ((sr_I shB0 (fun j => num (22 + j)) (fun j => ign (22 + j))).1 0) ((sr_I shB0 (fun j => num (22 + j)) (fun j => ign (22 + j))).2.1 0) ((sr_I shB0 (fun j => num (22 + j)) (fun j => ign (22 + j))).2.2 0) 0 1)) hX hV (by decide) (by decide) (by simp [upE]) rfl (by show sr_e aC shB0 (a + 22) (sr_I shB0 (fun j => num (22 + j)) (fun j => ign (22 + j))) 0 = _; exact sr_e_o (ci := 0) rfl (by decide)) rfl (by unfold vp_in; decide) dX1_init_37 (fun H locs hV => ?_)
  refine lv_iinc (v := 5) (lv' := [(2, .int 5), (0, .ref (a + 0)), (1, .int (bI b1))]) hx hb dX1_init_38 hl (k := 0) rfl (by decide) (by decide) rfl (fun ls hl => ?_)
  refine lv_goto (tgt := 19) hx hb dX1_init_41 (by decide) ?_
  refine lv_iload_n hx hb dX1_init_19 rfl (lv_at hl 0 rfl) ?_
  refine lv_iconst (v := 5) hx hb dX1_init_20 (by decide) ?_
  refine lv_icmp_ge (tgt := 44) hx hb dX1_init_21 (by decide) (fun _ => ?_) (fun z => absurd (show (5 : Int32) ≤ 5 by decide) z)
  refine lv_aload_n hx hb dX1_init_44 rfl (lv_at hl 1 rfl) ?_
  refine g_new (ci := 2) (fs := [.null, .null, .int 0]) hX hV iG2 tyX2 tyX2_ok rfl lk_119 lk_120 lk_6 (by decide +kernel) (Nat.le_of_ble_eq_true rfl) (Nat.le_of_ble_eq_true rfl) dX1_init_45 (fun H hV => ?_)
  refine lv_dup hx hb dX1_init_48 rfl ?_
  refine g_call (k := 27) (ci := 2) (fs := [.null, .null, .int 0]) (sz := 3) hX hV hl.1 (by simp [upE]) (c_X2_init (a := a + 27) (fun j => num (27 + j)) (fun j => ign (27 + j))) lk_123 lk_122 lk_6 rfl ⟨by decide +kernel, by decide +kernel, by decide +kernel⟩ lk_121 ⟨Nat.le_of_ble_eq_true rfl, Nat.le_of_ble_eq_true rfl⟩ rfl rfl (Nat.le_of_ble_eq_true rfl) dX1_init_49 ⟨Nat.le_of_ble_eq_true rfl, Nat.le_of_ble_eq_true rfl⟩ (fun H locs hV => ?_)
  refine g_put (ci := 1) (j := 1) (k := 0) (fs := [.ref (a + 1), .null, .null, .int (bI b1), .int 0, .int 0, .int 0, .int 0]) (v := .ref (a + 27)) (ty := .object "StagedRollout$FrozenHours") hX hV iG1 tyX1 tyX1_ok nmX1 rfl (by decide) lk_159 (by decide) (by simp [upE]) (Or.inr ⟨rfl, hin, rfl⟩) (by decide +kernel) rfl rfl (Nat.le_of_ble_eq_true rfl) dX1_init_52 (fun H locs hV => ?_)
  refine lv_aload_n hx hb dX1_init_55 rfl (lv_at hl 1 rfl) ?_
  refine g_new (ci := 3) (fs := [.null, .int 0, .int 0, .int 0]) hX hV iG3 tyX3 tyX3_ok rfl lk_137 lk_138 lk_7 (by decide +kernel) (Nat.le_of_ble_eq_true rfl) (Nat.le_of_ble_eq_true rfl) dX1_init_56 (fun H hV => ?_)
  refine lv_dup hx hb dX1_init_59 rfl ?_
  refine g_call (k := 30) (ci := 3) (fs := [.null, .int 0, .int 0, .int 0]) (sz := 2) hX hV hl.1 (by simp [upE]) (c_X3_init (a := a + 30) (fun j => num (30 + j)) (fun j => ign (30 + j))) lk_141 lk_140 lk_7 rfl ⟨by decide +kernel, by decide +kernel, by decide +kernel⟩ lk_139 ⟨Nat.le_of_ble_eq_true rfl, Nat.le_of_ble_eq_true rfl⟩ rfl rfl (Nat.le_of_ble_eq_true rfl) dX1_init_60 ⟨Nat.le_of_ble_eq_true rfl, Nat.le_of_ble_eq_true rfl⟩ (fun H locs hV => ?_)
  refine g_put (ci := 1) (j := 2) (k := 0) (fs := [.ref (a + 1), .ref (a + 27), .null, .int (bI b1), .int 0, .int 0, .int 0, .int 0]) (v := .ref (a + 30)) (ty := .object "StagedRollout$Log") hX hV iG1 tyX1 tyX1_ok nmX1 rfl (by decide) lk_161 (by decide) (by simp [upE]) (Or.inr ⟨rfl, hin, rfl⟩) (by decide +kernel) rfl rfl (Nat.le_of_ble_eq_true rfl) dX1_init_63 (fun H locs hV => ?_)
  refine lv_aload_n hx hb dX1_init_66 rfl (lv_at hl 1 rfl) ?_
  refine lv_iconst (v := 4) hx hb dX1_init_67 (by decide) ?_
  refine g_put (ci := 1) (j := 5) (k := 0) (fs := [.ref (a + 1), .ref (a + 27), .ref (a + 30), .int (bI b1), .int 0, .int 0, .int 0, .int 0]) (v := .int 4) (ty := .int) hX hV iG1 tyX1 tyX1_ok nmX1 rfl (by decide) lk_166 (by decide) (by simp [upE]) (Or.inl rfl) (by decide +kernel) rfl rfl (Nat.le_of_ble_eq_true rfl) dX1_init_68 (fun H locs hV => ?_)
  refine lv_aload_n hx hb dX1_init_71 rfl (lv_at hl 1 rfl) ?_
  refine lv_bipush (v := 50) hx hb dX1_init_72 (by decide) ?_
  refine g_put (ci := 1) (j := 7) (k := 0) (fs := [.ref (a + 1), .ref (a + 27), .ref (a + 30), .int (bI b1), .int 0, .int 4, .int 0, .int 0]) (v := .int 50) (ty := .int) hX hV iG1 tyX1 tyX1_ok nmX1 rfl (by decide) lk_170 (by decide) (by simp [upE]) (Or.inl rfl) (by decide +kernel) rfl rfl (Nat.le_of_ble_eq_true rfl) dX1_init_74 (fun H locs hV => ?_)
  refine g_ret hX hV (fun k hk => ?_) dX1_init_77
  have hk2 : k = 0 ∨ k = 1 ∨ k = 2 ∨ k = 3 ∨ k = 4 ∨ k = 5 ∨ k = 6 ∨ k = 7 ∨ k = 8 ∨ k = 9 ∨ k = 10 ∨ k = 11 ∨ k = 12 ∨ k = 13 ∨ k = 14 ∨ k = 15 ∨ k = 16 ∨ k = 17 ∨ k = 18 ∨ k = 19 ∨ k = 20 ∨ k = 21 ∨ k = 22 ∨ k = 23 ∨ k = 24 ∨ k = 25 ∨ k = 26 ∨ k = 27 ∨ k = 28 ∨ k = 29 ∨ k = 30 ∨ k = 31 := by omega
  rcases hk2 with rfl | rfl | rfl | rfl | rfl | rfl | rfl | rfl | rfl | rfl | rfl | rfl | rfl | rfl | rfl | rfl | rfl | rfl | rfl | rfl | rfl | rfl | rfl | rfl | rfl | rfl | rfl | rfl | rfl | rfl | rfl | rfl
  · left; simp [upE, sr_e, sr_E, sr_F, sr_I, shB1, Nat.add_assoc, bI, upd, va_up, shB0, shB2, shB3, shB4, shB5, shB6, hign, hnum 2 (by decide) rfl, hnum 7 (by decide) rfl, hnum 12 (by decide) rfl, hnum 17 (by decide) rfl, hnum 22 (by decide) rfl]
  · refine Or.inr ⟨aC 4, 5, (va_up (va_up (va_up (va_up (va_up (fun _ => none) (Int32.toNatClampNeg 0) (some (a + 2))) (Int32.toNatClampNeg 1) (some (a + 7))) (Int32.toNatClampNeg 2) (some (a + 12))) (Int32.toNatClampNeg 3) (some (a + 17))) (Int32.toNatClampNeg 4) (some (a + 22))), fun j => some (a + (1 + 1 + 5 * j)), by simp [upE], by simp [sr_e, sr_E, shB1], fun j hj => ?_⟩
    have hj2 : j = 0 ∨ j = 1 ∨ j = 2 ∨ j = 3 ∨ j = 4 := by omega
    rcases hj2 with rfl | rfl | rfl | rfl | rfl <;> rfl
  · left; simp [upE, sr_e, sr_E, sr_F, sr_I, shB1, Nat.add_assoc, bI, upd, va_up, shB0, shB2, shB3, shB4, shB5, shB6, hign, hnum 2 (by decide) rfl, hnum 7 (by decide) rfl, hnum 12 (by decide) rfl, hnum 17 (by decide) rfl, hnum 22 (by decide) rfl]
  · left; simp [upE, sr_e, sr_E, sr_F, sr_I, shB1, Nat.add_assoc, bI, upd, va_up, shB0, shB2, shB3, shB4, shB5, shB6, hign, hnum 2 (by decide) rfl, hnum 7 (by decide) rfl, hnum 12 (by decide) rfl, hnum 17 (by decide) rfl, hnum 22 (by decide) rfl]
  · left; simp [upE, sr_e, sr_E, sr_F, sr_I, shB1, Nat.add_assoc, bI, upd, va_up, shB0, shB2, shB3, shB4, shB5, shB6, hign, hnum 2 (by decide) rfl, hnum 7 (by decide) rfl, hnum 12 (by decide) rfl, hnum 17 (by decide) rfl, hnum 22 (by decide) rfl]
  · left; simp [upE, sr_e, sr_E, sr_F, sr_I, shB1, Nat.add_assoc, bI, upd, va_up, shB0, shB2, shB3, shB4, shB5, shB6, hign, hnum 2 (by decide) rfl, hnum 7 (by decide) rfl, hnum 12 (by decide) rfl, hnum 17 (by decide) rfl, hnum 22 (by decide) rfl]
  · left; simp [upE, sr_e, sr_E, sr_F, sr_I, shB1, Nat.add_assoc, bI, upd, va_up, shB0, shB2, shB3, shB4, shB5, shB6, hign, hnum 2 (by decide) rfl, hnum 7 (by decide) rfl, hnum 12 (by decide) rfl, hnum 17 (by decide) rfl, hnum 22 (by decide) rfl]
  · left; simp [upE, sr_e, sr_E, sr_F, sr_I, shB1, Nat.add_assoc, bI, upd, va_up, shB0, shB2, shB3, shB4, shB5, shB6, hign, hnum 2 (by decide) rfl, hnum 7 (by decide) rfl, hnum 12 (by decide) rfl, hnum 17 (by decide) rfl, hnum 22 (by decide) rfl]
  · left; simp [upE, sr_e, sr_E, sr_F, sr_I, shB1, Nat.add_assoc, bI, upd, va_up, shB0, shB2, shB3, shB4, shB5, shB6, hign, hnum 2 (by decide) rfl, hnum 7 (by decide) rfl, hnum 12 (by decide) rfl, hnum 17 (by decide) rfl, hnum 22 (by decide) rfl]
  · left; simp [upE, sr_e, sr_E, sr_F, sr_I, shB1, Nat.add_assoc, bI, upd, va_up, shB0, shB2, shB3, shB4, shB5, shB6, hign, hnum 2 (by decide) rfl, hnum 7 (by decide) rfl, hnum 12 (by decide) rfl, hnum 17 (by decide) rfl, hnum 22 (by decide) rfl]
  · left; simp [upE, sr_e, sr_E, sr_F, sr_I, shB1, Nat.add_assoc, bI, upd, va_up, shB0, shB2, shB3, shB4, shB5, shB6, hign, hnum 2 (by decide) rfl, hnum 7 (by decide) rfl, hnum 12 (by decide) rfl, hnum 17 (by decide) rfl, hnum 22 (by decide) rfl]
  · left; simp [upE, sr_e, sr_E, sr_F, sr_I, shB1, Nat.add_assoc, bI, upd, va_up, shB0, shB2, shB3, shB4, shB5, shB6, hign, hnum 2 (by decide) rfl, hnum 7 (by decide) rfl, hnum 12 (by decide) rfl, hnum 17 (by decide) rfl, hnum 22 (by decide) rfl]
  · left; simp [upE, sr_e, sr_E, sr_F, sr_I, shB1, Nat.add_assoc, bI, upd, va_up, shB0, shB2, shB3, shB4, shB5, shB6, hign, hnum 2 (by decide) rfl, hnum 7 (by decide) rfl, hnum 12 (by decide) rfl, hnum 17 (by decide) rfl, hnum 22 (by decide) rfl]
  · left; simp [upE, sr_e, sr_E, sr_F, sr_I, shB1, Nat.add_assoc, bI, upd, va_up, shB0, shB2, shB3, shB4, shB5, shB6, hign, hnum 2 (by decide) rfl, hnum 7 (by decide) rfl, hnum 12 (by decide) rfl, hnum 17 (by decide) rfl, hnum 22 (by decide) rfl]
  · left; simp [upE, sr_e, sr_E, sr_F, sr_I, shB1, Nat.add_assoc, bI, upd, va_up, shB0, shB2, shB3, shB4, shB5, shB6, hign, hnum 2 (by decide) rfl, hnum 7 (by decide) rfl, hnum 12 (by decide) rfl, hnum 17 (by decide) rfl, hnum 22 (by decide) rfl]
  · left; simp [upE, sr_e, sr_E, sr_F, sr_I, shB1, Nat.add_assoc, bI, upd, va_up, shB0, shB2, shB3, shB4, shB5, shB6, hign, hnum 2 (by decide) rfl, hnum 7 (by decide) rfl, hnum 12 (by decide) rfl, hnum 17 (by decide) rfl, hnum 22 (by decide) rfl]
  · left; simp [upE, sr_e, sr_E, sr_F, sr_I, shB1, Nat.add_assoc, bI, upd, va_up, shB0, shB2, shB3, shB4, shB5, shB6, hign, hnum 2 (by decide) rfl, hnum 7 (by decide) rfl, hnum 12 (by decide) rfl, hnum 17 (by decide) rfl, hnum 22 (by decide) rfl]
  · left; simp [upE, sr_e, sr_E, sr_F, sr_I, shB1, Nat.add_assoc, bI, upd, va_up, shB0, shB2, shB3, shB4, shB5, shB6, hign, hnum 2 (by decide) rfl, hnum 7 (by decide) rfl, hnum 12 (by decide) rfl, hnum 17 (by decide) rfl, hnum 22 (by decide) rfl]
  · left; simp [upE, sr_e, sr_E, sr_F, sr_I, shB1, Nat.add_assoc, bI, upd, va_up, shB0, shB2, shB3, shB4, shB5, shB6, hign, hnum 2 (by decide) rfl, hnum 7 (by decide) rfl, hnum 12 (by decide) rfl, hnum 17 (by decide) rfl, hnum 22 (by decide) rfl]
  · left; simp [upE, sr_e, sr_E, sr_F, sr_I, shB1, Nat.add_assoc, bI, upd, va_up, shB0, shB2, shB3, shB4, shB5, shB6, hign, hnum 2 (by decide) rfl, hnum 7 (by decide) rfl, hnum 12 (by decide) rfl, hnum 17 (by decide) rfl, hnum 22 (by decide) rfl]
  · left; simp [upE, sr_e, sr_E, sr_F, sr_I, shB1, Nat.add_assoc, bI, upd, va_up, shB0, shB2, shB3, shB4, shB5, shB6, hign, hnum 2 (by decide) rfl, hnum 7 (by decide) rfl, hnum 12 (by decide) rfl, hnum 17 (by decide) rfl, hnum 22 (by decide) rfl]
  · left; simp [upE, sr_e, sr_E, sr_F, sr_I, shB1, Nat.add_assoc, bI, upd, va_up, shB0, shB2, shB3, shB4, shB5, shB6, hign, hnum 2 (by decide) rfl, hnum 7 (by decide) rfl, hnum 12 (by decide) rfl, hnum 17 (by decide) rfl, hnum 22 (by decide) rfl]
  · left; simp [upE, sr_e, sr_E, sr_F, sr_I, shB1, Nat.add_assoc, bI, upd, va_up, shB0, shB2, shB3, shB4, shB5, shB6, hign, hnum 2 (by decide) rfl, hnum 7 (by decide) rfl, hnum 12 (by decide) rfl, hnum 17 (by decide) rfl, hnum 22 (by decide) rfl]
  · left; simp [upE, sr_e, sr_E, sr_F, sr_I, shB1, Nat.add_assoc, bI, upd, va_up, shB0, shB2, shB3, shB4, shB5, shB6, hign, hnum 2 (by decide) rfl, hnum 7 (by decide) rfl, hnum 12 (by decide) rfl, hnum 17 (by decide) rfl, hnum 22 (by decide) rfl]
  · left; simp [upE, sr_e, sr_E, sr_F, sr_I, shB1, Nat.add_assoc, bI, upd, va_up, shB0, shB2, shB3, shB4, shB5, shB6, hign, hnum 2 (by decide) rfl, hnum 7 (by decide) rfl, hnum 12 (by decide) rfl, hnum 17 (by decide) rfl, hnum 22 (by decide) rfl]
  · left; simp [upE, sr_e, sr_E, sr_F, sr_I, shB1, Nat.add_assoc, bI, upd, va_up, shB0, shB2, shB3, shB4, shB5, shB6, hign, hnum 2 (by decide) rfl, hnum 7 (by decide) rfl, hnum 12 (by decide) rfl, hnum 17 (by decide) rfl, hnum 22 (by decide) rfl]
  · left; simp [upE, sr_e, sr_E, sr_F, sr_I, shB1, Nat.add_assoc, bI, upd, va_up, shB0, shB2, shB3, shB4, shB5, shB6, hign, hnum 2 (by decide) rfl, hnum 7 (by decide) rfl, hnum 12 (by decide) rfl, hnum 17 (by decide) rfl, hnum 22 (by decide) rfl]
  · left; simp [upE, sr_e, sr_E, sr_F, sr_I, shB1, Nat.add_assoc, bI, upd, va_up, shB0, shB2, shB3, shB4, shB5, shB6, hign, hnum 2 (by decide) rfl, hnum 7 (by decide) rfl, hnum 12 (by decide) rfl, hnum 17 (by decide) rfl, hnum 22 (by decide) rfl]
  · left; simp [upE, sr_e, sr_E, sr_F, sr_I, shB1, Nat.add_assoc, bI, upd, va_up, shB0, shB2, shB3, shB4, shB5, shB6, hign, hnum 2 (by decide) rfl, hnum 7 (by decide) rfl, hnum 12 (by decide) rfl, hnum 17 (by decide) rfl, hnum 22 (by decide) rfl]
  · left; simp [upE, sr_e, sr_E, sr_F, sr_I, shB1, Nat.add_assoc, bI, upd, va_up, shB0, shB2, shB3, shB4, shB5, shB6, hign, hnum 2 (by decide) rfl, hnum 7 (by decide) rfl, hnum 12 (by decide) rfl, hnum 17 (by decide) rfl, hnum 22 (by decide) rfl]
  · left; simp [upE, sr_e, sr_E, sr_F, sr_I, shB1, Nat.add_assoc, bI, upd, va_up, shB0, shB2, shB3, shB4, shB5, shB6, hign, hnum 2 (by decide) rfl, hnum 7 (by decide) rfl, hnum 12 (by decide) rfl, hnum 17 (by decide) rfl, hnum 22 (by decide) rfl]
  · left; simp [upE, sr_e, sr_E, sr_F, sr_I, shB1, Nat.add_assoc, bI, upd, va_up, shB0, shB2, shB3, shB4, shB5, shB6, hign, hnum 2 (by decide) rfl, hnum 7 (by decide) rfl, hnum 12 (by decide) rfl, hnum 17 (by decide) rfl, hnum 22 (by decide) rfl]
abbrev rm_X5_init : Room := { frames := 2, cells := 3, slots := 80, locals := 32 }
set_option maxHeartbeats 4000000 in
set_option maxRecDepth 100000 in
theorem c_X5_init {l : Launch} {D : va_G} {aC : Nat → ClassId} {a : Nat} (num : Nat → Int32) (ign : Nat → Bool) : sr_MetI l D aC yX5_init cX5_init 1 rm_X5_init [] a 5 [.null, .null, .int 0, .int 0] 4 (sr_e aC shB5 a (sr_I shB5 num ign)) := by
  refine g_met (own := RX5) (by decide) (Nat.le_of_ble_eq_true rfl) rfl rfl ?_
  intro p e s m below meth c ls hX hin hV hl
  have hl : lv_has ls 1 [(0, .ref (a + 0))] := hl
  have hx := hX.1.1
  have hb := hX.1.2.1
  refine lv_aload_n hx hb dX5_init_0 rfl (lv_at hl 0 rfl) ?_
  refine g_obj (a := a + 0) hX hl.1 lk_195 (Nat.le_of_ble_eq_true rfl) (Nat.le_of_ble_eq_true rfl) dX5_init_1 ?_
  refine lv_aload_n hx hb dX5_init_4 rfl (lv_at hl 0 rfl) ?_
  refine lv_bipush (v := 60) hx hb dX5_init_5 (by decide) ?_
  refine g_newa (t0 := 1) (ty := .byte) (atype := .byte) (n := 60) (a0 := (60, .inl (fun _ => 0))) hX hV rfl lk_215 (g_ar hX rfl (by intro C h; cases h)) (fun _ => rfl) (by decide) (by decide) (Nat.le_of_ble_eq_true rfl) (Nat.le_of_ble_eq_true rfl) (Nat.le_of_ble_eq_true rfl) dX5_init_7 (fun H hV => ?_)
  refine g_put (ci := 5) (j := 0) (k := 0) (fs := [.null, .null, .int 0, .int 0]) (v := .ref (a + 1)) (ty := .array .byte) hX hV iG5 tyX5 tyX5_ok nmX5 rfl (by decide) lk_198 (by decide) (by simp [upE]) (Or.inr ⟨rfl, hin, rfl⟩) (by decide +kernel) rfl rfl (Nat.le_of_ble_eq_true rfl) dX5_init_9 (fun H locs hV => ?_)
  refine lv_aload_n hx hb dX5_init_12 rfl (lv_at hl 0 rfl) ?_
  refine g_new (ci := 4) (fs := [.null, .int 0]) hX hV iG4 tyX4 tyX4_ok rfl lk_196 lk_35 lk_4 (by decide +kernel) (Nat.le_of_ble_eq_true rfl) (Nat.le_of_ble_eq_true rfl) dX5_init_13 (fun H hV => ?_)
  refine lv_dup hx hb dX5_init_16 rfl ?_
  refine g_call (k := 2) (ci := 4) (fs := [.null, .int 0]) (sz := 2) hX hV hl.1 (by simp [upE]) (c_X4_init (a := a + 2) (fun j => num (2 + j)) (fun j => ign (2 + j))) lk_38 lk_37 lk_4 rfl ⟨by decide +kernel, by decide +kernel, by decide +kernel⟩ lk_197 ⟨Nat.le_of_ble_eq_true rfl, Nat.le_of_ble_eq_true rfl⟩ rfl rfl (Nat.le_of_ble_eq_true rfl) dX5_init_17 ⟨Nat.le_of_ble_eq_true rfl, Nat.le_of_ble_eq_true rfl⟩ (fun H locs hV => ?_)
  refine g_put (ci := 5) (j := 1) (k := 0) (fs := [.ref (a + 1), .null, .int 0, .int 0]) (v := .ref (a + 2)) (ty := .object "StagedRollout$Plan") hX hV iG5 tyX5 tyX5_ok nmX5 rfl (by decide) lk_199 (by decide) (by simp [upE]) (Or.inr ⟨rfl, hin, rfl⟩) (by decide +kernel) rfl rfl (Nat.le_of_ble_eq_true rfl) dX5_init_20 (fun H locs hV => ?_)
  refine g_ret hX hV (fun k hk => ?_) dX5_init_23
  have hk2 : k = 0 ∨ k = 1 ∨ k = 2 ∨ k = 3 := by omega
  rcases hk2 with rfl | rfl | rfl | rfl
  · left; simp [upE, sr_e, sr_E, sr_F, sr_I, shB5, Nat.add_assoc, bI, upd, va_up, shB0, shB1, shB2, shB3, shB4, shB6]
  · left; simp [upE, sr_e, sr_E, sr_F, sr_I, shB5, Nat.add_assoc, bI, upd, va_up, shB0, shB1, shB2, shB3, shB4, shB6]
  · left; simp [upE, sr_e, sr_E, sr_F, sr_I, shB5, Nat.add_assoc, bI, upd, va_up, shB0, shB1, shB2, shB3, shB4, shB6]
  · left; simp [upE, sr_e, sr_E, sr_F, sr_I, shB5, Nat.add_assoc, bI, upd, va_up, shB0, shB1, shB2, shB3, shB4, shB6]
abbrev rm_X7_init : Room := { frames := 4, cells := 134, slots := 1312, locals := 75 }
set_option maxHeartbeats 4000000 in
set_option maxRecDepth 100000 in
theorem c_X7_init {l : Launch} {D : va_G} {aC : Nat → ClassId} {a : Nat} : sr_MetI l D aC yX7_init cX7_init 2 rm_X7_init [] a 7 [.null, .null, .null, .null, .null] 135 (sr_e aC shC a (sr_I shC nmC igC)) := by
  refine g_met (own := RX7) (by decide) (Nat.le_of_ble_eq_true rfl) rfl rfl ?_
  intro p e s m below meth c ls hX hin hV hl
  have hl : lv_has ls 2 [(0, .ref (a + 0))] := hl
  have hx := hX.1.1
  have hb := hX.1.2.1
  have hV := hV.congr (E' := sr_cn aC a (.inr (7, [.null, .null, .null, .null, .null])) (.inl (aC 5, 2, .inr (.inr (.inr (.inr (fun _ => none))))))) (fun k hk => by rw [show k = 0 by omega]; rfl)
  refine lv_aload_n hx hb dX7_init_0 rfl (lv_at hl 0 rfl) ?_
  refine g_obj (a := a + 0) hX hl.1 lk_18 (Nat.le_of_ble_eq_true rfl) (Nat.le_of_ble_eq_true rfl) dX7_init_1 ?_
  refine lv_aload_n hx hb dX7_init_4 rfl (lv_at hl 0 rfl) ?_
  refine g_new (ci := 1) (fs := [.null, .null, .null, .int 0, .int 0, .int 0, .int 0, .int 0]) hX hV iG1 tyX1 tyX1_ok rfl lk_21 lk_22 lk_2 (by decide +kernel) (Nat.le_of_ble_eq_true rfl) (Nat.le_of_ble_eq_true rfl) dX7_init_5 (fun H hV => ?_)
  refine lv_dup hx hb dX7_init_8 rfl ?_
  refine lv_iconst (v := 0) hx hb dX7_init_9 (by decide) ?_
  refine g_call (k := 1) (ci := 1) (fs := [.null, .null, .null, .int 0, .int 0, .int 0, .int 0, .int 0]) (sz := 32) hX hV hl.1 (by simp [upE]) (c_X1_init (a := a + 1) (fun j => nmC (1 + j)) (fun j => igC (1 + j)) (b1 := false) (by decide +kernel) rfl) lk_25 lk_24 lk_2 rfl ⟨by decide +kernel, by decide +kernel, by decide +kernel⟩ lk_23 ⟨Nat.le_of_ble_eq_true rfl, Nat.le_of_ble_eq_true rfl⟩ rfl rfl (Nat.le_of_ble_eq_true rfl) dX7_init_10 ⟨Nat.le_of_ble_eq_true rfl, Nat.le_of_ble_eq_true rfl⟩ (fun H locs hV => ?_)
  have hV := hV.congr (sr_cn_call_1 (a := a) (aC := aC))
  refine g_put (ci := 7) (j := 0) (k := 0) (fs := [.null, .null, .null, .null, .null]) (v := .ref (a + 1)) (ty := .object "StagedRollout$Fleet") hX hV iG7 tyX7 tyX7_ok nmX7 rfl (by decide) lk_216 (by decide) (by simp [upE, sr_cn]) (Or.inr ⟨rfl, hin, rfl⟩) (by decide +kernel) rfl rfl (Nat.le_of_ble_eq_true rfl) dX7_init_13 (fun H locs hV => ?_)
  have hV := hV.congr (fun j hj => sr_cn_0)
  refine lv_aload_n hx hb dX7_init_16 rfl (lv_at hl 0 rfl) ?_
  refine g_new (ci := 1) (fs := [.null, .null, .null, .int 0, .int 0, .int 0, .int 0, .int 0]) hX hV iG1 tyX1 tyX1_ok rfl lk_21 lk_22 lk_2 (by decide +kernel) (Nat.le_of_ble_eq_true rfl) (Nat.le_of_ble_eq_true rfl) dX7_init_17 (fun H hV => ?_)
  refine lv_dup hx hb dX7_init_20 rfl ?_
  refine lv_iconst (v := 1) hx hb dX7_init_21 (by decide) ?_
  refine g_call (k := 33) (ci := 1) (fs := [.null, .null, .null, .int 0, .int 0, .int 0, .int 0, .int 0]) (sz := 32) hX hV hl.1 (by simp [upE]) (c_X1_init (a := a + 33) (fun j => nmC (33 + j)) (fun j => igC (33 + j)) (b1 := true) (by decide +kernel) rfl) lk_25 lk_24 lk_2 rfl ⟨by decide +kernel, by decide +kernel, by decide +kernel⟩ lk_23 ⟨Nat.le_of_ble_eq_true rfl, Nat.le_of_ble_eq_true rfl⟩ rfl rfl (Nat.le_of_ble_eq_true rfl) dX7_init_22 ⟨Nat.le_of_ble_eq_true rfl, Nat.le_of_ble_eq_true rfl⟩ (fun H locs hV => ?_)
  have hV := hV.congr (sr_cn_call_33 (a := a) (aC := aC))
  refine g_put (ci := 7) (j := 1) (k := 0) (fs := [.ref (a + 1), .null, .null, .null, .null]) (v := .ref (a + 33)) (ty := .object "StagedRollout$Fleet") hX hV iG7 tyX7 tyX7_ok nmX7 rfl (by decide) lk_217 (by decide) (by simp [upE, sr_cn]) (Or.inr ⟨rfl, hin, rfl⟩) (by decide +kernel) rfl rfl (Nat.le_of_ble_eq_true rfl) dX7_init_25 (fun H locs hV => ?_)
  have hV := hV.congr (fun j hj => sr_cn_0)
  refine lv_aload_n hx hb dX7_init_28 rfl (lv_at hl 0 rfl) ?_
  refine lv_iconst (v := 2) hx hb dX7_init_29 (by decide) ?_
  refine g_anew (t0 := 5) (n := 2) hX hV lk_21 hX.2.1.2.2.2.2.2 (g_arO hX rfl) (by decide) (by decide) (Nat.le_of_ble_eq_true rfl) (Nat.le_of_ble_eq_true rfl) (Nat.le_of_ble_eq_true rfl) dX7_init_30 (fun H hV => ?_)
  have hV := hV.congr (fun j hj => sr_cn_65)
  refine g_put (ci := 7) (j := 2) (k := 0) (fs := [.ref (a + 1), .ref (a + 33), .null, .null, .null]) (v := .ref (a + 65)) (ty := .array (.object "StagedRollout$Fleet")) hX hV iG7 tyX7 tyX7_ok nmX7 rfl (by decide) lk_218 (by decide) (by simp [upE, sr_cn]) (Or.inr ⟨rfl, hin, rfl⟩) (by decide +kernel) rfl rfl (Nat.le_of_ble_eq_true rfl) dX7_init_33 (fun H locs hV => ?_)
  have hV := hV.congr (fun j hj => sr_cn_0)
  refine lv_aload_n hx hb dX7_init_36 rfl (lv_at hl 0 rfl) ?_
  refine lv_iconst (v := 2) hx hb dX7_init_37 (by decide) ?_
  refine g_newa (t0 := 2) (ty := .boolean) (atype := .boolean) (n := 2) (a0 := (2, .inl (fun _ => 0))) hX hV rfl lk_214 (g_ar hX rfl (by intro C h; cases h)) (fun _ => rfl) (by decide) (by decide) (Nat.le_of_ble_eq_true rfl) (Nat.le_of_ble_eq_true rfl) (Nat.le_of_ble_eq_true rfl) dX7_init_38 (fun H hV => ?_)
  have hV := hV.congr (fun j hj => sr_cn_66)
  refine g_put (ci := 7) (j := 3) (k := 0) (fs := [.ref (a + 1), .ref (a + 33), .ref (a + 65), .null, .null]) (v := .ref (a + 66)) (ty := .array .boolean) hX hV iG7 tyX7 tyX7_ok nmX7 rfl (by decide) lk_219 (by decide) (by simp [upE, sr_cn]) (Or.inr ⟨rfl, hin, rfl⟩) (by decide +kernel) rfl rfl (Nat.le_of_ble_eq_true rfl) dX7_init_40 (fun H locs hV => ?_)
  have hV := hV.congr (fun j hj => sr_cn_0)
  refine lv_iconst (v := 0) hx hb dX7_init_43 (by decide) ?_
  refine lv_istore_n (lv' := [(1, .int 0), (0, .ref (a + 0))]) hx hb dX7_init_44 rfl hl (by decide) rfl (fun ls hl => ?_)
  refine lv_iload_n hx hb dX7_init_45 rfl (lv_at hl 0 rfl) ?_
  refine lv_iconst (v := 2) hx hb dX7_init_46 (by decide) ?_
  refine lv_icmp_ge (tgt := 70) hx hb dX7_init_47 (by decide) (fun z => absurd z (by decide)) (fun _ => ?_)
  refine lv_aload_n hx hb dX7_init_50 rfl (lv_at hl 1 rfl) ?_
  refine g_get (ci := 7) (j := 2) (k := 0) (fs := [.ref (a + 1), .ref (a + 33), .ref (a + 65), .ref (a + 66), .null]) (v := .ref (a + 65)) hX hV iG7 rfl (by decide) lk_218 (by decide) (by simp [upE, sr_cn]) rfl dX7_init_51 ?_
  refine lv_iload_n hx hb dX7_init_54 rfl (lv_at hl 0 rfl) ?_
  refine g_new (ci := 1) (fs := [.null, .null, .null, .int 0, .int 0, .int 0, .int 0, .int 0]) hX hV iG1 tyX1 tyX1_ok rfl lk_21 lk_22 lk_2 (by decide +kernel) (Nat.le_of_ble_eq_true rfl) (Nat.le_of_ble_eq_true rfl) dX7_init_55 (fun H hV => ?_)
  refine lv_dup hx hb dX7_init_58 rfl ?_
  refine lv_iconst (v := 0) hx hb dX7_init_59 (by decide) ?_
  refine g_call (k := 67) (ci := 1) (fs := [.null, .null, .null, .int 0, .int 0, .int 0, .int 0, .int 0]) (sz := 32) hX hV hl.1 (by simp [upE]) (c_X1_init (a := a + 67) (fun j => nmC (67 + j)) (fun j => igC (67 + j)) (b1 := false) (by decide +kernel) rfl) lk_25 lk_24 lk_2 rfl ⟨by decide +kernel, by decide +kernel, by decide +kernel⟩ lk_23 ⟨Nat.le_of_ble_eq_true rfl, Nat.le_of_ble_eq_true rfl⟩ rfl rfl (Nat.le_of_ble_eq_true rfl) dX7_init_60 ⟨Nat.le_of_ble_eq_true rfl, Nat.le_of_ble_eq_true rfl⟩ (fun H locs hV => ?_)
  have hV := hV.congr (sr_cn_call_67 (a := a) (aC := aC))
  refine g_aast (k := 65) (k2 := 67) (ci := 1) (t0 := 5) (n := 2) (f := (fun _ => none)) (r := (RX1, TX1, 8)) (vs := (sr_F a ((sr_I shC nmC igC).1 67) ((sr_I shC nmC igC).2.1 67) ((sr_I shC nmC igC).2.2 67) 67 2)) hX hV (by decide) (by decide) (by simp [upE, sr_cn]) rfl (by show sr_e aC shC a (sr_I shC nmC igC) 67 = _; exact sr_e_o (ci := 1) rfl (by decide)) rfl (by unfold vp_in; decide) dX7_init_63 (fun H locs hV => ?_)
  have hV := hV.congr (fun j hj => sr_cn_65)
  refine lv_iinc (v := 1) (lv' := [(1, .int 1), (0, .ref (a + 0))]) hx hb dX7_init_64 hl (k := 0) rfl (by decide) (by decide) rfl (fun ls hl => ?_)
  refine lv_goto (tgt := 45) hx hb dX7_init_67 (by decide) ?_
  refine lv_iload_n hx hb dX7_init_45 rfl (lv_at hl 0 rfl) ?_
  refine lv_iconst (v := 2) hx hb dX7_init_46 (by decide) ?_
  refine lv_icmp_ge (tgt := 70) hx hb dX7_init_47 (by decide) (fun z => absurd z (by decide)) (fun _ => ?_)
  refine lv_aload_n hx hb dX7_init_50 rfl (lv_at hl 1 rfl) ?_
  refine g_get (ci := 7) (j := 2) (k := 0) (fs := [.ref (a + 1), .ref (a + 33), .ref (a + 65), .ref (a + 66), .null]) (v := .ref (a + 65)) hX hV iG7 rfl (by decide) lk_218 (by decide) (by simp [upE, sr_cn]) rfl dX7_init_51 ?_
  refine lv_iload_n hx hb dX7_init_54 rfl (lv_at hl 0 rfl) ?_
  refine g_new (ci := 1) (fs := [.null, .null, .null, .int 0, .int 0, .int 0, .int 0, .int 0]) hX hV iG1 tyX1 tyX1_ok rfl lk_21 lk_22 lk_2 (by decide +kernel) (Nat.le_of_ble_eq_true rfl) (Nat.le_of_ble_eq_true rfl) dX7_init_55 (fun H hV => ?_)
  refine lv_dup hx hb dX7_init_58 rfl ?_
  refine lv_iconst (v := 0) hx hb dX7_init_59 (by decide) ?_
  refine g_call (k := 99) (ci := 1) (fs := [.null, .null, .null, .int 0, .int 0, .int 0, .int 0, .int 0]) (sz := 32) hX hV hl.1 (by simp [upE]) (c_X1_init (a := a + 99) (fun j => nmC (99 + j)) (fun j => igC (99 + j)) (b1 := false) (by decide +kernel) rfl) lk_25 lk_24 lk_2 rfl ⟨by decide +kernel, by decide +kernel, by decide +kernel⟩ lk_23 ⟨Nat.le_of_ble_eq_true rfl, Nat.le_of_ble_eq_true rfl⟩ rfl rfl (Nat.le_of_ble_eq_true rfl) dX7_init_60 ⟨Nat.le_of_ble_eq_true rfl, Nat.le_of_ble_eq_true rfl⟩ (fun H locs hV => ?_)
  have hV := hV.congr (sr_cn_call_99 (a := a) (aC := aC))
  refine g_aast (k := 65) (k2 := 99) (ci := 1) (t0 := 5) (n := 2) (f := (va_up (fun _ => none) (Int32.toNatClampNeg 0) (some (a + 67)))) (r := (RX1, TX1, 8)) (vs := (sr_F a ((sr_I shC nmC igC).1 99) ((sr_I shC nmC igC).2.1 99) ((sr_I shC nmC igC).2.2 99) 99 2)) hX hV (by decide) (by decide) (by simp [upE, sr_cn]) rfl (by show sr_e aC shC a (sr_I shC nmC igC) 99 = _; exact sr_e_o (ci := 1) rfl (by decide)) rfl (by unfold vp_in; decide) dX7_init_63 (fun H locs hV => ?_)
  have hV := hV.congr (fun j hj => sr_cn_65)
  refine lv_iinc (v := 2) (lv' := [(1, .int 2), (0, .ref (a + 0))]) hx hb dX7_init_64 hl (k := 0) rfl (by decide) (by decide) rfl (fun ls hl => ?_)
  refine lv_goto (tgt := 45) hx hb dX7_init_67 (by decide) ?_
  refine lv_iload_n hx hb dX7_init_45 rfl (lv_at hl 0 rfl) ?_
  refine lv_iconst (v := 2) hx hb dX7_init_46 (by decide) ?_
  refine lv_icmp_ge (tgt := 70) hx hb dX7_init_47 (by decide) (fun _ => ?_) (fun z => absurd (show (2 : Int32) ≤ 2 by decide) z)
  refine lv_aload_n hx hb dX7_init_70 rfl (lv_at hl 1 rfl) ?_
  refine g_new (ci := 5) (fs := [.null, .null, .int 0, .int 0]) hX hV iG5 tyX5 tyX5_ok rfl lk_190 lk_191 lk_8 (by decide +kernel) (Nat.le_of_ble_eq_true rfl) (Nat.le_of_ble_eq_true rfl) dX7_init_71 (fun H hV => ?_)
  refine lv_dup hx hb dX7_init_74 rfl ?_
  refine g_call (k := 131) (ci := 5) (fs := [.null, .null, .int 0, .int 0]) (sz := 4) hX hV hl.1 (by simp [upE]) (c_X5_init (a := a + 131) (fun j => nmC (131 + j)) (fun j => igC (131 + j))) lk_194 lk_193 lk_8 rfl ⟨by decide +kernel, by decide +kernel, by decide +kernel⟩ lk_192 ⟨Nat.le_of_ble_eq_true rfl, Nat.le_of_ble_eq_true rfl⟩ rfl rfl (Nat.le_of_ble_eq_true rfl) dX7_init_75 ⟨Nat.le_of_ble_eq_true rfl, Nat.le_of_ble_eq_true rfl⟩ (fun H locs hV => ?_)
  have hV := hV.congr (sr_cn_call_131 (a := a) (aC := aC))
  refine g_put (ci := 7) (j := 4) (k := 0) (fs := [.ref (a + 1), .ref (a + 33), .ref (a + 65), .ref (a + 66), .null]) (v := .ref (a + 131)) (ty := .object "StagedRollout$PlanText") hX hV iG7 tyX7 tyX7_ok nmX7 rfl (by decide) lk_220 (by decide) (by simp [upE, sr_cn]) (Or.inr ⟨rfl, hin, rfl⟩) (by decide +kernel) rfl rfl (Nat.le_of_ble_eq_true rfl) dX7_init_78 (fun H locs hV => ?_)
  have hV := hV.congr (fun j hj => sr_cn_0)
  exact g_ret hX hV (sr_cn_end) dX7_init_81
abbrev rm_X8_init : Room := { frames := 1, cells := 7, slots := 3709, locals := 12 }
set_option maxHeartbeats 4000000 in
set_option maxRecDepth 100000 in
theorem c_X8_init {l : Launch} {D : va_G} {aC : Nat → ClassId} {a : Nat} : sr_MetI l D aC yX8_init cX8_init 1 rm_X8_init [] a 8 [.null, .null, .null, .null, .null, .int 0, .int 0, .int 0, .int 0, .null, .int 0, .int 0, .null, .long 0, .long 0] 8 (sr_e aC shM a σM0) := by
  refine g_met (own := RX8) (by decide) (Nat.le_of_ble_eq_true rfl) rfl rfl ?_
  intro p e s m below meth c ls hX hin hV hl
  have hl : lv_has ls 1 [(0, .ref (a + 0))] := hl
  have hx := hX.1.1
  have hb := hX.1.2.1
  refine lv_aload_n hx hb dX8_init_0 rfl (lv_at hl 0 rfl) ?_
  refine g_obj (a := a + 0) hX hl.1 lk_665 (Nat.le_of_ble_eq_true rfl) (Nat.le_of_ble_eq_true rfl) dX8_init_1 ?_
  refine lv_aload_n hx hb dX8_init_4 rfl (lv_at hl 0 rfl) ?_
  refine lv_sipush (v := 257) hx hb dX8_init_5 (by decide) ?_
  refine g_newa (t0 := 0) (ty := .int) (atype := .int) (n := 257) (a0 := (257, .inl (fun _ => 0))) hX hV rfl lk_50 (g_ar hX rfl (by intro C h; cases h)) (fun _ => rfl) (by decide) (by decide) (Nat.le_of_ble_eq_true rfl) (Nat.le_of_ble_eq_true rfl) (Nat.le_of_ble_eq_true rfl) dX8_init_8 (fun H hV => ?_)
  refine g_put (ci := 8) (j := 0) (k := 0) (fs := [.null, .null, .null, .null, .null, .int 0, .int 0, .int 0, .int 0, .null, .int 0, .int 0, .null, .long 0, .long 0]) (v := .ref (a + 1)) (ty := .array .int) hX hV iG8 tyX8 tyX8_ok nmX8 rfl (by decide) lk_666 (by decide) (by simp [upE]) (Or.inr ⟨rfl, hin, rfl⟩) (by decide +kernel) rfl rfl (Nat.le_of_ble_eq_true rfl) dX8_init_10 (fun H locs hV => ?_)
  refine lv_aload_n hx hb dX8_init_13 rfl (lv_at hl 0 rfl) ?_
  refine lv_sipush (v := 257) hx hb dX8_init_14 (by decide) ?_
  refine g_newa (t0 := 0) (ty := .int) (atype := .int) (n := 257) (a0 := (257, .inl (fun _ => 0))) hX hV rfl lk_50 (g_ar hX rfl (by intro C h; cases h)) (fun _ => rfl) (by decide) (by decide) (Nat.le_of_ble_eq_true rfl) (Nat.le_of_ble_eq_true rfl) (Nat.le_of_ble_eq_true rfl) dX8_init_17 (fun H hV => ?_)
  refine g_put (ci := 8) (j := 1) (k := 0) (fs := [.ref (a + 1), .null, .null, .null, .null, .int 0, .int 0, .int 0, .int 0, .null, .int 0, .int 0, .null, .long 0, .long 0]) (v := .ref (a + 2)) (ty := .array .int) hX hV iG8 tyX8 tyX8_ok nmX8 rfl (by decide) lk_667 (by decide) (by simp [upE]) (Or.inr ⟨rfl, hin, rfl⟩) (by decide +kernel) rfl rfl (Nat.le_of_ble_eq_true rfl) dX8_init_19 (fun H locs hV => ?_)
  refine lv_aload_n hx hb dX8_init_22 rfl (lv_at hl 0 rfl) ?_
  refine lv_sipush (v := 514) hx hb dX8_init_23 (by decide) ?_
  refine g_newa (t0 := 0) (ty := .int) (atype := .int) (n := 514) (a0 := (514, .inl (fun _ => 0))) hX hV rfl lk_50 (g_ar hX rfl (by intro C h; cases h)) (fun _ => rfl) (by decide) (by decide) (Nat.le_of_ble_eq_true rfl) (Nat.le_of_ble_eq_true rfl) (Nat.le_of_ble_eq_true rfl) dX8_init_26 (fun H hV => ?_)
  refine g_put (ci := 8) (j := 2) (k := 0) (fs := [.ref (a + 1), .ref (a + 2), .null, .null, .null, .int 0, .int 0, .int 0, .int 0, .null, .int 0, .int 0, .null, .long 0, .long 0]) (v := .ref (a + 3)) (ty := .array .int) hX hV iG8 tyX8 tyX8_ok nmX8 rfl (by decide) lk_668 (by decide) (by simp [upE]) (Or.inr ⟨rfl, hin, rfl⟩) (by decide +kernel) rfl rfl (Nat.le_of_ble_eq_true rfl) dX8_init_28 (fun H locs hV => ?_)
  refine lv_aload_n hx hb dX8_init_31 rfl (lv_at hl 0 rfl) ?_
  refine lv_iconst (v := 2) hx hb dX8_init_32 (by decide) ?_
  refine g_newa (t0 := 2) (ty := .boolean) (atype := .boolean) (n := 2) (a0 := (2, .inl (fun _ => 0))) hX hV rfl lk_214 (g_ar hX rfl (by intro C h; cases h)) (fun _ => rfl) (by decide) (by decide) (Nat.le_of_ble_eq_true rfl) (Nat.le_of_ble_eq_true rfl) (Nat.le_of_ble_eq_true rfl) dX8_init_33 (fun H hV => ?_)
  refine g_put (ci := 8) (j := 3) (k := 0) (fs := [.ref (a + 1), .ref (a + 2), .ref (a + 3), .null, .null, .int 0, .int 0, .int 0, .int 0, .null, .int 0, .int 0, .null, .long 0, .long 0]) (v := .ref (a + 4)) (ty := .array .boolean) hX hV iG8 tyX8 tyX8_ok nmX8 rfl (by decide) lk_669 (by decide) (by simp [upE]) (Or.inr ⟨rfl, hin, rfl⟩) (by decide +kernel) rfl rfl (Nat.le_of_ble_eq_true rfl) dX8_init_35 (fun H locs hV => ?_)
  refine lv_aload_n hx hb dX8_init_38 rfl (lv_at hl 0 rfl) ?_
  refine lv_bipush (v := 60) hx hb dX8_init_39 (by decide) ?_
  refine g_newa (t0 := 0) (ty := .int) (atype := .int) (n := 60) (a0 := (60, .inl (fun _ => 0))) hX hV rfl lk_50 (g_ar hX rfl (by intro C h; cases h)) (fun _ => rfl) (by decide) (by decide) (Nat.le_of_ble_eq_true rfl) (Nat.le_of_ble_eq_true rfl) (Nat.le_of_ble_eq_true rfl) dX8_init_41 (fun H hV => ?_)
  refine g_put (ci := 8) (j := 4) (k := 0) (fs := [.ref (a + 1), .ref (a + 2), .ref (a + 3), .ref (a + 4), .null, .int 0, .int 0, .int 0, .int 0, .null, .int 0, .int 0, .null, .long 0, .long 0]) (v := .ref (a + 5)) (ty := .array .int) hX hV iG8 tyX8 tyX8_ok nmX8 rfl (by decide) lk_670 (by decide) (by simp [upE]) (Or.inr ⟨rfl, hin, rfl⟩) (by decide +kernel) rfl rfl (Nat.le_of_ble_eq_true rfl) dX8_init_43 (fun H locs hV => ?_)
  refine lv_aload_n hx hb dX8_init_46 rfl (lv_at hl 0 rfl) ?_
  refine lv_bipush (v := 18) hx hb dX8_init_47 (by decide) ?_
  refine g_newa (t0 := 0) (ty := .int) (atype := .int) (n := 18) (a0 := (18, .inl (fun _ => 0))) hX hV rfl lk_50 (g_ar hX rfl (by intro C h; cases h)) (fun _ => rfl) (by decide) (by decide) (Nat.le_of_ble_eq_true rfl) (Nat.le_of_ble_eq_true rfl) (Nat.le_of_ble_eq_true rfl) dX8_init_49 (fun H hV => ?_)
  refine g_put (ci := 8) (j := 9) (k := 0) (fs := [.ref (a + 1), .ref (a + 2), .ref (a + 3), .ref (a + 4), .ref (a + 5), .int 0, .int 0, .int 0, .int 0, .null, .int 0, .int 0, .null, .long 0, .long 0]) (v := .ref (a + 6)) (ty := .array .int) hX hV iG8 tyX8 tyX8_ok nmX8 rfl (by decide) lk_675 (by decide) (by simp [upE]) (Or.inr ⟨rfl, hin, rfl⟩) (by decide +kernel) rfl rfl (Nat.le_of_ble_eq_true rfl) dX8_init_51 (fun H locs hV => ?_)
  refine lv_aload_n hx hb dX8_init_54 rfl (lv_at hl 0 rfl) ?_
  refine lv_sipush (v := 2601) hx hb dX8_init_55 (by decide) ?_
  refine g_newa (t0 := 3) (ty := .long) (atype := .long) (n := 2601) (a0 := (2601, .inr (.inl (fun _ => 0)))) hX hV rfl lk_712 (g_ar hX rfl (by intro C h; cases h)) (fun _ => rfl) (by decide) (by decide) (Nat.le_of_ble_eq_true rfl) (Nat.le_of_ble_eq_true rfl) (Nat.le_of_ble_eq_true rfl) dX8_init_58 (fun H hV => ?_)
  refine g_put (ci := 8) (j := 12) (k := 0) (fs := [.ref (a + 1), .ref (a + 2), .ref (a + 3), .ref (a + 4), .ref (a + 5), .int 0, .int 0, .int 0, .int 0, .ref (a + 6), .int 0, .int 0, .null, .long 0, .long 0]) (v := .ref (a + 7)) (ty := .array .long) hX hV iG8 tyX8 tyX8_ok nmX8 rfl (by decide) lk_678 (by decide) (by simp [upE]) (Or.inr ⟨rfl, hin, rfl⟩) (by decide +kernel) rfl rfl (Nat.le_of_ble_eq_true rfl) dX8_init_60 (fun H locs hV => ?_)
  refine lv_aload_n hx hb dX8_init_63 rfl (lv_at hl 0 rfl) ?_
  refine g_get (ci := 8) (j := 0) (k := 0) (fs := [.ref (a + 1), .ref (a + 2), .ref (a + 3), .ref (a + 4), .ref (a + 5), .int 0, .int 0, .int 0, .int 0, .ref (a + 6), .int 0, .int 0, .ref (a + 7), .long 0, .long 0]) (v := .ref (a + 1)) hX hV iG8 rfl (by decide) lk_666 (by decide) (by simp [upE]) rfl dX8_init_64 ?_
  refine lv_iconst (v := 0) hx hb dX8_init_67 (by decide) ?_
  refine lv_iconst (v := 4) hx hb dX8_init_68 (by decide) ?_
  refine g_iast (k := 1) (n := 257) (f := (fun _ => 0)) hX hV (by decide) (by simp [upE]) (by unfold vp_in; decide) dX8_init_69 (fun H locs hV => ?_)
  refine lv_aload_n hx hb dX8_init_70 rfl (lv_at hl 0 rfl) ?_
  refine g_get (ci := 8) (j := 0) (k := 0) (fs := [.ref (a + 1), .ref (a + 2), .ref (a + 3), .ref (a + 4), .ref (a + 5), .int 0, .int 0, .int 0, .int 0, .ref (a + 6), .int 0, .int 0, .ref (a + 7), .long 0, .long 0]) (v := .ref (a + 1)) hX hV iG8 rfl (by decide) lk_666 (by decide) (by simp [upE]) rfl dX8_init_71 ?_
  refine lv_iconst (v := 2) hx hb dX8_init_74 (by decide) ?_
  refine lv_bipush (v := 50) hx hb dX8_init_75 (by decide) ?_
  refine g_iast (k := 1) (n := 257) (f := (upd (fun _ => 0) (Int32.toNatClampNeg 0) 4)) hX hV (by decide) (by simp [upE]) (by unfold vp_in; decide) dX8_init_77 (fun H locs hV => ?_)
  refine g_ret hX hV (fun k hk => ?_) dX8_init_78
  have hk2 : k = 0 ∨ k = 1 ∨ k = 2 ∨ k = 3 ∨ k = 4 ∨ k = 5 ∨ k = 6 ∨ k = 7 := by omega
  rcases hk2 with rfl | rfl | rfl | rfl | rfl | rfl | rfl | rfl
  · left; simp [upE, sr_e, sr_E, sr_F, sr_I, shM, Nat.add_assoc, bI, upd, va_up, shB0, shB1, shB2, shB3, shB4, shB5, shB6, σM0]
  · left
    show Sum.inl (aC 0, 257, Sum.inl ((upd (upd (fun _ => 0) (Int32.toNatClampNeg 0) 4) (Int32.toNatClampNeg 2) 50))) = sr_e aC shM a σM0 1
    rw [sr_e_i (sh := shM) (q := 1) (n := 257) rfl (by decide)]
    refine congrArg (fun z => Sum.inl (aC 0, 257, Sum.inl z)) ?_
    funext j
    have e0 : Int32.toNatClampNeg 0 = 0 := rfl
    have e2 : Int32.toNatClampNeg 2 = 2 := rfl
    by_cases h0 : j = 0
    · simp [upd, σM0, h0, e0, e2]
    · by_cases h2 : j = 2 <;> simp [upd, σM0, h0, h2, e0, e2]
  · left; simp [upE, sr_e, sr_E, sr_F, sr_I, shM, Nat.add_assoc, bI, upd, va_up, shB0, shB1, shB2, shB3, shB4, shB5, shB6, σM0]
  · left; simp [upE, sr_e, sr_E, sr_F, sr_I, shM, Nat.add_assoc, bI, upd, va_up, shB0, shB1, shB2, shB3, shB4, shB5, shB6, σM0]
  · left; simp [upE, sr_e, sr_E, sr_F, sr_I, shM, Nat.add_assoc, bI, upd, va_up, shB0, shB1, shB2, shB3, shB4, shB5, shB6, σM0]
  · left; simp [upE, sr_e, sr_E, sr_F, sr_I, shM, Nat.add_assoc, bI, upd, va_up, shB0, shB1, shB2, shB3, shB4, shB5, shB6, σM0]
  · left; simp [upE, sr_e, sr_E, sr_F, sr_I, shM, Nat.add_assoc, bI, upd, va_up, shB0, shB1, shB2, shB3, shB4, shB5, shB6, σM0]
  · left; simp [upE, sr_e, sr_E, sr_F, sr_I, shM, Nat.add_assoc, bI, upd, va_up, shB0, shB1, shB2, shB3, shB4, shB5, shB6, σM0]
