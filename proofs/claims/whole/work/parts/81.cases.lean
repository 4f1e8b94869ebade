/-- what holds between two calls of the law: the component's cells from n0 on, the reference's from n0 + 135 on -/
def lw_I (D : va_G) (aC : Nat → ClassId) (n0 : Nat) (σ τ : St) (H0 H : Heap) (locs : List Loc) : Prop := H.size = n0 + 143 ∧ (∀ x, x < n0 → H[x]? = H0[x]?) ∧ (∀ l ∈ locs, n0 ≤ l.base) ∧ sr_P D aC shC n0 σ H ∧ sr_P D aC shM (n0 + 135) τ H
theorem lw_VC {D : va_G} {aC : Nat → ClassId} {n0 : Nat} {σ τ : St} {H0 H : Heap} {locs : List Loc} (h : lw_I D aC n0 σ τ H0 H locs) : sr_V D aC shC n0 σ H H [] := ⟨rfl, fun _ _ => rfl, fun _ h => (by cases h), h.2.2.2.1⟩
theorem lw_VM {D : va_G} {aC : Nat → ClassId} {n0 : Nat} {σ τ : St} {H0 H : Heap} {locs : List Loc} (h : lw_I D aC n0 σ τ H0 H locs) : sr_V D aC shM (n0 + 135) τ H H [] := ⟨rfl, fun _ _ => rfl, fun _ h => (by cases h), h.2.2.2.2⟩
theorem lw_afterC {D : va_G} {aC : Nat → ClassId} {n0 : Nat} {σ σ' τ : St} {H0 H H1 : Heap} {locs locs1 : List Loc} (h : lw_I D aC n0 σ τ H0 H locs) (hV : sr_V D aC shC n0 σ' H H1 locs1) : lw_I D aC n0 σ' τ H0 H1 locs1 := by
  refine ⟨hV.1.trans h.1, fun x hx => (hV.2.1 x ?_).trans (h.2.1 x hx), fun q hq => ?_, hV.2.2.2, fun q hq => (h.2.2.2.2 q hq).kept (hV.2.1 _ ?_)⟩
  · rintro ⟨q, -, e⟩
    omega
  · obtain ⟨y, -, e⟩ := hV.2.2.1 q hq
    rw [e]
    exact Nat.le_add_right _ _
  · rintro ⟨y, hy, e⟩
    have := shC_lt hy
    have e2 : n0 + 135 + q = n0 + y := e
    omega
theorem lw_afterM {D : va_G} {aC : Nat → ClassId} {n0 : Nat} {σ τ τ' : St} {H0 H H1 : Heap} {locs locs1 : List Loc} (h : lw_I D aC n0 σ τ H0 H locs) (hV : sr_V D aC shM (n0 + 135) τ' H H1 locs1) : lw_I D aC n0 σ τ' H0 H1 locs1 := by
  refine ⟨hV.1.trans h.1, fun x hx => (hV.2.1 x ?_).trans (h.2.1 x hx), fun q hq => ?_, fun q hq => (h.2.2.2.1 q hq).kept (hV.2.1 _ ?_), hV.2.2.2⟩
  · rintro ⟨q, -, e⟩
    omega
  · obtain ⟨y, -, e⟩ := hV.2.2.1 q hq
    rw [e]
    omega
  · rintro ⟨y, hy, e⟩
    have := shC_lt hq
    have e2 : n0 + q = n0 + 135 + y := e
    omega
theorem lw_cmp (r : Int64) : lg_cmp r r = 0 := by simp [lg_cmp]
theorem lw_sld {p : Program} {l : Launch} {e : Env} {R : Room} {s : State} {m : MethodId} {args : Array Value} {below : List Frame} {meth : Method} {c : Code} {H : Heap} {locs : List Loc} {cells slots : Nat} {Q : State → Prop} {cc : ByteArray} {nL pc : Nat} {rt : Option FieldType} {own : String} {D : va_G} {aC : Nat → ClassId} {ls : Array Slot} {rest : List Value} {b L : Nat} {xs : Nat → Int32} {i : Int32} (hX : sr_X p s m args meth c cc nL rt own D aC) (hS : va_X b L xs s s.heap) (hbl : b < s.heap.size) (hI : ∀ x, x < s.heap.size → H[x]? = s.heap[x]?) (hin : vp_in i L) (hdg : decode cc pc = .ok (.iaload, 1))
    (kk : W p l e R s m args below meth c H locs cells slots Q (F0 m (pc + 1) ls (.int (xs i.toNatClampNeg) :: rest))) : W p l e R s m args below meth c H locs cells slots Q (F0 m pc ls (.int i :: .ref b :: rest)) := by
  obtain ⟨scr, h1, h2, h3, h4, h5⟩ := hS
  have hlt : i.toNatClampNeg < L := Nat.not_le.mp fun q => hin (Or.inr q)
  exact W.iald (v := .int (xs i.toNatClampNeg)) hX.1.1 hX.1.2.1 (by rw [hI b hbl]; exact h1) h2 h3 (by rw [h4]; exact hin) (h5 _ hlt) rfl rfl hdg kk
theorem lw_slen {p : Program} {l : Launch} {e : Env} {R : Room} {s : State} {m : MethodId} {args : Array Value} {below : List Frame} {meth : Method} {c : Code} {H : Heap} {locs : List Loc} {cells slots : Nat} {Q : State → Prop} {cc : ByteArray} {nL pc : Nat} {rt : Option FieldType} {own : String} {D : va_G} {aC : Nat → ClassId} {ls : Array Slot} {rest : List Value} {b L : Nat} {xs : Nat → Int32} (hX : sr_X p s m args meth c cc nL rt own D aC) (hS : va_X b L xs s s.heap) (hbl : b < s.heap.size) (hI : ∀ x, x < s.heap.size → H[x]? = s.heap[x]?) (hdg : decode cc pc = .ok (.arraylength, 1))
    (kk : W p l e R s m args below meth c H locs cells slots Q (F0 m (pc + 1) ls (.int (nI L) :: rest))) : W p l e R s m args below meth c H locs cells slots Q (F0 m pc ls (.ref b :: rest)) := by
  obtain ⟨scr, h1, h2, h3, h4, h5⟩ := hS
  exact W.alen (n := nI L) hX.1.1 hX.1.2.1 (by rw [hI b hbl]; exact h1) h2 (by rw [h4] <;> rfl) rfl rfl hdg kk
set_option maxHeartbeats 4000000 in
set_option maxRecDepth 100000 in
theorem lw_case_0 {p : Program} {l : Launch} {e : Env} {s : State} {m : MethodId} {args : Array Value} {below : List Frame} {meth : Method} {c : Code} {D : va_G} {aC : Nat → ClassId} {cells slots b L i : Nat} {xs : Nat → Int32} {Q : State → Prop} {σ τ : St} {H : Heap} {locs : List Loc} {ls : Array Slot} (hX : sr_X p s m args meth c code 4 ret RL D aC) (hS : va_X b L xs s s.heap) (hbl : b < s.heap.size) (hcs : cells ≤ room_1.cells ∧ slots ≤ room_1.slots) (hi1 : vp_in (nI i + 1) L) (hi2 : vp_in (nI i + 2) L) (hi3 : vp_in (nI i + 3) L) (hi4 : vp_in (nI i + 4) L)
    (hrec : ∀ (σ τ : St) (H : Heap) (locs : List Loc) (ls : Array Slot), Rel σ τ → lw_I D aC s.heap.size σ τ s.heap H locs → lv_has ls 4 [(0, .ref b), (1, .ref (s.heap.size + 0)), (2, .ref (s.heap.size + 135 + 0)), (3, .int (nI i))] → W p l e room_1 s m args below meth c H locs cells slots Q (F0 m 1016 ls []))
    (hR : Rel σ τ) (hI : lw_I D aC s.heap.size σ τ s.heap H locs) (hl : lv_has ls 4 [(0, .ref b), (1, .ref (s.heap.size + 0)), (2, .ref (s.heap.size + 135 + 0)), (3, .int (nI i))]) : W p l e room_1 s m args below meth c H locs cells slots Q (F0 m 176 ls []) := by
  have hx := hX.1.1
  have hb := hX.1.2.1
  refine lv_aload_n hx hb dL_law_176 rfl (lv_at hl 1 rfl) ?_
  refine lv_aload_n hx hb dL_law_177 rfl (lv_at hl 0 rfl) ?_
  refine lv_iload_n hx hb dL_law_178 rfl (lv_at hl 3 rfl) ?_
  refine lv_iconst (v := 1) hx hb dL_law_179 (by decide) ?_
  refine lv_iadd hx hb dL_law_180 ?_
  refine lw_sld hX hS hbl hI.2.1 hi1 dL_law_181 ?_
  obtain ⟨r, σ', τ', eC, eM, hR⟩ := op_begin hR (xs (Int32.toNatClampNeg (nI i + 1)))
  refine va_forget hI.2.2.1 ?_
  refine s_callV1 (n0 := s.heap.size) (sh := shC) (ci := 7) (q := 0) hX (lw_VC hI) hl.1 (c_X7_begin (n0 := s.heap.size) rfl eC) cv_X7_begin lk_232 ⟨rfl, rfl, Nat.le_of_ble_eq_true rfl, Nat.le_of_ble_eq_true rfl⟩ rfl (by decide) rfl rfl rfl (Nat.le_of_ble_eq_true rfl) dL_law_182 hcs (fun H1 locs1 hV1 => ?_)
  have hI := lw_afterC hI hV1
  clear hV1
  refine lv_aload_n hx hb dL_law_185 rfl (lv_at hl 2 rfl) ?_
  refine lv_aload_n hx hb dL_law_186 rfl (lv_at hl 0 rfl) ?_
  refine lv_iload_n hx hb dL_law_187 rfl (lv_at hl 3 rfl) ?_
  refine lv_iconst (v := 1) hx hb dL_law_188 (by decide) ?_
  refine lv_iadd hx hb dL_law_189 ?_
  refine lw_sld hX hS hbl hI.2.1 hi1 dL_law_190 ?_
  refine va_forget hI.2.2.1 ?_
  refine s_callV1 (n0 := (s.heap.size + 135)) (sh := shM) (ci := 8) (q := 0) hX (lw_VM hI) hl.1 (c_X8_begin (n0 := (s.heap.size + 135)) rfl eM) cv_X8_begin lk_713 ⟨rfl, rfl, Nat.le_of_ble_eq_true rfl, Nat.le_of_ble_eq_true rfl⟩ rfl (by decide) rfl rfl rfl (Nat.le_of_ble_eq_true rfl) dL_law_191 hcs (fun H1 locs1 hV1 => ?_)
  have hI := lw_afterM hI hV1
  clear hV1
  refine lv_icmp_eq (tgt := 1016) hx hb dL_law_194 (by decide) (fun _ => ?_) (fun z => absurd rfl z)
  exact hrec _ _ _ _ _ hR hI hl
set_option maxHeartbeats 4000000 in
set_option maxRecDepth 100000 in
theorem lw_case_1 {p : Program} {l : Launch} {e : Env} {s : State} {m : MethodId} {args : Array Value} {below : List Frame} {meth : Method} {c : Code} {D : va_G} {aC : Nat → ClassId} {cells slots b L i : Nat} {xs : Nat → Int32} {Q : State → Prop} {σ τ : St} {H : Heap} {locs : List Loc} {ls : Array Slot} (hX : sr_X p s m args meth c code 4 ret RL D aC) (hS : va_X b L xs s s.heap) (hbl : b < s.heap.size) (hcs : cells ≤ room_1.cells ∧ slots ≤ room_1.slots) (hi1 : vp_in (nI i + 1) L) (hi2 : vp_in (nI i + 2) L) (hi3 : vp_in (nI i + 3) L) (hi4 : vp_in (nI i + 4) L)
    (hrec : ∀ (σ τ : St) (H : Heap) (locs : List Loc) (ls : Array Slot), Rel σ τ → lw_I D aC s.heap.size σ τ s.heap H locs → lv_has ls 4 [(0, .ref b), (1, .ref (s.heap.size + 0)), (2, .ref (s.heap.size + 135 + 0)), (3, .int (nI i))] → W p l e room_1 s m args below meth c H locs cells slots Q (F0 m 1016 ls []))
    (hR : Rel σ τ) (hI : lw_I D aC s.heap.size σ τ s.heap H locs) (hl : lv_has ls 4 [(0, .ref b), (1, .ref (s.heap.size + 0)), (2, .ref (s.heap.size + 135 + 0)), (3, .int (nI i))]) : W p l e room_1 s m args below meth c H locs cells slots Q (F0 m 199 ls []) := by
  have hx := hX.1.1
  have hb := hX.1.2.1
  refine lv_aload_n hx hb dL_law_199 rfl (lv_at hl 1 rfl) ?_
  refine lv_aload_n hx hb dL_law_200 rfl (lv_at hl 0 rfl) ?_
  refine lv_iload_n hx hb dL_law_201 rfl (lv_at hl 3 rfl) ?_
  refine lv_iconst (v := 1) hx hb dL_law_202 (by decide) ?_
  refine lv_iadd hx hb dL_law_203 ?_
  refine lw_sld hX hS hbl hI.2.1 hi1 dL_law_204 ?_
  obtain ⟨r, σ', τ', eC, eM, hR⟩ := op_setLimit hR (xs (Int32.toNatClampNeg (nI i + 1)))
  refine va_forget hI.2.2.1 ?_
  refine s_callV1 (n0 := s.heap.size) (sh := shC) (ci := 7) (q := 0) hX (lw_VC hI) hl.1 (c_X7_setLimit (n0 := s.heap.size) rfl eC) cv_X7_setLimit lk_247 ⟨rfl, rfl, Nat.le_of_ble_eq_true rfl, Nat.le_of_ble_eq_true rfl⟩ rfl (by decide) rfl rfl rfl (Nat.le_of_ble_eq_true rfl) dL_law_205 hcs (fun H1 locs1 hV1 => ?_)
  have hI := lw_afterC hI hV1
  clear hV1
  refine lv_aload_n hx hb dL_law_208 rfl (lv_at hl 2 rfl) ?_
  refine lv_aload_n hx hb dL_law_209 rfl (lv_at hl 0 rfl) ?_
  refine lv_iload_n hx hb dL_law_210 rfl (lv_at hl 3 rfl) ?_
  refine lv_iconst (v := 1) hx hb dL_law_211 (by decide) ?_
  refine lv_iadd hx hb dL_law_212 ?_
  refine lw_sld hX hS hbl hI.2.1 hi1 dL_law_213 ?_
  refine va_forget hI.2.2.1 ?_
  refine s_callV1 (n0 := (s.heap.size + 135)) (sh := shM) (ci := 8) (q := 0) hX (lw_VM hI) hl.1 (c_X8_setLimit (n0 := (s.heap.size + 135)) rfl eM) cv_X8_setLimit lk_720 ⟨rfl, rfl, Nat.le_of_ble_eq_true rfl, Nat.le_of_ble_eq_true rfl⟩ rfl (by decide) rfl rfl rfl (Nat.le_of_ble_eq_true rfl) dL_law_214 hcs (fun H1 locs1 hV1 => ?_)
  have hI := lw_afterM hI hV1
  clear hV1
  refine lv_icmp_eq (tgt := 1016) hx hb dL_law_217 (by decide) (fun _ => ?_) (fun z => absurd rfl z)
  exact hrec _ _ _ _ _ hR hI hl
set_option maxHeartbeats 4000000 in
set_option maxRecDepth 100000 in
theorem lw_case_2 {p : Program} {l : Launch} {e : Env} {s : State} {m : MethodId} {args : Array Value} {below : List Frame} {meth : Method} {c : Code} {D : va_G} {aC : Nat → ClassId} {cells slots b L i : Nat} {xs : Nat → Int32} {Q : State → Prop} {σ τ : St} {H : Heap} {locs : List Loc} {ls : Array Slot} (hX : sr_X p s m args meth c code 4 ret RL D aC) (hS : va_X b L xs s s.heap) (hbl : b < s.heap.size) (hcs : cells ≤ room_1.cells ∧ slots ≤ room_1.slots) (hi1 : vp_in (nI i + 1) L) (hi2 : vp_in (nI i + 2) L) (hi3 : vp_in (nI i + 3) L) (hi4 : vp_in (nI i + 4) L)
    (hrec : ∀ (σ τ : St) (H : Heap) (locs : List Loc) (ls : Array Slot), Rel σ τ → lw_I D aC s.heap.size σ τ s.heap H locs → lv_has ls 4 [(0, .ref b), (1, .ref (s.heap.size + 0)), (2, .ref (s.heap.size + 135 + 0)), (3, .int (nI i))] → W p l e room_1 s m args below meth c H locs cells slots Q (F0 m 1016 ls []))
    (hR : Rel σ τ) (hI : lw_I D aC s.heap.size σ τ s.heap H locs) (hl : lv_has ls 4 [(0, .ref b), (1, .ref (s.heap.size + 0)), (2, .ref (s.heap.size + 135 + 0)), (3, .int (nI i))]) : W p l e room_1 s m args below meth c H locs cells slots Q (F0 m 222 ls []) := by
  have hx := hX.1.1
  have hb := hX.1.2.1
  refine lv_aload_n hx hb dL_law_222 rfl (lv_at hl 1 rfl) ?_
  refine lv_aload_n hx hb dL_law_223 rfl (lv_at hl 0 rfl) ?_
  refine lv_iload_n hx hb dL_law_224 rfl (lv_at hl 3 rfl) ?_
  refine lv_iconst (v := 1) hx hb dL_law_225 (by decide) ?_
  refine lv_iadd hx hb dL_law_226 ?_
  refine lw_sld hX hS hbl hI.2.1 hi1 dL_law_227 ?_
  refine lv_aload_n hx hb dL_law_228 rfl (lv_at hl 0 rfl) ?_
  refine lv_iload_n hx hb dL_law_229 rfl (lv_at hl 3 rfl) ?_
  refine lv_iconst (v := 2) hx hb dL_law_230 (by decide) ?_
  refine lv_iadd hx hb dL_law_231 ?_
  refine lw_sld hX hS hbl hI.2.1 hi2 dL_law_232 ?_
  obtain ⟨r, σ', τ', eC, eM, hR⟩ := op_freeze hR (xs (Int32.toNatClampNeg (nI i + 1))) (xs (Int32.toNatClampNeg (nI i + 2)))
  refine va_forget hI.2.2.1 ?_
  refine s_callV1 (n0 := s.heap.size) (sh := shC) (ci := 7) (q := 0) hX (lw_VC hI) hl.1 (c_X7_freeze (n0 := s.heap.size) rfl eC) cv_X7_freeze lk_251 ⟨rfl, rfl, Nat.le_of_ble_eq_true rfl, Nat.le_of_ble_eq_true rfl⟩ rfl (by decide) rfl rfl rfl (Nat.le_of_ble_eq_true rfl) dL_law_233 hcs (fun H1 locs1 hV1 => ?_)
  have hI := lw_afterC hI hV1
  clear hV1
  refine lv_aload_n hx hb dL_law_236 rfl (lv_at hl 2 rfl) ?_
  refine lv_aload_n hx hb dL_law_237 rfl (lv_at hl 0 rfl) ?_
  refine lv_iload_n hx hb dL_law_238 rfl (lv_at hl 3 rfl) ?_
  refine lv_iconst (v := 1) hx hb dL_law_239 (by decide) ?_
  refine lv_iadd hx hb dL_law_240 ?_
  refine lw_sld hX hS hbl hI.2.1 hi1 dL_law_241 ?_
  refine lv_aload_n hx hb dL_law_242 rfl (lv_at hl 0 rfl) ?_
  refine lv_iload_n hx hb dL_law_243 rfl (lv_at hl 3 rfl) ?_
  refine lv_iconst (v := 2) hx hb dL_law_244 (by decide) ?_
  refine lv_iadd hx hb dL_law_245 ?_
  refine lw_sld hX hS hbl hI.2.1 hi2 dL_law_246 ?_
  refine va_forget hI.2.2.1 ?_
  refine s_callV1 (n0 := (s.heap.size + 135)) (sh := shM) (ci := 8) (q := 0) hX (lw_VM hI) hl.1 (c_X8_freeze (n0 := (s.heap.size + 135)) rfl eM) cv_X8_freeze lk_728 ⟨rfl, rfl, Nat.le_of_ble_eq_true rfl, Nat.le_of_ble_eq_true rfl⟩ rfl (by decide) rfl rfl rfl (Nat.le_of_ble_eq_true rfl) dL_law_247 hcs (fun H1 locs1 hV1 => ?_)
  have hI := lw_afterM hI hV1
  clear hV1
  refine lv_icmp_eq (tgt := 1016) hx hb dL_law_250 (by decide) (fun _ => ?_) (fun z => absurd rfl z)
  exact hrec _ _ _ _ _ hR hI hl
set_option maxHeartbeats 4000000 in
set_option maxRecDepth 100000 in
theorem lw_case_3 {p : Program} {l : Launch} {e : Env} {s : State} {m : MethodId} {args : Array Value} {below : List Frame} {meth : Method} {c : Code} {D : va_G} {aC : Nat → ClassId} {cells slots b L i : Nat} {xs : Nat → Int32} {Q : State → Prop} {σ τ : St} {H : Heap} {locs : List Loc} {ls : Array Slot} (hX : sr_X p s m args meth c code 4 ret RL D aC) (hS : va_X b L xs s s.heap) (hbl : b < s.heap.size) (hcs : cells ≤ room_1.cells ∧ slots ≤ room_1.slots) (hi1 : vp_in (nI i + 1) L) (hi2 : vp_in (nI i + 2) L) (hi3 : vp_in (nI i + 3) L) (hi4 : vp_in (nI i + 4) L)
    (hrec : ∀ (σ τ : St) (H : Heap) (locs : List Loc) (ls : Array Slot), Rel σ τ → lw_I D aC s.heap.size σ τ s.heap H locs → lv_has ls 4 [(0, .ref b), (1, .ref (s.heap.size + 0)), (2, .ref (s.heap.size + 135 + 0)), (3, .int (nI i))] → W p l e room_1 s m args below meth c H locs cells slots Q (F0 m 1016 ls []))
    (hR : Rel σ τ) (hI : lw_I D aC s.heap.size σ τ s.heap H locs) (hl : lv_has ls 4 [(0, .ref b), (1, .ref (s.heap.size + 0)), (2, .ref (s.heap.size + 135 + 0)), (3, .int (nI i))]) : W p l e room_1 s m args below meth c H locs cells slots Q (F0 m 255 ls []) := by
  have hx := hX.1.1
  have hb := hX.1.2.1
  refine lv_aload_n hx hb dL_law_255 rfl (lv_at hl 1 rfl) ?_
  obtain ⟨r, σ', τ', eC, eM, hR⟩ := op_thaw hR 
  refine va_forget hI.2.2.1 ?_
  refine s_callV1 (n0 := s.heap.size) (sh := shC) (ci := 7) (q := 0) hX (lw_VC hI) hl.1 (c_X7_thaw (n0 := s.heap.size) rfl eC) cv_X7_thaw lk_259 ⟨rfl, rfl, Nat.le_of_ble_eq_true rfl, Nat.le_of_ble_eq_true rfl⟩ rfl (by decide) rfl rfl rfl (Nat.le_of_ble_eq_true rfl) dL_law_256 hcs (fun H1 locs1 hV1 => ?_)
  have hI := lw_afterC hI hV1
  clear hV1
  refine lv_aload_n hx hb dL_law_259 rfl (lv_at hl 2 rfl) ?_
  refine va_forget hI.2.2.1 ?_
  refine s_callV1 (n0 := (s.heap.size + 135)) (sh := shM) (ci := 8) (q := 0) hX (lw_VM hI) hl.1 (c_X8_thaw (n0 := (s.heap.size + 135)) rfl eM) cv_X8_thaw lk_732 ⟨rfl, rfl, Nat.le_of_ble_eq_true rfl, Nat.le_of_ble_eq_true rfl⟩ rfl (by decide) rfl rfl rfl (Nat.le_of_ble_eq_true rfl) dL_law_260 hcs (fun H1 locs1 hV1 => ?_)
  have hI := lw_afterM hI hV1
  clear hV1
  refine lv_icmp_eq (tgt := 1016) hx hb dL_law_263 (by decide) (fun _ => ?_) (fun z => absurd rfl z)
  exact hrec _ _ _ _ _ hR hI hl
set_option maxHeartbeats 4000000 in
set_option maxRecDepth 100000 in
theorem lw_case_4 {p : Program} {l : Launch} {e : Env} {s : State} {m : MethodId} {args : Array Value} {below : List Frame} {meth : Method} {c : Code} {D : va_G} {aC : Nat → ClassId} {cells slots b L i : Nat} {xs : Nat → Int32} {Q : State → Prop} {σ τ : St} {H : Heap} {locs : List Loc} {ls : Array Slot} (hX : sr_X p s m args meth c code 4 ret RL D aC) (hS : va_X b L xs s s.heap) (hbl : b < s.heap.size) (hcs : cells ≤ room_1.cells ∧ slots ≤ room_1.slots) (hi1 : vp_in (nI i + 1) L) (hi2 : vp_in (nI i + 2) L) (hi3 : vp_in (nI i + 3) L) (hi4 : vp_in (nI i + 4) L)
    (hrec : ∀ (σ τ : St) (H : Heap) (locs : List Loc) (ls : Array Slot), Rel σ τ → lw_I D aC s.heap.size σ τ s.heap H locs → lv_has ls 4 [(0, .ref b), (1, .ref (s.heap.size + 0)), (2, .ref (s.heap.size + 135 + 0)), (3, .int (nI i))] → W p l e room_1 s m args below meth c H locs cells slots Q (F0 m 1016 ls []))
    (hR : Rel σ τ) (hI : lw_I D aC s.heap.size σ τ s.heap H locs) (hl : lv_has ls 4 [(0, .ref b), (1, .ref (s.heap.size + 0)), (2, .ref (s.heap.size + 135 + 0)), (3, .int (nI i))]) : W p l e room_1 s m args below meth c H locs cells slots Q (F0 m 268 ls []) := by
  have hx := hX.1.1
  have hb := hX.1.2.1
  refine lv_aload_n hx hb dL_law_268 rfl (lv_at hl 1 rfl) ?_
  refine lv_aload_n hx hb dL_law_269 rfl (lv_at hl 0 rfl) ?_
  refine lv_iload_n hx hb dL_law_270 rfl (lv_at hl 3 rfl) ?_
  refine lv_iconst (v := 1) hx hb dL_law_271 (by decide) ?_
  refine lv_iadd hx hb dL_law_272 ?_
  refine lw_sld hX hS hbl hI.2.1 hi1 dL_law_273 ?_
  refine lv_if_eq (tgt := 281) hx hb dL_law_274 (by decide) (fun c1 => ?_) (fun c1 => ?_)
  · skip
    refine lv_iconst (v := 0) hx hb dL_law_281 (by decide) ?_
    obtain ⟨r, σ', τ', eC, eM, hR⟩ := op_addChange hR false
    refine va_forget hI.2.2.1 ?_
    refine s_callV1 (n0 := s.heap.size) (sh := shC) (ci := 7) (q := 0) hX (lw_VC hI) hl.1 (c_X7_addChange (n0 := s.heap.size) rfl eC) cv_X7_addChange lk_263 ⟨rfl, rfl, Nat.le_of_ble_eq_true rfl, Nat.le_of_ble_eq_true rfl⟩ rfl (by decide) rfl rfl rfl (Nat.le_of_ble_eq_true rfl) dL_law_282 hcs (fun H1 locs1 hV1 => ?_)
    have hI := lw_afterC hI hV1
    clear hV1
    refine lv_aload_n hx hb dL_law_285 rfl (lv_at hl 2 rfl) ?_
    refine lv_aload_n hx hb dL_law_286 rfl (lv_at hl 0 rfl) ?_
    refine lv_iload_n hx hb dL_law_287 rfl (lv_at hl 3 rfl) ?_
    refine lv_iconst (v := 1) hx hb dL_law_288 (by decide) ?_
    refine lv_iadd hx hb dL_law_289 ?_
    refine lw_sld hX hS hbl hI.2.1 hi1 dL_law_290 ?_
    refine lv_if_eq (tgt := 298) hx hb dL_law_291 (by decide) (fun _ => ?_) (fun z => absurd c1 z)
    refine lv_iconst (v := 0) hx hb dL_law_298 (by decide) ?_
    refine va_forget hI.2.2.1 ?_
    refine s_callV1 (n0 := (s.heap.size + 135)) (sh := shM) (ci := 8) (q := 0) hX (lw_VM hI) hl.1 (c_X8_addChange (n0 := (s.heap.size + 135)) rfl eM) cv_X8_addChange lk_736 ⟨rfl, rfl, Nat.le_of_ble_eq_true rfl, Nat.le_of_ble_eq_true rfl⟩ rfl (by decide) rfl rfl rfl (Nat.le_of_ble_eq_true rfl) dL_law_299 hcs (fun H1 locs1 hV1 => ?_)
    have hI := lw_afterM hI hV1
    clear hV1
    refine lv_icmp_eq (tgt := 1016) hx hb dL_law_302 (by decide) (fun _ => ?_) (fun z => absurd rfl z)
    exact hrec _ _ _ _ _ hR hI hl
  · skip
    refine lv_iconst (v := 1) hx hb dL_law_277 (by decide) ?_
    refine lv_goto (tgt := 282) hx hb dL_law_278 (by decide) ?_
    obtain ⟨r, σ', τ', eC, eM, hR⟩ := op_addChange hR true
    refine va_forget hI.2.2.1 ?_
    refine s_callV1 (n0 := s.heap.size) (sh := shC) (ci := 7) (q := 0) hX (lw_VC hI) hl.1 (c_X7_addChange (n0 := s.heap.size) rfl eC) cv_X7_addChange lk_263 ⟨rfl, rfl, Nat.le_of_ble_eq_true rfl, Nat.le_of_ble_eq_true rfl⟩ rfl (by decide) rfl rfl rfl (Nat.le_of_ble_eq_true rfl) dL_law_282 hcs (fun H1 locs1 hV1 => ?_)
    have hI := lw_afterC hI hV1
    clear hV1
    refine lv_aload_n hx hb dL_law_285 rfl (lv_at hl 2 rfl) ?_
    refine lv_aload_n hx hb dL_law_286 rfl (lv_at hl 0 rfl) ?_
    refine lv_iload_n hx hb dL_law_287 rfl (lv_at hl 3 rfl) ?_
    refine lv_iconst (v := 1) hx hb dL_law_288 (by decide) ?_
    refine lv_iadd hx hb dL_law_289 ?_
    refine lw_sld hX hS hbl hI.2.1 hi1 dL_law_290 ?_
    refine lv_if_eq (tgt := 298) hx hb dL_law_291 (by decide) (fun z => absurd z c1) (fun _ => ?_)
    refine lv_iconst (v := 1) hx hb dL_law_294 (by decide) ?_
    refine lv_goto (tgt := 299) hx hb dL_law_295 (by decide) ?_
    refine va_forget hI.2.2.1 ?_
    refine s_callV1 (n0 := (s.heap.size + 135)) (sh := shM) (ci := 8) (q := 0) hX (lw_VM hI) hl.1 (c_X8_addChange (n0 := (s.heap.size + 135)) rfl eM) cv_X8_addChange lk_736 ⟨rfl, rfl, Nat.le_of_ble_eq_true rfl, Nat.le_of_ble_eq_true rfl⟩ rfl (by decide) rfl rfl rfl (Nat.le_of_ble_eq_true rfl) dL_law_299 hcs (fun H1 locs1 hV1 => ?_)
    have hI := lw_afterM hI hV1
    clear hV1
    refine lv_icmp_eq (tgt := 1016) hx hb dL_law_302 (by decide) (fun _ => ?_) (fun z => absurd rfl z)
    exact hrec _ _ _ _ _ hR hI hl
set_option maxHeartbeats 4000000 in
set_option maxRecDepth 100000 in
theorem lw_case_5 {p : Program} {l : Launch} {e : Env} {s : State} {m : MethodId} {args : Array Value} {below : List Frame} {meth : Method} {c : Code} {D : va_G} {aC : Nat → ClassId} {cells slots b L i : Nat} {xs : Nat → Int32} {Q : State → Prop} {σ τ : St} {H : Heap} {locs : List Loc} {ls : Array Slot} (hX : sr_X p s m args meth c code 4 ret RL D aC) (hS : va_X b L xs s s.heap) (hbl : b < s.heap.size) (hcs : cells ≤ room_1.cells ∧ slots ≤ room_1.slots) (hi1 : vp_in (nI i + 1) L) (hi2 : vp_in (nI i + 2) L) (hi3 : vp_in (nI i + 3) L) (hi4 : vp_in (nI i + 4) L)
    (hrec : ∀ (σ τ : St) (H : Heap) (locs : List Loc) (ls : Array Slot), Rel σ τ → lw_I D aC s.heap.size σ τ s.heap H locs → lv_has ls 4 [(0, .ref b), (1, .ref (s.heap.size + 0)), (2, .ref (s.heap.size + 135 + 0)), (3, .int (nI i))] → W p l e room_1 s m args below meth c H locs cells slots Q (F0 m 1016 ls []))
    (hR : Rel σ τ) (hI : lw_I D aC s.heap.size σ τ s.heap H locs) (hl : lv_has ls 4 [(0, .ref b), (1, .ref (s.heap.size + 0)), (2, .ref (s.heap.size + 135 + 0)), (3, .int (nI i))]) : W p l e room_1 s m args below meth c H locs cells slots Q (F0 m 307 ls []) := by
  have hx := hX.1.1
  have hb := hX.1.2.1
  refine lv_aload_n hx hb dL_law_307 rfl (lv_at hl 1 rfl) ?_
  refine lv_aload_n hx hb dL_law_308 rfl (lv_at hl 0 rfl) ?_
  refine lv_iload_n hx hb dL_law_309 rfl (lv_at hl 3 rfl) ?_
  refine lv_iconst (v := 1) hx hb dL_law_310 (by decide) ?_
  refine lv_iadd hx hb dL_law_311 ?_
  refine lw_sld hX hS hbl hI.2.1 hi1 dL_law_312 ?_
  refine lv_aload_n hx hb dL_law_313 rfl (lv_at hl 0 rfl) ?_
  refine lv_iload_n hx hb dL_law_314 rfl (lv_at hl 3 rfl) ?_
  refine lv_iconst (v := 2) hx hb dL_law_315 (by decide) ?_
  refine lv_iadd hx hb dL_law_316 ?_
  refine lw_sld hX hS hbl hI.2.1 hi2 dL_law_317 ?_
  refine lv_aload_n hx hb dL_law_318 rfl (lv_at hl 0 rfl) ?_
  refine lv_iload_n hx hb dL_law_319 rfl (lv_at hl 3 rfl) ?_
  refine lv_iconst (v := 3) hx hb dL_law_320 (by decide) ?_
  refine lv_iadd hx hb dL_law_321 ?_
  refine lw_sld hX hS hbl hI.2.1 hi3 dL_law_322 ?_
  refine lv_aload_n hx hb dL_law_323 rfl (lv_at hl 0 rfl) ?_
  refine lv_iload_n hx hb dL_law_324 rfl (lv_at hl 3 rfl) ?_
  refine lv_iconst (v := 4) hx hb dL_law_325 (by decide) ?_
  refine lv_iadd hx hb dL_law_326 ?_
  refine lw_sld hX hS hbl hI.2.1 hi4 dL_law_327 ?_
  obtain ⟨r, σ', τ', eC, eM, hR⟩ := op_addStage hR (xs (Int32.toNatClampNeg (nI i + 1))) (xs (Int32.toNatClampNeg (nI i + 2))) (xs (Int32.toNatClampNeg (nI i + 3))) (xs (Int32.toNatClampNeg (nI i + 4)))
  refine va_forget hI.2.2.1 ?_
  refine s_callV1 (n0 := s.heap.size) (sh := shC) (ci := 7) (q := 0) hX (lw_VC hI) hl.1 (c_X7_addStage (n0 := s.heap.size) rfl eC) cv_X7_addStage lk_279 ⟨rfl, rfl, Nat.le_of_ble_eq_true rfl, Nat.le_of_ble_eq_true rfl⟩ rfl (by decide) rfl rfl rfl (Nat.le_of_ble_eq_true rfl) dL_law_328 hcs (fun H1 locs1 hV1 => ?_)
  have hI := lw_afterC hI hV1
  clear hV1
  refine lv_aload_n hx hb dL_law_331 rfl (lv_at hl 2 rfl) ?_
  refine lv_aload_n hx hb dL_law_332 rfl (lv_at hl 0 rfl) ?_
  refine lv_iload_n hx hb dL_law_333 rfl (lv_at hl 3 rfl) ?_
  refine lv_iconst (v := 1) hx hb dL_law_334 (by decide) ?_
  refine lv_iadd hx hb dL_law_335 ?_
  refine lw_sld hX hS hbl hI.2.1 hi1 dL_law_336 ?_
  refine lv_aload_n hx hb dL_law_337 rfl (lv_at hl 0 rfl) ?_
  refine lv_iload_n hx hb dL_law_338 rfl (lv_at hl 3 rfl) ?_
  refine lv_iconst (v := 2) hx hb dL_law_339 (by decide) ?_
  refine lv_iadd hx hb dL_law_340 ?_
  refine lw_sld hX hS hbl hI.2.1 hi2 dL_law_341 ?_
  refine lv_aload_n hx hb dL_law_342 rfl (lv_at hl 0 rfl) ?_
  refine lv_iload_n hx hb dL_law_343 rfl (lv_at hl 3 rfl) ?_
  refine lv_iconst (v := 3) hx hb dL_law_344 (by decide) ?_
  refine lv_iadd hx hb dL_law_345 ?_
  refine lw_sld hX hS hbl hI.2.1 hi3 dL_law_346 ?_
  refine lv_aload_n hx hb dL_law_347 rfl (lv_at hl 0 rfl) ?_
  refine lv_iload_n hx hb dL_law_348 rfl (lv_at hl 3 rfl) ?_
  refine lv_iconst (v := 4) hx hb dL_law_349 (by decide) ?_
  refine lv_iadd hx hb dL_law_350 ?_
  refine lw_sld hX hS hbl hI.2.1 hi4 dL_law_351 ?_
  refine va_forget hI.2.2.1 ?_
  refine s_callV1 (n0 := (s.heap.size + 135)) (sh := shM) (ci := 8) (q := 0) hX (lw_VM hI) hl.1 (c_X8_addStage (n0 := (s.heap.size + 135)) rfl eM) cv_X8_addStage lk_743 ⟨rfl, rfl, Nat.le_of_ble_eq_true rfl, Nat.le_of_ble_eq_true rfl⟩ rfl (by decide) rfl rfl rfl (Nat.le_of_ble_eq_true rfl) dL_law_352 hcs (fun H1 locs1 hV1 => ?_)
  have hI := lw_afterM hI hV1
  clear hV1
  refine lv_icmp_eq (tgt := 1016) hx hb dL_law_355 (by decide) (fun _ => ?_) (fun z => absurd rfl z)
  exact hrec _ _ _ _ _ hR hI hl
set_option maxHeartbeats 4000000 in
set_option maxRecDepth 100000 in
theorem lw_case_6 {p : Program} {l : Launch} {e : Env} {s : State} {m : MethodId} {args : Array Value} {below : List Frame} {meth : Method} {c : Code} {D : va_G} {aC : Nat → ClassId} {cells slots b L i : Nat} {xs : Nat → Int32} {Q : State → Prop} {σ τ : St} {H : Heap} {locs : List Loc} {ls : Array Slot} (hX : sr_X p s m args meth c code 4 ret RL D aC) (hS : va_X b L xs s s.heap) (hbl : b < s.heap.size) (hcs : cells ≤ room_1.cells ∧ slots ≤ room_1.slots) (hi1 : vp_in (nI i + 1) L) (hi2 : vp_in (nI i + 2) L) (hi3 : vp_in (nI i + 3) L) (hi4 : vp_in (nI i + 4) L)
    (hrec : ∀ (σ τ : St) (H : Heap) (locs : List Loc) (ls : Array Slot), Rel σ τ → lw_I D aC s.heap.size σ τ s.heap H locs → lv_has ls 4 [(0, .ref b), (1, .ref (s.heap.size + 0)), (2, .ref (s.heap.size + 135 + 0)), (3, .int (nI i))] → W p l e room_1 s m args below meth c H locs cells slots Q (F0 m 1016 ls []))
    (hR : Rel σ τ) (hI : lw_I D aC s.heap.size σ τ s.heap H locs) (hl : lv_has ls 4 [(0, .ref b), (1, .ref (s.heap.size + 0)), (2, .ref (s.heap.size + 135 + 0)), (3, .int (nI i))]) : W p l e room_1 s m args below meth c H locs cells slots Q (F0 m 360 ls []) := by
  have hx := hX.1.1
  have hb := hX.1.2.1
  refine lv_aload_n hx hb dL_law_360 rfl (lv_at hl 1 rfl) ?_
  refine lv_aload_n hx hb dL_law_361 rfl (lv_at hl 0 rfl) ?_
  refine lv_iload_n hx hb dL_law_362 rfl (lv_at hl 3 rfl) ?_
  refine lv_iconst (v := 1) hx hb dL_law_363 (by decide) ?_
  refine lv_iadd hx hb dL_law_364 ?_
  refine lw_sld hX hS hbl hI.2.1 hi1 dL_law_365 ?_
  refine lv_aload_n hx hb dL_law_366 rfl (lv_at hl 0 rfl) ?_
  refine lv_iload_n hx hb dL_law_367 rfl (lv_at hl 3 rfl) ?_
  refine lv_iconst (v := 2) hx hb dL_law_368 (by decide) ?_
  refine lv_iadd hx hb dL_law_369 ?_
  refine lw_sld hX hS hbl hI.2.1 hi2 dL_law_370 ?_
  obtain ⟨r, σ', τ', eC, eM, hR⟩ := op_putAfter hR (xs (Int32.toNatClampNeg (nI i + 1))) (xs (Int32.toNatClampNeg (nI i + 2)))
  refine va_forget hI.2.2.1 ?_
  refine s_callV1 (n0 := s.heap.size) (sh := shC) (ci := 7) (q := 0) hX (lw_VC hI) hl.1 (c_X7_putAfter (n0 := s.heap.size) rfl eC) cv_X7_putAfter lk_299 ⟨rfl, rfl, Nat.le_of_ble_eq_true rfl, Nat.le_of_ble_eq_true rfl⟩ rfl (by decide) rfl rfl rfl (Nat.le_of_ble_eq_true rfl) dL_law_371 hcs (fun H1 locs1 hV1 => ?_)
  have hI := lw_afterC hI hV1
  clear hV1
  refine lv_aload_n hx hb dL_law_374 rfl (lv_at hl 2 rfl) ?_
  refine lv_aload_n hx hb dL_law_375 rfl (lv_at hl 0 rfl) ?_
  refine lv_iload_n hx hb dL_law_376 rfl (lv_at hl 3 rfl) ?_
  refine lv_iconst (v := 1) hx hb dL_law_377 (by decide) ?_
  refine lv_iadd hx hb dL_law_378 ?_
  refine lw_sld hX hS hbl hI.2.1 hi1 dL_law_379 ?_
  refine lv_aload_n hx hb dL_law_380 rfl (lv_at hl 0 rfl) ?_
  refine lv_iload_n hx hb dL_law_381 rfl (lv_at hl 3 rfl) ?_
  refine lv_iconst (v := 2) hx hb dL_law_382 (by decide) ?_
  refine lv_iadd hx hb dL_law_383 ?_
  refine lw_sld hX hS hbl hI.2.1 hi2 dL_law_384 ?_
  refine va_forget hI.2.2.1 ?_
  refine s_callV1 (n0 := (s.heap.size + 135)) (sh := shM) (ci := 8) (q := 0) hX (lw_VM hI) hl.1 (c_X8_putAfter (n0 := (s.heap.size + 135)) rfl eM) cv_X8_putAfter lk_762 ⟨rfl, rfl, Nat.le_of_ble_eq_true rfl, Nat.le_of_ble_eq_true rfl⟩ rfl (by decide) rfl rfl rfl (Nat.le_of_ble_eq_true rfl) dL_law_385 hcs (fun H1 locs1 hV1 => ?_)
  have hI := lw_afterM hI hV1
  clear hV1
  refine lv_icmp_eq (tgt := 1016) hx hb dL_law_388 (by decide) (fun _ => ?_) (fun z => absurd rfl z)
  exact hrec _ _ _ _ _ hR hI hl
set_option maxHeartbeats 4000000 in
set_option maxRecDepth 100000 in
theorem lw_case_7 {p : Program} {l : Launch} {e : Env} {s : State} {m : MethodId} {args : Array Value} {below : List Frame} {meth : Method} {c : Code} {D : va_G} {aC : Nat → ClassId} {cells slots b L i : Nat} {xs : Nat → Int32} {Q : State → Prop} {σ τ : St} {H : Heap} {locs : List Loc} {ls : Array Slot} (hX : sr_X p s m args meth c code 4 ret RL D aC) (hS : va_X b L xs s s.heap) (hbl : b < s.heap.size) (hcs : cells ≤ room_1.cells ∧ slots ≤ room_1.slots) (hi1 : vp_in (nI i + 1) L) (hi2 : vp_in (nI i + 2) L) (hi3 : vp_in (nI i + 3) L) (hi4 : vp_in (nI i + 4) L)
    (hrec : ∀ (σ τ : St) (H : Heap) (locs : List Loc) (ls : Array Slot), Rel σ τ → lw_I D aC s.heap.size σ τ s.heap H locs → lv_has ls 4 [(0, .ref b), (1, .ref (s.heap.size + 0)), (2, .ref (s.heap.size + 135 + 0)), (3, .int (nI i))] → W p l e room_1 s m args below meth c H locs cells slots Q (F0 m 1016 ls []))
    (hR : Rel σ τ) (hI : lw_I D aC s.heap.size σ τ s.heap H locs) (hl : lv_has ls 4 [(0, .ref b), (1, .ref (s.heap.size + 0)), (2, .ref (s.heap.size + 135 + 0)), (3, .int (nI i))]) : W p l e room_1 s m args below meth c H locs cells slots Q (F0 m 393 ls []) := by
  have hx := hX.1.1
  have hb := hX.1.2.1
  refine lv_aload_n hx hb dL_law_393 rfl (lv_at hl 1 rfl) ?_
  obtain ⟨r, eC, eM, hR⟩ := op_changes hR 
  refine va_forget hI.2.2.1 ?_
  refine s_callV1 (n0 := s.heap.size) (sh := shC) (ci := 7) (q := 0) hX (lw_VC hI) hl.1 (c_X7_changes (n0 := s.heap.size) rfl eC) cv_X7_changes lk_309 ⟨rfl, rfl, Nat.le_of_ble_eq_true rfl, Nat.le_of_ble_eq_true rfl⟩ rfl (by decide) rfl rfl rfl (Nat.le_of_ble_eq_true rfl) dL_law_394 hcs (fun H1 locs1 hV1 => ?_)
  have hI := lw_afterC hI hV1
  clear hV1
  refine lv_aload_n hx hb dL_law_397 rfl (lv_at hl 2 rfl) ?_
  refine va_forget hI.2.2.1 ?_
  refine s_callV1 (n0 := (s.heap.size + 135)) (sh := shM) (ci := 8) (q := 0) hX (lw_VM hI) hl.1 (c_X8_changes (n0 := (s.heap.size + 135)) rfl eM) cv_X8_changes lk_769 ⟨rfl, rfl, Nat.le_of_ble_eq_true rfl, Nat.le_of_ble_eq_true rfl⟩ rfl (by decide) rfl rfl rfl (Nat.le_of_ble_eq_true rfl) dL_law_398 hcs (fun H1 locs1 hV1 => ?_)
  have hI := lw_afterM hI hV1
  clear hV1
  refine lv_icmp_eq (tgt := 1016) hx hb dL_law_401 (by decide) (fun _ => ?_) (fun z => absurd rfl z)
  exact hrec _ _ _ _ _ hR hI hl
set_option maxHeartbeats 4000000 in
set_option maxRecDepth 100000 in
theorem lw_case_8 {p : Program} {l : Launch} {e : Env} {s : State} {m : MethodId} {args : Array Value} {below : List Frame} {meth : Method} {c : Code} {D : va_G} {aC : Nat → ClassId} {cells slots b L i : Nat} {xs : Nat → Int32} {Q : State → Prop} {σ τ : St} {H : Heap} {locs : List Loc} {ls : Array Slot} (hX : sr_X p s m args meth c code 4 ret RL D aC) (hS : va_X b L xs s s.heap) (hbl : b < s.heap.size) (hcs : cells ≤ room_1.cells ∧ slots ≤ room_1.slots) (hi1 : vp_in (nI i + 1) L) (hi2 : vp_in (nI i + 2) L) (hi3 : vp_in (nI i + 3) L) (hi4 : vp_in (nI i + 4) L)
    (hrec : ∀ (σ τ : St) (H : Heap) (locs : List Loc) (ls : Array Slot), Rel σ τ → lw_I D aC s.heap.size σ τ s.heap H locs → lv_has ls 4 [(0, .ref b), (1, .ref (s.heap.size + 0)), (2, .ref (s.heap.size + 135 + 0)), (3, .int (nI i))] → W p l e room_1 s m args below meth c H locs cells slots Q (F0 m 1016 ls []))
    (hR : Rel σ τ) (hI : lw_I D aC s.heap.size σ τ s.heap H locs) (hl : lv_has ls 4 [(0, .ref b), (1, .ref (s.heap.size + 0)), (2, .ref (s.heap.size + 135 + 0)), (3, .int (nI i))]) : W p l e room_1 s m args below meth c H locs cells slots Q (F0 m 406 ls []) := by
  have hx := hX.1.1
  have hb := hX.1.2.1
  refine lv_aload_n hx hb dL_law_406 rfl (lv_at hl 1 rfl) ?_
  refine lv_aload_n hx hb dL_law_407 rfl (lv_at hl 0 rfl) ?_
  refine lv_iload_n hx hb dL_law_408 rfl (lv_at hl 3 rfl) ?_
  refine lv_iconst (v := 1) hx hb dL_law_409 (by decide) ?_
  refine lv_iadd hx hb dL_law_410 ?_
  refine lw_sld hX hS hbl hI.2.1 hi1 dL_law_411 ?_
  refine lv_aload_n hx hb dL_law_412 rfl (lv_at hl 0 rfl) ?_
  refine lv_iload_n hx hb dL_law_413 rfl (lv_at hl 3 rfl) ?_
  refine lv_iconst (v := 2) hx hb dL_law_414 (by decide) ?_
  refine lv_iadd hx hb dL_law_415 ?_
  refine lw_sld hX hS hbl hI.2.1 hi2 dL_law_416 ?_
  refine lv_aload_n hx hb dL_law_417 rfl (lv_at hl 0 rfl) ?_
  refine lv_iload_n hx hb dL_law_418 rfl (lv_at hl 3 rfl) ?_
  refine lv_iconst (v := 3) hx hb dL_law_419 (by decide) ?_
  refine lv_iadd hx hb dL_law_420 ?_
  refine lw_sld hX hS hbl hI.2.1 hi3 dL_law_421 ?_
  obtain ⟨r, eC, eM, hR⟩ := op_stage hR (xs (Int32.toNatClampNeg (nI i + 1))) (xs (Int32.toNatClampNeg (nI i + 2))) (xs (Int32.toNatClampNeg (nI i + 3)))
  refine va_forget hI.2.2.1 ?_
  refine s_callV1 (n0 := s.heap.size) (sh := shC) (ci := 7) (q := 0) hX (lw_VC hI) hl.1 (c_X7_stage (n0 := s.heap.size) rfl eC) cv_X7_stage lk_313 ⟨rfl, rfl, Nat.le_of_ble_eq_true rfl, Nat.le_of_ble_eq_true rfl⟩ rfl (by decide) rfl rfl rfl (Nat.le_of_ble_eq_true rfl) dL_law_422 hcs (fun H1 locs1 hV1 => ?_)
  have hI := lw_afterC hI hV1
  clear hV1
  refine lv_aload_n hx hb dL_law_425 rfl (lv_at hl 2 rfl) ?_
  refine lv_aload_n hx hb dL_law_426 rfl (lv_at hl 0 rfl) ?_
  refine lv_iload_n hx hb dL_law_427 rfl (lv_at hl 3 rfl) ?_
  refine lv_iconst (v := 1) hx hb dL_law_428 (by decide) ?_
  refine lv_iadd hx hb dL_law_429 ?_
  refine lw_sld hX hS hbl hI.2.1 hi1 dL_law_430 ?_
  refine lv_aload_n hx hb dL_law_431 rfl (lv_at hl 0 rfl) ?_
  refine lv_iload_n hx hb dL_law_432 rfl (lv_at hl 3 rfl) ?_
  refine lv_iconst (v := 2) hx hb dL_law_433 (by decide) ?_
  refine lv_iadd hx hb dL_law_434 ?_
  refine lw_sld hX hS hbl hI.2.1 hi2 dL_law_435 ?_
  refine lv_aload_n hx hb dL_law_436 rfl (lv_at hl 0 rfl) ?_
  refine lv_iload_n hx hb dL_law_437 rfl (lv_at hl 3 rfl) ?_
  refine lv_iconst (v := 3) hx hb dL_law_438 (by decide) ?_
  refine lv_iadd hx hb dL_law_439 ?_
  refine lw_sld hX hS hbl hI.2.1 hi3 dL_law_440 ?_
  refine va_forget hI.2.2.1 ?_
  refine s_callV1 (n0 := (s.heap.size + 135)) (sh := shM) (ci := 8) (q := 0) hX (lw_VM hI) hl.1 (c_X8_stage (n0 := (s.heap.size + 135)) rfl eM) cv_X8_stage lk_773 ⟨rfl, rfl, Nat.le_of_ble_eq_true rfl, Nat.le_of_ble_eq_true rfl⟩ rfl (by decide) rfl rfl rfl (Nat.le_of_ble_eq_true rfl) dL_law_441 hcs (fun H1 locs1 hV1 => ?_)
  have hI := lw_afterM hI hV1
  clear hV1
  refine lv_icmp_eq (tgt := 1016) hx hb dL_law_444 (by decide) (fun _ => ?_) (fun z => absurd rfl z)
  exact hrec _ _ _ _ _ hR hI hl
set_option maxHeartbeats 4000000 in
set_option maxRecDepth 100000 in
theorem lw_case_9 {p : Program} {l : Launch} {e : Env} {s : State} {m : MethodId} {args : Array Value} {below : List Frame} {meth : Method} {c : Code} {D : va_G} {aC : Nat → ClassId} {cells slots b L i : Nat} {xs : Nat → Int32} {Q : State → Prop} {σ τ : St} {H : Heap} {locs : List Loc} {ls : Array Slot} (hX : sr_X p s m args meth c code 4 ret RL D aC) (hS : va_X b L xs s s.heap) (hbl : b < s.heap.size) (hcs : cells ≤ room_1.cells ∧ slots ≤ room_1.slots) (hi1 : vp_in (nI i + 1) L) (hi2 : vp_in (nI i + 2) L) (hi3 : vp_in (nI i + 3) L) (hi4 : vp_in (nI i + 4) L)
    (hrec : ∀ (σ τ : St) (H : Heap) (locs : List Loc) (ls : Array Slot), Rel σ τ → lw_I D aC s.heap.size σ τ s.heap H locs → lv_has ls 4 [(0, .ref b), (1, .ref (s.heap.size + 0)), (2, .ref (s.heap.size + 135 + 0)), (3, .int (nI i))] → W p l e room_1 s m args below meth c H locs cells slots Q (F0 m 1016 ls []))
    (hR : Rel σ τ) (hI : lw_I D aC s.heap.size σ τ s.heap H locs) (hl : lv_has ls 4 [(0, .ref b), (1, .ref (s.heap.size + 0)), (2, .ref (s.heap.size + 135 + 0)), (3, .int (nI i))]) : W p l e room_1 s m args below meth c H locs cells slots Q (F0 m 449 ls []) := by
  have hx := hX.1.1
  have hb := hX.1.2.1
  refine lv_aload_n hx hb dL_law_449 rfl (lv_at hl 1 rfl) ?_
  refine lv_aload_n hx hb dL_law_450 rfl (lv_at hl 0 rfl) ?_
  refine lv_iload_n hx hb dL_law_451 rfl (lv_at hl 3 rfl) ?_
  refine lv_iconst (v := 1) hx hb dL_law_452 (by decide) ?_
  refine lv_iadd hx hb dL_law_453 ?_
  refine lw_sld hX hS hbl hI.2.1 hi1 dL_law_454 ?_
  obtain ⟨r, σ', τ', eC, eM, hR⟩ := op_append hR (xs (Int32.toNatClampNeg (nI i + 1)))
  refine va_forget hI.2.2.1 ?_
  refine s_callV1 (n0 := s.heap.size) (sh := shC) (ci := 7) (q := 0) hX (lw_VC hI) hl.1 (c_X7_append (n0 := s.heap.size) rfl eC) cv_X7_append lk_322 ⟨rfl, rfl, Nat.le_of_ble_eq_true rfl, Nat.le_of_ble_eq_true rfl⟩ rfl (by decide) rfl rfl rfl (Nat.le_of_ble_eq_true rfl) dL_law_455 hcs (fun H1 locs1 hV1 => ?_)
  have hI := lw_afterC hI hV1
  clear hV1
  refine lv_aload_n hx hb dL_law_458 rfl (lv_at hl 2 rfl) ?_
  refine lv_aload_n hx hb dL_law_459 rfl (lv_at hl 0 rfl) ?_
  refine lv_iload_n hx hb dL_law_460 rfl (lv_at hl 3 rfl) ?_
  refine lv_iconst (v := 1) hx hb dL_law_461 (by decide) ?_
  refine lv_iadd hx hb dL_law_462 ?_
  refine lw_sld hX hS hbl hI.2.1 hi1 dL_law_463 ?_
  refine va_forget hI.2.2.1 ?_
  refine s_callV1 (n0 := (s.heap.size + 135)) (sh := shM) (ci := 8) (q := 0) hX (lw_VM hI) hl.1 (c_X8_append (n0 := (s.heap.size + 135)) rfl eM) cv_X8_append lk_777 ⟨rfl, rfl, Nat.le_of_ble_eq_true rfl, Nat.le_of_ble_eq_true rfl⟩ rfl (by decide) rfl rfl rfl (Nat.le_of_ble_eq_true rfl) dL_law_464 hcs (fun H1 locs1 hV1 => ?_)
  have hI := lw_afterM hI hV1
  clear hV1
  refine lv_icmp_eq (tgt := 1016) hx hb dL_law_467 (by decide) (fun _ => ?_) (fun z => absurd rfl z)
  exact hrec _ _ _ _ _ hR hI hl
set_option maxHeartbeats 4000000 in
set_option maxRecDepth 100000 in
theorem lw_case_10 {p : Program} {l : Launch} {e : Env} {s : State} {m : MethodId} {args : Array Value} {below : List Frame} {meth : Method} {c : Code} {D : va_G} {aC : Nat → ClassId} {cells slots b L i : Nat} {xs : Nat → Int32} {Q : State → Prop} {σ τ : St} {H : Heap} {locs : List Loc} {ls : Array Slot} (hX : sr_X p s m args meth c code 4 ret RL D aC) (hS : va_X b L xs s s.heap) (hbl : b < s.heap.size) (hcs : cells ≤ room_1.cells ∧ slots ≤ room_1.slots) (hi1 : vp_in (nI i + 1) L) (hi2 : vp_in (nI i + 2) L) (hi3 : vp_in (nI i + 3) L) (hi4 : vp_in (nI i + 4) L)
    (hrec : ∀ (σ τ : St) (H : Heap) (locs : List Loc) (ls : Array Slot), Rel σ τ → lw_I D aC s.heap.size σ τ s.heap H locs → lv_has ls 4 [(0, .ref b), (1, .ref (s.heap.size + 0)), (2, .ref (s.heap.size + 135 + 0)), (3, .int (nI i))] → W p l e room_1 s m args below meth c H locs cells slots Q (F0 m 1016 ls []))
    (hR : Rel σ τ) (hI : lw_I D aC s.heap.size σ τ s.heap H locs) (hl : lv_has ls 4 [(0, .ref b), (1, .ref (s.heap.size + 0)), (2, .ref (s.heap.size + 135 + 0)), (3, .int (nI i))]) : W p l e room_1 s m args below meth c H locs cells slots Q (F0 m 472 ls []) := by
  have hx := hX.1.1
  have hb := hX.1.2.1
  refine lv_aload_n hx hb dL_law_472 rfl (lv_at hl 1 rfl) ?_
  obtain ⟨r, σ', τ', eC, eM, hR⟩ := op_clearText hR 
  refine va_forget hI.2.2.1 ?_
  refine s_callV1 (n0 := s.heap.size) (sh := shC) (ci := 7) (q := 0) hX (lw_VC hI) hl.1 (c_X7_clearText (n0 := s.heap.size) rfl eC) cv_X7_clearText lk_330 ⟨rfl, rfl, Nat.le_of_ble_eq_true rfl, Nat.le_of_ble_eq_true rfl⟩ rfl (by decide) rfl rfl rfl (Nat.le_of_ble_eq_true rfl) dL_law_473 hcs (fun H1 locs1 hV1 => ?_)
  have hI := lw_afterC hI hV1
  clear hV1
  refine lv_aload_n hx hb dL_law_476 rfl (lv_at hl 2 rfl) ?_
  refine va_forget hI.2.2.1 ?_
  refine s_callV1 (n0 := (s.heap.size + 135)) (sh := shM) (ci := 8) (q := 0) hX (lw_VM hI) hl.1 (c_X8_clearText (n0 := (s.heap.size + 135)) rfl eM) cv_X8_clearText lk_781 ⟨rfl, rfl, Nat.le_of_ble_eq_true rfl, Nat.le_of_ble_eq_true rfl⟩ rfl (by decide) rfl rfl rfl (Nat.le_of_ble_eq_true rfl) dL_law_477 hcs (fun H1 locs1 hV1 => ?_)
  have hI := lw_afterM hI hV1
  clear hV1
  refine lv_icmp_eq (tgt := 1016) hx hb dL_law_480 (by decide) (fun _ => ?_) (fun z => absurd rfl z)
  exact hrec _ _ _ _ _ hR hI hl
set_option maxHeartbeats 4000000 in
set_option maxRecDepth 100000 in
theorem lw_case_11 {p : Program} {l : Launch} {e : Env} {s : State} {m : MethodId} {args : Array Value} {below : List Frame} {meth : Method} {c : Code} {D : va_G} {aC : Nat → ClassId} {cells slots b L i : Nat} {xs : Nat → Int32} {Q : State → Prop} {σ τ : St} {H : Heap} {locs : List Loc} {ls : Array Slot} (hX : sr_X p s m args meth c code 4 ret RL D aC) (hS : va_X b L xs s s.heap) (hbl : b < s.heap.size) (hcs : cells ≤ room_1.cells ∧ slots ≤ room_1.slots) (hi1 : vp_in (nI i + 1) L) (hi2 : vp_in (nI i + 2) L) (hi3 : vp_in (nI i + 3) L) (hi4 : vp_in (nI i + 4) L)
    (hrec : ∀ (σ τ : St) (H : Heap) (locs : List Loc) (ls : Array Slot), Rel σ τ → lw_I D aC s.heap.size σ τ s.heap H locs → lv_has ls 4 [(0, .ref b), (1, .ref (s.heap.size + 0)), (2, .ref (s.heap.size + 135 + 0)), (3, .int (nI i))] → W p l e room_1 s m args below meth c H locs cells slots Q (F0 m 1016 ls []))
    (hR : Rel σ τ) (hI : lw_I D aC s.heap.size σ τ s.heap H locs) (hl : lv_has ls 4 [(0, .ref b), (1, .ref (s.heap.size + 0)), (2, .ref (s.heap.size + 135 + 0)), (3, .int (nI i))]) : W p l e room_1 s m args below meth c H locs cells slots Q (F0 m 485 ls []) := by
  have hx := hX.1.1
  have hb := hX.1.2.1
  refine lv_aload_n hx hb dL_law_485 rfl (lv_at hl 1 rfl) ?_
  obtain ⟨r, σ', τ', eC, eM, hR⟩ := op_faultPosition hR 
  refine va_forget hI.2.2.1 ?_
  refine s_callV1 (n0 := s.heap.size) (sh := shC) (ci := 7) (q := 0) hX (lw_VC hI) hl.1 (c_X7_faultPosition (n0 := s.heap.size) rfl eC) cv_X7_faultPosition lk_334 ⟨rfl, rfl, Nat.le_of_ble_eq_true rfl, Nat.le_of_ble_eq_true rfl⟩ rfl (by decide) rfl rfl rfl (Nat.le_of_ble_eq_true rfl) dL_law_486 hcs (fun H1 locs1 hV1 => ?_)
  have hI := lw_afterC hI hV1
  clear hV1
  refine lv_aload_n hx hb dL_law_489 rfl (lv_at hl 2 rfl) ?_
  refine va_forget hI.2.2.1 ?_
  refine s_callV1 (n0 := (s.heap.size + 135)) (sh := shM) (ci := 8) (q := 0) hX (lw_VM hI) hl.1 (c_X8_faultPosition (n0 := (s.heap.size + 135)) rfl eM) cv_X8_faultPosition lk_785 ⟨rfl, rfl, Nat.le_of_ble_eq_true rfl, Nat.le_of_ble_eq_true rfl⟩ rfl (by decide) rfl rfl rfl (Nat.le_of_ble_eq_true rfl) dL_law_490 hcs (fun H1 locs1 hV1 => ?_)
  have hI := lw_afterM hI hV1
  clear hV1
  refine lv_icmp_eq (tgt := 1016) hx hb dL_law_493 (by decide) (fun _ => ?_) (fun z => absurd rfl z)
  exact hrec _ _ _ _ _ hR hI hl
set_option maxHeartbeats 4000000 in
set_option maxRecDepth 100000 in
theorem lw_case_12 {p : Program} {l : Launch} {e : Env} {s : State} {m : MethodId} {args : Array Value} {below : List Frame} {meth : Method} {c : Code} {D : va_G} {aC : Nat → ClassId} {cells slots b L i : Nat} {xs : Nat → Int32} {Q : State → Prop} {σ τ : St} {H : Heap} {locs : List Loc} {ls : Array Slot} (hX : sr_X p s m args meth c code 4 ret RL D aC) (hS : va_X b L xs s s.heap) (hbl : b < s.heap.size) (hcs : cells ≤ room_1.cells ∧ slots ≤ room_1.slots) (hi1 : vp_in (nI i + 1) L) (hi2 : vp_in (nI i + 2) L) (hi3 : vp_in (nI i + 3) L) (hi4 : vp_in (nI i + 4) L)
    (hrec : ∀ (σ τ : St) (H : Heap) (locs : List Loc) (ls : Array Slot), Rel σ τ → lw_I D aC s.heap.size σ τ s.heap H locs → lv_has ls 4 [(0, .ref b), (1, .ref (s.heap.size + 0)), (2, .ref (s.heap.size + 135 + 0)), (3, .int (nI i))] → W p l e room_1 s m args below meth c H locs cells slots Q (F0 m 1016 ls []))
    (hR : Rel σ τ) (hI : lw_I D aC s.heap.size σ τ s.heap H locs) (hl : lv_has ls 4 [(0, .ref b), (1, .ref (s.heap.size + 0)), (2, .ref (s.heap.size + 135 + 0)), (3, .int (nI i))]) : W p l e room_1 s m args below meth c H locs cells slots Q (F0 m 498 ls []) := by
  have hx := hX.1.1
  have hb := hX.1.2.1
  refine lv_aload_n hx hb dL_law_498 rfl (lv_at hl 1 rfl) ?_
  refine lv_aload_n hx hb dL_law_499 rfl (lv_at hl 0 rfl) ?_
  refine lv_iload_n hx hb dL_law_500 rfl (lv_at hl 3 rfl) ?_
  refine lv_iconst (v := 1) hx hb dL_law_501 (by decide) ?_
  refine lv_iadd hx hb dL_law_502 ?_
  refine lw_sld hX hS hbl hI.2.1 hi1 dL_law_503 ?_
  obtain ⟨r, σ', τ', eC, eM, hR⟩ := op_read hR (xs (Int32.toNatClampNeg (nI i + 1)))
  refine va_forget hI.2.2.1 ?_
  refine s_callV1 (n0 := s.heap.size) (sh := shC) (ci := 7) (q := 0) hX (lw_VC hI) hl.1 (c_X7_read (n0 := s.heap.size) rfl eC) cv_X7_read lk_369 ⟨rfl, rfl, Nat.le_of_ble_eq_true rfl, Nat.le_of_ble_eq_true rfl⟩ rfl (by decide) rfl rfl rfl (Nat.le_of_ble_eq_true rfl) dL_law_504 hcs (fun H1 locs1 hV1 => ?_)
  have hI := lw_afterC hI hV1
  clear hV1
  refine lv_aload_n hx hb dL_law_507 rfl (lv_at hl 2 rfl) ?_
  refine lv_aload_n hx hb dL_law_508 rfl (lv_at hl 0 rfl) ?_
  refine lv_iload_n hx hb dL_law_509 rfl (lv_at hl 3 rfl) ?_
  refine lv_iconst (v := 1) hx hb dL_law_510 (by decide) ?_
  refine lv_iadd hx hb dL_law_511 ?_
  refine lw_sld hX hS hbl hI.2.1 hi1 dL_law_512 ?_
  refine va_forget hI.2.2.1 ?_
  refine s_callV1 (n0 := (s.heap.size + 135)) (sh := shM) (ci := 8) (q := 0) hX (lw_VM hI) hl.1 (c_X8_read (n0 := (s.heap.size + 135)) rfl eM) cv_X8_read lk_821 ⟨rfl, rfl, Nat.le_of_ble_eq_true rfl, Nat.le_of_ble_eq_true rfl⟩ rfl (by decide) rfl rfl rfl (Nat.le_of_ble_eq_true rfl) dL_law_513 hcs (fun H1 locs1 hV1 => ?_)
  have hI := lw_afterM hI hV1
  clear hV1
  refine lv_icmp_eq (tgt := 1016) hx hb dL_law_516 (by decide) (fun _ => ?_) (fun z => absurd rfl z)
  exact hrec _ _ _ _ _ hR hI hl
set_option maxHeartbeats 4000000 in
set_option maxRecDepth 100000 in
theorem lw_case_13 {p : Program} {l : Launch} {e : Env} {s : State} {m : MethodId} {args : Array Value} {below : List Frame} {meth : Method} {c : Code} {D : va_G} {aC : Nat → ClassId} {cells slots b L i : Nat} {xs : Nat → Int32} {Q : State → Prop} {σ τ : St} {H : Heap} {locs : List Loc} {ls : Array Slot} (hX : sr_X p s m args meth c code 4 ret RL D aC) (hS : va_X b L xs s s.heap) (hbl : b < s.heap.size) (hcs : cells ≤ room_1.cells ∧ slots ≤ room_1.slots) (hi1 : vp_in (nI i + 1) L) (hi2 : vp_in (nI i + 2) L) (hi3 : vp_in (nI i + 3) L) (hi4 : vp_in (nI i + 4) L)
    (hrec : ∀ (σ τ : St) (H : Heap) (locs : List Loc) (ls : Array Slot), Rel σ τ → lw_I D aC s.heap.size σ τ s.heap H locs → lv_has ls 4 [(0, .ref b), (1, .ref (s.heap.size + 0)), (2, .ref (s.heap.size + 135 + 0)), (3, .int (nI i))] → W p l e room_1 s m args below meth c H locs cells slots Q (F0 m 1016 ls []))
    (hR : Rel σ τ) (hI : lw_I D aC s.heap.size σ τ s.heap H locs) (hl : lv_has ls 4 [(0, .ref b), (1, .ref (s.heap.size + 0)), (2, .ref (s.heap.size + 135 + 0)), (3, .int (nI i))]) : W p l e room_1 s m args below meth c H locs cells slots Q (F0 m 521 ls []) := by
  have hx := hX.1.1
  have hb := hX.1.2.1
  refine lv_aload_n hx hb dL_law_521 rfl (lv_at hl 1 rfl) ?_
  refine lv_aload_n hx hb dL_law_522 rfl (lv_at hl 0 rfl) ?_
  refine lv_iload_n hx hb dL_law_523 rfl (lv_at hl 3 rfl) ?_
  refine lv_iconst (v := 1) hx hb dL_law_524 (by decide) ?_
  refine lv_iadd hx hb dL_law_525 ?_
  refine lw_sld hX hS hbl hI.2.1 hi1 dL_law_526 ?_
  obtain ⟨r, σ', τ', eC, eM, hR⟩ := op_start hR (xs (Int32.toNatClampNeg (nI i + 1)))
  refine va_forget hI.2.2.1 ?_
  refine s_callV1 (n0 := s.heap.size) (sh := shC) (ci := 7) (q := 0) hX (lw_VC hI) hl.1 (c_X7_start (n0 := s.heap.size) rfl eC) cv_X7_start lk_380 ⟨rfl, rfl, Nat.le_of_ble_eq_true rfl, Nat.le_of_ble_eq_true rfl⟩ rfl (by decide) rfl rfl rfl (Nat.le_of_ble_eq_true rfl) dL_law_527 hcs (fun H1 locs1 hV1 => ?_)
  have hI := lw_afterC hI hV1
  clear hV1
  refine lv_aload_n hx hb dL_law_530 rfl (lv_at hl 2 rfl) ?_
  refine lv_aload_n hx hb dL_law_531 rfl (lv_at hl 0 rfl) ?_
  refine lv_iload_n hx hb dL_law_532 rfl (lv_at hl 3 rfl) ?_
  refine lv_iconst (v := 1) hx hb dL_law_533 (by decide) ?_
  refine lv_iadd hx hb dL_law_534 ?_
  refine lw_sld hX hS hbl hI.2.1 hi1 dL_law_535 ?_
  refine va_forget hI.2.2.1 ?_
  refine s_callV1 (n0 := (s.heap.size + 135)) (sh := shM) (ci := 8) (q := 0) hX (lw_VM hI) hl.1 (c_X8_start (n0 := (s.heap.size + 135)) rfl eM) cv_X8_start lk_825 ⟨rfl, rfl, Nat.le_of_ble_eq_true rfl, Nat.le_of_ble_eq_true rfl⟩ rfl (by decide) rfl rfl rfl (Nat.le_of_ble_eq_true rfl) dL_law_536 hcs (fun H1 locs1 hV1 => ?_)
  have hI := lw_afterM hI hV1
  clear hV1
  refine lv_icmp_eq (tgt := 1016) hx hb dL_law_539 (by decide) (fun _ => ?_) (fun z => absurd rfl z)
  exact hrec _ _ _ _ _ hR hI hl
set_option maxHeartbeats 4000000 in
set_option maxRecDepth 100000 in
theorem lw_case_14 {p : Program} {l : Launch} {e : Env} {s : State} {m : MethodId} {args : Array Value} {below : List Frame} {meth : Method} {c : Code} {D : va_G} {aC : Nat → ClassId} {cells slots b L i : Nat} {xs : Nat → Int32} {Q : State → Prop} {σ τ : St} {H : Heap} {locs : List Loc} {ls : Array Slot} (hX : sr_X p s m args meth c code 4 ret RL D aC) (hS : va_X b L xs s s.heap) (hbl : b < s.heap.size) (hcs : cells ≤ room_1.cells ∧ slots ≤ room_1.slots) (hi1 : vp_in (nI i + 1) L) (hi2 : vp_in (nI i + 2) L) (hi3 : vp_in (nI i + 3) L) (hi4 : vp_in (nI i + 4) L)
    (hrec : ∀ (σ τ : St) (H : Heap) (locs : List Loc) (ls : Array Slot), Rel σ τ → lw_I D aC s.heap.size σ τ s.heap H locs → lv_has ls 4 [(0, .ref b), (1, .ref (s.heap.size + 0)), (2, .ref (s.heap.size + 135 + 0)), (3, .int (nI i))] → W p l e room_1 s m args below meth c H locs cells slots Q (F0 m 1016 ls []))
    (hR : Rel σ τ) (hI : lw_I D aC s.heap.size σ τ s.heap H locs) (hl : lv_has ls 4 [(0, .ref b), (1, .ref (s.heap.size + 0)), (2, .ref (s.heap.size + 135 + 0)), (3, .int (nI i))]) : W p l e room_1 s m args below meth c H locs cells slots Q (F0 m 544 ls []) := by
  have hx := hX.1.1
  have hb := hX.1.2.1
  refine lv_aload_n hx hb dL_law_544 rfl (lv_at hl 1 rfl) ?_
  refine lv_aload_n hx hb dL_law_545 rfl (lv_at hl 0 rfl) ?_
  refine lv_iload_n hx hb dL_law_546 rfl (lv_at hl 3 rfl) ?_
  refine lv_iconst (v := 1) hx hb dL_law_547 (by decide) ?_
  refine lv_iadd hx hb dL_law_548 ?_
  refine lw_sld hX hS hbl hI.2.1 hi1 dL_law_549 ?_
  obtain ⟨r, σ', τ', eC, eM, hR⟩ := op_hold hR (xs (Int32.toNatClampNeg (nI i + 1)))
  refine va_forget hI.2.2.1 ?_
  refine s_callV1 (n0 := s.heap.size) (sh := shC) (ci := 7) (q := 0) hX (lw_VC hI) hl.1 (c_X7_hold (n0 := s.heap.size) rfl eC) cv_X7_hold lk_384 ⟨rfl, rfl, Nat.le_of_ble_eq_true rfl, Nat.le_of_ble_eq_true rfl⟩ rfl (by decide) rfl rfl rfl (Nat.le_of_ble_eq_true rfl) dL_law_550 hcs (fun H1 locs1 hV1 => ?_)
  have hI := lw_afterC hI hV1
  clear hV1
  refine lv_aload_n hx hb dL_law_553 rfl (lv_at hl 2 rfl) ?_
  refine lv_aload_n hx hb dL_law_554 rfl (lv_at hl 0 rfl) ?_
  refine lv_iload_n hx hb dL_law_555 rfl (lv_at hl 3 rfl) ?_
  refine lv_iconst (v := 1) hx hb dL_law_556 (by decide) ?_
  refine lv_iadd hx hb dL_law_557 ?_
  refine lw_sld hX hS hbl hI.2.1 hi1 dL_law_558 ?_
  refine va_forget hI.2.2.1 ?_
  refine s_callV1 (n0 := (s.heap.size + 135)) (sh := shM) (ci := 8) (q := 0) hX (lw_VM hI) hl.1 (c_X8_hold (n0 := (s.heap.size + 135)) rfl eM) cv_X8_hold lk_829 ⟨rfl, rfl, Nat.le_of_ble_eq_true rfl, Nat.le_of_ble_eq_true rfl⟩ rfl (by decide) rfl rfl rfl (Nat.le_of_ble_eq_true rfl) dL_law_559 hcs (fun H1 locs1 hV1 => ?_)
  have hI := lw_afterM hI hV1
  clear hV1
  refine lv_icmp_eq (tgt := 1016) hx hb dL_law_562 (by decide) (fun _ => ?_) (fun z => absurd rfl z)
  exact hrec _ _ _ _ _ hR hI hl
set_option maxHeartbeats 4000000 in
set_option maxRecDepth 100000 in
theorem lw_case_15 {p : Program} {l : Launch} {e : Env} {s : State} {m : MethodId} {args : Array Value} {below : List Frame} {meth : Method} {c : Code} {D : va_G} {aC : Nat → ClassId} {cells slots b L i : Nat} {xs : Nat → Int32} {Q : State → Prop} {σ τ : St} {H : Heap} {locs : List Loc} {ls : Array Slot} (hX : sr_X p s m args meth c code 4 ret RL D aC) (hS : va_X b L xs s s.heap) (hbl : b < s.heap.size) (hcs : cells ≤ room_1.cells ∧ slots ≤ room_1.slots) (hi1 : vp_in (nI i + 1) L) (hi2 : vp_in (nI i + 2) L) (hi3 : vp_in (nI i + 3) L) (hi4 : vp_in (nI i + 4) L)
    (hrec : ∀ (σ τ : St) (H : Heap) (locs : List Loc) (ls : Array Slot), Rel σ τ → lw_I D aC s.heap.size σ τ s.heap H locs → lv_has ls 4 [(0, .ref b), (1, .ref (s.heap.size + 0)), (2, .ref (s.heap.size + 135 + 0)), (3, .int (nI i))] → W p l e room_1 s m args below meth c H locs cells slots Q (F0 m 1016 ls []))
    (hR : Rel σ τ) (hI : lw_I D aC s.heap.size σ τ s.heap H locs) (hl : lv_has ls 4 [(0, .ref b), (1, .ref (s.heap.size + 0)), (2, .ref (s.heap.size + 135 + 0)), (3, .int (nI i))]) : W p l e room_1 s m args below meth c H locs cells slots Q (F0 m 567 ls []) := by
  have hx := hX.1.1
  have hb := hX.1.2.1
  refine lv_aload_n hx hb dL_law_567 rfl (lv_at hl 1 rfl) ?_
  refine lv_aload_n hx hb dL_law_568 rfl (lv_at hl 0 rfl) ?_
  refine lv_iload_n hx hb dL_law_569 rfl (lv_at hl 3 rfl) ?_
  refine lv_iconst (v := 1) hx hb dL_law_570 (by decide) ?_
  refine lv_iadd hx hb dL_law_571 ?_
  refine lw_sld hX hS hbl hI.2.1 hi1 dL_law_572 ?_
  obtain ⟨r, σ', τ', eC, eM, hR⟩ := op_resume hR (xs (Int32.toNatClampNeg (nI i + 1)))
  refine va_forget hI.2.2.1 ?_
  refine s_callV1 (n0 := s.heap.size) (sh := shC) (ci := 7) (q := 0) hX (lw_VC hI) hl.1 (c_X7_resume (n0 := s.heap.size) rfl eC) cv_X7_resume lk_405 ⟨rfl, rfl, Nat.le_of_ble_eq_true rfl, Nat.le_of_ble_eq_true rfl⟩ rfl (by decide) rfl rfl rfl (Nat.le_of_ble_eq_true rfl) dL_law_573 hcs (fun H1 locs1 hV1 => ?_)
  have hI := lw_afterC hI hV1
  clear hV1
  refine lv_aload_n hx hb dL_law_576 rfl (lv_at hl 2 rfl) ?_
  refine lv_aload_n hx hb dL_law_577 rfl (lv_at hl 0 rfl) ?_
  refine lv_iload_n hx hb dL_law_578 rfl (lv_at hl 3 rfl) ?_
  refine lv_iconst (v := 1) hx hb dL_law_579 (by decide) ?_
  refine lv_iadd hx hb dL_law_580 ?_
  refine lw_sld hX hS hbl hI.2.1 hi1 dL_law_581 ?_
  refine va_forget hI.2.2.1 ?_
  refine s_callV1 (n0 := (s.heap.size + 135)) (sh := shM) (ci := 8) (q := 0) hX (lw_VM hI) hl.1 (c_X8_resume (n0 := (s.heap.size + 135)) rfl eM) cv_X8_resume lk_841 ⟨rfl, rfl, Nat.le_of_ble_eq_true rfl, Nat.le_of_ble_eq_true rfl⟩ rfl (by decide) rfl rfl rfl (Nat.le_of_ble_eq_true rfl) dL_law_582 hcs (fun H1 locs1 hV1 => ?_)
  have hI := lw_afterM hI hV1
  clear hV1
  refine lv_icmp_eq (tgt := 1016) hx hb dL_law_585 (by decide) (fun _ => ?_) (fun z => absurd rfl z)
  exact hrec _ _ _ _ _ hR hI hl
set_option maxHeartbeats 4000000 in
set_option maxRecDepth 100000 in
theorem lw_case_16 {p : Program} {l : Launch} {e : Env} {s : State} {m : MethodId} {args : Array Value} {below : List Frame} {meth : Method} {c : Code} {D : va_G} {aC : Nat → ClassId} {cells slots b L i : Nat} {xs : Nat → Int32} {Q : State → Prop} {σ τ : St} {H : Heap} {locs : List Loc} {ls : Array Slot} (hX : sr_X p s m args meth c code 4 ret RL D aC) (hS : va_X b L xs s s.heap) (hbl : b < s.heap.size) (hcs : cells ≤ room_1.cells ∧ slots ≤ room_1.slots) (hi1 : vp_in (nI i + 1) L) (hi2 : vp_in (nI i + 2) L) (hi3 : vp_in (nI i + 3) L) (hi4 : vp_in (nI i + 4) L)
    (hrec : ∀ (σ τ : St) (H : Heap) (locs : List Loc) (ls : Array Slot), Rel σ τ → lw_I D aC s.heap.size σ τ s.heap H locs → lv_has ls 4 [(0, .ref b), (1, .ref (s.heap.size + 0)), (2, .ref (s.heap.size + 135 + 0)), (3, .int (nI i))] → W p l e room_1 s m args below meth c H locs cells slots Q (F0 m 1016 ls []))
    (hR : Rel σ τ) (hI : lw_I D aC s.heap.size σ τ s.heap H locs) (hl : lv_has ls 4 [(0, .ref b), (1, .ref (s.heap.size + 0)), (2, .ref (s.heap.size + 135 + 0)), (3, .int (nI i))]) : W p l e room_1 s m args below meth c H locs cells slots Q (F0 m 590 ls []) := by
  have hx := hX.1.1
  have hb := hX.1.2.1
  refine lv_aload_n hx hb dL_law_590 rfl (lv_at hl 1 rfl) ?_
  refine lv_aload_n hx hb dL_law_591 rfl (lv_at hl 0 rfl) ?_
  refine lv_iload_n hx hb dL_law_592 rfl (lv_at hl 3 rfl) ?_
  refine lv_iconst (v := 1) hx hb dL_law_593 (by decide) ?_
  refine lv_iadd hx hb dL_law_594 ?_
  refine lw_sld hX hS hbl hI.2.1 hi1 dL_law_595 ?_
  obtain ⟨r, σ', τ', eC, eM, hR⟩ := op_turnBack hR (xs (Int32.toNatClampNeg (nI i + 1)))
  refine va_forget hI.2.2.1 ?_
  refine s_callV1 (n0 := s.heap.size) (sh := shC) (ci := 7) (q := 0) hX (lw_VC hI) hl.1 (c_X7_turnBack (n0 := s.heap.size) rfl eC) cv_X7_turnBack lk_409 ⟨rfl, rfl, Nat.le_of_ble_eq_true rfl, Nat.le_of_ble_eq_true rfl⟩ rfl (by decide) rfl rfl rfl (Nat.le_of_ble_eq_true rfl) dL_law_596 hcs (fun H1 locs1 hV1 => ?_)
  have hI := lw_afterC hI hV1
  clear hV1
  refine lv_aload_n hx hb dL_law_599 rfl (lv_at hl 2 rfl) ?_
  refine lv_aload_n hx hb dL_law_600 rfl (lv_at hl 0 rfl) ?_
  refine lv_iload_n hx hb dL_law_601 rfl (lv_at hl 3 rfl) ?_
  refine lv_iconst (v := 1) hx hb dL_law_602 (by decide) ?_
  refine lv_iadd hx hb dL_law_603 ?_
  refine lw_sld hX hS hbl hI.2.1 hi1 dL_law_604 ?_
  refine va_forget hI.2.2.1 ?_
  refine s_callV1 (n0 := (s.heap.size + 135)) (sh := shM) (ci := 8) (q := 0) hX (lw_VM hI) hl.1 (c_X8_turnBack (n0 := (s.heap.size + 135)) rfl eM) cv_X8_turnBack lk_845 ⟨rfl, rfl, Nat.le_of_ble_eq_true rfl, Nat.le_of_ble_eq_true rfl⟩ rfl (by decide) rfl rfl rfl (Nat.le_of_ble_eq_true rfl) dL_law_605 hcs (fun H1 locs1 hV1 => ?_)
  have hI := lw_afterM hI hV1
  clear hV1
  refine lv_icmp_eq (tgt := 1016) hx hb dL_law_608 (by decide) (fun _ => ?_) (fun z => absurd rfl z)
  exact hrec _ _ _ _ _ hR hI hl
set_option maxHeartbeats 4000000 in
set_option maxRecDepth 100000 in
theorem lw_case_17 {p : Program} {l : Launch} {e : Env} {s : State} {m : MethodId} {args : Array Value} {below : List Frame} {meth : Method} {c : Code} {D : va_G} {aC : Nat → ClassId} {cells slots b L i : Nat} {xs : Nat → Int32} {Q : State → Prop} {σ τ : St} {H : Heap} {locs : List Loc} {ls : Array Slot} (hX : sr_X p s m args meth c code 4 ret RL D aC) (hS : va_X b L xs s s.heap) (hbl : b < s.heap.size) (hcs : cells ≤ room_1.cells ∧ slots ≤ room_1.slots) (hi1 : vp_in (nI i + 1) L) (hi2 : vp_in (nI i + 2) L) (hi3 : vp_in (nI i + 3) L) (hi4 : vp_in (nI i + 4) L)
    (hrec : ∀ (σ τ : St) (H : Heap) (locs : List Loc) (ls : Array Slot), Rel σ τ → lw_I D aC s.heap.size σ τ s.heap H locs → lv_has ls 4 [(0, .ref b), (1, .ref (s.heap.size + 0)), (2, .ref (s.heap.size + 135 + 0)), (3, .int (nI i))] → W p l e room_1 s m args below meth c H locs cells slots Q (F0 m 1016 ls []))
    (hR : Rel σ τ) (hI : lw_I D aC s.heap.size σ τ s.heap H locs) (hl : lv_has ls 4 [(0, .ref b), (1, .ref (s.heap.size + 0)), (2, .ref (s.heap.size + 135 + 0)), (3, .int (nI i))]) : W p l e room_1 s m args below meth c H locs cells slots Q (F0 m 613 ls []) := by
  have hx := hX.1.1
  have hb := hX.1.2.1
  refine lv_aload_n hx hb dL_law_613 rfl (lv_at hl 1 rfl) ?_
  refine lv_aload_n hx hb dL_law_614 rfl (lv_at hl 0 rfl) ?_
  refine lv_iload_n hx hb dL_law_615 rfl (lv_at hl 3 rfl) ?_
  refine lv_iconst (v := 1) hx hb dL_law_616 (by decide) ?_
  refine lv_iadd hx hb dL_law_617 ?_
  refine lw_sld hX hS hbl hI.2.1 hi1 dL_law_618 ?_
  refine lv_aload_n hx hb dL_law_619 rfl (lv_at hl 0 rfl) ?_
  refine lv_iload_n hx hb dL_law_620 rfl (lv_at hl 3 rfl) ?_
  refine lv_iconst (v := 2) hx hb dL_law_621 (by decide) ?_
  refine lv_iadd hx hb dL_law_622 ?_
  refine lw_sld hX hS hbl hI.2.1 hi2 dL_law_623 ?_
  refine lv_aload_n hx hb dL_law_624 rfl (lv_at hl 0 rfl) ?_
  refine lv_iload_n hx hb dL_law_625 rfl (lv_at hl 3 rfl) ?_
  refine lv_iconst (v := 3) hx hb dL_law_626 (by decide) ?_
  refine lv_iadd hx hb dL_law_627 ?_
  refine lw_sld hX hS hbl hI.2.1 hi3 dL_law_628 ?_
  obtain ⟨r, σ', τ', eC, eM, hR⟩ := op_report hR (xs (Int32.toNatClampNeg (nI i + 1))) (xs (Int32.toNatClampNeg (nI i + 2))) (xs (Int32.toNatClampNeg (nI i + 3)))
  refine va_forget hI.2.2.1 ?_
  refine s_callV1 (n0 := s.heap.size) (sh := shC) (ci := 7) (q := 0) hX (lw_VC hI) hl.1 (c_X7_report (n0 := s.heap.size) rfl eC) cv_X7_report lk_413 ⟨rfl, rfl, Nat.le_of_ble_eq_true rfl, Nat.le_of_ble_eq_true rfl⟩ rfl (by decide) rfl rfl rfl (Nat.le_of_ble_eq_true rfl) dL_law_629 hcs (fun H1 locs1 hV1 => ?_)
  have hI := lw_afterC hI hV1
  clear hV1
  refine lv_aload_n hx hb dL_law_632 rfl (lv_at hl 2 rfl) ?_
  refine lv_aload_n hx hb dL_law_633 rfl (lv_at hl 0 rfl) ?_
  refine lv_iload_n hx hb dL_law_634 rfl (lv_at hl 3 rfl) ?_
  refine lv_iconst (v := 1) hx hb dL_law_635 (by decide) ?_
  refine lv_iadd hx hb dL_law_636 ?_
  refine lw_sld hX hS hbl hI.2.1 hi1 dL_law_637 ?_
  refine lv_aload_n hx hb dL_law_638 rfl (lv_at hl 0 rfl) ?_
  refine lv_iload_n hx hb dL_law_639 rfl (lv_at hl 3 rfl) ?_
  refine lv_iconst (v := 2) hx hb dL_law_640 (by decide) ?_
  refine lv_iadd hx hb dL_law_641 ?_
  refine lw_sld hX hS hbl hI.2.1 hi2 dL_law_642 ?_
  refine lv_aload_n hx hb dL_law_643 rfl (lv_at hl 0 rfl) ?_
  refine lv_iload_n hx hb dL_law_644 rfl (lv_at hl 3 rfl) ?_
  refine lv_iconst (v := 3) hx hb dL_law_645 (by decide) ?_
  refine lv_iadd hx hb dL_law_646 ?_
  refine lw_sld hX hS hbl hI.2.1 hi3 dL_law_647 ?_
  refine va_forget hI.2.2.1 ?_
  refine s_callV1 (n0 := (s.heap.size + 135)) (sh := shM) (ci := 8) (q := 0) hX (lw_VM hI) hl.1 (c_X8_report (n0 := (s.heap.size + 135)) rfl eM) cv_X8_report lk_849 ⟨rfl, rfl, Nat.le_of_ble_eq_true rfl, Nat.le_of_ble_eq_true rfl⟩ rfl (by decide) rfl rfl rfl (Nat.le_of_ble_eq_true rfl) dL_law_648 hcs (fun H1 locs1 hV1 => ?_)
  have hI := lw_afterM hI hV1
  clear hV1
  refine lv_icmp_eq (tgt := 1016) hx hb dL_law_651 (by decide) (fun _ => ?_) (fun z => absurd rfl z)
  exact hrec _ _ _ _ _ hR hI hl
set_option maxHeartbeats 4000000 in
set_option maxRecDepth 100000 in
theorem lw_case_18 {p : Program} {l : Launch} {e : Env} {s : State} {m : MethodId} {args : Array Value} {below : List Frame} {meth : Method} {c : Code} {D : va_G} {aC : Nat → ClassId} {cells slots b L i : Nat} {xs : Nat → Int32} {Q : State → Prop} {σ τ : St} {H : Heap} {locs : List Loc} {ls : Array Slot} (hX : sr_X p s m args meth c code 4 ret RL D aC) (hS : va_X b L xs s s.heap) (hbl : b < s.heap.size) (hcs : cells ≤ room_1.cells ∧ slots ≤ room_1.slots) (hi1 : vp_in (nI i + 1) L) (hi2 : vp_in (nI i + 2) L) (hi3 : vp_in (nI i + 3) L) (hi4 : vp_in (nI i + 4) L)
    (hrec : ∀ (σ τ : St) (H : Heap) (locs : List Loc) (ls : Array Slot), Rel σ τ → lw_I D aC s.heap.size σ τ s.heap H locs → lv_has ls 4 [(0, .ref b), (1, .ref (s.heap.size + 0)), (2, .ref (s.heap.size + 135 + 0)), (3, .int (nI i))] → W p l e room_1 s m args below meth c H locs cells slots Q (F0 m 1016 ls []))
    (hR : Rel σ τ) (hI : lw_I D aC s.heap.size σ τ s.heap H locs) (hl : lv_has ls 4 [(0, .ref b), (1, .ref (s.heap.size + 0)), (2, .ref (s.heap.size + 135 + 0)), (3, .int (nI i))]) : W p l e room_1 s m args below meth c H locs cells slots Q (F0 m 656 ls []) := by
  have hx := hX.1.1
  have hb := hX.1.2.1
  refine lv_aload_n hx hb dL_law_656 rfl (lv_at hl 1 rfl) ?_
  refine lv_aload_n hx hb dL_law_657 rfl (lv_at hl 0 rfl) ?_
  refine lv_iload_n hx hb dL_law_658 rfl (lv_at hl 3 rfl) ?_
  refine lv_iconst (v := 1) hx hb dL_law_659 (by decide) ?_
  refine lv_iadd hx hb dL_law_660 ?_
  refine lw_sld hX hS hbl hI.2.1 hi1 dL_law_661 ?_
  obtain ⟨r, σ', τ', eC, eM, hR⟩ := op_pass hR (xs (Int32.toNatClampNeg (nI i + 1)))
  refine va_forget hI.2.2.1 ?_
  refine s_callV1 (n0 := s.heap.size) (sh := shC) (ci := 7) (q := 0) hX (lw_VC hI) hl.1 (c_X7_pass (n0 := s.heap.size) rfl eC) cv_X7_pass lk_470 ⟨rfl, rfl, Nat.le_of_ble_eq_true rfl, Nat.le_of_ble_eq_true rfl⟩ rfl (by decide) rfl rfl rfl (Nat.le_of_ble_eq_true rfl) dL_law_662 hcs (fun H1 locs1 hV1 => ?_)
  have hI := lw_afterC hI hV1
  clear hV1
  refine lv_aload_n hx hb dL_law_665 rfl (lv_at hl 2 rfl) ?_
  refine lv_aload_n hx hb dL_law_666 rfl (lv_at hl 0 rfl) ?_
  refine lv_iload_n hx hb dL_law_667 rfl (lv_at hl 3 rfl) ?_
  refine lv_iconst (v := 1) hx hb dL_law_668 (by decide) ?_
  refine lv_iadd hx hb dL_law_669 ?_
  refine lw_sld hX hS hbl hI.2.1 hi1 dL_law_670 ?_
  refine va_forget hI.2.2.1 ?_
  refine s_callV1 (n0 := (s.heap.size + 135)) (sh := shM) (ci := 8) (q := 0) hX (lw_VM hI) hl.1 (c_X8_pass (n0 := (s.heap.size + 135)) rfl eM) cv_X8_pass lk_861 ⟨rfl, rfl, Nat.le_of_ble_eq_true rfl, Nat.le_of_ble_eq_true rfl⟩ rfl (by decide) rfl rfl rfl (Nat.le_of_ble_eq_true rfl) dL_law_671 hcs (fun H1 locs1 hV1 => ?_)
  have hI := lw_afterM hI hV1
  clear hV1
  refine lv_icmp_eq (tgt := 1016) hx hb dL_law_674 (by decide) (fun _ => ?_) (fun z => absurd rfl z)
  exact hrec _ _ _ _ _ hR hI hl
set_option maxHeartbeats 4000000 in
set_option maxRecDepth 100000 in
theorem lw_case_19 {p : Program} {l : Launch} {e : Env} {s : State} {m : MethodId} {args : Array Value} {below : List Frame} {meth : Method} {c : Code} {D : va_G} {aC : Nat → ClassId} {cells slots b L i : Nat} {xs : Nat → Int32} {Q : State → Prop} {σ τ : St} {H : Heap} {locs : List Loc} {ls : Array Slot} (hX : sr_X p s m args meth c code 4 ret RL D aC) (hS : va_X b L xs s s.heap) (hbl : b < s.heap.size) (hcs : cells ≤ room_1.cells ∧ slots ≤ room_1.slots) (hi1 : vp_in (nI i + 1) L) (hi2 : vp_in (nI i + 2) L) (hi3 : vp_in (nI i + 3) L) (hi4 : vp_in (nI i + 4) L)
    (hrec : ∀ (σ τ : St) (H : Heap) (locs : List Loc) (ls : Array Slot), Rel σ τ → lw_I D aC s.heap.size σ τ s.heap H locs → lv_has ls 4 [(0, .ref b), (1, .ref (s.heap.size + 0)), (2, .ref (s.heap.size + 135 + 0)), (3, .int (nI i))] → W p l e room_1 s m args below meth c H locs cells slots Q (F0 m 1016 ls []))
    (hR : Rel σ τ) (hI : lw_I D aC s.heap.size σ τ s.heap H locs) (hl : lv_has ls 4 [(0, .ref b), (1, .ref (s.heap.size + 0)), (2, .ref (s.heap.size + 135 + 0)), (3, .int (nI i))]) : W p l e room_1 s m args below meth c H locs cells slots Q (F0 m 679 ls []) := by
  have hx := hX.1.1
  have hb := hX.1.2.1
  refine lv_aload_n hx hb dL_law_679 rfl (lv_at hl 1 rfl) ?_
  obtain ⟨r, eC, eM, hR⟩ := op_time hR 
  refine va_forget hI.2.2.1 ?_
  refine s_callV1 (n0 := s.heap.size) (sh := shC) (ci := 7) (q := 0) hX (lw_VC hI) hl.1 (c_X7_time (n0 := s.heap.size) rfl eC) cv_X7_time lk_549 ⟨rfl, rfl, Nat.le_of_ble_eq_true rfl, Nat.le_of_ble_eq_true rfl⟩ rfl (by decide) rfl rfl rfl (Nat.le_of_ble_eq_true rfl) dL_law_680 hcs (fun H1 locs1 hV1 => ?_)
  have hI := lw_afterC hI hV1
  clear hV1
  refine lv_aload_n hx hb dL_law_683 rfl (lv_at hl 2 rfl) ?_
  refine va_forget hI.2.2.1 ?_
  refine s_callV1 (n0 := (s.heap.size + 135)) (sh := shM) (ci := 8) (q := 0) hX (lw_VM hI) hl.1 (c_X8_time (n0 := (s.heap.size + 135)) rfl eM) cv_X8_time lk_914 ⟨rfl, rfl, Nat.le_of_ble_eq_true rfl, Nat.le_of_ble_eq_true rfl⟩ rfl (by decide) rfl rfl rfl (Nat.le_of_ble_eq_true rfl) dL_law_684 hcs (fun H1 locs1 hV1 => ?_)
  have hI := lw_afterM hI hV1
  clear hV1
  refine lv_icmp_eq (tgt := 1016) hx hb dL_law_687 (by decide) (fun _ => ?_) (fun z => absurd rfl z)
  exact hrec _ _ _ _ _ hR hI hl
set_option maxHeartbeats 4000000 in
set_option maxRecDepth 100000 in
theorem lw_case_20 {p : Program} {l : Launch} {e : Env} {s : State} {m : MethodId} {args : Array Value} {below : List Frame} {meth : Method} {c : Code} {D : va_G} {aC : Nat → ClassId} {cells slots b L i : Nat} {xs : Nat → Int32} {Q : State → Prop} {σ τ : St} {H : Heap} {locs : List Loc} {ls : Array Slot} (hX : sr_X p s m args meth c code 4 ret RL D aC) (hS : va_X b L xs s s.heap) (hbl : b < s.heap.size) (hcs : cells ≤ room_1.cells ∧ slots ≤ room_1.slots) (hi1 : vp_in (nI i + 1) L) (hi2 : vp_in (nI i + 2) L) (hi3 : vp_in (nI i + 3) L) (hi4 : vp_in (nI i + 4) L)
    (hrec : ∀ (σ τ : St) (H : Heap) (locs : List Loc) (ls : Array Slot), Rel σ τ → lw_I D aC s.heap.size σ τ s.heap H locs → lv_has ls 4 [(0, .ref b), (1, .ref (s.heap.size + 0)), (2, .ref (s.heap.size + 135 + 0)), (3, .int (nI i))] → W p l e room_1 s m args below meth c H locs cells slots Q (F0 m 1016 ls []))
    (hR : Rel σ τ) (hI : lw_I D aC s.heap.size σ τ s.heap H locs) (hl : lv_has ls 4 [(0, .ref b), (1, .ref (s.heap.size + 0)), (2, .ref (s.heap.size + 135 + 0)), (3, .int (nI i))]) : W p l e room_1 s m args below meth c H locs cells slots Q (F0 m 692 ls []) := by
  have hx := hX.1.1
  have hb := hX.1.2.1
  refine lv_aload_n hx hb dL_law_692 rfl (lv_at hl 1 rfl) ?_
  refine lv_aload_n hx hb dL_law_693 rfl (lv_at hl 0 rfl) ?_
  refine lv_iload_n hx hb dL_law_694 rfl (lv_at hl 3 rfl) ?_
  refine lv_iconst (v := 1) hx hb dL_law_695 (by decide) ?_
  refine lv_iadd hx hb dL_law_696 ?_
  refine lw_sld hX hS hbl hI.2.1 hi1 dL_law_697 ?_
  refine lv_aload_n hx hb dL_law_698 rfl (lv_at hl 0 rfl) ?_
  refine lv_iload_n hx hb dL_law_699 rfl (lv_at hl 3 rfl) ?_
  refine lv_iconst (v := 2) hx hb dL_law_700 (by decide) ?_
  refine lv_iadd hx hb dL_law_701 ?_
  refine lw_sld hX hS hbl hI.2.1 hi2 dL_law_702 ?_
  obtain ⟨r, eC, eM, hR⟩ := op_change hR (xs (Int32.toNatClampNeg (nI i + 1))) (xs (Int32.toNatClampNeg (nI i + 2)))
  refine va_forget hI.2.2.1 ?_
  refine s_callV1 (n0 := s.heap.size) (sh := shC) (ci := 7) (q := 0) hX (lw_VC hI) hl.1 (c_X7_change (n0 := s.heap.size) rfl eC) cv_X7_change lk_553 ⟨rfl, rfl, Nat.le_of_ble_eq_true rfl, Nat.le_of_ble_eq_true rfl⟩ rfl (by decide) rfl rfl rfl (Nat.le_of_ble_eq_true rfl) dL_law_703 hcs (fun H1 locs1 hV1 => ?_)
  have hI := lw_afterC hI hV1
  clear hV1
  refine lv_aload_n hx hb dL_law_706 rfl (lv_at hl 2 rfl) ?_
  refine lv_aload_n hx hb dL_law_707 rfl (lv_at hl 0 rfl) ?_
  refine lv_iload_n hx hb dL_law_708 rfl (lv_at hl 3 rfl) ?_
  refine lv_iconst (v := 1) hx hb dL_law_709 (by decide) ?_
  refine lv_iadd hx hb dL_law_710 ?_
  refine lw_sld hX hS hbl hI.2.1 hi1 dL_law_711 ?_
  refine lv_aload_n hx hb dL_law_712 rfl (lv_at hl 0 rfl) ?_
  refine lv_iload_n hx hb dL_law_713 rfl (lv_at hl 3 rfl) ?_
  refine lv_iconst (v := 2) hx hb dL_law_714 (by decide) ?_
  refine lv_iadd hx hb dL_law_715 ?_
  refine lw_sld hX hS hbl hI.2.1 hi2 dL_law_716 ?_
  refine va_forget hI.2.2.1 ?_
  refine s_callV1 (n0 := (s.heap.size + 135)) (sh := shM) (ci := 8) (q := 0) hX (lw_VM hI) hl.1 (c_X8_change (n0 := (s.heap.size + 135)) rfl eM) cv_X8_change lk_918 ⟨rfl, rfl, Nat.le_of_ble_eq_true rfl, Nat.le_of_ble_eq_true rfl⟩ rfl (by decide) rfl rfl rfl (Nat.le_of_ble_eq_true rfl) dL_law_717 hcs (fun H1 locs1 hV1 => ?_)
  have hI := lw_afterM hI hV1
  clear hV1
  refine lv_icmp_eq (tgt := 1016) hx hb dL_law_720 (by decide) (fun _ => ?_) (fun z => absurd rfl z)
  exact hrec _ _ _ _ _ hR hI hl
set_option maxHeartbeats 4000000 in
set_option maxRecDepth 100000 in
theorem lw_case_21 {p : Program} {l : Launch} {e : Env} {s : State} {m : MethodId} {args : Array Value} {below : List Frame} {meth : Method} {c : Code} {D : va_G} {aC : Nat → ClassId} {cells slots b L i : Nat} {xs : Nat → Int32} {Q : State → Prop} {σ τ : St} {H : Heap} {locs : List Loc} {ls : Array Slot} (hX : sr_X p s m args meth c code 4 ret RL D aC) (hS : va_X b L xs s s.heap) (hbl : b < s.heap.size) (hcs : cells ≤ room_1.cells ∧ slots ≤ room_1.slots) (hi1 : vp_in (nI i + 1) L) (hi2 : vp_in (nI i + 2) L) (hi3 : vp_in (nI i + 3) L) (hi4 : vp_in (nI i + 4) L)
    (hrec : ∀ (σ τ : St) (H : Heap) (locs : List Loc) (ls : Array Slot), Rel σ τ → lw_I D aC s.heap.size σ τ s.heap H locs → lv_has ls 4 [(0, .ref b), (1, .ref (s.heap.size + 0)), (2, .ref (s.heap.size + 135 + 0)), (3, .int (nI i))] → W p l e room_1 s m args below meth c H locs cells slots Q (F0 m 1016 ls []))
    (hR : Rel σ τ) (hI : lw_I D aC s.heap.size σ τ s.heap H locs) (hl : lv_has ls 4 [(0, .ref b), (1, .ref (s.heap.size + 0)), (2, .ref (s.heap.size + 135 + 0)), (3, .int (nI i))]) : W p l e room_1 s m args below meth c H locs cells slots Q (F0 m 725 ls []) := by
  have hx := hX.1.1
  have hb := hX.1.2.1
  refine lv_aload_n hx hb dL_law_725 rfl (lv_at hl 1 rfl) ?_
  refine lv_aload_n hx hb dL_law_726 rfl (lv_at hl 0 rfl) ?_
  refine lv_iload_n hx hb dL_law_727 rfl (lv_at hl 3 rfl) ?_
  refine lv_iconst (v := 1) hx hb dL_law_728 (by decide) ?_
  refine lv_iadd hx hb dL_law_729 ?_
  refine lw_sld hX hS hbl hI.2.1 hi1 dL_law_730 ?_
  refine lv_aload_n hx hb dL_law_731 rfl (lv_at hl 0 rfl) ?_
  refine lv_iload_n hx hb dL_law_732 rfl (lv_at hl 3 rfl) ?_
  refine lv_iconst (v := 2) hx hb dL_law_733 (by decide) ?_
  refine lv_iadd hx hb dL_law_734 ?_
  refine lw_sld hX hS hbl hI.2.1 hi2 dL_law_735 ?_
  obtain ⟨r, eC, eM, hR⟩ := op_probes hR (xs (Int32.toNatClampNeg (nI i + 1))) (xs (Int32.toNatClampNeg (nI i + 2)))
  refine va_forget hI.2.2.1 ?_
  refine s_callV1 (n0 := s.heap.size) (sh := shC) (ci := 7) (q := 0) hX (lw_VC hI) hl.1 (c_X7_probes (n0 := s.heap.size) rfl eC) cv_X7_probes lk_559 ⟨rfl, rfl, Nat.le_of_ble_eq_true rfl, Nat.le_of_ble_eq_true rfl⟩ rfl (by decide) rfl rfl rfl (Nat.le_of_ble_eq_true rfl) dL_law_736 hcs (fun H1 locs1 hV1 => ?_)
  have hI := lw_afterC hI hV1
  clear hV1
  refine lv_aload_n hx hb dL_law_739 rfl (lv_at hl 2 rfl) ?_
  refine lv_aload_n hx hb dL_law_740 rfl (lv_at hl 0 rfl) ?_
  refine lv_iload_n hx hb dL_law_741 rfl (lv_at hl 3 rfl) ?_
  refine lv_iconst (v := 1) hx hb dL_law_742 (by decide) ?_
  refine lv_iadd hx hb dL_law_743 ?_
  refine lw_sld hX hS hbl hI.2.1 hi1 dL_law_744 ?_
  refine lv_aload_n hx hb dL_law_745 rfl (lv_at hl 0 rfl) ?_
  refine lv_iload_n hx hb dL_law_746 rfl (lv_at hl 3 rfl) ?_
  refine lv_iconst (v := 2) hx hb dL_law_747 (by decide) ?_
  refine lv_iadd hx hb dL_law_748 ?_
  refine lw_sld hX hS hbl hI.2.1 hi2 dL_law_749 ?_
  refine va_forget hI.2.2.1 ?_
  refine s_callV1 (n0 := (s.heap.size + 135)) (sh := shM) (ci := 8) (q := 0) hX (lw_VM hI) hl.1 (c_X8_probes (n0 := (s.heap.size + 135)) rfl eM) cv_X8_probes lk_926 ⟨rfl, rfl, Nat.le_of_ble_eq_true rfl, Nat.le_of_ble_eq_true rfl⟩ rfl (by decide) rfl rfl rfl (Nat.le_of_ble_eq_true rfl) dL_law_750 hcs (fun H1 locs1 hV1 => ?_)
  have hI := lw_afterM hI hV1
  clear hV1
  refine lv_icmp_eq (tgt := 1016) hx hb dL_law_753 (by decide) (fun _ => ?_) (fun z => absurd rfl z)
  exact hrec _ _ _ _ _ hR hI hl
set_option maxHeartbeats 4000000 in
set_option maxRecDepth 100000 in
theorem lw_case_22 {p : Program} {l : Launch} {e : Env} {s : State} {m : MethodId} {args : Array Value} {below : List Frame} {meth : Method} {c : Code} {D : va_G} {aC : Nat → ClassId} {cells slots b L i : Nat} {xs : Nat → Int32} {Q : State → Prop} {σ τ : St} {H : Heap} {locs : List Loc} {ls : Array Slot} (hX : sr_X p s m args meth c code 4 ret RL D aC) (hS : va_X b L xs s s.heap) (hbl : b < s.heap.size) (hcs : cells ≤ room_1.cells ∧ slots ≤ room_1.slots) (hi1 : vp_in (nI i + 1) L) (hi2 : vp_in (nI i + 2) L) (hi3 : vp_in (nI i + 3) L) (hi4 : vp_in (nI i + 4) L)
    (hrec : ∀ (σ τ : St) (H : Heap) (locs : List Loc) (ls : Array Slot), Rel σ τ → lw_I D aC s.heap.size σ τ s.heap H locs → lv_has ls 4 [(0, .ref b), (1, .ref (s.heap.size + 0)), (2, .ref (s.heap.size + 135 + 0)), (3, .int (nI i))] → W p l e room_1 s m args below meth c H locs cells slots Q (F0 m 1016 ls []))
    (hR : Rel σ τ) (hI : lw_I D aC s.heap.size σ τ s.heap H locs) (hl : lv_has ls 4 [(0, .ref b), (1, .ref (s.heap.size + 0)), (2, .ref (s.heap.size + 135 + 0)), (3, .int (nI i))]) : W p l e room_1 s m args below meth c H locs cells slots Q (F0 m 758 ls []) := by
  have hx := hX.1.1
  have hb := hX.1.2.1
  refine lv_aload_n hx hb dL_law_758 rfl (lv_at hl 1 rfl) ?_
  refine lv_aload_n hx hb dL_law_759 rfl (lv_at hl 0 rfl) ?_
  refine lv_iload_n hx hb dL_law_760 rfl (lv_at hl 3 rfl) ?_
  refine lv_iconst (v := 1) hx hb dL_law_761 (by decide) ?_
  refine lv_iadd hx hb dL_law_762 ?_
  refine lw_sld hX hS hbl hI.2.1 hi1 dL_law_763 ?_
  refine lv_aload_n hx hb dL_law_764 rfl (lv_at hl 0 rfl) ?_
  refine lv_iload_n hx hb dL_law_765 rfl (lv_at hl 3 rfl) ?_
  refine lv_iconst (v := 2) hx hb dL_law_766 (by decide) ?_
  refine lv_iadd hx hb dL_law_767 ?_
  refine lw_sld hX hS hbl hI.2.1 hi2 dL_law_768 ?_
  refine lv_if_eq (tgt := 776) hx hb dL_law_769 (by decide) (fun c2 => ?_) (fun c2 => ?_)
  · skip
    refine lv_iconst (v := 0) hx hb dL_law_776 (by decide) ?_
    obtain ⟨r, τ', eC, eM, hR⟩ := op_chance hR (xs (Int32.toNatClampNeg (nI i + 1))) false
    refine va_forget hI.2.2.1 ?_
    refine s_callV1 (n0 := s.heap.size) (sh := shC) (ci := 7) (q := 0) hX (lw_VC hI) hl.1 (c_X7_chance (n0 := s.heap.size) rfl eC) cv_X7_chance lk_563 ⟨rfl, rfl, Nat.le_of_ble_eq_true rfl, Nat.le_of_ble_eq_true rfl⟩ rfl (by decide) rfl rfl rfl (Nat.le_of_ble_eq_true rfl) dL_law_777 hcs (fun H1 locs1 hV1 => ?_)
    have hI := lw_afterC hI hV1
    clear hV1
    refine lv_aload_n hx hb dL_law_780 rfl (lv_at hl 2 rfl) ?_
    refine lv_aload_n hx hb dL_law_781 rfl (lv_at hl 0 rfl) ?_
    refine lv_iload_n hx hb dL_law_782 rfl (lv_at hl 3 rfl) ?_
    refine lv_iconst (v := 1) hx hb dL_law_783 (by decide) ?_
    refine lv_iadd hx hb dL_law_784 ?_
    refine lw_sld hX hS hbl hI.2.1 hi1 dL_law_785 ?_
    refine lv_aload_n hx hb dL_law_786 rfl (lv_at hl 0 rfl) ?_
    refine lv_iload_n hx hb dL_law_787 rfl (lv_at hl 3 rfl) ?_
    refine lv_iconst (v := 2) hx hb dL_law_788 (by decide) ?_
    refine lv_iadd hx hb dL_law_789 ?_
    refine lw_sld hX hS hbl hI.2.1 hi2 dL_law_790 ?_
    refine lv_if_eq (tgt := 798) hx hb dL_law_791 (by decide) (fun _ => ?_) (fun z => absurd c2 z)
    refine lv_iconst (v := 0) hx hb dL_law_798 (by decide) ?_
    refine va_forget hI.2.2.1 ?_
    refine s_callV1 (n0 := (s.heap.size + 135)) (sh := shM) (ci := 8) (q := 0) hX (lw_VM hI) hl.1 (c_X8_chance (n0 := (s.heap.size + 135)) rfl eM) cv_X8_chance lk_930 ⟨rfl, rfl, Nat.le_of_ble_eq_true rfl, Nat.le_of_ble_eq_true rfl⟩ rfl (by decide) rfl rfl rfl (Nat.le_of_ble_eq_true rfl) dL_law_799 hcs (fun H1 locs1 hV1 => ?_)
    have hI := lw_afterM hI hV1
    clear hV1
    refine W.lcmp hx hb dL_law_802 ?_
    refine lv_if_eq (tgt := 1016) hx hb dL_law_803 (by decide) (fun _ => ?_) (fun z => absurd (lw_cmp r) z)
    exact hrec _ _ _ _ _ hR hI hl
  · skip
    refine lv_iconst (v := 1) hx hb dL_law_772 (by decide) ?_
    refine lv_goto (tgt := 777) hx hb dL_law_773 (by decide) ?_
    obtain ⟨r, τ', eC, eM, hR⟩ := op_chance hR (xs (Int32.toNatClampNeg (nI i + 1))) true
    refine va_forget hI.2.2.1 ?_
    refine s_callV1 (n0 := s.heap.size) (sh := shC) (ci := 7) (q := 0) hX (lw_VC hI) hl.1 (c_X7_chance (n0 := s.heap.size) rfl eC) cv_X7_chance lk_563 ⟨rfl, rfl, Nat.le_of_ble_eq_true rfl, Nat.le_of_ble_eq_true rfl⟩ rfl (by decide) rfl rfl rfl (Nat.le_of_ble_eq_true rfl) dL_law_777 hcs (fun H1 locs1 hV1 => ?_)
    have hI := lw_afterC hI hV1
    clear hV1
    refine lv_aload_n hx hb dL_law_780 rfl (lv_at hl 2 rfl) ?_
    refine lv_aload_n hx hb dL_law_781 rfl (lv_at hl 0 rfl) ?_
    refine lv_iload_n hx hb dL_law_782 rfl (lv_at hl 3 rfl) ?_
    refine lv_iconst (v := 1) hx hb dL_law_783 (by decide) ?_
    refine lv_iadd hx hb dL_law_784 ?_
    refine lw_sld hX hS hbl hI.2.1 hi1 dL_law_785 ?_
    refine lv_aload_n hx hb dL_law_786 rfl (lv_at hl 0 rfl) ?_
    refine lv_iload_n hx hb dL_law_787 rfl (lv_at hl 3 rfl) ?_
    refine lv_iconst (v := 2) hx hb dL_law_788 (by decide) ?_
    refine lv_iadd hx hb dL_law_789 ?_
    refine lw_sld hX hS hbl hI.2.1 hi2 dL_law_790 ?_
    refine lv_if_eq (tgt := 798) hx hb dL_law_791 (by decide) (fun z => absurd z c2) (fun _ => ?_)
    refine lv_iconst (v := 1) hx hb dL_law_794 (by decide) ?_
    refine lv_goto (tgt := 799) hx hb dL_law_795 (by decide) ?_
    refine va_forget hI.2.2.1 ?_
    refine s_callV1 (n0 := (s.heap.size + 135)) (sh := shM) (ci := 8) (q := 0) hX (lw_VM hI) hl.1 (c_X8_chance (n0 := (s.heap.size + 135)) rfl eM) cv_X8_chance lk_930 ⟨rfl, rfl, Nat.le_of_ble_eq_true rfl, Nat.le_of_ble_eq_true rfl⟩ rfl (by decide) rfl rfl rfl (Nat.le_of_ble_eq_true rfl) dL_law_799 hcs (fun H1 locs1 hV1 => ?_)
    have hI := lw_afterM hI hV1
    clear hV1
    refine W.lcmp hx hb dL_law_802 ?_
    refine lv_if_eq (tgt := 1016) hx hb dL_law_803 (by decide) (fun _ => ?_) (fun z => absurd (lw_cmp r) z)
    exact hrec _ _ _ _ _ hR hI hl
set_option maxHeartbeats 4000000 in
set_option maxRecDepth 100000 in
theorem lw_case_23 {p : Program} {l : Launch} {e : Env} {s : State} {m : MethodId} {args : Array Value} {below : List Frame} {meth : Method} {c : Code} {D : va_G} {aC : Nat → ClassId} {cells slots b L i : Nat} {xs : Nat → Int32} {Q : State → Prop} {σ τ : St} {H : Heap} {locs : List Loc} {ls : Array Slot} (hX : sr_X p s m args meth c code 4 ret RL D aC) (hS : va_X b L xs s s.heap) (hbl : b < s.heap.size) (hcs : cells ≤ room_1.cells ∧ slots ≤ room_1.slots) (hi1 : vp_in (nI i + 1) L) (hi2 : vp_in (nI i + 2) L) (hi3 : vp_in (nI i + 3) L) (hi4 : vp_in (nI i + 4) L)
    (hrec : ∀ (σ τ : St) (H : Heap) (locs : List Loc) (ls : Array Slot), Rel σ τ → lw_I D aC s.heap.size σ τ s.heap H locs → lv_has ls 4 [(0, .ref b), (1, .ref (s.heap.size + 0)), (2, .ref (s.heap.size + 135 + 0)), (3, .int (nI i))] → W p l e room_1 s m args below meth c H locs cells slots Q (F0 m 1016 ls []))
    (hR : Rel σ τ) (hI : lw_I D aC s.heap.size σ τ s.heap H locs) (hl : lv_has ls 4 [(0, .ref b), (1, .ref (s.heap.size + 0)), (2, .ref (s.heap.size + 135 + 0)), (3, .int (nI i))]) : W p l e room_1 s m args below meth c H locs cells slots Q (F0 m 808 ls []) := by
  have hx := hX.1.1
  have hb := hX.1.2.1
  refine lv_aload_n hx hb dL_law_808 rfl (lv_at hl 1 rfl) ?_
  refine lv_aload_n hx hb dL_law_809 rfl (lv_at hl 0 rfl) ?_
  refine lv_iload_n hx hb dL_law_810 rfl (lv_at hl 3 rfl) ?_
  refine lv_iconst (v := 1) hx hb dL_law_811 (by decide) ?_
  refine lv_iadd hx hb dL_law_812 ?_
  refine lw_sld hX hS hbl hI.2.1 hi1 dL_law_813 ?_
  obtain ⟨r, eC, eM, hR⟩ := op_has hR (xs (Int32.toNatClampNeg (nI i + 1)))
  refine va_forget hI.2.2.1 ?_
  refine s_callV1 (n0 := s.heap.size) (sh := shC) (ci := 7) (q := 0) hX (lw_VC hI) hl.1 (c_X7_has (n0 := s.heap.size) rfl eC) cv_X7_has lk_568 ⟨rfl, rfl, Nat.le_of_ble_eq_true rfl, Nat.le_of_ble_eq_true rfl⟩ rfl (by decide) rfl rfl rfl (Nat.le_of_ble_eq_true rfl) dL_law_814 hcs (fun H1 locs1 hV1 => ?_)
  have hI := lw_afterC hI hV1
  clear hV1
  refine lv_aload_n hx hb dL_law_817 rfl (lv_at hl 2 rfl) ?_
  refine lv_aload_n hx hb dL_law_818 rfl (lv_at hl 0 rfl) ?_
  refine lv_iload_n hx hb dL_law_819 rfl (lv_at hl 3 rfl) ?_
  refine lv_iconst (v := 1) hx hb dL_law_820 (by decide) ?_
  refine lv_iadd hx hb dL_law_821 ?_
  refine lw_sld hX hS hbl hI.2.1 hi1 dL_law_822 ?_
  refine va_forget hI.2.2.1 ?_
  refine s_callV1 (n0 := (s.heap.size + 135)) (sh := shM) (ci := 8) (q := 0) hX (lw_VM hI) hl.1 (c_X8_has (n0 := (s.heap.size + 135)) rfl eM) cv_X8_has lk_938 ⟨rfl, rfl, Nat.le_of_ble_eq_true rfl, Nat.le_of_ble_eq_true rfl⟩ rfl (by decide) rfl rfl rfl (Nat.le_of_ble_eq_true rfl) dL_law_823 hcs (fun H1 locs1 hV1 => ?_)
  have hI := lw_afterM hI hV1
  clear hV1
  refine lv_icmp_eq (tgt := 1016) hx hb dL_law_826 (by decide) (fun _ => ?_) (fun z => absurd rfl z)
  exact hrec _ _ _ _ _ hR hI hl
set_option maxHeartbeats 4000000 in
set_option maxRecDepth 100000 in
theorem lw_case_24 {p : Program} {l : Launch} {e : Env} {s : State} {m : MethodId} {args : Array Value} {below : List Frame} {meth : Method} {c : Code} {D : va_G} {aC : Nat → ClassId} {cells slots b L i : Nat} {xs : Nat → Int32} {Q : State → Prop} {σ τ : St} {H : Heap} {locs : List Loc} {ls : Array Slot} (hX : sr_X p s m args meth c code 4 ret RL D aC) (hS : va_X b L xs s s.heap) (hbl : b < s.heap.size) (hcs : cells ≤ room_1.cells ∧ slots ≤ room_1.slots) (hi1 : vp_in (nI i + 1) L) (hi2 : vp_in (nI i + 2) L) (hi3 : vp_in (nI i + 3) L) (hi4 : vp_in (nI i + 4) L)
    (hrec : ∀ (σ τ : St) (H : Heap) (locs : List Loc) (ls : Array Slot), Rel σ τ → lw_I D aC s.heap.size σ τ s.heap H locs → lv_has ls 4 [(0, .ref b), (1, .ref (s.heap.size + 0)), (2, .ref (s.heap.size + 135 + 0)), (3, .int (nI i))] → W p l e room_1 s m args below meth c H locs cells slots Q (F0 m 1016 ls []))
    (hR : Rel σ τ) (hI : lw_I D aC s.heap.size σ τ s.heap H locs) (hl : lv_has ls 4 [(0, .ref b), (1, .ref (s.heap.size + 0)), (2, .ref (s.heap.size + 135 + 0)), (3, .int (nI i))]) : W p l e room_1 s m args below meth c H locs cells slots Q (F0 m 831 ls []) := by
  have hx := hX.1.1
  have hb := hX.1.2.1
  refine lv_aload_n hx hb dL_law_831 rfl (lv_at hl 1 rfl) ?_
  refine lv_aload_n hx hb dL_law_832 rfl (lv_at hl 0 rfl) ?_
  refine lv_iload_n hx hb dL_law_833 rfl (lv_at hl 3 rfl) ?_
  refine lv_iconst (v := 1) hx hb dL_law_834 (by decide) ?_
  refine lv_iadd hx hb dL_law_835 ?_
  refine lw_sld hX hS hbl hI.2.1 hi1 dL_law_836 ?_
  obtain ⟨r, eC, eM, hR⟩ := op_isFrozen hR (xs (Int32.toNatClampNeg (nI i + 1)))
  refine va_forget hI.2.2.1 ?_
  refine s_callV1 (n0 := s.heap.size) (sh := shC) (ci := 7) (q := 0) hX (lw_VC hI) hl.1 (c_X7_isFrozen (n0 := s.heap.size) rfl eC) cv_X7_isFrozen lk_577 ⟨rfl, rfl, Nat.le_of_ble_eq_true rfl, Nat.le_of_ble_eq_true rfl⟩ rfl (by decide) rfl rfl rfl (Nat.le_of_ble_eq_true rfl) dL_law_837 hcs (fun H1 locs1 hV1 => ?_)
  have hI := lw_afterC hI hV1
  clear hV1
  refine lv_aload_n hx hb dL_law_840 rfl (lv_at hl 2 rfl) ?_
  refine lv_aload_n hx hb dL_law_841 rfl (lv_at hl 0 rfl) ?_
  refine lv_iload_n hx hb dL_law_842 rfl (lv_at hl 3 rfl) ?_
  refine lv_iconst (v := 1) hx hb dL_law_843 (by decide) ?_
  refine lv_iadd hx hb dL_law_844 ?_
  refine lw_sld hX hS hbl hI.2.1 hi1 dL_law_845 ?_
  refine va_forget hI.2.2.1 ?_
  refine s_callV1 (n0 := (s.heap.size + 135)) (sh := shM) (ci := 8) (q := 0) hX (lw_VM hI) hl.1 (c_X8_isFrozen (n0 := (s.heap.size + 135)) rfl eM) cv_X8_isFrozen lk_946 ⟨rfl, rfl, Nat.le_of_ble_eq_true rfl, Nat.le_of_ble_eq_true rfl⟩ rfl (by decide) rfl rfl rfl (Nat.le_of_ble_eq_true rfl) dL_law_846 hcs (fun H1 locs1 hV1 => ?_)
  have hI := lw_afterM hI hV1
  clear hV1
  refine lv_icmp_eq (tgt := 1016) hx hb dL_law_849 (by decide) (fun _ => ?_) (fun z => absurd rfl z)
  exact hrec _ _ _ _ _ hR hI hl
set_option maxHeartbeats 4000000 in
set_option maxRecDepth 100000 in
theorem lw_case_25 {p : Program} {l : Launch} {e : Env} {s : State} {m : MethodId} {args : Array Value} {below : List Frame} {meth : Method} {c : Code} {D : va_G} {aC : Nat → ClassId} {cells slots b L i : Nat} {xs : Nat → Int32} {Q : State → Prop} {σ τ : St} {H : Heap} {locs : List Loc} {ls : Array Slot} (hX : sr_X p s m args meth c code 4 ret RL D aC) (hS : va_X b L xs s s.heap) (hbl : b < s.heap.size) (hcs : cells ≤ room_1.cells ∧ slots ≤ room_1.slots) (hi1 : vp_in (nI i + 1) L) (hi2 : vp_in (nI i + 2) L) (hi3 : vp_in (nI i + 3) L) (hi4 : vp_in (nI i + 4) L)
    (hrec : ∀ (σ τ : St) (H : Heap) (locs : List Loc) (ls : Array Slot), Rel σ τ → lw_I D aC s.heap.size σ τ s.heap H locs → lv_has ls 4 [(0, .ref b), (1, .ref (s.heap.size + 0)), (2, .ref (s.heap.size + 135 + 0)), (3, .int (nI i))] → W p l e room_1 s m args below meth c H locs cells slots Q (F0 m 1016 ls []))
    (hR : Rel σ τ) (hI : lw_I D aC s.heap.size σ τ s.heap H locs) (hl : lv_has ls 4 [(0, .ref b), (1, .ref (s.heap.size + 0)), (2, .ref (s.heap.size + 135 + 0)), (3, .int (nI i))]) : W p l e room_1 s m args below meth c H locs cells slots Q (F0 m 854 ls []) := by
  have hx := hX.1.1
  have hb := hX.1.2.1
  refine lv_aload_n hx hb dL_law_854 rfl (lv_at hl 1 rfl) ?_
  refine lv_aload_n hx hb dL_law_855 rfl (lv_at hl 0 rfl) ?_
  refine lv_iload_n hx hb dL_law_856 rfl (lv_at hl 3 rfl) ?_
  refine lv_iconst (v := 1) hx hb dL_law_857 (by decide) ?_
  refine lv_iadd hx hb dL_law_858 ?_
  refine lw_sld hX hS hbl hI.2.1 hi1 dL_law_859 ?_
  obtain ⟨r, σ', τ', eC, eM, hR⟩ := op_forecast hR (xs (Int32.toNatClampNeg (nI i + 1)))
  refine va_forget hI.2.2.1 ?_
  refine s_callV1 (n0 := s.heap.size) (sh := shC) (ci := 7) (q := 0) hX (lw_VC hI) hl.1 (c_X7_forecast (n0 := s.heap.size) rfl eC) cv_X7_forecast lk_582 ⟨rfl, rfl, Nat.le_of_ble_eq_true rfl, Nat.le_of_ble_eq_true rfl⟩ rfl (by decide) rfl rfl rfl (Nat.le_of_ble_eq_true rfl) dL_law_860 hcs (fun H1 locs1 hV1 => ?_)
  have hI := lw_afterC hI hV1
  clear hV1
  refine lv_aload_n hx hb dL_law_863 rfl (lv_at hl 2 rfl) ?_
  refine lv_aload_n hx hb dL_law_864 rfl (lv_at hl 0 rfl) ?_
  refine lv_iload_n hx hb dL_law_865 rfl (lv_at hl 3 rfl) ?_
  refine lv_iconst (v := 1) hx hb dL_law_866 (by decide) ?_
  refine lv_iadd hx hb dL_law_867 ?_
  refine lw_sld hX hS hbl hI.2.1 hi1 dL_law_868 ?_
  refine va_forget hI.2.2.1 ?_
  refine s_callV1 (n0 := (s.heap.size + 135)) (sh := shM) (ci := 8) (q := 0) hX (lw_VM hI) hl.1 (c_X8_forecast (n0 := (s.heap.size + 135)) rfl eM) cv_X8_forecast lk_950 ⟨rfl, rfl, Nat.le_of_ble_eq_true rfl, Nat.le_of_ble_eq_true rfl⟩ rfl (by decide) rfl rfl rfl (Nat.le_of_ble_eq_true rfl) dL_law_869 hcs (fun H1 locs1 hV1 => ?_)
  have hI := lw_afterM hI hV1
  clear hV1
  refine lv_icmp_eq (tgt := 1016) hx hb dL_law_872 (by decide) (fun _ => ?_) (fun z => absurd rfl z)
  exact hrec _ _ _ _ _ hR hI hl
set_option maxHeartbeats 4000000 in
set_option maxRecDepth 100000 in
theorem lw_case_26 {p : Program} {l : Launch} {e : Env} {s : State} {m : MethodId} {args : Array Value} {below : List Frame} {meth : Method} {c : Code} {D : va_G} {aC : Nat → ClassId} {cells slots b L i : Nat} {xs : Nat → Int32} {Q : State → Prop} {σ τ : St} {H : Heap} {locs : List Loc} {ls : Array Slot} (hX : sr_X p s m args meth c code 4 ret RL D aC) (hS : va_X b L xs s s.heap) (hbl : b < s.heap.size) (hcs : cells ≤ room_1.cells ∧ slots ≤ room_1.slots) (hi1 : vp_in (nI i + 1) L) (hi2 : vp_in (nI i + 2) L) (hi3 : vp_in (nI i + 3) L) (hi4 : vp_in (nI i + 4) L)
    (hrec : ∀ (σ τ : St) (H : Heap) (locs : List Loc) (ls : Array Slot), Rel σ τ → lw_I D aC s.heap.size σ τ s.heap H locs → lv_has ls 4 [(0, .ref b), (1, .ref (s.heap.size + 0)), (2, .ref (s.heap.size + 135 + 0)), (3, .int (nI i))] → W p l e room_1 s m args below meth c H locs cells slots Q (F0 m 1016 ls []))
    (hR : Rel σ τ) (hI : lw_I D aC s.heap.size σ τ s.heap H locs) (hl : lv_has ls 4 [(0, .ref b), (1, .ref (s.heap.size + 0)), (2, .ref (s.heap.size + 135 + 0)), (3, .int (nI i))]) : W p l e room_1 s m args below meth c H locs cells slots Q (F0 m 877 ls []) := by
  have hx := hX.1.1
  have hb := hX.1.2.1
  refine lv_aload_n hx hb dL_law_877 rfl (lv_at hl 1 rfl) ?_
  obtain ⟨r, eC, eM, hR⟩ := op_entries hR 
  refine va_forget hI.2.2.1 ?_
  refine s_callV1 (n0 := s.heap.size) (sh := shC) (ci := 7) (q := 0) hX (lw_VC hI) hl.1 (c_X7_entries (n0 := s.heap.size) rfl eC) cv_X7_entries lk_615 ⟨rfl, rfl, Nat.le_of_ble_eq_true rfl, Nat.le_of_ble_eq_true rfl⟩ rfl (by decide) rfl rfl rfl (Nat.le_of_ble_eq_true rfl) dL_law_878 hcs (fun H1 locs1 hV1 => ?_)
  have hI := lw_afterC hI hV1
  clear hV1
  refine lv_aload_n hx hb dL_law_881 rfl (lv_at hl 2 rfl) ?_
  refine va_forget hI.2.2.1 ?_
  refine s_callV1 (n0 := (s.heap.size + 135)) (sh := shM) (ci := 8) (q := 0) hX (lw_VM hI) hl.1 (c_X8_entries (n0 := (s.heap.size + 135)) rfl eM) cv_X8_entries lk_958 ⟨rfl, rfl, Nat.le_of_ble_eq_true rfl, Nat.le_of_ble_eq_true rfl⟩ rfl (by decide) rfl rfl rfl (Nat.le_of_ble_eq_true rfl) dL_law_882 hcs (fun H1 locs1 hV1 => ?_)
  have hI := lw_afterM hI hV1
  clear hV1
  refine lv_icmp_eq (tgt := 1016) hx hb dL_law_885 (by decide) (fun _ => ?_) (fun z => absurd rfl z)
  exact hrec _ _ _ _ _ hR hI hl
set_option maxHeartbeats 4000000 in
set_option maxRecDepth 100000 in
theorem lw_case_27 {p : Program} {l : Launch} {e : Env} {s : State} {m : MethodId} {args : Array Value} {below : List Frame} {meth : Method} {c : Code} {D : va_G} {aC : Nat → ClassId} {cells slots b L i : Nat} {xs : Nat → Int32} {Q : State → Prop} {σ τ : St} {H : Heap} {locs : List Loc} {ls : Array Slot} (hX : sr_X p s m args meth c code 4 ret RL D aC) (hS : va_X b L xs s s.heap) (hbl : b < s.heap.size) (hcs : cells ≤ room_1.cells ∧ slots ≤ room_1.slots) (hi1 : vp_in (nI i + 1) L) (hi2 : vp_in (nI i + 2) L) (hi3 : vp_in (nI i + 3) L) (hi4 : vp_in (nI i + 4) L)
    (hrec : ∀ (σ τ : St) (H : Heap) (locs : List Loc) (ls : Array Slot), Rel σ τ → lw_I D aC s.heap.size σ τ s.heap H locs → lv_has ls 4 [(0, .ref b), (1, .ref (s.heap.size + 0)), (2, .ref (s.heap.size + 135 + 0)), (3, .int (nI i))] → W p l e room_1 s m args below meth c H locs cells slots Q (F0 m 1016 ls []))
    (hR : Rel σ τ) (hI : lw_I D aC s.heap.size σ τ s.heap H locs) (hl : lv_has ls 4 [(0, .ref b), (1, .ref (s.heap.size + 0)), (2, .ref (s.heap.size + 135 + 0)), (3, .int (nI i))]) : W p l e room_1 s m args below meth c H locs cells slots Q (F0 m 890 ls []) := by
  have hx := hX.1.1
  have hb := hX.1.2.1
  refine lv_aload_n hx hb dL_law_890 rfl (lv_at hl 1 rfl) ?_
  refine lv_aload_n hx hb dL_law_891 rfl (lv_at hl 0 rfl) ?_
  refine lv_iload_n hx hb dL_law_892 rfl (lv_at hl 3 rfl) ?_
  refine lv_iconst (v := 1) hx hb dL_law_893 (by decide) ?_
  refine lv_iadd hx hb dL_law_894 ?_
  refine lw_sld hX hS hbl hI.2.1 hi1 dL_law_895 ?_
  refine lv_aload_n hx hb dL_law_896 rfl (lv_at hl 0 rfl) ?_
  refine lv_iload_n hx hb dL_law_897 rfl (lv_at hl 3 rfl) ?_
  refine lv_iconst (v := 2) hx hb dL_law_898 (by decide) ?_
  refine lv_iadd hx hb dL_law_899 ?_
  refine lw_sld hX hS hbl hI.2.1 hi2 dL_law_900 ?_
  obtain ⟨r, eC, eM, hR⟩ := op_entry hR (xs (Int32.toNatClampNeg (nI i + 1))) (xs (Int32.toNatClampNeg (nI i + 2)))
  refine va_forget hI.2.2.1 ?_
  refine s_callV1 (n0 := s.heap.size) (sh := shC) (ci := 7) (q := 0) hX (lw_VC hI) hl.1 (c_X7_entry (n0 := s.heap.size) rfl eC) cv_X7_entry lk_619 ⟨rfl, rfl, Nat.le_of_ble_eq_true rfl, Nat.le_of_ble_eq_true rfl⟩ rfl (by decide) rfl rfl rfl (Nat.le_of_ble_eq_true rfl) dL_law_901 hcs (fun H1 locs1 hV1 => ?_)
  have hI := lw_afterC hI hV1
  clear hV1
  refine lv_aload_n hx hb dL_law_904 rfl (lv_at hl 2 rfl) ?_
  refine lv_aload_n hx hb dL_law_905 rfl (lv_at hl 0 rfl) ?_
  refine lv_iload_n hx hb dL_law_906 rfl (lv_at hl 3 rfl) ?_
  refine lv_iconst (v := 1) hx hb dL_law_907 (by decide) ?_
  refine lv_iadd hx hb dL_law_908 ?_
  refine lw_sld hX hS hbl hI.2.1 hi1 dL_law_909 ?_
  refine lv_aload_n hx hb dL_law_910 rfl (lv_at hl 0 rfl) ?_
  refine lv_iload_n hx hb dL_law_911 rfl (lv_at hl 3 rfl) ?_
  refine lv_iconst (v := 2) hx hb dL_law_912 (by decide) ?_
  refine lv_iadd hx hb dL_law_913 ?_
  refine lw_sld hX hS hbl hI.2.1 hi2 dL_law_914 ?_
  refine va_forget hI.2.2.1 ?_
  refine s_callV1 (n0 := (s.heap.size + 135)) (sh := shM) (ci := 8) (q := 0) hX (lw_VM hI) hl.1 (c_X8_entry (n0 := (s.heap.size + 135)) rfl eM) cv_X8_entry lk_962 ⟨rfl, rfl, Nat.le_of_ble_eq_true rfl, Nat.le_of_ble_eq_true rfl⟩ rfl (by decide) rfl rfl rfl (Nat.le_of_ble_eq_true rfl) dL_law_915 hcs (fun H1 locs1 hV1 => ?_)
  have hI := lw_afterM hI hV1
  clear hV1
  refine lv_icmp_eq (tgt := 1016) hx hb dL_law_918 (by decide) (fun _ => ?_) (fun z => absurd rfl z)
  exact hrec _ _ _ _ _ hR hI hl
set_option maxHeartbeats 4000000 in
set_option maxRecDepth 100000 in
theorem lw_case_28 {p : Program} {l : Launch} {e : Env} {s : State} {m : MethodId} {args : Array Value} {below : List Frame} {meth : Method} {c : Code} {D : va_G} {aC : Nat → ClassId} {cells slots b L i : Nat} {xs : Nat → Int32} {Q : State → Prop} {σ τ : St} {H : Heap} {locs : List Loc} {ls : Array Slot} (hX : sr_X p s m args meth c code 4 ret RL D aC) (hS : va_X b L xs s s.heap) (hbl : b < s.heap.size) (hcs : cells ≤ room_1.cells ∧ slots ≤ room_1.slots) (hi1 : vp_in (nI i + 1) L) (hi2 : vp_in (nI i + 2) L) (hi3 : vp_in (nI i + 3) L) (hi4 : vp_in (nI i + 4) L)
    (hrec : ∀ (σ τ : St) (H : Heap) (locs : List Loc) (ls : Array Slot), Rel σ τ → lw_I D aC s.heap.size σ τ s.heap H locs → lv_has ls 4 [(0, .ref b), (1, .ref (s.heap.size + 0)), (2, .ref (s.heap.size + 135 + 0)), (3, .int (nI i))] → W p l e room_1 s m args below meth c H locs cells slots Q (F0 m 1016 ls []))
    (hR : Rel σ τ) (hI : lw_I D aC s.heap.size σ τ s.heap H locs) (hl : lv_has ls 4 [(0, .ref b), (1, .ref (s.heap.size + 0)), (2, .ref (s.heap.size + 135 + 0)), (3, .int (nI i))]) : W p l e room_1 s m args below meth c H locs cells slots Q (F0 m 923 ls []) := by
  have hx := hX.1.1
  have hb := hX.1.2.1
  refine lv_aload_n hx hb dL_law_923 rfl (lv_at hl 1 rfl) ?_
  refine lv_aload_n hx hb dL_law_924 rfl (lv_at hl 0 rfl) ?_
  refine lv_iload_n hx hb dL_law_925 rfl (lv_at hl 3 rfl) ?_
  refine lv_iconst (v := 1) hx hb dL_law_926 (by decide) ?_
  refine lv_iadd hx hb dL_law_927 ?_
  refine lw_sld hX hS hbl hI.2.1 hi1 dL_law_928 ?_
  refine lv_aload_n hx hb dL_law_929 rfl (lv_at hl 0 rfl) ?_
  refine lv_iload_n hx hb dL_law_930 rfl (lv_at hl 3 rfl) ?_
  refine lv_iconst (v := 2) hx hb dL_law_931 (by decide) ?_
  refine lv_iadd hx hb dL_law_932 ?_
  refine lw_sld hX hS hbl hI.2.1 hi2 dL_law_933 ?_
  obtain ⟨r, eC, eM, hR⟩ := op_count hR (xs (Int32.toNatClampNeg (nI i + 1))) (xs (Int32.toNatClampNeg (nI i + 2)))
  refine va_forget hI.2.2.1 ?_
  refine s_callV1 (n0 := s.heap.size) (sh := shC) (ci := 7) (q := 0) hX (lw_VC hI) hl.1 (c_X7_count (n0 := s.heap.size) rfl eC) cv_X7_count lk_627 ⟨rfl, rfl, Nat.le_of_ble_eq_true rfl, Nat.le_of_ble_eq_true rfl⟩ rfl (by decide) rfl rfl rfl (Nat.le_of_ble_eq_true rfl) dL_law_934 hcs (fun H1 locs1 hV1 => ?_)
  have hI := lw_afterC hI hV1
  clear hV1
  refine lv_aload_n hx hb dL_law_937 rfl (lv_at hl 2 rfl) ?_
  refine lv_aload_n hx hb dL_law_938 rfl (lv_at hl 0 rfl) ?_
  refine lv_iload_n hx hb dL_law_939 rfl (lv_at hl 3 rfl) ?_
  refine lv_iconst (v := 1) hx hb dL_law_940 (by decide) ?_
  refine lv_iadd hx hb dL_law_941 ?_
  refine lw_sld hX hS hbl hI.2.1 hi1 dL_law_942 ?_
  refine lv_aload_n hx hb dL_law_943 rfl (lv_at hl 0 rfl) ?_
  refine lv_iload_n hx hb dL_law_944 rfl (lv_at hl 3 rfl) ?_
  refine lv_iconst (v := 2) hx hb dL_law_945 (by decide) ?_
  refine lv_iadd hx hb dL_law_946 ?_
  refine lw_sld hX hS hbl hI.2.1 hi2 dL_law_947 ?_
  refine va_forget hI.2.2.1 ?_
  refine s_callV1 (n0 := (s.heap.size + 135)) (sh := shM) (ci := 8) (q := 0) hX (lw_VM hI) hl.1 (c_X8_count (n0 := (s.heap.size + 135)) rfl eM) cv_X8_count lk_966 ⟨rfl, rfl, Nat.le_of_ble_eq_true rfl, Nat.le_of_ble_eq_true rfl⟩ rfl (by decide) rfl rfl rfl (Nat.le_of_ble_eq_true rfl) dL_law_948 hcs (fun H1 locs1 hV1 => ?_)
  have hI := lw_afterM hI hV1
  clear hV1
  refine lv_icmp_eq (tgt := 1016) hx hb dL_law_951 (by decide) (fun _ => ?_) (fun z => absurd rfl z)
  exact hrec _ _ _ _ _ hR hI hl
set_option maxHeartbeats 4000000 in
set_option maxRecDepth 100000 in
theorem lw_case_29 {p : Program} {l : Launch} {e : Env} {s : State} {m : MethodId} {args : Array Value} {below : List Frame} {meth : Method} {c : Code} {D : va_G} {aC : Nat → ClassId} {cells slots b L i : Nat} {xs : Nat → Int32} {Q : State → Prop} {σ τ : St} {H : Heap} {locs : List Loc} {ls : Array Slot} (hX : sr_X p s m args meth c code 4 ret RL D aC) (hS : va_X b L xs s s.heap) (hbl : b < s.heap.size) (hcs : cells ≤ room_1.cells ∧ slots ≤ room_1.slots) (hi1 : vp_in (nI i + 1) L) (hi2 : vp_in (nI i + 2) L) (hi3 : vp_in (nI i + 3) L) (hi4 : vp_in (nI i + 4) L)
    (hrec : ∀ (σ τ : St) (H : Heap) (locs : List Loc) (ls : Array Slot), Rel σ τ → lw_I D aC s.heap.size σ τ s.heap H locs → lv_has ls 4 [(0, .ref b), (1, .ref (s.heap.size + 0)), (2, .ref (s.heap.size + 135 + 0)), (3, .int (nI i))] → W p l e room_1 s m args below meth c H locs cells slots Q (F0 m 1016 ls []))
    (hR : Rel σ τ) (hI : lw_I D aC s.heap.size σ τ s.heap H locs) (hl : lv_has ls 4 [(0, .ref b), (1, .ref (s.heap.size + 0)), (2, .ref (s.heap.size + 135 + 0)), (3, .int (nI i))]) : W p l e room_1 s m args below meth c H locs cells slots Q (F0 m 956 ls []) := by
  have hx := hX.1.1
  have hb := hX.1.2.1
  refine lv_aload_n hx hb dL_law_956 rfl (lv_at hl 1 rfl) ?_
  refine lv_aload_n hx hb dL_law_957 rfl (lv_at hl 0 rfl) ?_
  refine lv_iload_n hx hb dL_law_958 rfl (lv_at hl 3 rfl) ?_
  refine lv_iconst (v := 1) hx hb dL_law_959 (by decide) ?_
  refine lv_iadd hx hb dL_law_960 ?_
  refine lw_sld hX hS hbl hI.2.1 hi1 dL_law_961 ?_
  obtain ⟨r, σ', τ', eC, eM, hR⟩ := op_save hR (xs (Int32.toNatClampNeg (nI i + 1)))
  refine va_forget hI.2.2.1 ?_
  refine s_callV1 (n0 := s.heap.size) (sh := shC) (ci := 7) (q := 0) hX (lw_VC hI) hl.1 (c_X7_save (n0 := s.heap.size) rfl eC) cv_X7_save lk_636 ⟨rfl, rfl, Nat.le_of_ble_eq_true rfl, Nat.le_of_ble_eq_true rfl⟩ rfl (by decide) rfl rfl rfl (Nat.le_of_ble_eq_true rfl) dL_law_962 hcs (fun H1 locs1 hV1 => ?_)
  have hI := lw_afterC hI hV1
  clear hV1
  refine lv_aload_n hx hb dL_law_965 rfl (lv_at hl 2 rfl) ?_
  refine lv_aload_n hx hb dL_law_966 rfl (lv_at hl 0 rfl) ?_
  refine lv_iload_n hx hb dL_law_967 rfl (lv_at hl 3 rfl) ?_
  refine lv_iconst (v := 1) hx hb dL_law_968 (by decide) ?_
  refine lv_iadd hx hb dL_law_969 ?_
  refine lw_sld hX hS hbl hI.2.1 hi1 dL_law_970 ?_
  refine va_forget hI.2.2.1 ?_
  refine s_callV1 (n0 := (s.heap.size + 135)) (sh := shM) (ci := 8) (q := 0) hX (lw_VM hI) hl.1 (c_X8_save (n0 := (s.heap.size + 135)) rfl eM) cv_X8_save lk_970 ⟨rfl, rfl, Nat.le_of_ble_eq_true rfl, Nat.le_of_ble_eq_true rfl⟩ rfl (by decide) rfl rfl rfl (Nat.le_of_ble_eq_true rfl) dL_law_971 hcs (fun H1 locs1 hV1 => ?_)
  have hI := lw_afterM hI hV1
  clear hV1
  refine lv_icmp_eq (tgt := 1016) hx hb dL_law_974 (by decide) (fun _ => ?_) (fun z => absurd rfl z)
  exact hrec _ _ _ _ _ hR hI hl
set_option maxHeartbeats 4000000 in
set_option maxRecDepth 100000 in
theorem lw_case_30 {p : Program} {l : Launch} {e : Env} {s : State} {m : MethodId} {args : Array Value} {below : List Frame} {meth : Method} {c : Code} {D : va_G} {aC : Nat → ClassId} {cells slots b L i : Nat} {xs : Nat → Int32} {Q : State → Prop} {σ τ : St} {H : Heap} {locs : List Loc} {ls : Array Slot} (hX : sr_X p s m args meth c code 4 ret RL D aC) (hS : va_X b L xs s s.heap) (hbl : b < s.heap.size) (hcs : cells ≤ room_1.cells ∧ slots ≤ room_1.slots) (hi1 : vp_in (nI i + 1) L) (hi2 : vp_in (nI i + 2) L) (hi3 : vp_in (nI i + 3) L) (hi4 : vp_in (nI i + 4) L)
    (hrec : ∀ (σ τ : St) (H : Heap) (locs : List Loc) (ls : Array Slot), Rel σ τ → lw_I D aC s.heap.size σ τ s.heap H locs → lv_has ls 4 [(0, .ref b), (1, .ref (s.heap.size + 0)), (2, .ref (s.heap.size + 135 + 0)), (3, .int (nI i))] → W p l e room_1 s m args below meth c H locs cells slots Q (F0 m 1016 ls []))
    (hR : Rel σ τ) (hI : lw_I D aC s.heap.size σ τ s.heap H locs) (hl : lv_has ls 4 [(0, .ref b), (1, .ref (s.heap.size + 0)), (2, .ref (s.heap.size + 135 + 0)), (3, .int (nI i))]) : W p l e room_1 s m args below meth c H locs cells slots Q (F0 m 979 ls []) := by
  have hx := hX.1.1
  have hb := hX.1.2.1
  refine lv_aload_n hx hb dL_law_979 rfl (lv_at hl 1 rfl) ?_
  refine lv_aload_n hx hb dL_law_980 rfl (lv_at hl 0 rfl) ?_
  refine lv_iload_n hx hb dL_law_981 rfl (lv_at hl 3 rfl) ?_
  refine lv_iconst (v := 1) hx hb dL_law_982 (by decide) ?_
  refine lv_iadd hx hb dL_law_983 ?_
  refine lw_sld hX hS hbl hI.2.1 hi1 dL_law_984 ?_
  obtain ⟨r, σ', τ', eC, eM, hR⟩ := op_restore hR (xs (Int32.toNatClampNeg (nI i + 1)))
  refine va_forget hI.2.2.1 ?_
  refine s_callV1 (n0 := s.heap.size) (sh := shC) (ci := 7) (q := 0) hX (lw_VC hI) hl.1 (c_X7_restore (n0 := s.heap.size) rfl eC) cv_X7_restore lk_640 ⟨rfl, rfl, Nat.le_of_ble_eq_true rfl, Nat.le_of_ble_eq_true rfl⟩ rfl (by decide) rfl rfl rfl (Nat.le_of_ble_eq_true rfl) dL_law_985 hcs (fun H1 locs1 hV1 => ?_)
  have hI := lw_afterC hI hV1
  clear hV1
  refine lv_aload_n hx hb dL_law_988 rfl (lv_at hl 2 rfl) ?_
  refine lv_aload_n hx hb dL_law_989 rfl (lv_at hl 0 rfl) ?_
  refine lv_iload_n hx hb dL_law_990 rfl (lv_at hl 3 rfl) ?_
  refine lv_iconst (v := 1) hx hb dL_law_991 (by decide) ?_
  refine lv_iadd hx hb dL_law_992 ?_
  refine lw_sld hX hS hbl hI.2.1 hi1 dL_law_993 ?_
  refine va_forget hI.2.2.1 ?_
  refine s_callV1 (n0 := (s.heap.size + 135)) (sh := shM) (ci := 8) (q := 0) hX (lw_VM hI) hl.1 (c_X8_restore (n0 := (s.heap.size + 135)) rfl eM) cv_X8_restore lk_974 ⟨rfl, rfl, Nat.le_of_ble_eq_true rfl, Nat.le_of_ble_eq_true rfl⟩ rfl (by decide) rfl rfl rfl (Nat.le_of_ble_eq_true rfl) dL_law_994 hcs (fun H1 locs1 hV1 => ?_)
  have hI := lw_afterM hI hV1
  clear hV1
  refine lv_icmp_eq (tgt := 1016) hx hb dL_law_997 (by decide) (fun _ => ?_) (fun z => absurd rfl z)
  exact hrec _ _ _ _ _ hR hI hl
set_option maxHeartbeats 4000000 in
set_option maxRecDepth 100000 in
theorem lw_case_31 {p : Program} {l : Launch} {e : Env} {s : State} {m : MethodId} {args : Array Value} {below : List Frame} {meth : Method} {c : Code} {D : va_G} {aC : Nat → ClassId} {cells slots b L i : Nat} {xs : Nat → Int32} {Q : State → Prop} {σ τ : St} {H : Heap} {locs : List Loc} {ls : Array Slot} (hX : sr_X p s m args meth c code 4 ret RL D aC) (hS : va_X b L xs s s.heap) (hbl : b < s.heap.size) (hcs : cells ≤ room_1.cells ∧ slots ≤ room_1.slots) (hi1 : vp_in (nI i + 1) L) (hi2 : vp_in (nI i + 2) L) (hi3 : vp_in (nI i + 3) L) (hi4 : vp_in (nI i + 4) L)
    (hrec : ∀ (σ τ : St) (H : Heap) (locs : List Loc) (ls : Array Slot), Rel σ τ → lw_I D aC s.heap.size σ τ s.heap H locs → lv_has ls 4 [(0, .ref b), (1, .ref (s.heap.size + 0)), (2, .ref (s.heap.size + 135 + 0)), (3, .int (nI i))] → W p l e room_1 s m args below meth c H locs cells slots Q (F0 m 1016 ls []))
    (hR : Rel σ τ) (hI : lw_I D aC s.heap.size σ τ s.heap H locs) (hl : lv_has ls 4 [(0, .ref b), (1, .ref (s.heap.size + 0)), (2, .ref (s.heap.size + 135 + 0)), (3, .int (nI i))]) : W p l e room_1 s m args below meth c H locs cells slots Q (F0 m 1002 ls []) := by
  have hx := hX.1.1
  have hb := hX.1.2.1
  refine lv_aload_n hx hb dL_law_1002 rfl (lv_at hl 1 rfl) ?_
  obtain ⟨r, τ', eC, eM, hR⟩ := op_checksum hR 
  refine va_forget hI.2.2.1 ?_
  refine s_callV1 (n0 := s.heap.size) (sh := shC) (ci := 7) (q := 0) hX (lw_VC hI) hl.1 (c_X7_checksum (n0 := s.heap.size) rfl eC) cv_X7_checksum lk_644 ⟨rfl, rfl, Nat.le_of_ble_eq_true rfl, Nat.le_of_ble_eq_true rfl⟩ rfl (by decide) rfl rfl rfl (Nat.le_of_ble_eq_true rfl) dL_law_1003 hcs (fun H1 locs1 hV1 => ?_)
  have hI := lw_afterC hI hV1
  clear hV1
  refine lv_aload_n hx hb dL_law_1006 rfl (lv_at hl 2 rfl) ?_
  refine va_forget hI.2.2.1 ?_
  refine s_callV1 (n0 := (s.heap.size + 135)) (sh := shM) (ci := 8) (q := 0) hX (lw_VM hI) hl.1 (c_X8_checksum (n0 := (s.heap.size + 135)) rfl eM) cv_X8_checksum lk_978 ⟨rfl, rfl, Nat.le_of_ble_eq_true rfl, Nat.le_of_ble_eq_true rfl⟩ rfl (by decide) rfl rfl rfl (Nat.le_of_ble_eq_true rfl) dL_law_1007 hcs (fun H1 locs1 hV1 => ?_)
  have hI := lw_afterM hI hV1
  clear hV1
  refine W.lcmp hx hb dL_law_1010 ?_
  refine lv_if_eq (tgt := 1016) hx hb dL_law_1011 (by decide) (fun _ => ?_) (fun z => absurd (lw_cmp r) z)
  exact hrec _ _ _ _ _ hR hI hl
set_option maxHeartbeats 4000000 in
set_option maxRecDepth 100000 in
theorem lw_switch {p : Program} {l : Launch} {e : Env} {s : State} {m : MethodId} {args : Array Value} {below : List Frame} {meth : Method} {c : Code} {D : va_G} {aC : Nat → ClassId} {cells slots b L i : Nat} {xs : Nat → Int32} {Q : State → Prop} {σ τ : St} {H : Heap} {locs : List Loc} {ls : Array Slot} (hX : sr_X p s m args meth c code 4 ret RL D aC) (hS : va_X b L xs s s.heap) (hbl : b < s.heap.size) (hcs : cells ≤ room_1.cells ∧ slots ≤ room_1.slots) (hi1 : vp_in (nI i + 1) L) (hi2 : vp_in (nI i + 2) L) (hi3 : vp_in (nI i + 3) L) (hi4 : vp_in (nI i + 4) L)
    (hrec : ∀ (σ τ : St) (H : Heap) (locs : List Loc) (ls : Array Slot), Rel σ τ → lw_I D aC s.heap.size σ τ s.heap H locs → lv_has ls 4 [(0, .ref b), (1, .ref (s.heap.size + 0)), (2, .ref (s.heap.size + 135 + 0)), (3, .int (nI i))] → W p l e room_1 s m args below meth c H locs cells slots Q (F0 m 1016 ls []))
    (hR : Rel σ τ) (hI : lw_I D aC s.heap.size σ τ s.heap H locs) (hl : lv_has ls 4 [(0, .ref b), (1, .ref (s.heap.size + 0)), (2, .ref (s.heap.size + 135 + 0)), (3, .int (nI i))]) (x : Int32) : W p l e room_1 s m args below meth c H locs cells slots Q (F0 m 32 ls [.int (x &&& 31)]) := by
  have hx := hX.1.1
  have hb := hX.1.2.1
  obtain ⟨j, hj, ej⟩ := pk_andE x (m := 31) 5 (by decide)
  rw [ej]
  have hj2 : j = 0 ∨ j = 1 ∨ j = 2 ∨ j = 3 ∨ j = 4 ∨ j = 5 ∨ j = 6 ∨ j = 7 ∨ j = 8 ∨ j = 9 ∨ j = 10 ∨ j = 11 ∨ j = 12 ∨ j = 13 ∨ j = 14 ∨ j = 15 ∨ j = 16 ∨ j = 17 ∨ j = 18 ∨ j = 19 ∨ j = 20 ∨ j = 21 ∨ j = 22 ∨ j = 23 ∨ j = 24 ∨ j = 25 ∨ j = 26 ∨ j = 27 ∨ j = 28 ∨ j = 29 ∨ j = 30 ∨ j = 31 := by omega
  rcases hj2 with rfl | rfl | rfl | rfl | rfl | rfl | rfl | rfl | rfl | rfl | rfl | rfl | rfl | rfl | rfl | rfl | rfl | rfl | rfl | rfl | rfl | rfl | rfl | rfl | rfl | rfl | rfl | rfl | rfl | rfl | rfl | rfl
  · refine s_tabIn (k := 0) rfl (tgt := 176) (off := 144) hx hb dL_law_32 (by decide) (by decide) (by decide) (by decide) ?_
    exact lw_case_0 hX hS hbl hcs hi1 hi2 hi3 hi4 hrec hR hI hl
  · refine s_tabIn (k := 1) rfl (tgt := 199) (off := 167) hx hb dL_law_32 (by decide) (by decide) (by decide) (by decide) ?_
    exact lw_case_1 hX hS hbl hcs hi1 hi2 hi3 hi4 hrec hR hI hl
  · refine s_tabIn (k := 2) rfl (tgt := 222) (off := 190) hx hb dL_law_32 (by decide) (by decide) (by decide) (by decide) ?_
    exact lw_case_2 hX hS hbl hcs hi1 hi2 hi3 hi4 hrec hR hI hl
  · refine s_tabIn (k := 3) rfl (tgt := 255) (off := 223) hx hb dL_law_32 (by decide) (by decide) (by decide) (by decide) ?_
    exact lw_case_3 hX hS hbl hcs hi1 hi2 hi3 hi4 hrec hR hI hl
  · refine s_tabIn (k := 4) rfl (tgt := 268) (off := 236) hx hb dL_law_32 (by decide) (by decide) (by decide) (by decide) ?_
    exact lw_case_4 hX hS hbl hcs hi1 hi2 hi3 hi4 hrec hR hI hl
  · refine s_tabIn (k := 5) rfl (tgt := 307) (off := 275) hx hb dL_law_32 (by decide) (by decide) (by decide) (by decide) ?_
    exact lw_case_5 hX hS hbl hcs hi1 hi2 hi3 hi4 hrec hR hI hl
  · refine s_tabIn (k := 6) rfl (tgt := 360) (off := 328) hx hb dL_law_32 (by decide) (by decide) (by decide) (by decide) ?_
    exact lw_case_6 hX hS hbl hcs hi1 hi2 hi3 hi4 hrec hR hI hl
  · refine s_tabIn (k := 7) rfl (tgt := 393) (off := 361) hx hb dL_law_32 (by decide) (by decide) (by decide) (by decide) ?_
    exact lw_case_7 hX hS hbl hcs hi1 hi2 hi3 hi4 hrec hR hI hl
  · refine s_tabIn (k := 8) rfl (tgt := 406) (off := 374) hx hb dL_law_32 (by decide) (by decide) (by decide) (by decide) ?_
    exact lw_case_8 hX hS hbl hcs hi1 hi2 hi3 hi4 hrec hR hI hl
  · refine s_tabIn (k := 9) rfl (tgt := 449) (off := 417) hx hb dL_law_32 (by decide) (by decide) (by decide) (by decide) ?_
    exact lw_case_9 hX hS hbl hcs hi1 hi2 hi3 hi4 hrec hR hI hl
  · refine s_tabIn (k := 10) rfl (tgt := 472) (off := 440) hx hb dL_law_32 (by decide) (by decide) (by decide) (by decide) ?_
    exact lw_case_10 hX hS hbl hcs hi1 hi2 hi3 hi4 hrec hR hI hl
  · refine s_tabIn (k := 11) rfl (tgt := 485) (off := 453) hx hb dL_law_32 (by decide) (by decide) (by decide) (by decide) ?_
    exact lw_case_11 hX hS hbl hcs hi1 hi2 hi3 hi4 hrec hR hI hl
  · refine s_tabIn (k := 12) rfl (tgt := 498) (off := 466) hx hb dL_law_32 (by decide) (by decide) (by decide) (by decide) ?_
    exact lw_case_12 hX hS hbl hcs hi1 hi2 hi3 hi4 hrec hR hI hl
  · refine s_tabIn (k := 13) rfl (tgt := 521) (off := 489) hx hb dL_law_32 (by decide) (by decide) (by decide) (by decide) ?_
    exact lw_case_13 hX hS hbl hcs hi1 hi2 hi3 hi4 hrec hR hI hl
  · refine s_tabIn (k := 14) rfl (tgt := 544) (off := 512) hx hb dL_law_32 (by decide) (by decide) (by decide) (by decide) ?_
    exact lw_case_14 hX hS hbl hcs hi1 hi2 hi3 hi4 hrec hR hI hl
  · refine s_tabIn (k := 15) rfl (tgt := 567) (off := 535) hx hb dL_law_32 (by decide) (by decide) (by decide) (by decide) ?_
    exact lw_case_15 hX hS hbl hcs hi1 hi2 hi3 hi4 hrec hR hI hl
  · refine s_tabIn (k := 16) rfl (tgt := 590) (off := 558) hx hb dL_law_32 (by decide) (by decide) (by decide) (by decide) ?_
    exact lw_case_16 hX hS hbl hcs hi1 hi2 hi3 hi4 hrec hR hI hl
  · refine s_tabIn (k := 17) rfl (tgt := 613) (off := 581) hx hb dL_law_32 (by decide) (by decide) (by decide) (by decide) ?_
    exact lw_case_17 hX hS hbl hcs hi1 hi2 hi3 hi4 hrec hR hI hl
  · refine s_tabIn (k := 18) rfl (tgt := 656) (off := 624) hx hb dL_law_32 (by decide) (by decide) (by decide) (by decide) ?_
    exact lw_case_18 hX hS hbl hcs hi1 hi2 hi3 hi4 hrec hR hI hl
  · refine s_tabIn (k := 19) rfl (tgt := 679) (off := 647) hx hb dL_law_32 (by decide) (by decide) (by decide) (by decide) ?_
    exact lw_case_19 hX hS hbl hcs hi1 hi2 hi3 hi4 hrec hR hI hl
  · refine s_tabIn (k := 20) rfl (tgt := 692) (off := 660) hx hb dL_law_32 (by decide) (by decide) (by decide) (by decide) ?_
    exact lw_case_20 hX hS hbl hcs hi1 hi2 hi3 hi4 hrec hR hI hl
  · refine s_tabIn (k := 21) rfl (tgt := 725) (off := 693) hx hb dL_law_32 (by decide) (by decide) (by decide) (by decide) ?_
    exact lw_case_21 hX hS hbl hcs hi1 hi2 hi3 hi4 hrec hR hI hl
  · refine s_tabIn (k := 22) rfl (tgt := 758) (off := 726) hx hb dL_law_32 (by decide) (by decide) (by decide) (by decide) ?_
    exact lw_case_22 hX hS hbl hcs hi1 hi2 hi3 hi4 hrec hR hI hl
  · refine s_tabIn (k := 23) rfl (tgt := 808) (off := 776) hx hb dL_law_32 (by decide) (by decide) (by decide) (by decide) ?_
    exact lw_case_23 hX hS hbl hcs hi1 hi2 hi3 hi4 hrec hR hI hl
  · refine s_tabIn (k := 24) rfl (tgt := 831) (off := 799) hx hb dL_law_32 (by decide) (by decide) (by decide) (by decide) ?_
    exact lw_case_24 hX hS hbl hcs hi1 hi2 hi3 hi4 hrec hR hI hl
  · refine s_tabIn (k := 25) rfl (tgt := 854) (off := 822) hx hb dL_law_32 (by decide) (by decide) (by decide) (by decide) ?_
    exact lw_case_25 hX hS hbl hcs hi1 hi2 hi3 hi4 hrec hR hI hl
  · refine s_tabIn (k := 26) rfl (tgt := 877) (off := 845) hx hb dL_law_32 (by decide) (by decide) (by decide) (by decide) ?_
    exact lw_case_26 hX hS hbl hcs hi1 hi2 hi3 hi4 hrec hR hI hl
  · refine s_tabIn (k := 27) rfl (tgt := 890) (off := 858) hx hb dL_law_32 (by decide) (by decide) (by decide) (by decide) ?_
    exact lw_case_27 hX hS hbl hcs hi1 hi2 hi3 hi4 hrec hR hI hl
  · refine s_tabIn (k := 28) rfl (tgt := 923) (off := 891) hx hb dL_law_32 (by decide) (by decide) (by decide) (by decide) ?_
    exact lw_case_28 hX hS hbl hcs hi1 hi2 hi3 hi4 hrec hR hI hl
  · refine s_tabIn (k := 29) rfl (tgt := 956) (off := 924) hx hb dL_law_32 (by decide) (by decide) (by decide) (by decide) ?_
    exact lw_case_29 hX hS hbl hcs hi1 hi2 hi3 hi4 hrec hR hI hl
  · refine s_tabIn (k := 30) rfl (tgt := 979) (off := 947) hx hb dL_law_32 (by decide) (by decide) (by decide) (by decide) ?_
    exact lw_case_30 hX hS hbl hcs hi1 hi2 hi3 hi4 hrec hR hI hl
  · refine s_tabIn (k := 31) rfl (tgt := 1002) (off := 970) hx hb dL_law_32 (by decide) (by decide) (by decide) (by decide) ?_
    exact lw_case_31 hX hS hbl hcs hi1 hi2 hi3 hi4 hrec hR hI hl
