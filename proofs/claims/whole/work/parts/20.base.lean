/-! LAYER 2: the functions over the store, side by side. Base rows. -/
theorem gI_sI (σ : St) (k j : Nat) (v : Int32) (k' j' : Nat) : gI (sI σ k j v) k' j' = if k' = k ∧ j' = j then v else gI σ k' j' := by
  unfold gI sI
  by_cases h : k' = k
  · subst h
    simp [upd]
  · simp [h]
theorem gI_s (σ : St) (k j : Nat) (v : Int32) : gI (sI σ k j v) k j = v := by rw [gI_sI, if_pos ⟨rfl, rfl⟩]
theorem gI_n {σ : St} {k j : Nat} {v : Int32} {k' j' : Nat} (h : k' ≠ k ∨ j' ≠ j) : gI (sI σ k j v) k' j' = gI σ k' j' := by
  rw [gI_sI, if_neg]
  intro z
  rcases h with h | h
  · exact h z.1
  · exact h z.2
theorem gI_sL (σ : St) (k j : Nat) (v : Int64) (k' j' : Nat) : gI (sL σ k j v) k' j' = gI σ k' j' := rfl
theorem gI_sB (σ : St) (k j : Nat) (v : Bool) (k' j' : Nat) : gI (sB σ k j v) k' j' = gI σ k' j' := rfl
theorem gL_sI (σ : St) (k j : Nat) (v : Int32) (k' j' : Nat) : gL (sI σ k j v) k' j' = gL σ k' j' := rfl
theorem gL_sB (σ : St) (k j : Nat) (v : Bool) (k' j' : Nat) : gL (sB σ k j v) k' j' = gL σ k' j' := rfl
theorem gB_sI (σ : St) (k j : Nat) (v : Int32) (k' j' : Nat) : gB (sI σ k j v) k' j' = gB σ k' j' := rfl
theorem gB_sL (σ : St) (k j : Nat) (v : Int64) (k' j' : Nat) : gB (sL σ k j v) k' j' = gB σ k' j' := rfl
theorem gL_sL (σ : St) (k j : Nat) (v : Int64) (k' j' : Nat) : gL (sL σ k j v) k' j' = if k' = k ∧ j' = j then v else gL σ k' j' := by
  unfold gL sL
  by_cases h : k' = k
  · subst h
    simp [vp_updL]
  · simp [h]
theorem gB_sB (σ : St) (k j : Nat) (v : Bool) (k' j' : Nat) : gB (sB σ k j v) k' j' = if k' = k ∧ j' = j then v else gB σ k' j' := by
  unfold gB sB
  by_cases h : k' = k
  · subst h
    simp
  · simp [h]
/-- rows of a store -/
theorem rI_s (σ : St) (k j : Nat) (v : Int32) : (sI σ k j v).1 k = upd (σ.1 k) j v := by simp [sI]
theorem rI_n {σ : St} {k j : Nat} {v : Int32} {q : Nat} (h : q ≠ k) : (sI σ k j v).1 q = σ.1 q := by simp [sI, h]
theorem rL_s (σ : St) (k j : Nat) (v : Int64) : (sL σ k j v).2.1 k = vp_updL (σ.2.1 k) j v := by simp [sL]
theorem rL_n {σ : St} {k j : Nat} {v : Int64} {q : Nat} (h : q ≠ k) : (sL σ k j v).2.1 q = σ.2.1 q := by simp [sL, h]
theorem rB_s (σ : St) (k j : Nat) (v : Bool) : (sB σ k j v).2.2 k = (fun b => if b = j then v else σ.2.2 k b) := by simp [sB]
theorem rB_n {σ : St} {k j : Nat} {v : Bool} {q : Nat} (h : q ≠ k) : (sB σ k j v).2.2 q = σ.2.2 q := by simp [sB, h]
theorem rC_s (σ : St) (ks kd n : Nat) : (cpI σ ks kd n).1 kd = va_cpy (σ.1 ks) (σ.1 kd) 0 0 n := by simp [cpI]
theorem rC_n {σ : St} {ks kd n q : Nat} (h : q ≠ kd) : (cpI σ ks kd n).1 q = σ.1 q := by simp [cpI, h]
theorem upd_s (f : Nat → Int32) (k : Nat) (x : Int32) : upd f k x k = x := by simp [upd]
theorem upd_n {f : Nat → Int32} {k j : Nat} {x : Int32} (h : j ≠ k) : upd f k x j = f j := by simp [upd, h]
/-- numbers -/
theorem inb_nI {n N : Nat} (h : n < N) (hN : N ≤ 10000) : inb (nI n) N = true := by
  unfold inb
  rw [nI_clamp (by omega)]
  simp [h, nI_pos' (n := n) (by omega)]
theorem inb_or (x : Int32) {N : Nat} (hN : N ≤ 10000) : (inb x N = true ∧ ∃ n, n < N ∧ x = nI n) ∨ (inb x N = false ∧ (x < 0 ∨ nI N ≤ x)) := by
  rcases pk_ix x (n := N) (by omega) with h | h | ⟨j, hj, rfl⟩
  · right
    refine ⟨?_, Or.inl h⟩
    unfold inb
    simp [Int32.not_le.mpr h]
  · by_cases h0 : x < 0
    · right
      refine ⟨?_, Or.inl h0⟩
      unfold inb
      simp [Int32.not_le.mpr h0]
    · right
      refine ⟨?_, Or.inr h⟩
      obtain ⟨j, hj, rfl⟩ := nI_of h0
      have h2 : N ≤ j := (nI_leI (by omega) hj).mp h
      unfold inb
      rw [nI_clamp hj]
      simp [show ¬ j < N by omega]
  · exact Or.inl ⟨inb_nI hj hN, j, hj, rfl⟩
theorem cl_nI {n : Nat} (h : n < 10000000) : (nI n).toNatClampNeg = n := nI_clamp (by omega)
theorem lt_nI {a b : Nat} (ha : a < 10000000) (hb : b < 10000000) : (nI a < nI b) ↔ a < b := nI_ltI (by omega) (by omega)
theorem le_nI {a b : Nat} (ha : a < 10000000) (hb : b < 10000000) : (nI a ≤ nI b) ↔ a ≤ b := nI_leI (by omega) (by omega)
theorem eq_nI {a b : Nat} (ha : a < 10000000) (hb : b < 10000000) : (nI a = nI b) ↔ a = b := nI_eq (by omega) (by omega)
theorem at_nI (i k : Nat) : f_X8_at (nI i) (nI k) = nI (92 + 33 * i + k) := by
  show nI 92 + nI 33 * nI i + nI k = _
  rw [pk_mul, nI_add, nI_add]
theorem sat_nI (i j k : Nat) : f_X8_stageAt (nI i) (nI j) (nI k) = nI (92 + 33 * i + (9 + 4 * j + k)) := by
  show f_X8_at (nI i) (nI 9 + nI 4 * nI j + nI k) = _
  rw [pk_mul, nI_add, nI_add, at_nI]
theorem within_in (x a b : Int32) : f_X7_isWithin x a b = f_X8_in x a b := by
  by_cases h : x < a <;> simp [f_X7_isWithin, f_X8_in, h]
theorem in_t {x a b : Int32} (h1 : ¬ x < a) (h2 : ¬ b < x) : f_X8_in x a b = true := by unfold f_X8_in; rw [if_neg h1, if_neg h2]
theorem in_iff {x a b : Int32} : f_X8_in x a b = true ↔ ¬ x < a ∧ ¬ b < x := by
  unfold f_X8_in
  by_cases h1 : x < a
  · simp [h1]
  · by_cases h2 : b < x <;> simp [h1, h2]
/-- x in 0 .. n - 1 -/
theorem in_0 (x : Int32) {n : Nat} (hn : n < 10000) : (f_X8_in x 0 (nI n - 1) = true ∧ ∃ j, j < n ∧ x = nI j) ∨ (f_X8_in x 0 (nI n - 1) = false ∧ (x < 0 ∨ nI n ≤ x)) := by
  rcases pk_ix x (n := n) (by omega) with h | h | ⟨j, hj, rfl⟩
  · right
    refine ⟨?_, Or.inl h⟩
    unfold f_X8_in
    rw [if_pos h]
  · by_cases h0 : x < 0
    · right
      refine ⟨?_, Or.inl h0⟩
      unfold f_X8_in
      rw [if_pos h0]
    · right
      refine ⟨?_, Or.inr h⟩
      unfold f_X8_in
      rw [if_neg h0, if_pos]
      obtain ⟨j, hj, rfl⟩ := nI_of h0
      have h2 : n ≤ j := (nI_leI (by omega) hj).mp h
      rw [Int32.lt_iff_toInt_lt, nI_toInt hj]
      have : (nI n - 1).toInt = (n : Int) - 1 := pk_sub_toInt (a := n) (b := 1) (by omega) (by omega)
      omega
  · left
    refine ⟨in_t ?_ ?_, j, hj, rfl⟩
    · exact nI_pos (by omega)
    · rw [Int32.lt_iff_toInt_lt, nI_toInt (by omega)]
      have : (nI n - 1).toInt = (n : Int) - 1 := pk_sub_toInt (a := n) (b := 1) (by omega) (by omega)
      omega
theorem in_lo {x : Int32} (a b : Nat) (ha : a < 10000) (hb : b < 10000) (h : f_X8_in x (nI a) (nI b) = true) : ∃ j, a ≤ j ∧ j ≤ b ∧ x = nI j := by
  obtain ⟨h1, h2⟩ := in_iff.mp h
  rw [Int32.lt_iff_toInt_lt, nI_toInt (by omega)] at h2
  rw [Int32.lt_iff_toInt_lt, nI_toInt (by omega)] at h1
  have h0 : ¬ x < 0 := by
    rw [Int32.lt_iff_toInt_lt]
    have : (0 : Int32).toInt = 0 := rfl
    omega
  obtain ⟨j, hj, rfl⟩ := nI_of h0
  rw [nI_toInt hj] at h1 h2
  exact ⟨j, by omega, by omega, rfl⟩
theorem in_nI {a b j : Nat} (hj : j < 10000) (hb : b < 10000) (ha : a < 10000) : f_X8_in (nI j) (nI a) (nI b) = true ↔ a ≤ j ∧ j ≤ b := by
  rw [in_iff, lt_nI (by omega) (by omega), lt_nI (by omega) (by omega)]
  omega
theorem bI_inj {a b : Bool} (h : bI a = bI b) : a = b := by
  cases a <;> cases b <;> first | rfl | exact absurd h (by decide)
theorem bI_1 {b : Bool} : bI b = 1 ↔ b = true := by cases b <;> decide
theorem bI_0 {b : Bool} : bI b = 0 ↔ b = false := by cases b <;> decide
theorem leN {a b : Nat} (h : a ≤ b) (hb : b < 10000000) : nI a ≤ nI b := (le_nI (by omega) hb).mpr h
theorem nleN {a b : Nat} (h : b < a) (ha : a < 10000000) : ¬ nI a ≤ nI b := fun z => by rw [le_nI ha (by omega)] at z; omega
theorem ltN {a b : Nat} (h : a < b) (hb : b < 10000000) : nI a < nI b := (lt_nI (by omega) hb).mpr h
theorem nltN {a b : Nat} (h : b ≤ a) (ha : a < 10000000) : ¬ nI a < nI b := fun z => by rw [lt_nI ha (by omega)] at z; omega
theorem neN {a b : Nat} (h : a ≠ b) (ha : a < 10000000) (hb : b < 10000000) : ¬ nI a = nI b := fun z => h ((eq_nI ha hb).mp z)
