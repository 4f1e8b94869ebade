theorem FR.row {σ : St} {b : Nat} {v : Nat → Int32} (h : FR σ b v) {i sz : Nat} (e : v 10 = nI sz) (hi : i < sz) (hsz : sz ≤ 5) : CR σ (b + 1 + 1 + 5 * i) i v := h.crs sz e hsz i hi
theorem isChange_eq {τ : St} {x : Int32} : f_X8_isChange 0 x τ = f_X8_in x 0 (τ.1 (0 + 1) 10 - 1) := rfl
theorem find_or {σ : St} {b : Nat} {v : Nat → Int32} (h : FR σ b v) (x : Int32) : (∃ i sz, v 10 = nI sz ∧ sz ≤ 5 ∧ i < sz ∧ x = nI i ∧ f_X1_find b x σ = some (some (b + 1 + 1 + 5 * i)) ∧ f_X8_in x 0 (v 10 - 1) = true) ∨ (f_X1_find b x σ = some none ∧ f_X8_in x 0 (v 10 - 1) = false) := by
  obtain ⟨sz, z1, z2, z3, -⟩ := h.sz
  rw [z1]
  unfold f_X1_find
  rw [z2]
  rcases in_0 x (n := sz) (by omega) with ⟨h1, i, hi, rfl⟩ | ⟨h1, h2⟩
  · left
    refine ⟨i, sz, rfl, z3, hi, rfl, ?_, h1⟩
    rw [if_neg (nI_pos (by omega)), if_neg (by rw [le_nI (by omega) (by omega)]; omega), show (5 : Int32) = nI 5 from rfl, if_neg (by rw [le_nI (by omega) (by omega)]; omega), if_pos (inb_nI (by omega) (by omega)), cl_nI (by omega)]
  · right
    refine ⟨?_, h1⟩
    by_cases h0 : x < 0
    · rw [if_pos h0]
    · rw [if_neg h0, if_pos (h2.resolve_left h0)]
theorem shF : ∀ i, i < 5 → shC (0 + 1 + 1 + 1 + 5 * i) = 1 := by decide
theorem shT : ∀ i, i < 5 → shC (0 + 33 + 1 + 1 + 5 * i) = 1 := by decide
/-- a number of a stage -/
theorem number_nI {σ : St} {q pl k j : Nat} (e : gI σ q 1 = nI pl) (hpl : pl ≤ 6) (hk : k < pl) (hj : j < 3) : f_X4_number q (nI k) (nI j) σ = some (gI σ (q + 1) (3 * k + j)) := by
  unfold f_X4_number f_X4_number_B28
  have i1 : nI k * 3 + nI j = nI (3 * k + j) := by show nI k * nI 3 + nI j = _; rw [pk_mul, nI_add]; congr 1; omega
  simp only [bnd_d, within_in]
  have c1 : f_X8_in (nI k) 0 (gI σ q 1 - 1) = true := by
    rw [e]
    rcases in_0 (nI k) (n := pl) (by omega) with ⟨h, -⟩ | ⟨-, h⟩
    · exact h
    · rcases h with h | h
      · exact absurd h (nI_pos (by omega))
      · rw [le_nI (by omega) (by omega)] at h; omega
  have c2 : f_X8_in (nI j) 0 2 = true := (in_nI (a := 0) (b := 2) (by omega) (by omega) (by omega)).mpr ⟨by omega, by omega⟩
  rw [c1, c2]
  simp only [if_true, i1]
  rw [show (18 : Int32) = nI 18 from rfl, if_neg (by rw [le_nI (by omega) (by omega)]; omega), if_pos (inb_nI (by omega) (by omega)), cl_nI (by omega)]
theorem op_stage {σ τ : St} (hR : Rel σ τ) (x1 x2 x3 : Int32) : ∃ r, f_X7_stage 0 x1 x2 x3 σ = some r ∧ f_X8_stage 0 x1 x2 x3 τ = some r ∧ Rel σ τ := by
  unfold f_X7_stage f_X8_stage
  simp only [bnd_d, within_in, isChange_eq]
  have hF := hR.1
  rcases find_or hF x1 with ⟨i, sz, z1, z2, hi, rfl, ef, ei⟩ | ⟨ef, ei⟩
  · rw [ef, ei, obd_s, opt_s, if_pos (shF i (by omega)), if_pos rfl]
    obtain ⟨st, pl, bg, m, a, b, c, d, ⟨h1, h2, h3, h4, h5, h6, h7, h8, h9⟩, -, -, ⟨f1, f2, f3, f4⟩, k1, -⟩ := hF.row z1 hi z2
    have e2 : gI σ (0 + 1 + 1 + 1 + 5 * i + 1) 1 = nI pl := f4.trans h3
    rw [e2, show (2 : Int32) = nI 2 from rfl, at_nI, if_pos (inb_nI (by omega) (by omega)), cl_nI (by omega), show gI τ (0 + 1) (92 + 33 * i + 2) = nI pl from h3]
    rcases in_0 x2 (n := pl) (by omega) with ⟨g1, k, hk, rfl⟩ | ⟨g1, g2⟩
    · rw [g1, if_pos rfl, if_pos rfl]
      by_cases g : f_X8_in x3 0 (nI 2) = true
      · rw [if_pos g, if_pos g]
        obtain ⟨j, -, hj, rfl⟩ := in_lo 0 2 (by omega) (by omega) g
        rw [number_nI e2 h4 hk (by omega), sat_nI, if_pos (inb_nI (by omega) (by omega)), cl_nI (by omega), obd_s]
        obtain ⟨q1, q2, q3⟩ := k1 k hk
        have hj3 : j = 0 ∨ j = 1 ∨ j = 2 := by omega
        have er : gI σ (0 + 1 + 1 + 1 + 5 * i + 1 + 1) (3 * k + j) = gI τ (0 + 1) (92 + 33 * i + (9 + 4 * k + j)) := by
          rcases hj3 with rfl | rfl | rfl
          · exact q1
          · rw [show 92 + 33 * i + (9 + 4 * k + 1) = 92 + 33 * i + (10 + 4 * k) by omega]; exact q2
          · rw [show 92 + 33 * i + (9 + 4 * k + 2) = 92 + 33 * i + (11 + 4 * k) by omega]; exact q3
        rw [er]
        exact ⟨_, rfl, rfl, hR⟩
      · rw [if_neg g, if_neg g]
        exact ⟨_, rfl, rfl, hR⟩
    · rw [g1, if_neg (by decide), if_neg (by decide)]
      exact ⟨_, rfl, rfl, hR⟩
  · rw [ef, ei, obd_s, opt_n, if_neg (by decide)]
    exact ⟨_, rfl, rfl, hR⟩
theorem op_probes {σ τ : St} (hR : Rel σ τ) (x1 x2 : Int32) : ∃ r, f_X7_probes 0 x1 x2 σ = some r ∧ f_X8_probes 0 x1 x2 τ = some r ∧ Rel σ τ := by
  unfold f_X7_probes f_X8_probes
  simp only [bnd_d, isChange_eq]
  have hF := hR.1
  rcases find_or hF x1 with ⟨i, sz, z1, z2, hi, rfl, ef, ei⟩ | ⟨ef, ei⟩
  · rw [ef, ei, obd_s, opt_s, if_pos (shF i (by omega)), if_pos rfl]
    obtain ⟨st, pl, bg, m, a, b, c, d, -, -, -, -, -, -, m1, m2, m3, m4, -⟩ := hF.row z1 hi z2
    by_cases g : f_X8_in x2 0 3 = true
    · rw [if_pos g]
      obtain ⟨j, -, hj, rfl⟩ := in_lo 0 3 (by omega) (by omega) g
      have i1 : (5 : Int32) + nI j = nI (5 + j) := nI_add 5 j
      rw [i1, at_nI, if_pos (inb_nI (by omega) (by omega)), cl_nI (by omega)]
      have hj3 : j = 0 ∨ j = 1 ∨ j = 2 ∨ j = 3 := by omega
      rcases hj3 with rfl | rfl | rfl | rfl
      · rw [if_pos (by decide)]; exact ⟨_, rfl, congrArg some m1.symm, hR⟩
      · rw [if_neg (by decide), if_pos (by decide)]; exact ⟨_, rfl, congrArg some m2.symm, hR⟩
      · rw [if_neg (by decide), if_neg (by decide), if_pos (by decide)]; exact ⟨_, rfl, congrArg some m3.symm, hR⟩
      · rw [if_neg (by decide), if_neg (by decide), if_neg (by decide), if_pos (by decide)]; exact ⟨_, rfl, congrArg some m4.symm, hR⟩
    · rw [if_neg g]
      have n0 : ¬ x2 = 0 := fun z => g (by rw [z]; decide)
      have n1 : ¬ x2 = 1 := fun z => g (by rw [z]; decide)
      have n2 : ¬ x2 = 2 := fun z => g (by rw [z]; decide)
      have n3 : ¬ x2 = 3 := fun z => g (by rw [z]; decide)
      rw [if_neg n0, if_neg n1, if_neg n2, if_neg n3]
      exact ⟨_, rfl, rfl, hR⟩
  · rw [ef, ei, obd_s, opt_n, if_neg (by decide)]
    exact ⟨_, rfl, rfl, hR⟩
