theorem cells_L {n len : Nat} {U : Int32} {t : Nat → Nat} (hn : n ≤ 8) : ∀ (m x5 x4 F G p : Nat) (acc x3 : Int32) (σ τ : St), x5 + m = 8 → m < F → m < G → x5 ≤ x4 → x4 ≤ 10 → x3.toInt = (x4 : Int) - 1 → TS σ τ p len t → gI τ (0 + 1) 0 = nI n → ∃ acc' ok σ' τ' p', it5 (f_X5_parseCells_L18 (0 + 131) (nI n)) F U acc (nI x4) (nI x5) σ = some (acc', σ') ∧ it3 (f_X8_cells_L4 0 U) G acc x3 τ = some (ok, τ') ∧ TS σ' τ' p' len t ∧ frP σ σ' τ τ' ∧ ((dgt t len p' = none ∧ ok = !decide (acc' = 0) ∧ gI τ' 0 11 = acc') ∨ (∃ d, dgt t len p' = some d ∧ ok = false)) := by
  intro m
  induction m with
  | zero =>
    intro x5 x4 F G p acc x3 σ τ hm hF hG h54 h4 h3 h en
    obtain ⟨F, rfl⟩ : ∃ n', F = n' + 1 := ⟨F - 1, by omega⟩
    obtain ⟨G, rfl⟩ : ∃ n', G = n' + 1 := ⟨G - 1, by omega⟩
    have eC : it5 (f_X5_parseCells_L18 (0 + 131) (nI n)) (F + 1) U acc (nI x4) (nI x5) σ = some (acc, σ) := by
      show f_X5_parseCells_L18 (0 + 131) (nI n) (it5 (f_X5_parseCells_L18 (0 + 131) (nI n)) F) U acc (nI x4) (nI x5) σ = _
      generalize it5 (f_X5_parseCells_L18 (0 + 131) (nI n)) F = g
      unfold f_X5_parseCells_L18
      rw [show (8 : Int32) = nI 8 from rfl, if_pos (leN (by omega) (by omega))]
    have eM : it3 (f_X8_cells_L4 0 U) (G + 1) acc x3 τ = f_X8_cells_L4 0 U (it3 (f_X8_cells_L4 0 U) G) acc x3 τ := rfl
    generalize it3 (f_X8_cells_L4 0 U) G = g at eM
    rw [eC, eM]
    unfold f_X8_cells_L4
    simp only [bnd_e]
    rw [dgtM h, obd_s, obd_s]
    cases hd : dgt t len p with
    | none =>
      rw [if_pos (show dgI none < 0 by decide)]
      by_cases c : acc = 0
      · rw [if_pos c]
        exact ⟨acc, false, σ, _, p, rfl, rfl, h.mv frP.m11 h.2.2.2.2.1 (by rw [gI_n (Or.inr (by omega))]; exact h.2.2.2.2.2.1) h.2.2.2.2.2.2, frP.m11, Or.inl ⟨hd, by simp [c], gI_s _ _ _ _⟩⟩
      · rw [if_neg c]
        exact ⟨acc, true, σ, _, p, rfl, rfl, h.mv frP.m11 h.2.2.2.2.1 (by rw [gI_n (Or.inr (by omega))]; exact h.2.2.2.2.2.1) h.2.2.2.2.2.2, frP.m11, Or.inl ⟨hd, by simp [c], gI_s _ _ _ _⟩⟩
    | some d =>
      have d9 := (dgt_le hd).1
      rw [show dgI (some d) = nI d from rfl, if_neg (nI_pos (by omega))]
      refine ⟨acc, false, σ, τ, p, rfl, ?_, h, frP.rf, Or.inr ⟨d, hd, rfl⟩⟩
      by_cases c : nI d ≤ x3
      · rw [if_pos c]
      · rw [if_neg c, show f_X8_isCell 0 (nI d) τ = f_X8_in (nI d) 0 (gI τ (0 + 1) 0 - 1) from rfl, en]
        have c2 : ¬ ((d : Int) ≤ (x4 : Int) - 1) := by
          intro z
          apply c
          rw [Int32.le_iff_toInt_le, nI_toInt (by omega), h3]
          exact z
        rcases in_0 (nI d) (n := n) (by omega) with ⟨-, j, hj, e⟩ | ⟨g1, -⟩
        · have := (eq_nI (by omega) (by omega)).mp e
          omega
        · rw [g1, if_neg (by decide)]
  | succ m ih =>
    intro x5 x4 F G p acc x3 σ τ hm hF hG h54 h4 h3 h en
    obtain ⟨F, rfl⟩ : ∃ n', F = n' + 1 := ⟨F - 1, by omega⟩
    obtain ⟨G, rfl⟩ : ∃ n', G = n' + 1 := ⟨G - 1, by omega⟩
    have hl := h.2.2.1
    have hpl := h.2.2.2.2.2.2
    have eC : it5 (f_X5_parseCells_L18 (0 + 131) (nI n)) (F + 1) U acc (nI x4) (nI x5) σ = f_X5_parseCells_L18 (0 + 131) (nI n) (it5 (f_X5_parseCells_L18 (0 + 131) (nI n)) F) U acc (nI x4) (nI x5) σ := rfl
    have eM : it3 (f_X8_cells_L4 0 U) (G + 1) acc x3 τ = f_X8_cells_L4 0 U (it3 (f_X8_cells_L4 0 U) G) acc x3 τ := rfl
    have ih' := ih (x5 + 1)
    rw [eC, eM]
    have ihx := fun x4 p acc x3 σ τ => ih (x5 + 1) x4 F G p acc x3 σ τ (by omega) (by omega) (by omega)
    generalize it3 (f_X8_cells_L4 0 U) G = g at ihx ⊢
    generalize it5 (f_X5_parseCells_L18 (0 + 131) (nI n)) F = g2 at ihx ⊢
    unfold f_X8_cells_L4 f_X5_parseCells_L18
    simp only [bnd_e]
    rw [h.2.2.2.2.1, dgtC h (by omega), dgtM h, obd_s, obd_s, obd_s, show (8 : Int32) = nI 8 from rfl, if_neg (nleN (by omega) (by omega))]
    cases hd : dgt t len p with
    | none =>
      rw [if_pos (show dgI none < 0 by decide), if_pos (show dgI none < nI x4 by rw [Int32.lt_iff_toInt_lt, nI_toInt (by omega)]; show (-1 : Int) < _; omega)]
      by_cases c : acc = 0
      · rw [if_pos c]
        exact ⟨acc, false, σ, _, p, rfl, rfl, h.mv frP.m11 h.2.2.2.2.1 (by rw [gI_n (Or.inr (by omega))]; exact h.2.2.2.2.2.1) h.2.2.2.2.2.2, frP.m11, Or.inl ⟨hd, by simp [c], gI_s _ _ _ _⟩⟩
      · rw [if_neg c]
        exact ⟨acc, true, σ, _, p, rfl, rfl, h.mv frP.m11 h.2.2.2.2.1 (by rw [gI_n (Or.inr (by omega))]; exact h.2.2.2.2.2.1) h.2.2.2.2.2.2, frP.m11, Or.inl ⟨hd, by simp [c], gI_s _ _ _ _⟩⟩
    | some d =>
      obtain ⟨d9, hp, -⟩ := dgt_le hd
      rw [show dgI (some d) = nI d from rfl, if_neg (nI_pos (by omega)), show f_X8_isCell 0 (nI d) τ = f_X8_in (nI d) 0 (gI τ (0 + 1) 0 - 1) from rfl, en]
      have c3 : nI d ≤ x3 ↔ d < x4 := by
        rw [Int32.le_iff_toInt_le, nI_toInt (by omega), h3]
        omega
      by_cases c : d < x4
      · rw [if_pos (c3.mpr c), if_pos (ltN c (by omega))]
        exact ⟨acc, false, σ, τ, p, rfl, rfl, h, frP.rf, Or.inr ⟨d, hd, rfl⟩⟩
      · rw [if_neg (fun z => c (c3.mp z)), if_neg (nltN (by omega) (by omega))]
        by_cases c4 : d < n
        · rw [if_neg (nleN c4 (by omega)), show f_X8_in (nI d) 0 (nI n - 1) = true by
            rcases in_0 (nI d) (n := n) (by omega) with ⟨g1, -⟩ | ⟨-, g1⟩
            · exact g1
            · rcases g1 with g1 | g1
              · exact absurd g1 (nI_pos (by omega))
              · exact absurd g1 (nleN c4 (by omega)), if_pos rfl]
          rcases bit01 U (nI d &&& 31) with hb | hb
          · rw [hb, if_pos rfl, if_neg (show ¬ (0 : Int32) = 1 by decide), nI_1, h.2.2.2.2.2.1, nI_1, nI_1]
            obtain ⟨acc', ok, σ', τ', p', a1, a2, a3, a4, a5⟩ := ihx (d + 1) (p + 1) (acc ||| 1 <<< (nI d &&& 31)) (nI d) (sI σ (0 + 131) 3 (nI (p + 1))) (sI τ 0 8 (nI (p + 1))) (by omega) (by omega) (by rw [nI_toInt (by omega)]; omega) (h.mv (frP.c.tr frP.m8) (gI_s _ _ _ _) (gI_s _ _ _ _) (by omega)) (by rw [gI_n (Or.inl (by omega))]; exact en)
            exact ⟨acc', ok, σ', τ', p', a1, a2, a3, (frP.c.tr frP.m8).tr a4, a5⟩
          · rw [hb, if_neg (by decide), if_pos rfl]
            exact ⟨acc, false, σ, τ, p, rfl, rfl, h, frP.rf, Or.inr ⟨d, hd, rfl⟩⟩
        · rw [if_pos (leN (by omega) (by omega)), show f_X8_in (nI d) 0 (nI n - 1) = false by
            rcases in_0 (nI d) (n := n) (by omega) with ⟨-, j, hj, e⟩ | ⟨g1, -⟩
            · have := (eq_nI (by omega) (by omega)).mp e
              omega
            · exact g1, if_neg (by decide)]
          exact ⟨acc, false, σ, τ, p, rfl, rfl, h, frP.rf, Or.inr ⟨d, hd, rfl⟩⟩
