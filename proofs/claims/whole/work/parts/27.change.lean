/-! the reason, side by side -/
theorem tail_eq {σ τ : St} {b sz i bg : Nat} (hF : FR σ b (τ.1 (0 + 1))) (z1 : τ.1 (0 + 1) 10 = nI sz) (hsz : sz ≤ 5) (hi : i < sz) (hb5 : τ.1 (0 + 1) (92 + 33 * i + 3) = nI bg) (hb6 : bg ≤ 6) : ∃ r, f_X1_reasonOf_B62 σ b (b + 1 + 1 + 5 * i) = some r ∧ f_X8_reason_B91 τ 0 (nI i) (nI bg) = some r := by
  obtain ⟨st, pl, bg', m, a, b', c', d, ⟨h1, h2, h3, h4, h5, h6, h7, h8, h9⟩, -, e0, ⟨f1, f2, f3, f4⟩, -⟩ := (hF.row z1 hi hsz).use
  have hbb : bg' = bg := (eq_nI (by omega) (by omega)).mp (h5.symm.trans hb5)
  subst hbb
  obtain ⟨d1, d2, d3⟩ := done_eq hF z1 hsz hi h9
  obtain ⟨k1, k2, k3⟩ := risk_eq hF z1 hsz hi
  have et : gI σ b 6 = gI τ (0 + 1) 1 := hF.1.2.2.2.1
  unfold f_X1_reasonOf_B62 f_X1_reasonOf_B90 f_X1_reasonBeforeFirstStage f_X8_reason_B91 f_X8_reason_B125 f_X8_reason_B149 f_X0_hasFurtherStage
  simp only [bnd_d]
  rw [show f_X8_at (nI i) 2 = nI (92 + 33 * i + 2) from at_nI i 2, show f_X8_at (nI i) 4 = nI (92 + 33 * i + 4) from at_nI i 4, inb_nI (show 92 + 33 * i + 2 < 257 by omega) (by omega), inb_nI (show 92 + 33 * i + 4 < 257 by omega) (by omega), cl_nI (show 92 + 33 * i + 2 < 10000000 by omega), cl_nI (show 92 + 33 * i + 4 < 10000000 by omega), show gI τ (0 + 1) (92 + 33 * i + 2) = nI pl from h3, show gI τ (0 + 1) (92 + 33 * i + 4) = nI m from h8, f1, f3, f4, et, show (1 : Int32).toNatClampNeg = 1 from rfl, covers_eq hF, frozen_eq hF.ns, d2, d3, k2, k3]
  simp only [obd_s, if_true]
  generalize frz (τ.1 (0 + 1)) (irm (gI τ (0 + 1) 1) 168) 0 (τ.1 (0 + 1) 3).toNatClampNeg = fz
  generalize gB σ (b + 1 + 1 + 5 * i) 7 = rk
  by_cases hp : pl ≤ bg'
  · rw [if_pos (leN hp (by omega)), if_pos (leN hp (by omega)), if_neg (by decide)]
    by_cases h0 : bg' = 0
    · subst h0
      rw [if_pos (by decide), if_pos (show nI 0 = 0 from rfl), if_pos (show nI 0 = 0 from rfl)]
      cases d1 <;> cases rk <;> cases k1 <;> exact ⟨_, rfl, rfl⟩
    · rw [if_neg (show ¬ nI bg' ≤ 0 from nleN (b := 0) (by omega) (by omega)), if_neg (show ¬ nI bg' = 0 from neN (b := 0) h0 (by omega) (by omega)), if_neg (show ¬ nI bg' = 0 from neN (b := 0) h0 (by omega) (by omega))]
      exact ⟨_, rfl, rfl⟩
  · rw [if_neg (nleN (by omega) (by omega)), if_neg (nleN (by omega) (by omega)), if_pos rfl]
    by_cases h0 : bg' = 0
    · subst h0
      rw [if_pos (show nI 0 ≤ 0 by decide), if_pos (show nI 0 = 0 from rfl), if_pos (show nI 0 = 0 from rfl)]
      cases fz <;> cases d1 <;> cases rk <;> cases k1 <;> exact ⟨_, rfl, rfl⟩
    · rw [if_neg (show ¬ nI bg' ≤ 0 from nleN (b := 0) (by omega) (by omega)), if_neg (show ¬ nI bg' = 0 from neN (b := 0) h0 (by omega) (by omega)), if_neg (show ¬ nI bg' = 0 from neN (b := 0) h0 (by omega) (by omega))]
      cases fz <;> exact ⟨_, rfl, rfl⟩
theorem allCells_eq {σ : St} {b : Nat} {v : Nat → Int32} (h : FR σ b v) : f_X1_allCells b σ = (1 <<< (v 0 &&& 31)) - 1 := by
  unfold f_X1_allCells
  rw [h.1.2.2.1]
theorem reason_eq {σ τ : St} {b sz i : Nat} (hF : FR σ b (τ.1 (0 + 1))) (hz : gB σ b 3 = gB τ 0 6) (z1 : τ.1 (0 + 1) 10 = nI sz) (hsz : sz ≤ 5) (hi : i < sz) : ∃ r, f_X1_reasonOf b (b + 1 + 1 + 5 * i) σ = some r ∧ f_X8_reason 0 (nI i) τ = some r := by
  obtain ⟨st, pl, bg, m, a, b', c', d, ⟨h1, h2, h3, h4, h5, h6, h7, h8, h9⟩, ⟨g1, g2, g3, g4, g5, g6⟩, e0, ⟨f1, f2, f3, f4⟩, kk1, kk2, m1, m2, m3, m4, -, -⟩ := (hF.row z1 hi hsz).use
  obtain ⟨r, r1, r2⟩ := tail_eq hF z1 hsz hi h5 (by omega)
  have et : gI σ b 6 = gI τ (0 + 1) 1 := hF.1.2.2.2.1
  unfold f_X1_reasonOf f_X8_reason f_X8_reason_B77 f_X0_waitsAt
  simp only [bnd_d]
  rw [show f_X8_at (nI i) 1 = nI (92 + 33 * i + 1) from at_nI i 1, show f_X8_at (nI i) 3 = nI (92 + 33 * i + 3) from at_nI i 3, inb_nI (show 92 + 33 * i + 1 < 257 by omega) (by omega), inb_nI (show 92 + 33 * i + 3 < 257 by omega) (by omega), cl_nI (show 92 + 33 * i + 1 < 10000000 by omega), cl_nI (show 92 + 33 * i + 3 < 10000000 by omega), show gI τ (0 + 1) (92 + 33 * i + 1) = nI st from h1, show gI τ (0 + 1) (92 + 33 * i + 3) = nI bg from h5, under_eq, f2, f3, r1, r2]
  simp only [if_true]
  have hst : st = 0 ∨ st = 2 ∨ st = 3 ∨ st = 4 ∨ st = 5 ∨ st = 1 := by omega
  rcases hst with rfl | rfl | rfl | rfl | rfl | rfl
  · exact ⟨1, by simp [show ¬ nI 0 = 1 by decide, show ¬ nI 0 = 2 by decide, show ¬ nI 0 = 4 by decide], by simp [show ¬ nI 0 = 1 by decide, show ¬ nI 0 = 2 by decide, show ¬ nI 0 = 4 by decide]⟩
  · exact ⟨3, by simp [show ¬ nI 2 = 1 by decide, show nI 2 = 2 by decide, show ¬ nI 2 = 4 by decide], by simp [show ¬ nI 2 = 1 by decide, show nI 2 = 2 by decide, show ¬ nI 2 = 4 by decide]⟩
  · exact ⟨1, by simp [show ¬ nI 3 = 1 by decide, show ¬ nI 3 = 2 by decide, show ¬ nI 3 = 4 by decide], by simp [show ¬ nI 3 = 1 by decide, show ¬ nI 3 = 2 by decide, show ¬ nI 3 = 4 by decide]⟩
  · exact ⟨2, by simp [show nI 4 = 4 by decide], by simp [show nI 4 = 4 by decide]⟩
  · exact ⟨1, by simp [show ¬ nI 5 = 1 by decide, show ¬ nI 5 = 2 by decide, show ¬ nI 5 = 4 by decide], by simp [show ¬ nI 5 = 1 by decide, show ¬ nI 5 = 2 by decide, show ¬ nI 5 = 4 by decide]⟩
  · rw [if_pos (show (decide (nI 1 = 1) || decide (nI 1 = 2) || decide (nI 1 = 4)) = true by decide), if_neg (show ¬ nI 1 = 4 by decide), if_neg (show ¬ nI 1 = 2 by decide), if_neg (show ¬ nI 1 = 4 by decide), if_neg (show ¬ nI 1 = 2 by decide), if_pos (show nI 1 = 1 by decide)]
    by_cases h0 : bg = 0
    · subst h0
      rw [if_pos (show nI 0 ≤ 0 by decide), if_pos (show nI 0 ≤ 0 by decide)]
      have el : ∀ x, f_X0_lacksSamples (b + 1 + 1 + 5 * i) x σ = some false := by
        intro x
        unfold f_X0_lacksSamples
        rw [f3, if_pos (show nI 0 = 0 from rfl)]
      simp only [el, obd_s, Bool.false_eq_true, if_false]
      refine ⟨r, ?_, rfl⟩
      cases gB σ b 3 <;> rfl
    · have hk := kk1 (bg - 1) (by omega)
      rw [if_neg (show ¬ nI bg ≤ 0 from nleN (b := 0) (by omega) (by omega)), if_neg (show ¬ nI bg ≤ 0 from nleN (b := 0) (by omega) (by omega)), hoursC f3 (by omega) (by omega), hoursM (by omega) h5 (by omega), if_neg h0, obd_s, obd_s, m1_nI (by omega), show f_X4_number (b + 1 + 1 + 5 * i + 1) (nI (bg - 1)) 1 σ = _ from number_nI (j := 1) f4 h4 (by omega) (by omega), obd_s, hk.2.1, kk2 (bg - 1) (by omega), show f_X8_stageAt (nI i) (nI (bg - 1)) 1 = nI (92 + 33 * i + (9 + 4 * (bg - 1) + 1)) from sat_nI i (bg - 1) 1, if_pos (inb_nI (by omega) (by omega)), cl_nI (by omega), show 9 + 4 * (bg - 1) + 1 = 10 + 4 * (bg - 1) by omega, et]
      have el := lacksC (x := f_X1_allCells b σ) h4 h6 (show 0 < bg by omega) f4 f3 (fun k hk => (kk1 k hk).1) m1 m2 m3 m4
      have em := lacksM (τ := τ) (i := i) (by omega) h5 (by omega) (by omega)
      rw [el, em, obd_s, obd_s, hz]
      rw [show gI τ (0 + 1) (92 + 33 * i + 5) = nI a from g1, show gI τ (0 + 1) (92 + 33 * i + 6) = nI b' from g2, show gI τ (0 + 1) (92 + 33 * i + 7) = nI c' from g3, show gI τ (0 + 1) (92 + 33 * i + 8) = nI d from g4, hk.2.2, allCells_eq hF]
      by_cases hw : τ.1 (0 + 1) (92 + 33 * i + (10 + 4 * (bg - 1))) ≤ gI τ (0 + 1) 1 - τ.1 (0 + 1) (92 + 33 * i + (12 + 4 * (bg - 1)))
      · rw [if_pos hw, obd_s, if_neg (show ¬ false = true by decide), if_neg (show ¬ nI bg ≤ 0 from nleN (b := 0) (by omega) (by omega))]
        rw [if_pos (show gI τ (0 + 1) (92 + 33 * i + (10 + 4 * (bg - 1))) ≤ gI τ (0 + 1) 1 - gI τ (0 + 1) (92 + 33 * i + (12 + 4 * (bg - 1))) from hw)]
        cases gB τ 0 6
        · have e : ∀ j, gI τ (0 + 1) j = τ.1 (0 + 1) j := fun _ => rfl
          simp only [Bool.not_false, Bool.true_and, Bool.false_eq_true, if_false, e]
          split <;> exact ⟨_, rfl, rfl⟩
        · exact ⟨_, rfl, rfl⟩
      · rw [if_neg hw, obd_s, if_pos rfl]
        rw [if_neg (show ¬ gI τ (0 + 1) (92 + 33 * i + (10 + 4 * (bg - 1))) ≤ gI τ (0 + 1) 1 - gI τ (0 + 1) (92 + 33 * i + (12 + 4 * (bg - 1))) from hw)]
        exact ⟨_, rfl, rfl⟩
theorem op_change {σ τ : St} (hR : Rel σ τ) (x1 x2 : Int32) : ∃ r, f_X7_change 0 x1 x2 σ = some r ∧ f_X8_change 0 x1 x2 τ = some r ∧ Rel σ τ := by
  unfold f_X7_change f_X8_change f_X8_tells
  simp only [bnd_d, isChange_eq]
  have hF := hR.1
  rcases find_or hF x1 with ⟨i, sz, z1, z2, hi, rfl, ef, ei⟩ | ⟨ef, ei⟩
  · rw [ef, ei, obd_s, opt_s, if_pos (shF i (by omega)), if_pos rfl]
    obtain ⟨st, pl, bg, m, a, b', c', d, ⟨h1, h2, h3, h4, h5, h6, h7, h8, h9⟩, ⟨g1, g2, g3, g4, g5, g6⟩, e0, ⟨f1, f2, f3, f4⟩, kk1, kk2, -⟩ := (hF.row z1 hi z2).use
    by_cases g : f_X8_in x2 0 6 = true
    · rw [if_pos g]
      obtain ⟨j, -, hj, rfl⟩ := in_lo 0 6 (by omega) (by omega) g
      have hj3 : j = 0 ∨ j = 1 ∨ j = 2 ∨ j = 3 ∨ j = 4 ∨ j = 5 ∨ j = 6 := by omega
      rw [show f_X8_at (nI i) 0 = nI (92 + 33 * i + 0) from at_nI i 0, show f_X8_at (nI i) 1 = nI (92 + 33 * i + 1) from at_nI i 1, show f_X8_at (nI i) 2 = nI (92 + 33 * i + 2) from at_nI i 2, show f_X8_at (nI i) 3 = nI (92 + 33 * i + 3) from at_nI i 3, show f_X8_at (nI i) 4 = nI (92 + 33 * i + 4) from at_nI i 4, inb_nI (show 92 + 33 * i + 0 < 257 by omega) (by omega), inb_nI (show 92 + 33 * i + 1 < 257 by omega) (by omega), inb_nI (show 92 + 33 * i + 2 < 257 by omega) (by omega), inb_nI (show 92 + 33 * i + 3 < 257 by omega) (by omega), inb_nI (show 92 + 33 * i + 4 < 257 by omega) (by omega), cl_nI (show 92 + 33 * i + 0 < 10000000 by omega), cl_nI (show 92 + 33 * i + 1 < 10000000 by omega), cl_nI (show 92 + 33 * i + 2 < 10000000 by omega), cl_nI (show 92 + 33 * i + 3 < 10000000 by omega), cl_nI (show 92 + 33 * i + 4 < 10000000 by omega), show gI τ (0 + 1) (92 + 33 * i + 1) = nI st from h1, show gI τ (0 + 1) (92 + 33 * i + 2) = nI pl from h3, show gI τ (0 + 1) (92 + 33 * i + 3) = nI bg from h5, show gI τ (0 + 1) (92 + 33 * i + 4) = nI m from h8, show gI τ (0 + 1) (92 + 33 * i + 0) = _ from e0, f1, f2, f3, f4]
      simp only [if_true]
      rcases hj3 with rfl | rfl | rfl | rfl | rfl | rfl | rfl
      · rw [if_pos (by decide), if_pos (by decide)]; exact ⟨_, rfl, rfl, hR⟩
      · rw [if_neg (by decide), if_pos (by decide), if_neg (by decide), if_pos (by decide)]; exact ⟨_, rfl, rfl, hR⟩
      · rw [if_neg (by decide), if_neg (by decide), if_pos (by decide), if_neg (by decide), if_neg (by decide), if_pos (by decide)]; exact ⟨_, rfl, rfl, hR⟩
      · rw [if_neg (by decide), if_neg (by decide), if_neg (by decide), if_pos (by decide), if_neg (by decide), if_neg (by decide), if_neg (by decide), if_pos (by decide), hoursM (by omega) h5 (by omega)]
        by_cases h0 : bg = 0
        · subst h0
          rw [hoursC0 f3, if_pos rfl]
          exact ⟨_, rfl, rfl, hR⟩
        · rw [hoursC f3 (by omega) (by omega), if_neg h0, kk2 (bg - 1) (by omega), show gI σ (0 + 1) 6 = gI τ (0 + 1) 1 from hF.1.2.2.2.1]
          exact ⟨_, rfl, rfl, hR⟩
      · rw [if_neg (by decide), if_neg (by decide), if_neg (by decide), if_neg (by decide), if_pos (by decide), if_neg (by decide), if_neg (by decide), if_neg (by decide), if_neg (by decide), if_pos (by decide)]
        obtain ⟨r, r1, r2⟩ := reason_eq hF (hR.2.2.2.1.1.trans hR.2.2.2.2.2.symm) z1 z2 hi
        rw [r1, r2]
        exact ⟨_, rfl, rfl, hR⟩
      · rw [if_neg (by decide), if_neg (by decide), if_neg (by decide), if_neg (by decide), if_neg (by decide), if_pos (by decide), if_neg (by decide), if_neg (by decide), if_neg (by decide), if_neg (by decide), if_neg (by decide), if_pos (by decide)]
        exact ⟨_, rfl, rfl, hR⟩
      · rw [if_neg (by decide), if_neg (by decide), if_neg (by decide), if_neg (by decide), if_neg (by decide), if_neg (by decide), if_pos (by decide)]
        generalize gB σ (0 + 1 + 1 + 1 + 5 * i) 7 = rk
        cases rk <;> rw [if_neg (show ¬ nI 6 = 0 by decide), if_neg (show ¬ nI 6 = 1 by decide), if_neg (show ¬ nI 6 = 2 by decide), if_neg (show ¬ nI 6 = 3 by decide), if_neg (show ¬ nI 6 = 4 by decide), if_neg (show ¬ nI 6 = 5 by decide)] <;> exact ⟨_, rfl, rfl, hR⟩
    · rw [if_neg g]
      have n0 : ¬ x2 = 0 := fun z => g (by rw [z]; decide)
      have n1 : ¬ x2 = 1 := fun z => g (by rw [z]; decide)
      have n2 : ¬ x2 = 2 := fun z => g (by rw [z]; decide)
      have n3 : ¬ x2 = 3 := fun z => g (by rw [z]; decide)
      have n4 : ¬ x2 = 4 := fun z => g (by rw [z]; decide)
      have n5 : ¬ x2 = 5 := fun z => g (by rw [z]; decide)
      have n6 : ¬ x2 = 6 := fun z => g (by rw [z]; decide)
      rw [if_neg n0, if_neg n1, if_neg n2, if_neg n3, if_neg n4, if_neg n5, if_neg n6]
      exact ⟨_, rfl, rfl, hR⟩
  · rw [ef, ei, obd_s, opt_n, if_neg (by decide)]
    exact ⟨_, rfl, rfl, hR⟩
