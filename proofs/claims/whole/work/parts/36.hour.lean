/-! an hour, side by side -/
theorem bad_iff {a b c d L : Nat} : L * chA a b c d < 1000 * chW a b c d ↔ L * chD a b c d < chN a b c d * 1000 := by
  have hp := chA_pos a b c d
  have hg : 0 < Nat.gcd (chW a b c d) (chA a b c d) := Nat.gcd_pos_of_pos_right _ hp
  have e1 : Nat.gcd (chW a b c d) (chA a b c d) * chN a b c d = chW a b c d := Nat.mul_div_cancel' (Nat.gcd_dvd_left _ _)
  have e2 : Nat.gcd (chW a b c d) (chA a b c d) * chD a b c d = chA a b c d := Nat.mul_div_cancel' (Nat.gcd_dvd_right _ _)
  generalize chN a b c d = N at e1 ⊢
  generalize chD a b c d = D at e2 ⊢
  generalize Nat.gcd (chW a b c d) (chA a b c d) = g at hg e1 e2
  rw [← e1, ← e2, Nat.mul_left_comm L g D, Nat.mul_left_comm 1000 g N, Nat.mul_comm 1000 N, Nat.mul_lt_mul_left hg]
theorem chN_le {a b c d : Nat} (h1 : a + b ≤ 25) (h2 : c + d ≤ 25) : chN a b c d ≤ 2 ^ 50 := Nat.le_trans (Nat.div_le_self _ _) (chW_le h1 h2)
theorem chD_le {a b c d : Nat} (h1 : a + b ≤ 25) (h2 : c + d ≤ 25) : chD a b c d ≤ 2 ^ 50 := Nat.le_trans (Nat.div_le_self _ _) (chA_le h1 h2)
theorem atMost_eq {σ : St} {q a b c d L : Nat} (hL : L ≤ 1000) (h1 : a + b ≤ 25) (h2 : c + d ≤ 25) (e4 : gL σ q 4 = lN (chN a b c d)) (e5 : gL σ q 5 = lN (chD a b c d)) : f_X6_isAtMost q (nI L) σ = !decide (L * chA a b c d < 1000 * chW a b c d) := by
  have hN := chN_le h1 h2
  have hD := chD_le h1 h2
  have hLD : L * chD a b c d ≤ 1000 * 2 ^ 50 := Nat.mul_le_mul hL hD
  unfold f_X6_isAtMost
  rw [e4, e5, nI_l (by omega), show (1000 : Int64) = lN 1000 from rfl, lN_mul, lN_mul]
  have hc := cmp_lt (a := chN a b c d * 1000) (b := L * chD a b c d) (by omega) (by omega)
  by_cases h : L * chD a b c d < chN a b c d * 1000
  · rw [if_pos (hc.mpr h), decide_eq_true (bad_iff.mpr h)]; rfl
  · rw [if_neg (fun z => h (hc.mp z)), decide_eq_false (fun z => h (bad_iff.mp z))]; rfl
theorem isBad_eq {τ : St} {i a b c d L : Nat} (hi : i < 5) (hS : SetsOK τ) (hL : L ≤ 1000) (eL : τ.1 (0 + 1) 2 = nI L) (e0 : gI τ (0 + 1) (92 + 33 * i + 5) = nI a) (e1 : gI τ (0 + 1) (92 + 33 * i + 6) = nI b) (e2 : gI τ (0 + 1) (92 + 33 * i + 7) = nI c) (e3 : gI τ (0 + 1) (92 + 33 * i + 8) = nI d) (h1 : a + b ≤ 25) (h2 : c + d ≤ 25) : ∃ τ', f_X8_isBad 0 (nI i) τ = some (!gB τ 0 6 && !decide (L * chA a b c d < 1000 * chW a b c d), τ') ∧ τ'.1 = τ.1 ∧ τ'.2.2 = τ.2.2 ∧ SetsOK τ' := by
  obtain ⟨τ', t1, t2, t3, t4, t5, t6⟩ := findChance_eq hi hS e0 e1 e2 e3 h1 h2
  refine ⟨τ', ?_, t2, t3, t4⟩
  have hW := chW_le h1 h2
  have hA := chA_le h1 h2
  have hLA : L * chA a b c d ≤ 1000 * 2 ^ 50 := Nat.mul_le_mul hL hA
  unfold f_X8_isBad
  rw [t1, obd_s, t5, t6, show (2 : Int32).toNatClampNeg = 2 from rfl, show gI τ' (0 + 1) 2 = nI L by unfold gI; rw [t2]; exact eL, nI_l (by omega), show (1000 : Int64) = lN 1000 from rfl, lN_mul, lN_mul, show gB τ' 0 6 = gB τ 0 6 by unfold gB; rw [t3]]
  have hc := cmp_lt (a := 1000 * chW a b c d) (b := L * chA a b c d) (by omega) (by omega)
  cases gB τ 0 6
  · rw [if_neg (by decide)]
    by_cases h : L * chA a b c d < 1000 * chW a b c d
    · rw [if_pos (hc.mpr h), decide_eq_true h]; rfl
    · rw [if_neg (fun z => h (hc.mp z)), decide_eq_false h]; rfl
  · rw [if_pos rfl]; rfl
/-- one stage is turned back, and noted -/
theorem turn1_eq {σ τ : St} {b sz i bg : Nat} (hF : FR σ b (τ.1 (0 + 1))) (z1 : τ.1 (0 + 1) 10 = nI sz) (hsz : sz ≤ 5) (hi : i < sz) (hb : τ.1 (0 + 1) (92 + 33 * i + 3) = nI (bg + 1)) (hb6 : bg < 6) : ∃ σ' τ', f_X3_put (b + 30) (gI (sI σ (b + 1 + 1 + 5 * i) 6 (nI bg)) b 6) (gI (sI σ (b + 1 + 1 + 5 * i) 6 (nI bg)) (b + 1 + 1 + 5 * i) 0) 4 (nI bg) (sI σ (b + 1 + 1 + 5 * i) 6 (nI bg)) = some σ' ∧ f_X8_notes 0 (nI i) 4 (nI bg) (sI τ (0 + 1) (92 + 33 * i + 3) (nI bg)) = some τ' ∧ ST b σ τ σ' τ' ∧ gI σ' (b + 1 + 1 + 5 * i) 6 = nI bg ∧ gI τ' (0 + 1) (92 + 33 * i + 3) = nI bg ∧ SL i τ τ' := by
  obtain ⟨st, pl, bg', m, a, b', c', d, ⟨h1, h2, h3, h4, h5, h6, h7, h8, h9⟩, ⟨g1, g2, g3, g4, g5, g6⟩, e0, ⟨f1, f2, f3, f4⟩, k1, k2, m1, m2, m3, m4, m5, m6⟩ := (hF.row z1 hi hsz).use
  have hbb : bg' = bg + 1 := (eq_nI (by omega) (by omega)).mp (h5.symm.trans hb)
  subst hbb
  obtain ⟨lg, l1, l2⟩ := hF.lg
  have r1 : (sI τ (0 + 1) (92 + 33 * i + 3) (nI bg)).1 (0 + 1) = upd (τ.1 (0 + 1)) (92 + 33 * i + 3) (nI bg) := rI_s _ _ _ _
  obtain ⟨τ', t1, t2, t3, t4, t5, t6⟩ := notes_eq (τ := sI τ (0 + 1) (92 + 33 * i + 3) (nI bg)) (x1 := nI i) (x2 := 4) (x3 := nI bg) (lg := lg) (by rw [r1, upd_n (by omega)]; exact l1) l2
  rw [r1] at t5
  have t7 : ∀ k, (k < 11 ∨ 92 ≤ k) → τ'.1 (0 + 1) k = upd (τ.1 (0 + 1)) (92 + 33 * i + 3) (nI bg) k := fun k hk => by rw [t6 k hk, r1]
  obtain ⟨σ', s1, s2', s3, s4, s5⟩ := put_eq (σ := sI σ (b + 1 + 1 + 5 * i) 6 (nI bg)) (q := b + 30) (by rw [rI_n (by omega), rI_n (by omega)]; exact hF.2.2.1) (t5.congr (v2 := τ.1 (0 + 1)) (fun k k1 k2 => (upd_n (by omega)).symm))
  have er : ∀ q j, q ≠ b + 30 → q ≠ b + 30 + 1 → gI σ' q j = gI (sI σ (b + 1 + 1 + 5 * i) 6 (nI bg)) q j := fun q j q1 q2 => by unfold gI; rw [s2' q q1 q2]
  have eB : ∀ q j, gB σ' q j = gB σ q j := fun q j => by unfold gB; rw [s3]; rfl
  have eL : ∀ q j, gL σ' q j = gL σ q j := fun q j => by unfold gL; rw [s3]; rfl
  have ec : gI σ' (b + 1 + 1 + 5 * i) 6 = nI bg := by rw [er _ _ (by omega) (by omega), gI_s]
  have ev3 : τ'.1 (0 + 1) (92 + 33 * i + 3) = nI bg := by rw [t7 _ (by omega), upd_s]
  refine ⟨σ', τ', ?_, t1, ?_, ec, ev3, fun k q1 q2 => by rw [t7 k (by omega), upd_n (by omega)]⟩
  · rw [gI_n (k' := b) (Or.inl (by omega)), gI_n (Or.inr (by omega)), hF.2.2.2.2 i (by omega), show gI σ b 6 = τ.1 (0 + 1) 1 from hF.1.2.2.2.1]
    rw [show τ.1 (0 + 1) 1 = upd (τ.1 (0 + 1)) (92 + 33 * i + 3) (nI bg) 1 from (upd_n (by omega)).symm, s1]
  · refine ⟨hF.chg (i := i) (by omega) ?_ ?_ s4 ?_ ?_, ?_, frM.row.tr t2, ?_, fun hS => hS.same (by rw [t3]; rfl), ⟨1, ?_, ?_⟩, ?_⟩
    · intro q q1 q2 q3
      exact ⟨by rw [s2' q (by omega) (by omega), rI_n (by omega)], by rw [s3]; rfl, by rw [s3]; rfl⟩
    · intro k q1 q2
      rw [t7 k (by omega), upd_n (by omega)]
    · refine CR.of st pl bg m a b' c' d ⟨?_, h2, ?_, h4, ev3, by omega, fun z => absurd (h7 z) (by omega), ?_, h9⟩ ⟨?_, ?_, ?_, ?_, g5, g6⟩ ?_ ⟨?_, ?_, ec, ?_⟩ ?_ ?_ ⟨?_, ?_, ?_, ?_, ?_, ?_⟩
      · rw [t7 _ (by omega), upd_n (by omega)]; exact h1
      · rw [t7 _ (by omega), upd_n (by omega)]; exact h3
      · rw [t7 _ (by omega), upd_n (by omega)]; exact h8
      · rw [t7 _ (by omega), upd_n (by omega)]; exact g1
      · rw [t7 _ (by omega), upd_n (by omega)]; exact g2
      · rw [t7 _ (by omega), upd_n (by omega)]; exact g3
      · rw [t7 _ (by omega), upd_n (by omega)]; exact g4
      · rw [t7 _ (by omega), upd_n (by omega), eB]; exact e0
      · rw [er _ _ (by omega) (by omega), gI_n (Or.inr (by omega))]; exact f1
      · rw [er _ _ (by omega) (by omega), gI_n (Or.inr (by omega))]; exact f2
      · rw [er _ _ (by omega) (by omega), gI_n (Or.inl (by omega))]; exact f4
      · intro k hk
        rw [er _ _ (by omega) (by omega), er _ _ (by omega) (by omega), er _ _ (by omega) (by omega), gI_n (Or.inl (by omega)), gI_n (Or.inl (by omega)), gI_n (Or.inl (by omega)), t7 _ (by omega), t7 _ (by omega), t7 _ (by omega), upd_n (by omega), upd_n (by omega), upd_n (by omega)]
        exact k1 k hk
      · intro k hk
        rw [er _ _ (by omega) (by omega), gI_n (Or.inl (by omega)), t7 _ (by omega), upd_n (by omega)]
        exact k2 k (by omega)
      · rw [er _ _ (by omega) (by omega), gI_n (Or.inl (by omega))]; exact m1
      · rw [er _ _ (by omega) (by omega), gI_n (Or.inl (by omega))]; exact m2
      · rw [er _ _ (by omega) (by omega), gI_n (Or.inl (by omega))]; exact m3
      · rw [er _ _ (by omega) (by omega), gI_n (Or.inl (by omega))]; exact m4
      · rw [eL]; exact m5
      · rw [eL]; exact m6
    · rw [er _ _ (by omega) (by omega), gI_n (Or.inr (by omega))]
    · intro q hq
      exact ⟨by rw [s2' q (by omega) (by omega), rI_n (by omega)], by rw [s3]; rfl, by rw [s3]; rfl⟩
    · rw [s3]; rfl
    · rw [s5, gI_n (Or.inl (by omega))]
    · rw [t4, gI_n (Or.inl (by omega))]
    · rw [t7 _ (by omega), upd_n (by omega)]
theorem turnB_eq {σ τ : St} {b sz i bg : Nat} (hF : FR σ b (τ.1 (0 + 1))) (z1 : τ.1 (0 + 1) 10 = nI sz) (hsz : sz ≤ 5) (hi : i < sz) (e6 : gI σ (b + 1 + 1 + 5 * i) 6 = nI bg) (e3 : gI τ (0 + 1) (92 + 33 * i + 3) = nI bg) (hb6 : bg ≤ 6) : ∃ σ' τ', f_X1_turnStage_B37 b (b + 1 + 1 + 5 * i) σ = some σ' ∧ f_X8_turnsOn_B43 0 (nI i) τ = some τ' ∧ ST b σ τ σ' τ' ∧ SL i τ τ' := by
  unfold f_X1_turnStage_B37 f_X8_turnsOn_B43
  rw [e6, bnd_e, show f_X8_at (nI i) 3 = nI (92 + 33 * i + 3) from at_nI i 3, if_pos (inb_nI (by omega) (by omega)), cl_nI (by omega), e3]
  by_cases h0 : bg = 0
  · obtain ⟨σ', τ', a1, a2, a3⟩ := become_eq (x3 := 5) (s2 := 5) hF z1 hsz hi (by omega) (by omega)
    rw [if_pos (show nI bg = 0 by rw [h0]; rfl), if_pos (show nI bg = 0 by rw [h0]; rfl), show f_X1_become b (b + 1 + 1 + 5 * i) 5 5 σ = _ from a1, show f_X8_becomes 0 (nI i) 5 5 τ = _ from a2]
    exact ⟨_, _, rfl, rfl, a3⟩
  · rw [if_neg (show ¬ nI bg = 0 from neN (b := 0) h0 (by omega) (by omega)), if_neg (show ¬ nI bg = 0 from neN (b := 0) h0 (by omega) (by omega))]
    exact ⟨_, _, rfl, rfl, ST.rf hF, SL.rf⟩
theorem turn_eq {σ τ : St} {b sz i : Nat} (hF : FR σ b (τ.1 (0 + 1))) (z1 : τ.1 (0 + 1) 10 = nI sz) (hsz : sz ≤ 5) (hi : i < sz) : ∃ σ' τ', f_X1_turnStage b (b + 1 + 1 + 5 * i) σ = some σ' ∧ f_X8_turnsOn 0 (nI i) τ = some τ' ∧ ST b σ τ σ' τ' ∧ SL i τ τ' := by
  obtain ⟨st, pl, bg, m, a, b', c', d, ⟨h1, h2, h3, h4, h5, h6, h7, h8, h9⟩, -, e0, ⟨f1, f2, f3, f4⟩, -⟩ := (hF.row z1 hi hsz).use
  unfold f_X1_turnStage f_X8_turnsOn
  simp only [bnd_e]
  rw [show f_X8_at (nI i) 3 = nI (92 + 33 * i + 3) from at_nI i 3, inb_nI (show 92 + 33 * i + 3 < 257 by omega) (by omega), cl_nI (show 92 + 33 * i + 3 < 10000000 by omega), show gI τ (0 + 1) (92 + 33 * i + 3) = nI bg from h5, f3, if_pos rfl, if_pos rfl, if_pos rfl, if_pos rfl]
  by_cases h0 : bg = 0
  · obtain ⟨σ', τ', a1, a2, a3⟩ := turnB_eq hF z1 hsz hi f3 h5 (by omega)
    rw [if_pos (show nI bg ≤ 0 by rw [h0]; decide), if_pos (show nI bg ≤ 0 by rw [h0]; decide)]
    exact ⟨_, _, a1, a2, a3⟩
  · obtain ⟨bg', rfl⟩ : ∃ k, bg = k + 1 := ⟨bg - 1, by omega⟩
    obtain ⟨σ1, τ1, a1, a2, a3, a4, a5, a6⟩ := turn1_eq hF z1 hsz hi h5 (by omega)
    obtain ⟨σ', τ', b1, b2, b3⟩ := turnB_eq a3.1 (a3.2.2.2.2.2.2.trans z1) hsz hi a4 a5 (by omega)
    rw [if_neg (show ¬ nI (bg' + 1) ≤ 0 from nleN (b := 0) (by omega) (by omega)), if_neg (show ¬ nI (bg' + 1) ≤ 0 from nleN (b := 0) (by omega) (by omega)), m1_nI (by omega), show bg' + 1 - 1 = bg' by omega, show gI (sI σ (b + 1 + 1 + 5 * i) 6 (nI bg')) (b + 1 + 1 + 5 * i) 6 = nI bg' from gI_s _ _ _ _, gI_s τ, a1, a2, obd_s, obd_s]
    exact ⟨_, _, b1, b2, a3.tr b3.1, a6.tr b3.2⟩
