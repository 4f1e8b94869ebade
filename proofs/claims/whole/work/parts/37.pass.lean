/-! a change goes on; the hours pass -/
theorem goes_L {i : Nat} {x2 : Int32} (hi : i < 5) : ∀ (m k F : Nat) (τ : St), k + m = 4 → m < F → ∃ τ', it3 (f_X8_goesOn_L67 0 (nI i)) F x2 (nI k) τ = (obd (f_X8_notes 0 (nI i) 1 x2 τ') fun σ3 => some σ3) ∧ frM τ τ' ∧ τ'.2 = τ.2 ∧ gI τ' 0 7 = gI τ 0 7 ∧ ∀ j, τ'.1 (0 + 1) j = if 92 + 33 * i + 5 + k ≤ j ∧ j < 92 + 33 * i + 9 then 0 else τ.1 (0 + 1) j := by
  intro m
  induction m with
  | zero =>
    intro k F τ hkm hF
    obtain ⟨F, rfl⟩ : ∃ n', F = n' + 1 := ⟨F - 1, by omega⟩
    refine ⟨τ, ?_, frM.rf, rfl, rfl, fun j => by rw [if_neg (by omega)]⟩
    show f_X8_goesOn_L67 0 (nI i) (it3 (f_X8_goesOn_L67 0 (nI i)) F) x2 (nI k) τ = _
    generalize it3 (f_X8_goesOn_L67 0 (nI i)) F = g
    unfold f_X8_goesOn_L67
    rw [show (4 : Int32) = nI 4 from rfl, if_pos (leN (by omega) (by omega))]
  | succ m ih =>
    intro k F τ hkm hF
    obtain ⟨F, rfl⟩ : ∃ n', F = n' + 1 := ⟨F - 1, by omega⟩
    obtain ⟨τ', t1, t2, t3, t4, t5⟩ := ih (k + 1) F (sI τ (0 + 1) (92 + 33 * i + (5 + k)) 0) (by omega) (by omega)
    refine ⟨τ', ?_, frM.row.tr t2, t3, by rw [t4, gI_n (Or.inl (by omega))], fun j => ?_⟩
    · show f_X8_goesOn_L67 0 (nI i) (it3 (f_X8_goesOn_L67 0 (nI i)) F) x2 (nI k) τ = _
      generalize it3 (f_X8_goesOn_L67 0 (nI i)) F = g at t1 ⊢
      unfold f_X8_goesOn_L67
      rw [show (4 : Int32) = nI 4 from rfl, if_neg (nleN (by omega) (by omega)), show (5 : Int32) + nI k = nI (5 + k) from nI_add 5 k, at_nI, bnd_e, if_pos (inb_nI (by omega) (by omega)), bnd_e, bnd_e, cl_nI (by omega), nI_1, t1]
    · rw [t5, rI_s]
      by_cases h : 92 + 33 * i + 5 + k ≤ j ∧ j < 92 + 33 * i + 9
      · rw [if_pos h]
        by_cases h2 : j = 92 + 33 * i + (5 + k)
        · rw [if_neg (by omega), h2, upd_s]
        · rw [if_pos (by omega)]
      · rw [if_neg h, if_neg (by omega), upd_n (by omega)]
theorem goOn_eq {σ τ : St} {b sz i : Nat} (hF : FR σ b (τ.1 (0 + 1))) (z1 : τ.1 (0 + 1) 10 = nI sz) (hsz : sz ≤ 5) (hi : i < sz) (hst : τ.1 (0 + 1) (92 + 33 * i + 1) = nI 1) : ∃ σ' τ', f_X1_goOn b (b + 1 + 1 + 5 * i) σ = some σ' ∧ f_X8_goesOn 0 (nI i) τ = some τ' ∧ ST b σ τ σ' τ' ∧ SL i τ τ' := by
  obtain ⟨F, hFu, eF⟩ := fuel_ex
  obtain ⟨st, pl, bg, m, a, b', c', d, ⟨h1, h2, h3, h4, h5, h6, h7, h8, h9⟩, ⟨g1, g2, g3, g4, g5, g6⟩, e0, ⟨f1, f2, f3, f4⟩, k1, k2, m1, m2, m3, m4, m5, m6⟩ := (hF.row z1 hi hsz).use
  have hs1 : st = 1 := (eq_nI (by omega) (by omega)).mp (h1.symm.trans hst)
  subst hs1
  unfold f_X1_goOn f_X8_goesOn f_X0_hasFurtherStage
  simp only [bnd_e]
  rw [eF, f4, f3, show f_X8_at (nI i) 3 = nI (92 + 33 * i + 3) from at_nI i 3, show f_X8_at (nI i) 2 = nI (92 + 33 * i + 2) from at_nI i 2, inb_nI (show 92 + 33 * i + 3 < 257 by omega) (by omega), inb_nI (show 92 + 33 * i + 2 < 257 by omega) (by omega), cl_nI (show 92 + 33 * i + 3 < 10000000 by omega), cl_nI (show 92 + 33 * i + 2 < 10000000 by omega), show gI τ (0 + 1) (92 + 33 * i + 3) = nI bg from h5, show gI τ (0 + 1) (92 + 33 * i + 2) = nI pl from h3, if_pos rfl, if_pos rfl]
  by_cases hp : pl ≤ bg
  · obtain ⟨σ', τ', a1, a2, a3⟩ := become_eq (x3 := 2) (s2 := 3) hF z1 hsz hi (by omega) (by omega)
    rw [if_pos (leN hp (by omega)), if_neg (show ¬ false = true by decide), if_pos (show nI bg = nI pl by rw [show bg = pl by omega]), show f_X1_become b (b + 1 + 1 + 5 * i) 3 2 σ = _ from a1, show f_X8_becomes 0 (nI i) 3 2 τ = _ from a2]
    exact ⟨_, _, rfl, rfl, a3⟩
  · have i3 : f_X8_stageAt (nI i) (nI bg) 3 = nI (92 + 33 * i + (12 + 4 * bg)) := by
      rw [show f_X8_stageAt (nI i) (nI bg) 3 = nI (92 + 33 * i + (9 + 4 * bg + 3)) from sat_nI i bg 3]
      congr 1
      omega
    rw [if_neg (nleN (by omega) (by omega)), if_pos (show true = true from rfl), if_neg (neN (by omega) (by omega) (by omega)), i3, inb_nI (show 92 + 33 * i + (12 + 4 * bg) < 257 by omega) (by omega), cl_nI (show 92 + 33 * i + (12 + 4 * bg) < 10000000 by omega), if_pos rfl, if_pos rfl, if_pos rfl, gI_n (k := 0 + 1) (j' := 92 + 33 * i + 3) (Or.inr (by omega)), show gI τ (0 + 1) (92 + 33 * i + 3) = nI bg from h5, nI_1, show (1 : Int32).toNatClampNeg = 1 from rfl]
    generalize hτ0 : sI (sI τ (0 + 1) (92 + 33 * i + (12 + 4 * bg)) (gI τ (0 + 1) 1)) (0 + 1) (92 + 33 * i + 3) (nI (bg + 1)) = τ0
    have q0 : τ0.1 (0 + 1) = upd (upd (τ.1 (0 + 1)) (92 + 33 * i + (12 + 4 * bg)) (gI τ (0 + 1) 1)) (92 + 33 * i + 3) (nI (bg + 1)) := by rw [← hτ0, rI_s, rI_s]
    have fm0 : frM τ τ0 := by rw [← hτ0]; exact frM.row.tr frM.row
    have q1 : τ0.2 = τ.2 := by rw [← hτ0]; rfl
    have q7 : gI τ0 0 7 = gI τ 0 7 := by rw [← hτ0, gI_n (Or.inl (by omega)), gI_n (Or.inl (by omega))]
    clear hτ0
    obtain ⟨τ1, n1, n2, n3, n4, n5⟩ := goes_L (i := i) (x2 := nI bg) (by omega) 4 0 F τ0 (by omega) (by omega)
    have w1 : ∀ k, τ1.1 (0 + 1) k = if 92 + 33 * i + 5 ≤ k ∧ k < 92 + 33 * i + 9 then 0 else upd (upd (τ.1 (0 + 1)) (92 + 33 * i + (12 + 4 * bg)) (gI τ (0 + 1) 1)) (92 + 33 * i + 3) (nI (bg + 1)) k := fun k => by rw [n5, q0]
    have w2 : ∀ k, k < 92 ∨ (k < 92 + 33 * i ∨ 92 + 33 * i + 33 ≤ k) → τ1.1 (0 + 1) k = τ.1 (0 + 1) k := by
      intro k hk
      rw [w1, if_neg (by omega), upd_n (by omega), upd_n (by omega)]
    obtain ⟨lg, l1, l2⟩ := hF.lg
    obtain ⟨τ', t1, t2, t3, t4, t5, t6⟩ := notes_eq (τ := τ1) (x1 := nI i) (x2 := 1) (x3 := nI bg) (lg := lg) (by rw [w2 _ (by omega)]; exact l1) l2
    rw [w2 1 (by omega)] at t5
    obtain ⟨σ1, s1, s2', s3, s4, s5⟩ := put_eq (σ := σ) (q := b + 30) hF.2.2.1 (t5.congr (v2 := τ.1 (0 + 1)) (fun k k1 k2 => (w2 k (by omega)).symm))
    have er : ∀ q j, q ≠ b + 30 → q ≠ b + 30 + 1 → gI σ1 q j = gI σ q j := fun q j q1 q2 => by unfold gI; rw [s2' q q1 q2]
    rw [show (0 : Int32) = nI 0 from rfl, n1, t1, obd_s, hF.2.2.2.2 i (by omega), show gI σ b 6 = τ.1 (0 + 1) 1 from hF.1.2.2.2.1, s1, obd_s]
    unfold f_X0_beginStage
    rw [er _ _ (by omega) (by omega), f3, if_neg (nI_pos (by omega)), show (6 : Int32) = nI 6 from rfl, if_neg (nleN (by omega) (by omega)), bnd_e, if_pos (inb_nI (by omega) (by omega)), cl_nI (by omega), bnd_e, gI_n (Or.inl (by omega)), er (b + 1 + 1 + 5 * i) _ (by omega) (by omega), f3, nI_1, bnd_e, bnd_e, obd_s, er b _ (by omega) (by omega), show gI σ b 6 = τ.1 (0 + 1) 1 from hF.1.2.2.2.1]
    refine ⟨_, τ', rfl, rfl, ?_, fun k p1 p2 => by rw [t6 k (by omega), w2 k (by omega)]⟩
    generalize hσ2 : f_X6_empty (b + 1 + 1 + 5 * i + 3) (sI (sI σ1 (b + 1 + 1 + 5 * i + 4) bg (τ.1 (0 + 1) 1)) (b + 1 + 1 + 5 * i) 6 (nI (bg + 1))) = σ2
    have y1 : ∀ q, q ≠ b + 1 + 1 + 5 * i + 3 → q ≠ b + 1 + 1 + 5 * i + 4 → q ≠ b + 1 + 1 + 5 * i → σ2.1 q = σ1.1 q := by
      intro q p1 p2 p3
      rw [← hσ2, (empty_rows p1).1, rI_n p3, rI_n p2]
    have y2 : ∀ q, q ≠ b + 1 + 1 + 5 * i + 3 → σ2.2.1 q = σ.2.1 q := by
      intro q p1
      rw [← hσ2, (empty_rows p1).2]
      show σ1.2.1 q = _
      rw [s3]
    have y3 : σ2.2.2 = σ.2.2 := by
      rw [← hσ2, empty_B]
      show σ1.2.2 = _
      rw [s3]
    have y4 : ∀ q j, q ≠ b + 1 + 1 + 5 * i + 3 → gI σ2 q j = gI (sI (sI σ1 (b + 1 + 1 + 5 * i + 4) bg (τ.1 (0 + 1) 1)) (b + 1 + 1 + 5 * i) 6 (nI (bg + 1))) q j := by
      intro q j p1
      rw [← hσ2, empty_I, if_neg (fun z => p1 z.1)]
    have y5 : ∀ j, j < 4 → gI σ2 (b + 1 + 1 + 5 * i + 3) j = nI 0 := by
      intro j p1
      rw [← hσ2, empty_I, if_pos ⟨rfl, p1⟩]
      rfl
    have y6 : ∀ j, (j = 4 ∨ j = 5) → gL σ2 (b + 1 + 1 + 5 * i + 3) j = lN 1 := by
      intro j p1
      rw [← hσ2, empty_L, if_pos ⟨rfl, p1⟩]
      rfl
    clear hσ2
    refine ⟨hF.chg (i := i) (by omega) ?_ ?_ ?_ ?_ ?_, ?_, (fm0.tr n2).tr t2, y3, fun hS => hS.same (by rw [t3, n3, q1]), ⟨1, ?_, ?_⟩, ?_⟩
    · intro q p1 p2 p3
      exact ⟨by rw [y1 q (by omega) (by omega) (by omega), s2' q (by omega) (by omega)], y2 q (by omega), by rw [y3]⟩
    · intro k p1 p2
      rw [t6 k (by omega), w2 k (by omega)]
    · rw [y1 _ (by omega) (by omega) (by omega), y1 _ (by omega) (by omega) (by omega)]
      exact s4
    · have v0 : ∀ k, k < 33 → k ≠ 3 → k ≠ 5 → k ≠ 6 → k ≠ 7 → k ≠ 8 → k ≠ 12 + 4 * bg → τ'.1 (0 + 1) (92 + 33 * i + k) = τ.1 (0 + 1) (92 + 33 * i + k) := by
        intro k p0 p1 p2 p3 p4 p5 p6
        rw [t6 _ (by omega), w1, if_neg (by omega), upd_n (by omega), upd_n (by omega)]
      have vz : ∀ k, 5 ≤ k → k < 9 → τ'.1 (0 + 1) (92 + 33 * i + k) = nI 0 := by
        intro k p1 p2
        rw [t6 _ (by omega), w1, if_pos (by omega)]
        rfl
      refine CR.of 1 pl (bg + 1) m 0 0 0 0 ⟨?_, by omega, ?_, h4, ?_, by omega, fun z => absurd z (by omega), ?_, h9⟩ ⟨vz 5 (by omega) (by omega), vz 6 (by omega) (by omega), vz 7 (by omega) (by omega), vz 8 (by omega) (by omega), by omega, by omega⟩ ?_ ⟨?_, ?_, ?_, ?_⟩ ?_ ?_ ⟨y5 0 (by omega), y5 1 (by omega), y5 2 (by omega), y5 3 (by omega), ?_, ?_⟩
      · rw [v0 _ (by omega) (by omega) (by omega) (by omega) (by omega) (by omega) (by omega)]; exact h1
      · rw [v0 _ (by omega) (by omega) (by omega) (by omega) (by omega) (by omega) (by omega)]; exact h3
      · rw [t6 _ (by omega), w1, if_neg (by omega), upd_s]
      · rw [v0 _ (by omega) (by omega) (by omega) (by omega) (by omega) (by omega) (by omega)]; exact h8
      · rw [show gB σ2 (b + 1 + 1 + 5 * i) 7 = gB σ (b + 1 + 1 + 5 * i) 7 by unfold gB; rw [y3]]
        have := v0 0 (by omega) (by omega) (by omega) (by omega) (by omega) (by omega) (by omega)
        rw [Nat.add_zero (92 + 33 * i)] at this
        rw [this]; exact e0
      · rw [y4 _ _ (by omega), gI_n (Or.inr (by omega)), gI_n (Or.inl (by omega)), er _ _ (by omega) (by omega)]; exact f1
      · rw [y4 _ _ (by omega), gI_n (Or.inr (by omega)), gI_n (Or.inl (by omega)), er _ _ (by omega) (by omega)]; exact f2
      · rw [y4 _ _ (by omega), gI_s]
      · rw [y4 _ _ (by omega), gI_n (Or.inl (by omega)), gI_n (Or.inl (by omega)), er _ _ (by omega) (by omega)]; exact f4
      · intro k hk
        have y7 : ∀ j, gI σ2 (b + 1 + 1 + 5 * i + 1 + 1) j = gI σ (b + 1 + 1 + 5 * i + 1 + 1) j := fun j => by rw [y4 _ _ (by omega), gI_n (Or.inl (by omega)), gI_n (Or.inl (by omega)), er _ _ (by omega) (by omega)]
        rw [y7, y7, y7, v0 _ (by omega) (by omega) (by omega) (by omega) (by omega) (by omega) (by omega), v0 _ (by omega) (by omega) (by omega) (by omega) (by omega) (by omega) (by omega), v0 _ (by omega) (by omega) (by omega) (by omega) (by omega) (by omega) (by omega)]
        exact k1 k hk
      · intro k hk
        rw [y4 _ _ (by omega), gI_n (Or.inl (by omega))]
        by_cases hkb : k = bg
        · subst hkb
          rw [gI_s, t6 _ (by omega), w1, if_neg (by omega), upd_n (by omega), upd_s]
          rfl
        · rw [gI_n (Or.inr hkb), er _ _ (by omega) (by omega), v0 _ (by omega) (by omega) (by omega) (by omega) (by omega) (by omega) (by omega)]
          exact k2 k (by omega)
      · rw [y6 4 (Or.inl rfl), chN0]
      · rw [y6 5 (Or.inr rfl), chD0]
    · rw [y4 _ _ (by omega), gI_n (Or.inr (by omega)), gI_n (Or.inl (by omega)), er _ _ (by omega) (by omega)]
    · intro q hq
      exact ⟨by rw [y1 q (by omega) (by omega) (by omega), s2' q (by omega) (by omega)], y2 q (by omega), by rw [y3]⟩
    · rw [y4 _ _ (by omega), gI_n (Or.inl (by omega)), gI_n (Or.inl (by omega)), s5]
    · rw [t4, n4, q7]
    · rw [t6 _ (by omega), w2 _ (by omega)]
/-- what is left of an hour for a change that is not bad -/
theorem rest_eq {σ τ : St} {b sz i : Nat} {rec : Int32 → St → Option St} (hF : FR σ b (τ.1 (0 + 1))) (hz : gB σ b 3 = gB τ 0 6) (z1 : τ.1 (0 + 1) 10 = nI sz) (hsz : sz ≤ 5) (hi : i < sz) : ∃ σ' τ', (if (gI σ (b + 1 + 1 + 5 * i) 5) = 4 then (obd (f_X1_turnStage b (b + 1 + 1 + 5 * i) σ) fun σ12 => some σ12) else (if (gI σ (b + 1 + 1 + 5 * i) 5) = 1 then (obd (f_X1_reasonOf b (b + 1 + 1 + 5 * i) σ) fun v7 => if v7 = 0 then (obd (f_X1_goOn b (b + 1 + 1 + 5 * i) σ) fun σ10 => some σ10) else (some σ)) else (some σ))) = some σ' ∧ f_X8_passes_B40 0 rec (nI i) τ = rec (nI (i + 1)) τ' ∧ ST b σ τ σ' τ' ∧ SL i τ τ' ∧ (τ.1 (0 + 1) (92 + 33 * i + 1) = nI 0 ∨ τ.1 (0 + 1) (92 + 33 * i + 1) = nI 2 → τ'.1 = τ.1) := by
  obtain ⟨st, pl, bg, m, a, b', c', d, ⟨h1, h2, h3, h4, h5, h6, h7, h8, h9⟩, -, e0, ⟨f1, f2, f3, f4⟩, -⟩ := (hF.row z1 hi hsz).use
  unfold f_X8_passes_B40
  simp only [bnd_e, nI_1]
  rw [f2, show f_X8_at (nI i) 1 = nI (92 + 33 * i + 1) from at_nI i 1, inb_nI (show 92 + 33 * i + 1 < 257 by omega) (by omega), cl_nI (show 92 + 33 * i + 1 < 10000000 by omega), show gI τ (0 + 1) (92 + 33 * i + 1) = nI st from h1, if_pos rfl, if_pos rfl]
  by_cases s4 : st = 4
  · obtain ⟨σ', τ', a1, a2, a3⟩ := turn_eq hF z1 hsz hi
    have hno : ¬ (nI st = nI 0 ∨ nI st = nI 2) := by rw [s4]; decide
    rw [if_pos (show nI st = 4 by rw [s4]; rfl), if_pos (show nI st = 4 by rw [s4]; rfl), a1, a2]
    exact ⟨_, _, rfl, rfl, a3.1, a3.2, fun z => absurd (by rw [← h1]; exact z) hno⟩
  · rw [if_neg (show ¬ nI st = 4 from neN (b := 4) s4 (by omega) (by omega)), if_neg (show ¬ nI st = 4 from neN (b := 4) s4 (by omega) (by omega))]
    by_cases s1 : st = 1
    · rw [if_pos (show nI st = 1 by rw [s1]; rfl), if_pos (show nI st = 1 by rw [s1]; rfl)]
      obtain ⟨r, r1, r2⟩ := reason_eq hF hz z1 hsz hi
      rw [r1, r2, obd_s, obd_s]
      by_cases hr : r = 0
      · obtain ⟨σ', τ', a1, a2, a3⟩ := goOn_eq hF z1 hsz hi (by rw [h1, s1])
        rw [if_pos hr, if_pos hr, a1, a2]
        have hno : ¬ (nI st = nI 0 ∨ nI st = nI 2) := by rw [s1]; decide
        exact ⟨_, _, rfl, rfl, a3.1, a3.2, fun z => absurd (by rw [← h1]; exact z) hno⟩
      · rw [if_neg hr, if_neg hr]
        exact ⟨_, _, rfl, rfl, ST.rf hF, SL.rf, fun _ => rfl⟩
    · rw [if_neg (show ¬ nI st = 1 from neN (b := 1) s1 (by omega) (by omega)), if_neg (show ¬ nI st = 1 from neN (b := 1) s1 (by omega) (by omega))]
      exact ⟨_, _, rfl, rfl, ST.rf hF, SL.rf, fun _ => rfl⟩
theorem ST.of1 {b : Nat} {σ τ τ1 : St} (hF : FR σ b (τ.1 (0 + 1))) (h1 : τ1.1 = τ.1) (h2 : τ1.2.2 = τ.2.2) (hS : SetsOK τ1) : ST b σ τ σ τ1 := ⟨by rw [h1]; exact hF, frC.rf, frM.of1 h1 h2, rfl, fun _ => hS, ⟨0, by simp, by unfold gI; rw [h1]; simp⟩, by rw [h1]⟩
theorem move_eq {σ τ : St} {b sz i : Nat} {rec : Int32 → St → Option St} (hF : FR σ b (τ.1 (0 + 1))) (hS : SetsOK τ) (hz : gB σ b 3 = gB τ 0 6) (z1 : τ.1 (0 + 1) 10 = nI sz) (hsz : sz ≤ 5) (hi : i < sz) : ∃ σ' τ', f_X1_moveInHour b (b + 1 + 1 + 5 * i) σ = some σ' ∧ f_X8_passes_L2 0 rec (nI i) τ = rec (nI (i + 1)) τ' ∧ ST b σ τ σ' τ' ∧ SL i τ τ' ∧ (gB τ 0 6 = true → τ.1 (0 + 1) (92 + 33 * i + 1) = nI 0 ∨ τ.1 (0 + 1) (92 + 33 * i + 1) = nI 2 → τ'.1 = τ.1) := by
  obtain ⟨st, pl, bg, m, a, b', c', d, ⟨h1, h2, h3, h4, h5, h6, h7, h8, h9⟩, ⟨g1, g2, g3, g4, g5, g6⟩, e0, ⟨f1, f2, f3, f4⟩, k1, k2, m1, m2, m3, m4, m5, m6⟩ := (hF.row z1 hi hsz).use
  obtain ⟨L, eL, hL⟩ := hF.1.2.1
  unfold f_X1_moveInHour f_X8_passes_L2 f_X1_hasBadChance
  rw [show (10 : Int32).toNatClampNeg = 10 from rfl, show gI τ (0 + 1) 10 = nI sz from z1, if_neg (nleN (by omega) (by omega)), isOut_eq (by omega) h1 h5 h2 (by omega), obd_s, bnd_e, bnd_e, watched_eq f2 h2, f3, show gI σ b 7 = nI L from hF.1.2.2.2.2.1.trans eL, bnd_e, atMost_eq hL g5 g6 m5 m6, hz]
  by_cases ho : (st = 1 ∨ st = 2) ∧ 0 < bg
  · obtain ⟨τ1, t1, t2, t3, t4⟩ := isBad_eq (i := i) (by omega) hS hL eL g1 g2 g3 g4 g5 g6
    have hST1 : ST b σ τ σ τ1 := ST.of1 hF t2 t3 t4
    have hSL1 : SL i τ τ1 := fun k _ _ => by rw [t2]
    rw [decide_eq_true ho, decide_eq_true ho.1, if_pos rfl, if_pos rfl, t1, ob2_s, if_neg (show ¬ nI bg ≤ 0 from nleN (b := 0) (by omega) (by omega))]
    have hb : (if gB τ 0 6 = true then false else if (!decide (L * chA a b' c' d < 1000 * chW a b' c' d)) = true then true else false) = (!gB τ 0 6 && !decide (L * chA a b' c' d < 1000 * chW a b' c' d)) := by
      cases gB τ 0 6 <;> cases decide (L * chA a b' c' d < 1000 * chW a b' c' d) <;> rfl
    rw [hb]
    by_cases hbad : (!gB τ 0 6 && !decide (L * chA a b' c' d < 1000 * chW a b' c' d)) = true
    · obtain ⟨σ', τ', a1, a2, a3⟩ := become_eq (x3 := 3) (s2 := 4) hST1.1 (hST1.2.2.2.2.2.2.trans z1) hsz hi (by omega) (by omega)
      rw [if_pos hbad, if_pos hbad, show f_X1_become b (b + 1 + 1 + 5 * i) 4 3 σ = _ from a1, show f_X8_becomes 0 (nI i) 4 3 τ1 = _ from a2, obd_s, ob2_s, bnd_e, nI_1]
      exact ⟨_, _, rfl, rfl, hST1.tr a3.1, hSL1.tr a3.2, fun z => absurd hbad (by rw [z]; simp)⟩
    · rw [if_neg hbad, if_neg hbad]
      obtain ⟨σ', τ', a1, a2, a3⟩ := rest_eq (rec := rec) hST1.1 (hz.trans (by unfold gB; rw [t3])) (hST1.2.2.2.2.2.2.trans z1) hsz hi
      exact ⟨_, _, a1, a2, hST1.tr a3.1, hSL1.tr a3.2.1, fun _ z => (a3.2.2 (by rw [t2]; exact z)).trans t2⟩
  · have hb : (if gB τ 0 6 = true then false else if decide (st = 1 ∨ st = 2) = true then (if nI bg ≤ 0 then false else if (!decide (L * chA a b' c' d < 1000 * chW a b' c' d)) = true then true else false) else false) = false := by
      by_cases hs : st = 1 ∨ st = 2
      · rw [if_pos (show nI bg ≤ 0 by rw [show bg = 0 by omega]; decide)]
        cases gB τ 0 6 <;> cases decide (st = 1 ∨ st = 2) <;> rfl
      · rw [decide_eq_false hs]
        cases gB τ 0 6 <;> rfl
    rw [decide_eq_false ho, hb, if_neg (show ¬ false = true by decide), if_neg (show ¬ false = true by decide)]
    obtain ⟨σ', τ', a1, a2, a3⟩ := rest_eq (rec := rec) hF hz z1 hsz hi
    exact ⟨_, _, a1, a2, a3.1, a3.2.1, fun _ z => a3.2.2 z⟩
theorem hour_L {b sz : Nat} (hsz : sz ≤ 5) : ∀ (m k F G : Nat) (σ τ : St), k + m = sz → m < F → m < G → FR σ b (τ.1 (0 + 1)) → SetsOK τ → gB σ b 3 = gB τ 0 6 → τ.1 (0 + 1) 10 = nI sz → ∃ σ' τ', it2 (f_X1_passHour_L2 b) F (nI k) σ = some σ' ∧ it2 (f_X8_passes_L2 0) G (nI k) τ = some τ' ∧ ST b σ τ σ' τ' ∧ (gB τ 0 6 = true → ∀ j, j < 5 → (τ.1 (0 + 1) (92 + 33 * j + 1) = nI 0 ∨ τ.1 (0 + 1) (92 + 33 * j + 1) = nI 2) → τ'.1 (0 + 1) (92 + 33 * j + 1) = τ.1 (0 + 1) (92 + 33 * j + 1)) := by
  intro m
  induction m with
  | zero =>
    intro k F G σ τ hkm hF hG hFR hS hz z1
    obtain ⟨F, rfl⟩ : ∃ n', F = n' + 1 := ⟨F - 1, by omega⟩
    obtain ⟨G, rfl⟩ : ∃ n', G = n' + 1 := ⟨G - 1, by omega⟩
    refine ⟨sI σ b 6 (gI σ b 6 + 1), sI τ (0 + 1) 1 (gI σ b 6 + 1), ?_, ?_, ⟨?_, frC.I (by omega), frM.row, rfl, fun h => h.same rfl, ⟨0, ?_, ?_⟩, ?_⟩, fun _ j hj _ => by rw [rI_s, upd_n (by omega)]⟩
    · show f_X1_passHour_L2 b (it2 (f_X1_passHour_L2 b) F) (nI k) σ = _
      generalize it2 (f_X1_passHour_L2 b) F = g
      unfold f_X1_passHour_L2
      rw [show gI σ b 4 = nI sz from hFR.1.2.2.2.2.2.trans z1, if_pos (leN (by omega) (by omega)), bnd_e]
    · show f_X8_passes_L2 0 (it2 (f_X8_passes_L2 0) G) (nI k) τ = _
      generalize it2 (f_X8_passes_L2 0) G = g
      unfold f_X8_passes_L2
      rw [show (10 : Int32).toNatClampNeg = 10 from rfl, show gI τ (0 + 1) 10 = nI sz from z1, if_pos (leN (by omega) (by omega)), bnd_e, show (1 : Int32).toNatClampNeg = 1 from rfl, show gI σ b 6 = gI τ (0 + 1) 1 from hFR.1.2.2.2.1]
    · rw [rI_s]
      refine hFR.hdr (fun q h1 h2 => ⟨rI_n (by omega), rfl, rfl⟩) (fun k h1 h2 => upd_n (by omega)) ?_ ?_ ?_ ?_ ?_ ?_
      · rw [upd_n (by omega)]; exact hFR.1.1
      · rw [upd_n (by omega)]; exact hFR.1.2.1
      · rw [gI_n (Or.inr (by omega)), upd_n (by omega)]; exact hFR.1.2.2.1
      · rw [gI_s, upd_s]
      · rw [gI_n (Or.inr (by omega)), upd_n (by omega)]; exact hFR.1.2.2.2.2.1
      · rw [gI_n (Or.inr (by omega))]
    · rw [gI_n (Or.inl (by omega))]; simp
    · rw [gI_n (Or.inl (by omega))]; simp
    · rw [rI_s, upd_n (by omega)]
  | succ m ih =>
    intro k F G σ τ hkm hF hG hFR hS hz z1
    obtain ⟨F, rfl⟩ : ∃ n', F = n' + 1 := ⟨F - 1, by omega⟩
    obtain ⟨G, rfl⟩ : ∃ n', G = n' + 1 := ⟨G - 1, by omega⟩
    obtain ⟨σ1, τ1, s1, t1, hST, hSL, hM⟩ := move_eq (rec := it2 (f_X8_passes_L2 0) G) hFR hS hz z1 hsz (show k < sz by omega)
    obtain ⟨σ', τ', s2, t2, hST2, hK⟩ := ih (k + 1) F G σ1 τ1 (by omega) (by omega) (by omega) hST.1 (hST.2.2.2.2.1 hS) (by unfold gB; rw [hST.2.2.2.1, hST.2.2.1.2.2]; exact hz) (hST.2.2.2.2.2.2.trans z1)
    have hK1 : gB τ 0 6 = true → ∀ j, j < 5 → (τ.1 (0 + 1) (92 + 33 * j + 1) = nI 0 ∨ τ.1 (0 + 1) (92 + 33 * j + 1) = nI 2) → τ1.1 (0 + 1) (92 + 33 * j + 1) = τ.1 (0 + 1) (92 + 33 * j + 1) := by
      intro hg j hj hx
      by_cases hjk : j = k
      · subst hjk
        rw [hM hg hx]
      · exact hSL _ (by omega) (by omega)
    refine ⟨σ', τ', ?_, ?_, hST.tr hST2, fun hg j hj hx => (hK (by unfold gB; rw [hST.2.2.1.2.2]; exact hg) j hj (by rw [hK1 hg j hj hx]; exact hx)).trans (hK1 hg j hj hx)⟩
    · show f_X1_passHour_L2 b (it2 (f_X1_passHour_L2 b) F) (nI k) σ = _
      rw [← s2]
      generalize it2 (f_X1_passHour_L2 b) F = g
      unfold f_X1_passHour_L2
      rw [show gI σ b 4 = nI sz from hFR.1.2.2.2.2.2.trans z1, if_neg (nleN (by omega) (by omega)), show (5 : Int32) = nI 5 from rfl, if_neg (nleN (by omega) (by omega)), if_pos (inb_nI (by omega) (by omega)), cl_nI (by omega), s1, obd_s, bnd_e, nI_1]
    · show f_X8_passes_L2 0 (it2 (f_X8_passes_L2 0) G) (nI k) τ = _
      rw [t1, t2]
theorem hour_eq {σ τ : St} {b : Nat} (hF : FR σ b (τ.1 (0 + 1))) (hS : SetsOK τ) (hz : gB σ b 3 = gB τ 0 6) : ∃ σ' τ', f_X1_passHour b σ = some σ' ∧ f_X8_passes 0 τ = some τ' ∧ ST b σ τ σ' τ' ∧ (gB τ 0 6 = true → ∀ j, j < 5 → (τ.1 (0 + 1) (92 + 33 * j + 1) = nI 0 ∨ τ.1 (0 + 1) (92 + 33 * j + 1) = nI 2) → τ'.1 (0 + 1) (92 + 33 * j + 1) = τ.1 (0 + 1) (92 + 33 * j + 1)) := by
  obtain ⟨F, hFu, eF⟩ := fuel_ex
  obtain ⟨sz, z1, z2, z3, -⟩ := hF.sz
  unfold f_X1_passHour f_X8_passes
  rw [eF]
  exact hour_L z3 sz 0 F F σ τ (by omega) (by omega) (by omega) hF hS hz z1
theorem pass_L {b n : Nat} (hb : b = 0 + 1) (hn : n ≤ 100) {x0 : Int32} : ∀ (m k F G : Nat) (σ τ : St), k + m = n → m < F → m < G → FR σ b (τ.1 (0 + 1)) → SetsOK τ → gB σ b 3 = gB τ 0 6 → ∃ σ' τ', it3 (f_X7_pass_L26 0 (nI n)) F x0 (nI k) σ = some (gI σ' (b + 30) 3 - x0, σ') ∧ it2 (f_X8_pass_L20 0 (nI n)) G (nI k) τ = some (gI τ' 0 7, τ') ∧ ST b σ τ σ' τ' := by
  subst hb
  intro m
  induction m with
  | zero =>
    intro k F G σ τ hkm hF hG hFR hS hz
    obtain ⟨F, rfl⟩ : ∃ n', F = n' + 1 := ⟨F - 1, by omega⟩
    obtain ⟨G, rfl⟩ : ∃ n', G = n' + 1 := ⟨G - 1, by omega⟩
    refine ⟨σ, τ, ?_, ?_, ST.rf hFR⟩
    · show f_X7_pass_L26 0 (nI n) (it3 (f_X7_pass_L26 0 (nI n)) F) x0 (nI k) σ = _
      generalize it3 (f_X7_pass_L26 0 (nI n)) F = g
      unfold f_X7_pass_L26
      rw [if_pos (leN (by omega) (by omega))]
    · show f_X8_pass_L20 0 (nI n) (it2 (f_X8_pass_L20 0 (nI n)) G) (nI k) τ = _
      generalize it2 (f_X8_pass_L20 0 (nI n)) G = g
      unfold f_X8_pass_L20
      rw [if_pos (leN (by omega) (by omega))]
  | succ m ih =>
    intro k F G σ τ hkm hF hG hFR hS hz
    obtain ⟨F, rfl⟩ : ∃ n', F = n' + 1 := ⟨F - 1, by omega⟩
    obtain ⟨G, rfl⟩ : ∃ n', G = n' + 1 := ⟨G - 1, by omega⟩
    obtain ⟨σ1, τ1, s1, t1, hST, -⟩ := hour_eq hFR hS hz
    obtain ⟨σ', τ', s2, t2, hST2⟩ := ih (k + 1) F G σ1 τ1 (by omega) (by omega) (by omega) hST.1 (hST.2.2.2.2.1 hS) (by unfold gB; rw [hST.2.2.2.1, hST.2.2.1.2.2]; exact hz)
    refine ⟨σ', τ', ?_, ?_, hST.tr hST2⟩
    · show f_X7_pass_L26 0 (nI n) (it3 (f_X7_pass_L26 0 (nI n)) F) x0 (nI k) σ = _
      rw [← s2]
      generalize it3 (f_X7_pass_L26 0 (nI n)) F = g
      unfold f_X7_pass_L26
      rw [if_neg (nleN (by omega) (by omega)), s1, obd_s, bnd_e, nI_1]
    · show f_X8_pass_L20 0 (nI n) (it2 (f_X8_pass_L20 0 (nI n)) G) (nI k) τ = _
      rw [← t2]
      generalize it2 (f_X8_pass_L20 0 (nI n)) G = g
      unfold f_X8_pass_L20
      rw [if_neg (nleN (by omega) (by omega)), t1, obd_s, bnd_e, nI_1]
theorem op_pass {σ τ : St} (hR : Rel σ τ) (x1 : Int32) : ∃ r σ' τ', f_X7_pass 0 x1 σ = some (r, σ') ∧ f_X8_pass 0 x1 τ = some (r, τ') ∧ Rel σ' τ' := by
  obtain ⟨F, hFu, eF⟩ := fuel_ex
  unfold f_X7_pass f_X8_pass
  rw [eF]
  simp only [bnd_e, within_in]
  by_cases h : f_X8_in x1 1 100 = true
  · rw [if_pos h, if_pos h]
    obtain ⟨n, -, hn, rfl⟩ := in_lo 1 100 (by omega) (by omega) h
    have hF : FR σ (0 + 1) ((sI τ 0 7 0).1 (0 + 1)) := by rw [rI_n (by omega)]; exact hR.1
    have hS : SetsOK (sI τ 0 7 0) := hR.2.2.2.2.1.same rfl
    obtain ⟨σ', τ', s1, t1, hST⟩ := pass_L (b := 0 + 1) (x0 := gI σ (0 + 1 + 30) 3) rfl hn n 0 F F σ (sI τ 0 7 0) (by omega) (by omega) (by omega) hF hS (hR.2.2.2.1.1.trans hR.2.2.2.2.2.symm)
    have e : gI τ' 0 7 = gI σ' (0 + 1 + 30) 3 - gI σ (0 + 1 + 30) 3 := by
      obtain ⟨k, k1, k2⟩ := hST.2.2.2.2.2.1
      rw [k2, k1, gI_s, Int32.add_comm (gI σ (0 + 1 + 30) 3) k, Int32.add_sub_cancel, Int32.zero_add]
    rw [e] at t1
    refine ⟨_, σ', τ', s1, t1, ?_⟩
    exact hR.step hST.1 hST.2.1 (frM.noted.tr hST.2.2.1) (hST.2.2.2.2.1 hS) (by unfold gB; rw [hST.2.2.2.1])
  · rw [if_neg h, if_neg h]
    exact ⟨_, _, _, rfl, rfl, hR⟩
