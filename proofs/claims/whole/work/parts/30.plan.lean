/-! changes, stages and order -/
theorem addC_L {b1 : Bool} {sz : Nat} (hs : sz < 5) : ∀ (m k F : Nat) (τ : St), k + m = 33 → m < F → ∃ τ', it3 (f_X8_addChange_L24 0 b1) F (nI sz) (nI k) τ = some (nI sz, τ') ∧ frM τ τ' ∧ τ'.2 = τ.2 ∧ ∀ j, τ'.1 (0 + 1) j = if j = 10 then τ.1 (0 + 1) 10 + 1 else if j = 92 + 33 * sz then bI b1 else if 92 + 33 * sz + k ≤ j ∧ j < 92 + 33 * sz + 33 then 0 else τ.1 (0 + 1) j := by
  intro m
  induction m with
  | zero =>
    intro k F τ hkm hF
    obtain ⟨F, rfl⟩ : ∃ n', F = n' + 1 := ⟨F - 1, by omega⟩
    refine ⟨sI (sI τ (0 + 1) (92 + 33 * sz) (bI b1)) (0 + 1) 10 (τ.1 (0 + 1) 10 + 1), ?_, frM.row.tr frM.row, rfl, fun j => ?_⟩
    · show f_X8_addChange_L24 0 b1 (it3 (f_X8_addChange_L24 0 b1) F) (nI sz) (nI k) τ = _
      generalize it3 (f_X8_addChange_L24 0 b1) F = g
      unfold f_X8_addChange_L24 f_X8_addChange_B65
      simp only [bnd_e]
      rw [show (33 : Int32) = nI 33 from rfl, if_pos (leN (by omega) (by omega)), show f_X8_at (nI sz) 0 = nI (92 + 33 * sz + 0) from at_nI sz 0, if_pos (inb_nI (by omega) (by omega)), if_pos (inb_nI (by omega) (by omega)), cl_nI (by omega), show (10 : Int32).toNatClampNeg = 10 from rfl, gI_n (Or.inr (by omega)), gI_n (Or.inr (by omega))]
      cases b1 <;> rfl
    · rw [rI_s, rI_s]
      by_cases h1 : j = 10
      · rw [if_pos h1, h1, upd_s]
      · rw [if_neg h1, upd_n h1]
        by_cases h2 : j = 92 + 33 * sz
        · rw [if_pos h2, h2, upd_s]
        · rw [if_neg h2, upd_n h2, if_neg (by omega)]
  | succ m ih =>
    intro k F τ hkm hF
    obtain ⟨F, rfl⟩ : ∃ n', F = n' + 1 := ⟨F - 1, by omega⟩
    obtain ⟨τ', t1, t2, t3, t4⟩ := ih (k + 1) F (sI τ (0 + 1) (92 + 33 * sz + k) 0) (by omega) (by omega)
    refine ⟨τ', ?_, frM.row.tr t2, t3, fun j => ?_⟩
    · show f_X8_addChange_L24 0 b1 (it3 (f_X8_addChange_L24 0 b1) F) (nI sz) (nI k) τ = _
      generalize it3 (f_X8_addChange_L24 0 b1) F = g at t1 ⊢
      unfold f_X8_addChange_L24
      simp only [bnd_e]
      rw [show (33 : Int32) = nI 33 from rfl, if_neg (nleN (by omega) (by omega)), at_nI, if_pos (inb_nI (by omega) (by omega)), cl_nI (by omega), nI_1, t1]
    · rw [t4, rI_s]
      by_cases h1 : j = 10
      · rw [if_pos h1, if_pos h1, upd_n (by omega)]
      · rw [if_neg h1, if_neg h1]
        by_cases h2 : j = 92 + 33 * sz
        · rw [if_pos h2, if_pos h2]
        · rw [if_neg h2, if_neg h2]
          by_cases h3 : 92 + 33 * sz + k ≤ j ∧ j < 92 + 33 * sz + 33
          · rw [if_pos h3]
            by_cases h4 : j = 92 + 33 * sz + k
            · rw [if_neg (by omega), h4, upd_s]
            · rw [if_pos (by omega)]
          · rw [if_neg h3, if_neg (by omega), upd_n (by omega)]
theorem chN0 : chN 0 0 0 0 = 1 := by decide
theorem chD0 : chD 0 0 0 0 = 1 := by decide
theorem empty_I {σ : St} {q q' j : Nat} : gI (f_X6_empty q σ) q' j = if q' = q ∧ j < 4 then 0 else gI σ q' j := by
  unfold f_X6_empty
  simp only [bnd_e, gI_sL, gI_sI]
  by_cases h : q' = q
  · by_cases h3 : j = 3
    · simp [h, h3]
    · by_cases h2 : j = 2
      · simp [h, h2]
      · by_cases h1 : j = 1
        · simp [h, h1]
        · by_cases h0 : j = 0
          · simp [h, h0]
          · have : ¬ j < 4 := by omega
            simp [h, h0, h1, h2, h3, this]
  · simp [h]
theorem empty_L {σ : St} {q q' j : Nat} : gL (f_X6_empty q σ) q' j = if q' = q ∧ (j = 4 ∨ j = 5) then 1 else gL σ q' j := by
  unfold f_X6_empty
  simp only [bnd_e, gL_sL, gL_sI]
  by_cases h : q' = q
  · by_cases h5 : j = 5
    · simp [h, h5]
    · by_cases h4 : j = 4 <;> simp [h, h4, h5]
  · simp [h]
theorem empty_rows {σ : St} {q q' : Nat} (h : q' ≠ q) : (f_X6_empty q σ).1 q' = σ.1 q' ∧ (f_X6_empty q σ).2.1 q' = σ.2.1 q' := by
  unfold f_X6_empty
  simp only [bnd_e]
  constructor
  · show (sI (sI (sI (sI σ q 0 0) q 1 0) q 2 0) q 3 0).1 q' = _
    rw [rI_n h, rI_n h, rI_n h, rI_n h]
  · rw [rL_n h, rL_n h]; rfl
theorem empty_B {σ : St} {q : Nat} : (f_X6_empty q σ).2.2 = σ.2.2 := rfl
theorem op_addChange {σ τ : St} (hR : Rel σ τ) (x1 : Bool) : ∃ r σ' τ', f_X7_addChange 0 x1 σ = some (r, σ') ∧ f_X8_addChange 0 x1 τ = some (r, τ') ∧ Rel σ' τ' := by
  obtain ⟨F, hFu, eF⟩ := fuel_ex
  unfold f_X7_addChange f_X8_addChange f_X1_putChange
  rw [eF]
  have hF := hR.1
  obtain ⟨sz, z1, z2, z3, z4⟩ := hF.sz
  rw [show (10 : Int32).toNatClampNeg = 10 from rfl, show gI τ (0 + 1) 10 = nI sz from z1, z2, if_neg (show ¬ nI sz < 0 from nltN (b := 0) (by omega) (by omega))]
  by_cases hs : sz = 5
  · subst hs
    rw [if_neg (by decide), if_pos (by decide), ob2_s, if_neg (by decide)]
    exact ⟨_, _, _, rfl, rfl, hR⟩
  · obtain ⟨τ', t1, t2, t3, t4⟩ := addC_L (b1 := x1) (sz := sz) (by omega) 33 0 F τ (by omega) (by omega)
    rw [if_pos (show nI sz < 5 from ltN (b := 5) (by omega) (by omega)), if_neg (show ¬ nI sz = 5 from neN (b := 5) hs (by omega) (by omega))]
    simp only [bnd_e]
    rw [show (0 : Int32) = nI 0 from rfl, t1, if_pos (inb_nI (by omega) (by omega)), cl_nI (by omega), ob2_s, if_pos rfl]
    unfold f_X0_makeNew
    simp only [bnd_e]
    have e1 : ∀ σ2 : St, gI σ2 (0 + 1) 4 = nI sz → (gI (sI σ2 (0 + 1) 4 (gI σ2 (0 + 1) 4 + 1)) (0 + 1) 4) - 1 = nI sz := by
      intro σ2 e
      rw [gI_s, e, nI_1, m1_nI (by omega)]
      rfl
    have e2 : gI (f_X6_empty (0 + 1 + 1 + 1 + 5 * sz + 3) (sI (sI (sI (sI (sB σ (0 + 1 + 1 + 1 + 5 * sz) 7 x1) (0 + 1 + 1 + 1 + 5 * sz) 4 0) (0 + 1 + 1 + 1 + 5 * sz) 5 0) (0 + 1 + 1 + 1 + 5 * sz) 6 0) (0 + 1 + 1 + 1 + 5 * sz + 1) 1 0)) (0 + 1) 4 = nI sz := by
      rw [empty_I, if_neg (by omega), gI_n (Or.inl (by omega)), gI_n (Or.inl (by omega)), gI_n (Or.inl (by omega)), gI_n (Or.inl (by omega)), gI_sB]
      exact z2
    rw [e1 _ e2, e2, nI_1]
    refine ⟨_, _, _, rfl, rfl, ?_⟩
    have eq : ∀ q, q ≠ 0 + 1 + 1 + 1 + 5 * sz → q ≠ 0 + 1 + 1 + 1 + 5 * sz + 1 → q ≠ 0 + 1 + 1 + 1 + 5 * sz + 3 → q ≠ 0 + 1 → (sI (f_X6_empty (0 + 1 + 1 + 1 + 5 * sz + 3) (sI (sI (sI (sI (sB σ (0 + 1 + 1 + 1 + 5 * sz) 7 x1) (0 + 1 + 1 + 1 + 5 * sz) 4 0) (0 + 1 + 1 + 1 + 5 * sz) 5 0) (0 + 1 + 1 + 1 + 5 * sz) 6 0) (0 + 1 + 1 + 1 + 5 * sz + 1) 1 0)) (0 + 1) 4 (nI (sz + 1))).1 q = σ.1 q ∧ (sI (f_X6_empty (0 + 1 + 1 + 1 + 5 * sz + 3) (sI (sI (sI (sI (sB σ (0 + 1 + 1 + 1 + 5 * sz) 7 x1) (0 + 1 + 1 + 1 + 5 * sz) 4 0) (0 + 1 + 1 + 1 + 5 * sz) 5 0) (0 + 1 + 1 + 1 + 5 * sz) 6 0) (0 + 1 + 1 + 1 + 5 * sz + 1) 1 0)) (0 + 1) 4 (nI (sz + 1))).2.1 q = σ.2.1 q ∧ (sI (f_X6_empty (0 + 1 + 1 + 1 + 5 * sz + 3) (sI (sI (sI (sI (sB σ (0 + 1 + 1 + 1 + 5 * sz) 7 x1) (0 + 1 + 1 + 1 + 5 * sz) 4 0) (0 + 1 + 1 + 1 + 5 * sz) 5 0) (0 + 1 + 1 + 1 + 5 * sz) 6 0) (0 + 1 + 1 + 1 + 5 * sz + 1) 1 0)) (0 + 1) 4 (nI (sz + 1))).2.2 q = σ.2.2 q := by
      intro q q1 q2 q3 q4
      refine ⟨?_, ?_, ?_⟩
      · rw [rI_n q4, (empty_rows q3).1, rI_n q2, rI_n q1, rI_n q1, rI_n q1]; rfl
      · exact (empty_rows q3).2
      · exact rB_n q1
    refine hR.step ?_ ?_ t2 (hR.2.2.2.2.1.same (by rw [t3])) ?_
    · generalize hσ' : sI (f_X6_empty (0 + 1 + 1 + 1 + 5 * sz + 3) (sI (sI (sI (sI (sB σ (0 + 1 + 1 + 1 + 5 * sz) 7 x1) (0 + 1 + 1 + 1 + 5 * sz) 4 0) (0 + 1 + 1 + 1 + 5 * sz) 5 0) (0 + 1 + 1 + 1 + 5 * sz) 6 0) (0 + 1 + 1 + 1 + 5 * sz + 1) 1 0)) (0 + 1) 4 (nI (sz + 1)) = σ' at eq ⊢
      obtain ⟨⟨a0, a2, a3, a4, a5, a6⟩, hsp, hl, -, hn⟩ := hF
      have eh : ∀ j, j ≠ 4 → gI σ' (0 + 1) j = gI σ (0 + 1) j := by
        intro j hj
        rw [← hσ', gI_n (Or.inr hj), empty_I, if_neg (by omega), gI_n (Or.inl (by omega)), gI_n (Or.inl (by omega)), gI_n (Or.inl (by omega)), gI_n (Or.inl (by omega)), gI_sB]
      have v0 : ∀ j, j ≠ 10 → j < 92 + 33 * sz → τ'.1 (0 + 1) j = τ.1 (0 + 1) j := by
        intro j h1 h2
        rw [t4, if_neg h1, if_neg (by omega), if_neg (by omega)]
      have v10 : τ'.1 (0 + 1) 10 = nI (sz + 1) := by rw [t4, if_pos rfl, z1, nI_1]
      have vz : ∀ k, 1 ≤ k → k < 33 → τ'.1 (0 + 1) (92 + 33 * sz + k) = nI 0 := by
        intro k h1 h2
        rw [t4, if_neg (by omega), if_neg (by omega), if_pos (by omega)]
        rfl
      have vb : τ'.1 (0 + 1) (92 + 33 * sz) = bI x1 := by rw [t4, if_neg (by omega), if_pos rfl]
      refine ⟨⟨?_, ?_, ?_, ?_, ?_, ?_⟩, ?_, ?_, ⟨sz + 1, v10, by omega, fun i hi => ?_⟩, fun i hi => ?_⟩
      · rw [v0 0 (by omega) (by omega)]; exact a0
      · rw [v0 2 (by omega) (by omega)]; exact a2
      · rw [eh _ (by omega), v0 0 (by omega) (by omega)]; exact a3
      · rw [eh _ (by omega), v0 1 (by omega) (by omega)]; exact a4
      · rw [eh _ (by omega), v0 2 (by omega) (by omega)]; exact a5
      · rw [v10, ← hσ', gI_s]
      · rw [(eq _ (by omega) (by omega) (by omega) (by omega)).1, (eq _ (by omega) (by omega) (by omega) (by omega)).1, (eq _ (by omega) (by omega) (by omega) (by omega)).1]
        exact hsp.congr (fun k h1 h2 => v0 k (by omega) (by omega))
      · rw [(eq _ (by omega) (by omega) (by omega) (by omega)).1, (eq _ (by omega) (by omega) (by omega) (by omega)).1]
        exact hl.congr (fun k h1 h2 => v0 k (by omega) (by omega))
      · by_cases hi2 : i = sz
        · subst hi2
          refine CR.of 0 0 0 0 0 0 0 0 ⟨vz 1 (by omega) (by omega), by omega, vz 2 (by omega) (by omega), by omega, vz 3 (by omega) (by omega), by omega, fun _ => rfl, vz 4 (by omega) (by omega), Nat.two_pow_pos _⟩ ⟨vz 5 (by omega) (by omega), vz 6 (by omega) (by omega), vz 7 (by omega) (by omega), vz 8 (by omega) (by omega), by omega, by omega⟩ ?_ ⟨?_, ?_, ?_, ?_⟩ (fun k hk => absurd hk (by omega)) (fun k hk => absurd hk (by omega)) ⟨?_, ?_, ?_, ?_, ?_, ?_⟩
          · rw [vb, ← hσ', gB_sI]
            unfold gB
            rw [empty_B]
            show bI x1 = bI ((sB σ (0 + 1 + 1 + 1 + 5 * i) 7 x1).2.2 (0 + 1 + 1 + 1 + 5 * i) 7)
            rw [rB_s]; rfl
          · rw [← hσ', gI_n (Or.inl (by omega)), empty_I, if_neg (by omega), gI_n (Or.inl (by omega)), gI_n (Or.inr (by omega)), gI_n (Or.inr (by omega)), gI_s]; rfl
          · rw [← hσ', gI_n (Or.inl (by omega)), empty_I, if_neg (by omega), gI_n (Or.inl (by omega)), gI_n (Or.inr (by omega)), gI_s]; rfl
          · rw [← hσ', gI_n (Or.inl (by omega)), empty_I, if_neg (by omega), gI_n (Or.inl (by omega)), gI_s]; rfl
          · rw [← hσ', gI_n (Or.inl (by omega)), empty_I, if_neg (by omega), gI_s]; rfl
          · rw [← hσ', gI_n (Or.inl (by omega)), empty_I, if_pos (by omega)]; rfl
          · rw [← hσ', gI_n (Or.inl (by omega)), empty_I, if_pos (by omega)]; rfl
          · rw [← hσ', gI_n (Or.inl (by omega)), empty_I, if_pos (by omega)]; rfl
          · rw [← hσ', gI_n (Or.inl (by omega)), empty_I, if_pos (by omega)]; rfl
          · rw [← hσ', gL_sI, empty_L, if_pos (by omega), chN0]; rfl
          · rw [← hσ', gL_sI, empty_L, if_pos (by omega), chD0]; rfl
        · exact (z4 i (by omega)).congr (fun q h1 h2 => eq q (by omega) (by omega) (by omega) (by omega)) (fun k hk => v0 _ (by omega) (by omega))
      · by_cases hi2 : i = sz
        · subst hi2
          rw [← hσ', gI_n (Or.inl (by omega)), empty_I, if_neg (by omega), gI_n (Or.inl (by omega)), gI_n (Or.inr (by omega)), gI_n (Or.inr (by omega)), gI_n (Or.inr (by omega)), gI_sB]
          exact hn i hi
        · unfold gI
          rw [(eq _ (by omega) (by omega) (by omega) (by omega)).1]
          exact hn i hi
    · intro q hq
      exact eq q (by omega) (by omega) (by omega) (by omega)
    · exact congrFun (rB_n (by omega)) 3
theorem adds_eq {τ : St} {i pl : Nat} {x2 x3 x4 : Int32} (hi : i < 5) (hp : pl < 6) (e : gI τ (0 + 1) (92 + 33 * i + 2) = nI pl) : f_X8_adds 0 (nI i) x2 x3 x4 τ = some (sI (sI (sI (sI (sI τ (0 + 1) (92 + 33 * i + (9 + 4 * pl)) x2) (0 + 1) (92 + 33 * i + (9 + 4 * pl + 1)) x3) (0 + 1) (92 + 33 * i + (9 + 4 * pl + 2)) x4) (0 + 1) (92 + 33 * i + (9 + 4 * pl + 3)) 0) (0 + 1) (92 + 33 * i + 2) (nI (pl + 1))) := by
  unfold f_X8_adds
  simp only [bnd_e]
  rw [show f_X8_at (nI i) 2 = nI (92 + 33 * i + 2) from at_nI i 2, if_pos (inb_nI (by omega) (by omega)), cl_nI (show 92 + 33 * i + 2 < 10000000 by omega), e]
  rw [show f_X8_stageAt (nI i) (nI pl) 0 = nI (92 + 33 * i + (9 + 4 * pl)) from sat_nI i pl 0, show f_X8_stageAt (nI i) (nI pl) 1 = nI (92 + 33 * i + (9 + 4 * pl + 1)) from sat_nI i pl 1, show f_X8_stageAt (nI i) (nI pl) 2 = nI (92 + 33 * i + (9 + 4 * pl + 2)) from sat_nI i pl 2, show f_X8_stageAt (nI i) (nI pl) 3 = nI (92 + 33 * i + (9 + 4 * pl + 3)) from sat_nI i pl 3, if_pos (inb_nI (by omega) (by omega)), if_pos (inb_nI (by omega) (by omega)), if_pos (inb_nI (by omega) (by omega)), if_pos (inb_nI (by omega) (by omega)), if_pos (inb_nI (by omega) (by omega)), if_pos (inb_nI (by omega) (by omega)), cl_nI (show 92 + 33 * i + (9 + 4 * pl) < 10000000 by omega), cl_nI (show 92 + 33 * i + (9 + 4 * pl + 1) < 10000000 by omega), cl_nI (show 92 + 33 * i + (9 + 4 * pl + 2) < 10000000 by omega), cl_nI (show 92 + 33 * i + (9 + 4 * pl + 3) < 10000000 by omega), gI_n (Or.inr (by omega)), gI_n (Or.inr (by omega)), gI_n (Or.inr (by omega)), gI_n (Or.inr (by omega)), e, nI_1]
theorem put4_eq {σ : St} {q pl : Nat} {x1 x2 x3 : Int32} (hp : pl < 6) (e : gI σ q 1 = nI pl) : f_X4_put q x1 x2 x3 σ = some (true, sI (sI (sI (sI σ (q + 1) (3 * pl) x1) (q + 1) (3 * pl + 1) x2) (q + 1) (3 * pl + 2) x3) q 1 (nI (pl + 1))) := by
  unfold f_X4_put
  have i1 : nI pl * 3 + 0 = nI (3 * pl) := by show nI pl * nI 3 + nI 0 = _; rw [pk_mul, nI_add]; congr 1; omega
  have i2 : nI pl * 3 + 1 = nI (3 * pl + 1) := by show nI pl * nI 3 + nI 1 = _; rw [pk_mul, nI_add]; congr 1; omega
  have i3 : nI pl * 3 + 2 = nI (3 * pl + 2) := by show nI pl * nI 3 + nI 2 = _; rw [pk_mul, nI_add]; congr 1; omega
  rw [e, if_neg (nI_pos (by omega)), if_pos (show nI pl < 6 from ltN (b := 6) (by omega) (by omega))]
  simp only [bnd_e]
  rw [i1, i2, i3, if_pos (inb_nI (by omega) (by omega)), if_pos (inb_nI (by omega) (by omega)), if_pos (inb_nI (by omega) (by omega)), cl_nI (show 3 * pl < 10000000 by omega), cl_nI (show 3 * pl + 1 < 10000000 by omega), cl_nI (show 3 * pl + 2 < 10000000 by omega), gI_n (Or.inl (by omega)), gI_n (Or.inl (by omega)), gI_n (Or.inl (by omega)), e, nI_1]
theorem op_addStage {σ τ : St} (hR : Rel σ τ) (x1 x2 x3 x4 : Int32) : ∃ r σ' τ', f_X7_addStage 0 x1 x2 x3 x4 σ = some (r, σ') ∧ f_X8_addStage 0 x1 x2 x3 x4 τ = some (r, τ') ∧ Rel σ' τ' := by
  unfold f_X7_addStage f_X8_addStage
  have hF := hR.1
  simp only [bnd_e, within_in, isChange_eq]
  rw [allCells_eq hF, show (0 : Int32).toNatClampNeg = 0 from rfl, show gI τ (0 + 1) 0 = τ.1 (0 + 1) 0 from rfl]
  rcases find_or hF x1 with ⟨i, sz, z1, z2, hi, rfl, ef, ei⟩ | ⟨ef, ei⟩
  · obtain ⟨st, pl, bg, m, a, b, c, d, ⟨h1, h2, h3, h4, h5, h6, h7, h8, h9⟩, ⟨g1, g2, g3, g4, g5, g6⟩, e0, ⟨f1, f2, f3, f4⟩, k1, k2, m1, m2, m3, m4, m5, m6⟩ := (hF.row z1 hi z2).use
    rw [ef, ei, obd_s, opt_s, if_pos (shF i (by omega)), if_pos rfl]
    by_cases c1 : f_X8_in x2 1 ((1 <<< (τ.1 (0 + 1) 0 &&& 31)) - 1) = true
    · rw [if_pos c1, if_pos c1]
      by_cases c2 : f_X8_in x3 0 48 = true
      · rw [if_pos c2, if_pos c2]
        by_cases c3 : f_X8_in x4 0 25 = true
        · rw [if_pos c3, if_pos c3, show f_X8_at (nI i) 1 = nI (92 + 33 * i + 1) from at_nI i 1, show f_X8_at (nI i) 2 = nI (92 + 33 * i + 2) from at_nI i 2, if_pos (inb_nI (by omega) (by omega)), if_pos (inb_nI (by omega) (by omega)), cl_nI (show 92 + 33 * i + 1 < 10000000 by omega), cl_nI (show 92 + 33 * i + 2 < 10000000 by omega), show gI τ (0 + 1) (92 + 33 * i + 1) = nI st from h1, show gI τ (0 + 1) (92 + 33 * i + 2) = nI pl from h3, f2]
          by_cases hs : st = 0
          · rw [if_pos (show nI st = 0 by rw [hs]; rfl), if_pos (show nI st = 0 by rw [hs]; rfl), show f_X4_cellsOfFirst (0 + 1 + 1 + 1 + 5 * i + 1) 6 σ = _ from cellsC_eq (n := 6) (by omega) h4 f4 (fun k hk => (k1 k hk).1), obd_s, show min 6 pl = pl by omega, cellsM_eq (by omega) h4, obd_s]
            by_cases c4 : ORv (τ.1 (0 + 1)) i pl &&& x2 = 0
            · rw [if_pos c4, if_pos c4]
              by_cases hp : pl = 6
              · rw [if_pos (show nI pl = 6 by rw [hp]; rfl)]
                unfold f_X4_put
                rw [f4, if_neg (nI_pos (by omega)), if_neg (show ¬ nI pl < 6 from nltN (b := 6) (by omega) (by omega)), ob2_s, if_neg (by decide)]
                exact ⟨_, _, _, rfl, rfl, hR⟩
              · rw [if_neg (show ¬ nI pl = 6 from neN (b := 6) hp (by omega) (by omega)), put4_eq (by omega) f4, ob2_s, if_pos rfl, gI_s, adds_eq (by omega) (by omega) h3, obd_s, nI_1]
                refine ⟨_, _, _, rfl, rfl, ?_⟩
                refine hR.step ?_ ((((frC.I (by omega)).tr (frC.I (by omega))).tr (frC.I (by omega))).tr (frC.I (by omega))) ((((frM.row.tr frM.row).tr frM.row).tr frM.row).tr frM.row) (hR.2.2.2.2.1.same rfl) rfl
                have ev : (sI (sI (sI (sI (sI τ (0 + 1) (92 + 33 * i + (9 + 4 * pl)) x2) (0 + 1) (92 + 33 * i + (9 + 4 * pl + 1)) x3) (0 + 1) (92 + 33 * i + (9 + 4 * pl + 2)) x4) (0 + 1) (92 + 33 * i + (9 + 4 * pl + 3)) 0) (0 + 1) (92 + 33 * i + 2) (nI (pl + 1))).1 (0 + 1) = upd (upd (upd (upd (upd (τ.1 (0 + 1)) (92 + 33 * i + (9 + 4 * pl)) x2) (92 + 33 * i + (9 + 4 * pl + 1)) x3) (92 + 33 * i + (9 + 4 * pl + 2)) x4) (92 + 33 * i + (9 + 4 * pl + 3)) 0) (92 + 33 * i + 2) (nI (pl + 1)) := by rw [rI_s, rI_s, rI_s, rI_s, rI_s]
                rw [ev]
                have v0 : ∀ k, k ≠ 92 + 33 * i + 2 → (k < 92 + 33 * i + (9 + 4 * pl) ∨ 92 + 33 * i + (9 + 4 * pl + 3) < k) → upd (upd (upd (upd (upd (τ.1 (0 + 1)) (92 + 33 * i + (9 + 4 * pl)) x2) (92 + 33 * i + (9 + 4 * pl + 1)) x3) (92 + 33 * i + (9 + 4 * pl + 2)) x4) (92 + 33 * i + (9 + 4 * pl + 3)) 0) (92 + 33 * i + 2) (nI (pl + 1)) k = τ.1 (0 + 1) k := by
                  intro k q1 q2
                  rw [upd_n q1, upd_n (by omega), upd_n (by omega), upd_n (by omega), upd_n (by omega)]
                refine hF.chg (i := i) (by omega) ?_ ?_ ?_ ?_ ?_
                · intro q q1 q2 q3
                  exact ⟨by rw [rI_n (by omega), rI_n (by omega), rI_n (by omega), rI_n (by omega)], rfl, rfl⟩
                · intro k q1 q2
                  exact v0 k (by omega) (by omega)
                · rw [rI_n (by omega), rI_n (by omega), rI_n (by omega), rI_n (by omega), rI_n (by omega), rI_n (by omega), rI_n (by omega), rI_n (by omega)]
                  exact hF.2.2.1.congr (fun k q1 q2 => v0 k (by omega) (by omega))
                · refine CR.of st (pl + 1) bg m a b c d ⟨?_, h2, upd_s _ _ _, by omega, ?_, by omega, h7, ?_, h9⟩ ⟨?_, ?_, ?_, ?_, g5, g6⟩ ?_ ⟨?_, ?_, ?_, ?_⟩ ?_ ?_ ⟨?_, ?_, ?_, ?_, m5, m6⟩
                  · rw [v0 _ (by omega) (by omega)]; exact h1
                  · rw [v0 _ (by omega) (by omega)]; exact h5
                  · rw [v0 _ (by omega) (by omega)]; exact h8
                  · rw [v0 _ (by omega) (by omega)]; exact g1
                  · rw [v0 _ (by omega) (by omega)]; exact g2
                  · rw [v0 _ (by omega) (by omega)]; exact g3
                  · rw [v0 _ (by omega) (by omega)]; exact g4
                  · rw [v0 _ (by omega) (by omega)]; exact e0
                  · rw [gI_n (Or.inl (by omega)), gI_n (Or.inl (by omega)), gI_n (Or.inl (by omega)), gI_n (Or.inl (by omega))]; exact f1
                  · rw [gI_n (Or.inl (by omega)), gI_n (Or.inl (by omega)), gI_n (Or.inl (by omega)), gI_n (Or.inl (by omega))]; exact f2
                  · rw [gI_n (Or.inl (by omega)), gI_n (Or.inl (by omega)), gI_n (Or.inl (by omega)), gI_n (Or.inl (by omega))]; exact f3
                  · exact gI_s _ _ _ _
                  · intro k hk
                    have gq : ∀ j, gI (sI (sI (sI (sI σ (0 + 1 + 1 + 1 + 5 * i + 1 + 1) (3 * pl) x2) (0 + 1 + 1 + 1 + 5 * i + 1 + 1) (3 * pl + 1) x3) (0 + 1 + 1 + 1 + 5 * i + 1 + 1) (3 * pl + 2) x4) (0 + 1 + 1 + 1 + 5 * i + 1) 1 (nI (pl + 1))) (0 + 1 + 1 + 1 + 5 * i + 1 + 1) j = upd (upd (upd (σ.1 (0 + 1 + 1 + 1 + 5 * i + 1 + 1)) (3 * pl) x2) (3 * pl + 1) x3) (3 * pl + 2) x4 j := by
                      intro j
                      rw [gI_n (Or.inl (by omega))]
                      unfold gI
                      rw [rI_s, rI_s, rI_s]
                    rw [gq, gq, gq]
                    by_cases hkp : k = pl
                    · subst hkp
                      refine ⟨?_, ?_, ?_⟩
                      · rw [upd_n (by omega), upd_n (by omega), upd_s, upd_n (by omega), upd_n (by omega), upd_n (by omega), upd_n (by omega), upd_s]
                      · rw [upd_n (by omega), upd_s, show 92 + 33 * i + (10 + 4 * k) = 92 + 33 * i + (9 + 4 * k + 1) by omega, upd_n (by omega), upd_n (by omega), upd_n (by omega), upd_s]
                      · rw [upd_s, show 92 + 33 * i + (11 + 4 * k) = 92 + 33 * i + (9 + 4 * k + 2) by omega, upd_n (by omega), upd_n (by omega), upd_s]
                    · rw [v0 _ (by omega) (by omega), v0 _ (by omega) (by omega), v0 _ (by omega) (by omega)]
                      refine ⟨?_, ?_, ?_⟩
                      · rw [upd_n (by omega), upd_n (by omega), upd_n (by omega)]; exact (k1 k (by omega)).1
                      · rw [upd_n (by omega), upd_n (by omega), upd_n (by omega)]; exact (k1 k (by omega)).2.1
                      · rw [upd_n (by omega), upd_n (by omega), upd_n (by omega)]; exact (k1 k (by omega)).2.2
                  · intro k hk
                    have := h7 hs
                    omega
                  · rw [gI_n (Or.inl (by omega)), gI_n (Or.inl (by omega)), gI_n (Or.inl (by omega)), gI_n (Or.inl (by omega))]; exact m1
                  · rw [gI_n (Or.inl (by omega)), gI_n (Or.inl (by omega)), gI_n (Or.inl (by omega)), gI_n (Or.inl (by omega))]; exact m2
                  · rw [gI_n (Or.inl (by omega)), gI_n (Or.inl (by omega)), gI_n (Or.inl (by omega)), gI_n (Or.inl (by omega))]; exact m3
                  · rw [gI_n (Or.inl (by omega)), gI_n (Or.inl (by omega)), gI_n (Or.inl (by omega)), gI_n (Or.inl (by omega))]; exact m4
                · rw [gI_n (Or.inl (by omega)), gI_n (Or.inl (by omega)), gI_n (Or.inl (by omega)), gI_n (Or.inl (by omega))]
            · rw [if_neg c4, if_neg c4]
              exact ⟨_, _, _, rfl, rfl, hR⟩
          · rw [if_neg (show ¬ nI st = 0 from neN (b := 0) hs (by omega) (by omega)), if_neg (show ¬ nI st = 0 from neN (b := 0) hs (by omega) (by omega))]
            exact ⟨_, _, _, rfl, rfl, hR⟩
        · rw [if_neg c3, if_neg c3]
          exact ⟨_, _, _, rfl, rfl, hR⟩
      · rw [if_neg c2, if_neg c2]
        exact ⟨_, _, _, rfl, rfl, hR⟩
    · rw [if_neg c1, if_neg c1]
      exact ⟨_, _, _, rfl, rfl, hR⟩
  · rw [ef, ei, obd_s, opt_n, if_neg (by decide)]
    exact ⟨_, _, _, rfl, rfl, hR⟩
/-- the number of ones -/
def pc (m : Nat) : Nat := m % 2 + m / 2 % 2 + m / 4 % 2 + m / 8 % 2 + m / 16 % 2
theorem pc_c : ∀ m, m < 32 → f_J6_bitCount_0f7a4 (nI m) = nI (pc m) := by decide +kernel
theorem pc_m : ∀ m, m < 32 → m ≠ 0 → nI m &&& (nI m - 1) = nI (m &&& (m - 1)) ∧ m &&& (m - 1) < 32 ∧ pc m = pc (m &&& (m - 1)) + 1 := by decide +kernel
theorem or_c : ∀ m, m < 32 → ∀ j, j < 5 → nI m ||| (1 <<< (nI j &&& 31)) = nI (m ||| 2 ^ j) := by decide +kernel
theorem size_L {x : Int32} : ∀ (t F m a : Nat), m < 32 → pc m = t → t < F → it2 (f_X8_size_L4 x) F (nI a) (nI m) = some (nI (a + t)) := by
  intro t
  induction t with
  | zero =>
    intro F m a hm hp hF
    obtain ⟨F, rfl⟩ : ∃ n', F = n' + 1 := ⟨F - 1, by omega⟩
    show f_X8_size_L4 x (it2 (f_X8_size_L4 x) F) (nI a) (nI m) = _
    generalize it2 (f_X8_size_L4 x) F = g
    unfold f_X8_size_L4
    have : m = 0 := by
      by_cases h0 : m = 0
      · exact h0
      · have := (pc_m m hm h0).2.2
        omega
    rw [if_pos (show nI m = 0 by rw [this]; rfl), Nat.add_zero]
  | succ t ih =>
    intro F m a hm hp hF
    obtain ⟨F, rfl⟩ : ∃ n', F = n' + 1 := ⟨F - 1, by omega⟩
    show f_X8_size_L4 x (it2 (f_X8_size_L4 x) F) (nI a) (nI m) = _
    have h0 : m ≠ 0 := by
      intro z
      rw [z, show pc 0 = 0 from rfl] at hp
      omega
    obtain ⟨p1, p2, p3⟩ := pc_m m hm h0
    have ih' := ih F (m &&& (m - 1)) (a + 1) p2 (by omega) (by omega)
    generalize it2 (f_X8_size_L4 x) F = g at ih' ⊢
    unfold f_X8_size_L4
    rw [if_neg (show ¬ nI m = 0 from neN (b := 0) h0 (by omega) (by omega)), bnd_e, bnd_e, p1, nI_1, ih', show a + 1 + t = a + (t + 1) by omega]
theorem op_putAfter {σ τ : St} (hR : Rel σ τ) (x1 x2 : Int32) : ∃ r σ' τ', f_X7_putAfter 0 x1 x2 σ = some (r, σ') ∧ f_X8_putAfter 0 x1 x2 τ = some (r, τ') ∧ Rel σ' τ' := by
  obtain ⟨F, hFu, eF⟩ := fuel_ex
  unfold f_X7_putAfter f_X8_putAfter f_X8_size
  rw [eF]
  have hF := hR.1
  simp only [bnd_e, within_in, isChange_eq]
  rcases find_or hF x1 with ⟨i, sz, z1, z2, hi, rfl, ef, ei⟩ | ⟨ef, ei⟩
  · obtain ⟨st, pl, bg, m, a, b, c, d, ⟨h1, h2, h3, h4, h5, h6, h7, h8, h9⟩, ⟨g1, g2, g3, g4, g5, g6⟩, e0, ⟨f1, f2, f3, f4⟩, k1, k2, m1, m2, m3, m4, m5, m6⟩ := (hF.row z1 hi z2).use
    rw [ef, ei, obd_s, opt_s, if_pos (shF i (by omega)), if_pos rfl]
    rcases in_0 x2 (n := i) (by omega) with ⟨c1, j, hj, rfl⟩ | ⟨c1, -⟩
    · rw [c1, if_pos rfl, if_pos rfl, show f_X8_at (nI i) 1 = nI (92 + 33 * i + 1) from at_nI i 1, show f_X8_at (nI i) 4 = nI (92 + 33 * i + 4) from at_nI i 4, if_pos (inb_nI (by omega) (by omega)), if_pos (inb_nI (by omega) (by omega)), if_pos (inb_nI (by omega) (by omega)), if_pos (inb_nI (by omega) (by omega)), cl_nI (show 92 + 33 * i + 1 < 10000000 by omega), cl_nI (show 92 + 33 * i + 4 < 10000000 by omega), show gI τ (0 + 1) (92 + 33 * i + 1) = nI st from h1, show gI τ (0 + 1) (92 + 33 * i + 4) = nI m from h8, f2, f1, gI_s, gI_s]
      by_cases hs : st = 0
      · have hm5 : m < 32 := Nat.lt_of_lt_of_le h9 (show 2 ^ i ≤ 2 ^ 5 from Nat.pow_le_pow_right (by omega) (by omega))
        have ho : m ||| 2 ^ j < 2 ^ i := Nat.or_lt_two_pow h9 (Nat.pow_lt_pow_right (by omega) hj)
        have ho5 : m ||| 2 ^ j < 32 := Nat.lt_of_lt_of_le ho (show 2 ^ i ≤ 2 ^ 5 from Nat.pow_le_pow_right (by omega) (by omega))
        rw [if_pos (show nI st = 0 by rw [hs]; rfl), if_pos (show nI st = 0 by rw [hs]; rfl), or_c m hm5 j (by omega), pc_c _ ho5]
        generalize m ||| 2 ^ j = m' at ho ho5 ⊢
        have hpc : pc m' ≤ 5 := by unfold pc; omega
        rw [show (0 : Int32) = nI 0 from rfl, size_L (pc m') F m' 0 ho5 rfl (by omega), obd_s, Nat.zero_add (pc m')]
        refine ⟨_, _, _, rfl, rfl, ?_⟩
        refine hR.step ?_ (frC.I (by omega)) frM.row (hR.2.2.2.2.1.same rfl) rfl
        rw [rI_s]
        refine hF.chg (i := i) (by omega) ?_ ?_ ?_ ?_ ?_
        · intro q q1 q2 q3
          exact ⟨rI_n (by omega), rfl, rfl⟩
        · intro k q1 q2
          rw [upd_n (by omega)]
        · rw [rI_n (by omega), rI_n (by omega)]
          exact hF.2.2.1.congr (fun k q1 q2 => upd_n (by omega))
        · refine CR.of st pl bg m' a b c d ⟨?_, h2, ?_, h4, ?_, h6, h7, upd_s _ _ _, ho⟩ ⟨?_, ?_, ?_, ?_, g5, g6⟩ ?_ ⟨?_, ?_, ?_, ?_⟩ ?_ ?_ ⟨?_, ?_, ?_, ?_, m5, m6⟩
          · rw [upd_n (by omega)]; exact h1
          · rw [upd_n (by omega)]; exact h3
          · rw [upd_n (by omega)]; exact h5
          · rw [upd_n (by omega)]; exact g1
          · rw [upd_n (by omega)]; exact g2
          · rw [upd_n (by omega)]; exact g3
          · rw [upd_n (by omega)]; exact g4
          · rw [upd_n (by omega)]; exact e0
          · exact gI_s _ _ _ _
          · rw [gI_n (Or.inr (by omega))]; exact f2
          · rw [gI_n (Or.inr (by omega))]; exact f3
          · rw [gI_n (Or.inl (by omega))]; exact f4
          · intro k hk
            rw [gI_n (Or.inl (by omega)), gI_n (Or.inl (by omega)), gI_n (Or.inl (by omega)), upd_n (by omega), upd_n (by omega), upd_n (by omega)]
            exact k1 k hk
          · intro k hk
            rw [gI_n (Or.inl (by omega)), upd_n (by omega)]
            exact k2 k hk
          · rw [gI_n (Or.inl (by omega))]; exact m1
          · rw [gI_n (Or.inl (by omega))]; exact m2
          · rw [gI_n (Or.inl (by omega))]; exact m3
          · rw [gI_n (Or.inl (by omega))]; exact m4
        · rw [gI_n (Or.inr (by omega))]
      · rw [if_neg (show ¬ nI st = 0 from neN (b := 0) hs (by omega) (by omega)), if_neg (show ¬ nI st = 0 from neN (b := 0) hs (by omega) (by omega))]
        exact ⟨_, _, _, rfl, rfl, hR⟩
    · rw [c1, if_neg (by decide), if_neg (by decide)]
      exact ⟨_, _, _, rfl, rfl, hR⟩
  · rw [ef, ei, obd_s, opt_n, if_neg (by decide)]
    exact ⟨_, _, _, rfl, rfl, hR⟩
