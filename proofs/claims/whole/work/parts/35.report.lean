/-! probes are taken -/
theorem isOut_eq {τ : St} {i st bg : Nat} (hi : i < 5) (h1 : gI τ (0 + 1) (92 + 33 * i + 1) = nI st) (h3 : gI τ (0 + 1) (92 + 33 * i + 3) = nI bg) (hst : st ≤ 5) (hbg : bg ≤ 6) : f_X8_isOut 0 (nI i) τ = some (decide ((st = 1 ∨ st = 2) ∧ 0 < bg)) := by
  unfold f_X8_isOut
  simp only [bnd_e]
  rw [show f_X8_at (nI i) 1 = nI (92 + 33 * i + 1) from at_nI i 1, show f_X8_at (nI i) 3 = nI (92 + 33 * i + 3) from at_nI i 3, inb_nI (show 92 + 33 * i + 1 < 257 by omega) (by omega), inb_nI (show 92 + 33 * i + 3 < 257 by omega) (by omega), cl_nI (show 92 + 33 * i + 1 < 10000000 by omega), cl_nI (show 92 + 33 * i + 3 < 10000000 by omega), h1, h3, if_pos rfl, if_pos rfl]
  have hn : f_X8_in (nI st) 1 2 = true ↔ 1 ≤ st ∧ st ≤ 2 := in_nI (a := 1) (b := 2) (by omega) (by omega) (by omega)
  by_cases hs : 1 ≤ st ∧ st ≤ 2
  · rw [if_pos (hn.mpr hs)]
    by_cases hb : bg = 0
    · rw [if_pos (show nI bg ≤ 0 by rw [hb]; decide), decide_eq_false (by omega)]
    · rw [if_neg (show ¬ nI bg ≤ 0 from nleN (b := 0) (by omega) (by omega)), decide_eq_true (by omega)]
  · rw [if_neg (fun z => hs (hn.mp z)), decide_eq_false (by omega)]
theorem watched_eq {σ : St} {c st : Nat} (e : gI σ c 5 = nI st) (hst : st ≤ 5) : f_X0_isWatched c σ = decide (st = 1 ∨ st = 2) := by
  unfold f_X0_isWatched
  rw [e]
  by_cases h1 : st = 1
  · rw [if_pos (show nI st = 1 by rw [h1]; rfl), decide_eq_true (Or.inl h1)]
  · rw [if_neg (show ¬ nI st = 1 from neN (b := 1) h1 (by omega) (by omega))]
    by_cases h2 : st = 2
    · rw [if_pos (show nI st = 2 by rw [h2]; rfl), decide_eq_true (Or.inr h2)]
    · rw [if_neg (show ¬ nI st = 2 from neN (b := 2) h2 (by omega) (by omega)), decide_eq_false (by omega)]
theorem probe_FR {σ : St} {b sz i j a' b' c' d' x y : Nat} {v : Nat → Int32} (hF : FR σ b v) (z1 : v 10 = nI sz) (hsz : sz ≤ 5) (hi : i < sz) (hj : j = 0 ∨ j = 2) (hv : ∀ k, k < 4 → upd (upd v (92 + 33 * i + 5 + j) (nI x)) (92 + 33 * i + 5 + j + 1) (nI y) (92 + 33 * i + (5 + k)) = nI (if k = 0 then a' else if k = 1 then b' else if k = 2 then c' else d')) (h1 : a' + b' ≤ 25) (h2 : c' + d' ≤ 25) : FR (sL (sL (sI (sI σ (b + 1 + 1 + 5 * i + 3) j (nI x)) (b + 1 + 1 + 5 * i + 3) (j + 1) (nI y)) (b + 1 + 1 + 5 * i + 3) 4 (lN (chN a' b' c' d'))) (b + 1 + 1 + 5 * i + 3) 5 (lN (chD a' b' c' d'))) b (upd (upd v (92 + 33 * i + 5 + j) (nI x)) (92 + 33 * i + 5 + j + 1) (nI y)) := by
  obtain ⟨st, pl, bg, m, a1, b1, c1, d1, ⟨h1', h2', h3, h4, h5, h6, h7, h8, h9⟩, ⟨g1, g2, g3, g4, g5, g6⟩, e0, ⟨f1, f2, f3, f4⟩, k1, k2, m1, m2, m3, m4, m5, m6⟩ := (hF.row z1 hi hsz).use
  have rI : ∀ q, q ≠ b + 1 + 1 + 5 * i + 3 → (sL (sL (sI (sI σ (b + 1 + 1 + 5 * i + 3) j (nI x)) (b + 1 + 1 + 5 * i + 3) (j + 1) (nI y)) (b + 1 + 1 + 5 * i + 3) 4 (lN (chN a' b' c' d'))) (b + 1 + 1 + 5 * i + 3) 5 (lN (chD a' b' c' d'))).1 q = σ.1 q := by
    intro q hq
    show (sI (sI σ (b + 1 + 1 + 5 * i + 3) j (nI x)) (b + 1 + 1 + 5 * i + 3) (j + 1) (nI y)).1 q = _
    rw [rI_n hq, rI_n hq]
  have rL : ∀ q, q ≠ b + 1 + 1 + 5 * i + 3 → (sL (sL (sI (sI σ (b + 1 + 1 + 5 * i + 3) j (nI x)) (b + 1 + 1 + 5 * i + 3) (j + 1) (nI y)) (b + 1 + 1 + 5 * i + 3) 4 (lN (chN a' b' c' d'))) (b + 1 + 1 + 5 * i + 3) 5 (lN (chD a' b' c' d'))).2.1 q = σ.2.1 q := by
    intro q hq
    rw [rL_n hq, rL_n hq]
    rfl
  have gg : ∀ q k, q ≠ b + 1 + 1 + 5 * i + 3 → gI (sL (sL (sI (sI σ (b + 1 + 1 + 5 * i + 3) j (nI x)) (b + 1 + 1 + 5 * i + 3) (j + 1) (nI y)) (b + 1 + 1 + 5 * i + 3) 4 (lN (chN a' b' c' d'))) (b + 1 + 1 + 5 * i + 3) 5 (lN (chD a' b' c' d'))) q k = gI σ q k := fun q k hq => by
    unfold gI
    rw [rI q hq]
  have g3' : ∀ k, k < 4 → gI (sL (sL (sI (sI σ (b + 1 + 1 + 5 * i + 3) j (nI x)) (b + 1 + 1 + 5 * i + 3) (j + 1) (nI y)) (b + 1 + 1 + 5 * i + 3) 4 (lN (chN a' b' c' d'))) (b + 1 + 1 + 5 * i + 3) 5 (lN (chD a' b' c' d'))) (b + 1 + 1 + 5 * i + 3) k = upd (upd v (92 + 33 * i + 5 + j) (nI x)) (92 + 33 * i + 5 + j + 1) (nI y) (92 + 33 * i + (5 + k)) := by
    intro k hk
    rw [gI_sL, gI_sL]
    by_cases c1' : k = j + 1
    · subst c1'
      rw [gI_s, show 92 + 33 * i + (5 + (j + 1)) = 92 + 33 * i + 5 + j + 1 by omega, upd_s]
    · rw [gI_n (Or.inr c1'), upd_n (by omega)]
      by_cases c2' : k = j
      · subst c2'
        rw [gI_s, show 92 + 33 * i + (5 + k) = 92 + 33 * i + 5 + k by omega, upd_s]
      · rw [gI_n (Or.inr c2'), upd_n (by omega)]
        have hk4 : k = 0 ∨ k = 1 ∨ k = 2 ∨ k = 3 := by omega
        rcases hk4 with rfl | rfl | rfl | rfl
        · rw [m1]; exact g1.symm
        · rw [m2]; exact g2.symm
        · rw [m3]; exact g3.symm
        · rw [m4]; exact g4.symm
  have v0 : ∀ k, (k < 92 + 33 * i + 5 ∨ 92 + 33 * i + 8 < k) → upd (upd v (92 + 33 * i + 5 + j) (nI x)) (92 + 33 * i + 5 + j + 1) (nI y) k = v k := fun k hk => by rw [upd_n (by omega), upd_n (by omega)]
  refine hF.chg (i := i) (by omega) ?_ ?_ ?_ ?_ ?_
  · intro q q1 q2 q3
    exact ⟨rI q (by omega), rL q (by omega), rfl⟩
  · intro k q1 q2
    exact v0 k (by omega)
  · rw [rI _ (by omega), rI _ (by omega)]
    exact hF.2.2.1.congr (fun k q1 q2 => v0 k (by omega))
  · refine CR.of st pl bg m a' b' c' d' ⟨?_, h2', ?_, h4, ?_, h6, h7, ?_, h9⟩ ⟨hv 0 (by omega), hv 1 (by omega), hv 2 (by omega), hv 3 (by omega), h1, h2⟩ ?_ ⟨?_, ?_, ?_, ?_⟩ ?_ ?_ ⟨?_, ?_, ?_, ?_, ?_, ?_⟩
    · rw [v0 _ (by omega)]; exact h1'
    · rw [v0 _ (by omega)]; exact h3
    · rw [v0 _ (by omega)]; exact h5
    · rw [v0 _ (by omega)]; exact h8
    · rw [v0 _ (by omega)]; exact e0
    · rw [gg _ _ (by omega)]; exact f1
    · rw [gg _ _ (by omega)]; exact f2
    · rw [gg _ _ (by omega)]; exact f3
    · rw [gg _ _ (by omega)]; exact f4
    · intro k hk
      rw [gg _ _ (by omega), gg _ _ (by omega), gg _ _ (by omega), v0 _ (by omega), v0 _ (by omega), v0 _ (by omega)]
      exact k1 k hk
    · intro k hk
      rw [gg _ _ (by omega), v0 _ (by omega)]
      exact k2 k hk
    · rw [g3' 0 (by omega)]; exact hv 0 (by omega)
    · rw [g3' 1 (by omega)]; exact hv 1 (by omega)
    · rw [g3' 2 (by omega)]; exact hv 2 (by omega)
    · rw [g3' 3 (by omega)]; exact hv 3 (by omega)
    · rw [gL_n (Or.inr (by omega)), gL_s]
    · rw [gL_s]
  · exact gg _ _ (by omega)
theorem probe_eq {σ τ : St} {b sz i p q cnt : Nat} {x1 : Int32} {rec : Int32 → Int32 → St → Option (Int32 × St)} (hF : FR σ b (τ.1 (0 + 1))) (z1 : τ.1 (0 + 1) 10 = nI sz) (hsz : sz ≤ 5) (hi : i < sz) (hp : p ≤ 9) (hq : q ≤ 9) : ∃ r σ' τ', f_X0_takesProbes (b + 1 + 1 + 5 * i) x1 (nI p) (nI q) σ = some (r, σ') ∧ f_X8_report_L40 0 x1 (nI p) (nI q) rec (nI cnt) (nI i) τ = rec (nI (cnt + if r = true then 1 else 0)) (nI (i + 1)) τ' ∧ ST b σ τ σ' τ' := by
  obtain ⟨st, pl, bg, m, a, b1, c1, d1, ⟨h1', h2', h3, h4, h5, h6, h7, h8, h9⟩, ⟨g1, g2, g3, g4, g5, g6⟩, e0, ⟨f1, f2, f3, f4⟩, k1, k2, m1, m2, m3, m4, m5, m6⟩ := (hF.row z1 hi hsz).use
  unfold f_X0_takesProbes f_X8_report_L40 f_X8_report_B77
  simp only [bnd_e]
  rw [watched_eq f2 h2', f3]
  have i0 : nI (92 + 33 * i + 5) + 0 = nI (92 + 33 * i + 5) := nI_add _ 0
  have i2 : nI (92 + 33 * i + 5) + 2 = nI (92 + 33 * i + 5 + 2) := nI_add _ 2
  rw [show (10 : Int32).toNatClampNeg = 10 from rfl, show gI τ (0 + 1) 10 = nI sz from z1, if_neg (nleN (by omega) (by omega)), show f_X8_at (nI i) 5 = nI (92 + 33 * i + 5) from at_nI i 5, reached_eq (by omega) (by omega) h5, obd_s, i0, i2, isOut_eq (by omega) h1' h5 h2' (by omega), obd_s, obd_s]
  simp only [nI_1]
  by_cases hs : st = 1 ∨ st = 2
  · rw [if_pos (decide_eq_true hs)]
    by_cases hb : bg = 0
    · rw [if_pos (show nI bg = 0 by rw [hb]; rfl), decide_eq_false (show ¬ ((st = 1 ∨ st = 2) ∧ 0 < bg) by omega)]
      refine ⟨false, σ, τ, rfl, ?_, ST.rf hF⟩
      simp
    · rw [if_neg (show ¬ nI bg = 0 from neN (b := 0) hb (by omega) (by omega)), decide_eq_true (show (st = 1 ∨ st = 2) ∧ 0 < bg from ⟨hs, by omega⟩), isAt_eq h4 h6 f4 f3 (fun k hk => (k1 k hk).1), obd_s, if_pos rfl, if_pos rfl]
      rcases bit01 (ORv (τ.1 (0 + 1)) i bg) (x1 &&& 31) with hbit | hbit
      · rw [hbit, if_neg (show ¬ (0 : Int32) = 1 by decide), if_neg (by decide)]
        unfold f_X6_takesControl f_X6_control
        rw [bnd_e, m3, m4, nI_add, nI_add, nI_add, inb_nI (show 92 + 33 * i + 5 + 2 < 257 by omega) (by omega), inb_nI (show 92 + 33 * i + 5 + 2 + 1 < 257 by omega) (by omega), cl_nI (show 92 + 33 * i + 5 + 2 < 10000000 by omega), cl_nI (show 92 + 33 * i + 5 + 2 + 1 < 10000000 by omega), show gI τ (0 + 1) (92 + 33 * i + 5 + 2) = nI c1 from g3, show gI τ (0 + 1) (92 + 33 * i + 5 + 2 + 1) = nI d1 from g4]
        simp only [if_true, nI_add]
        by_cases hc : c1 + d1 + p + q ≤ 25
        · rw [if_pos (show nI (c1 + d1 + p + q) ≤ 25 from leN (b := 25) hc (by omega)), if_neg (show ¬ (25 : Int32) < nI (c1 + d1 + p + q) from nltN (a := 25) hc (by omega)), bnd_e, bnd_e, gI_n (Or.inr (by omega)), m4, nI_add, gI_n (Or.inr (by omega)), show gI τ (0 + 1) (92 + 33 * i + 5 + 2 + 1) = nI d1 from g4, nI_add, compute_eq (a := a) (b := b1) (c := c1 + p) (d := d1 + q) (by rw [gI_n (Or.inr (by omega)), gI_n (Or.inr (by omega))]; exact m1) (by rw [gI_n (Or.inr (by omega)), gI_n (Or.inr (by omega))]; exact m2) (by rw [gI_n (Or.inr (by omega)), gI_s]) (by rw [gI_s]) g5 (by omega), obd_s, ob2_s]
          refine ⟨true, _, _, rfl, rfl, ?_⟩
          refine ⟨?_, ?_, frM.row.tr frM.row, rfl, fun h => h.same rfl, ⟨0, ?_, ?_⟩, ?_⟩
          · rw [rI_s, rI_s]
            refine probe_FR (j := 2) hF z1 hsz hi (by omega) ?_ g5 (by omega)
            intro k hk
            have hk4 : k = 0 ∨ k = 1 ∨ k = 2 ∨ k = 3 := by omega
            rcases hk4 with rfl | rfl | rfl | rfl
            · rw [upd_n (by omega), upd_n (by omega)]; exact g1
            · rw [upd_n (by omega), upd_n (by omega)]; exact g2
            · rw [upd_n (by omega)]; exact upd_s _ _ _
            · exact upd_s _ _ _
          · exact (((frC.I (by omega)).tr (frC.I (by omega))).tr (frC.L (by omega))).tr (frC.L (by omega))
          · rw [gI_sL, gI_sL, gI_n (Or.inl (by omega)), gI_n (Or.inl (by omega))]; simp
          · rw [gI_n (Or.inl (by omega)), gI_n (Or.inl (by omega))]; simp
          · rw [rI_s, rI_s, upd_n (by omega), upd_n (by omega)]
        · rw [if_neg (show ¬ nI (c1 + d1 + p + q) ≤ 25 from nleN (b := 25) (by omega) (by omega)), if_pos (show (25 : Int32) < nI (c1 + d1 + p + q) from ltN (a := 25) (by omega) (by omega)), ob2_s]
          exact ⟨false, _, _, rfl, by simp, ST.rf hF⟩
      · rw [hbit, if_pos rfl, if_pos (by decide)]
        unfold f_X6_takesTreated f_X6_treated
        rw [bnd_e, m1, m2, nI_add, nI_add, nI_add, inb_nI (show 92 + 33 * i + 5 < 257 by omega) (by omega), inb_nI (show 92 + 33 * i + 5 + 1 < 257 by omega) (by omega), cl_nI (show 92 + 33 * i + 5 < 10000000 by omega), cl_nI (show 92 + 33 * i + 5 + 1 < 10000000 by omega), show gI τ (0 + 1) (92 + 33 * i + 5) = nI a from g1, show gI τ (0 + 1) (92 + 33 * i + 5 + 1) = nI b1 from g2]
        simp only [if_true, nI_add]
        by_cases hc : a + b1 + p + q ≤ 25
        · rw [if_pos (show nI (a + b1 + p + q) ≤ 25 from leN (b := 25) hc (by omega)), if_neg (show ¬ (25 : Int32) < nI (a + b1 + p + q) from nltN (a := 25) hc (by omega)), bnd_e, bnd_e, gI_n (Or.inr (by omega)), m2, nI_add, gI_n (Or.inr (by omega)), show gI τ (0 + 1) (92 + 33 * i + 5 + 1) = nI b1 from g2, nI_add, compute_eq (a := a + p) (b := b1 + q) (c := c1) (d := d1) (by rw [gI_n (Or.inr (by omega)), gI_s]) (by rw [gI_s]) (by rw [gI_n (Or.inr (by omega)), gI_n (Or.inr (by omega))]; exact m3) (by rw [gI_n (Or.inr (by omega)), gI_n (Or.inr (by omega))]; exact m4) (by omega) g6, obd_s, ob2_s]
          refine ⟨true, _, _, rfl, rfl, ?_⟩
          refine ⟨?_, ?_, frM.row.tr frM.row, rfl, fun h => h.same rfl, ⟨0, ?_, ?_⟩, ?_⟩
          · rw [rI_s, rI_s]
            refine probe_FR (j := 0) hF z1 hsz hi (by omega) ?_ (by omega) g6
            intro k hk
            have hk4 : k = 0 ∨ k = 1 ∨ k = 2 ∨ k = 3 := by omega
            rcases hk4 with rfl | rfl | rfl | rfl
            · rw [upd_n (by omega)]; exact upd_s _ _ _
            · exact upd_s _ _ _
            · rw [upd_n (by omega), upd_n (by omega)]; exact g3
            · rw [upd_n (by omega), upd_n (by omega)]; exact g4
          · exact (((frC.I (by omega)).tr (frC.I (by omega))).tr (frC.L (by omega))).tr (frC.L (by omega))
          · rw [gI_sL, gI_sL, gI_n (Or.inl (by omega)), gI_n (Or.inl (by omega))]; simp
          · rw [gI_n (Or.inl (by omega)), gI_n (Or.inl (by omega))]; simp
          · rw [rI_s, rI_s, upd_n (by omega), upd_n (by omega)]
        · rw [if_neg (show ¬ nI (a + b1 + p + q) ≤ 25 from nleN (b := 25) (by omega) (by omega)), if_pos (show (25 : Int32) < nI (a + b1 + p + q) from ltN (a := 25) (by omega) (by omega)), ob2_s]
          exact ⟨false, _, _, rfl, by simp, ST.rf hF⟩
  · rw [decide_eq_false hs, decide_eq_false (show ¬ ((st = 1 ∨ st = 2) ∧ 0 < bg) from fun z => hs z.1)]
    refine ⟨false, σ, τ, rfl, ?_, ST.rf hF⟩
    simp
theorem report_L {b sz p q : Nat} {x1 : Int32} (hsz : sz ≤ 5) (hp : p ≤ 9) (hq : q ≤ 9) : ∀ (m k F G cnt : Nat) (σ τ : St), k + m = sz → m < F → m < G → FR σ b (τ.1 (0 + 1)) → τ.1 (0 + 1) 10 = nI sz → ∃ r σ' τ', it3 (f_X1_takeProbes_L6 b x1 (nI p) (nI q)) F (nI cnt) (nI k) σ = some (r, σ') ∧ it3 (f_X8_report_L40 0 x1 (nI p) (nI q)) G (nI cnt) (nI k) τ = some (r, τ') ∧ ST b σ τ σ' τ' := by
  intro m
  induction m with
  | zero =>
    intro k F G cnt σ τ hkm hF hG hFR z1
    obtain ⟨F, rfl⟩ : ∃ n', F = n' + 1 := ⟨F - 1, by omega⟩
    obtain ⟨G, rfl⟩ : ∃ n', G = n' + 1 := ⟨G - 1, by omega⟩
    refine ⟨nI cnt, σ, τ, ?_, ?_, ST.rf hFR⟩
    · show f_X1_takeProbes_L6 b x1 (nI p) (nI q) (it3 (f_X1_takeProbes_L6 b x1 (nI p) (nI q)) F) (nI cnt) (nI k) σ = _
      generalize it3 (f_X1_takeProbes_L6 b x1 (nI p) (nI q)) F = g
      unfold f_X1_takeProbes_L6
      rw [show gI σ b 4 = nI sz from hFR.1.2.2.2.2.2.trans z1, if_pos (leN (by omega) (by omega))]
    · show f_X8_report_L40 0 x1 (nI p) (nI q) (it3 (f_X8_report_L40 0 x1 (nI p) (nI q)) G) (nI cnt) (nI k) τ = _
      generalize it3 (f_X8_report_L40 0 x1 (nI p) (nI q)) G = g
      unfold f_X8_report_L40
      rw [show (10 : Int32).toNatClampNeg = 10 from rfl, show gI τ (0 + 1) 10 = nI sz from z1, if_pos (leN (by omega) (by omega))]
  | succ m ih =>
    intro k F G cnt σ τ hkm hF hG hFR z1
    obtain ⟨F, rfl⟩ : ∃ n', F = n' + 1 := ⟨F - 1, by omega⟩
    obtain ⟨G, rfl⟩ : ∃ n', G = n' + 1 := ⟨G - 1, by omega⟩
    obtain ⟨r, σ1, τ1, s1, t1, hST⟩ := probe_eq (x1 := x1) (cnt := cnt) (rec := it3 (f_X8_report_L40 0 x1 (nI p) (nI q)) G) hFR z1 hsz (show k < sz by omega) hp hq
    obtain ⟨r', σ', τ', s2, t2, hST2⟩ := ih (k + 1) F G (cnt + if r = true then 1 else 0) σ1 τ1 (by omega) (by omega) (by omega) hST.1 (hST.2.2.2.2.2.2.trans z1)
    refine ⟨r', σ', τ', ?_, ?_, hST.tr hST2⟩
    · show f_X1_takeProbes_L6 b x1 (nI p) (nI q) (it3 (f_X1_takeProbes_L6 b x1 (nI p) (nI q)) F) (nI cnt) (nI k) σ = _
      rw [← s2]
      generalize it3 (f_X1_takeProbes_L6 b x1 (nI p) (nI q)) F = g
      unfold f_X1_takeProbes_L6
      rw [show gI σ b 4 = nI sz from hFR.1.2.2.2.2.2.trans z1, if_neg (nleN (by omega) (by omega)), show (5 : Int32) = nI 5 from rfl, if_neg (nleN (by omega) (by omega)), if_pos (inb_nI (by omega) (by omega)), cl_nI (by omega), s1, ob2_s]
      simp only [bnd_e, nI_1]
      cases r <;> rfl
    · show f_X8_report_L40 0 x1 (nI p) (nI q) (it3 (f_X8_report_L40 0 x1 (nI p) (nI q)) G) (nI cnt) (nI k) τ = _
      rw [t1, t2]
theorem op_report {σ τ : St} (hR : Rel σ τ) (x1 x2 x3 : Int32) : ∃ r σ' τ', f_X7_report 0 x1 x2 x3 σ = some (r, σ') ∧ f_X8_report 0 x1 x2 x3 τ = some (r, τ') ∧ Rel σ' τ' := by
  obtain ⟨F, hFu, eF⟩ := fuel_ex
  unfold f_X7_report f_X8_report f_X1_takeProbes
  have hF := hR.1
  rw [eF]
  simp only [bnd_e, within_in]
  rw [isCell_eq hF, show f_X8_isCell 0 x1 τ = f_X8_in x1 0 (τ.1 (0 + 1) 0 - 1) from rfl]
  by_cases c1 : f_X8_in x1 0 (τ.1 (0 + 1) 0 - 1) = true
  · rw [if_pos c1, if_pos c1]
    by_cases c2 : f_X8_in x2 0 9 = true
    · rw [if_pos c2, if_pos c2]
      by_cases c3 : f_X8_in x3 0 9 = true
      · rw [if_pos c3, if_pos c3]
        obtain ⟨p, -, hp, rfl⟩ := in_lo 0 9 (by omega) (by omega) c2
        obtain ⟨q, -, hq, rfl⟩ := in_lo 0 9 (by omega) (by omega) c3
        obtain ⟨sz, z1, z2, z3, -⟩ := hF.sz
        obtain ⟨r, σ', τ', s1, t1, hST⟩ := report_L (x1 := x1) z3 hp hq sz 0 F F 0 σ τ (by omega) (by omega) (by omega) hF z1
        rw [show (0 : Int32) = nI 0 from rfl, s1, t1]
        exact ⟨_, _, _, rfl, rfl, hR.st hST⟩
      · rw [if_neg c3, if_neg c3]
        exact ⟨_, _, _, rfl, rfl, hR⟩
    · rw [if_neg c2, if_neg c2]
      exact ⟨_, _, _, rfl, rfl, hR⟩
  · rw [if_neg c1, if_neg c1]
    exact ⟨_, _, _, rfl, rfl, hR⟩
