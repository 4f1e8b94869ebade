/-! the forecast -/
theorem fcA_L {x1 : Int32} : ∀ (m k F : Nat) (τ : St), k + m = 257 → m < F → ∃ τ', it2 (f_X8_forecast_L13 0 x1) F (nI k) τ = it2 (f_X8_forecast_L45 0 x1) sr_fuel 0 (sB τ' 0 6 true) ∧ τ'.2 = τ.2 ∧ (∀ q, q ≠ 0 + 2 → τ'.1 q = τ.1 q) ∧ ∀ j, τ'.1 (0 + 2) j = if k ≤ j ∧ j < 257 then τ.1 (0 + 1) j else τ.1 (0 + 2) j := by
  intro m
  induction m with
  | zero =>
    intro k F τ hkm hF
    obtain ⟨F, rfl⟩ : ∃ n', F = n' + 1 := ⟨F - 1, by omega⟩
    refine ⟨τ, ?_, rfl, fun _ _ => rfl, fun j => by rw [if_neg (by omega)]⟩
    show f_X8_forecast_L13 0 x1 (it2 (f_X8_forecast_L13 0 x1) F) (nI k) τ = _
    generalize it2 (f_X8_forecast_L13 0 x1) F = g
    unfold f_X8_forecast_L13
    rw [show (257 : Int32) = nI 257 from rfl, if_pos (leN (by omega) (by omega)), bnd_e]
  | succ m ih =>
    intro k F τ hkm hF
    obtain ⟨F, rfl⟩ : ∃ n', F = n' + 1 := ⟨F - 1, by omega⟩
    obtain ⟨τ', t1, t2, t3, t4⟩ := ih (k + 1) F (sI τ (0 + 2) k (gI τ (0 + 1) k)) (by omega) (by omega)
    refine ⟨τ', ?_, t2, fun q hq => by rw [t3 q hq, rI_n hq], fun j => ?_⟩
    · show f_X8_forecast_L13 0 x1 (it2 (f_X8_forecast_L13 0 x1) F) (nI k) τ = _
      generalize it2 (f_X8_forecast_L13 0 x1) F = g at t1 ⊢
      unfold f_X8_forecast_L13
      rw [show (257 : Int32) = nI 257 from rfl, if_neg (nleN (by omega) (by omega)), if_pos (inb_nI (by omega) (by omega)), if_pos (inb_nI (by omega) (by omega)), bnd_e, bnd_e, cl_nI (by omega), nI_1, t1]
    · rw [t4, rI_s, rI_n (by omega)]
      by_cases h : k ≤ j ∧ j < 257
      · rw [if_pos h]
        by_cases h2 : j = k
        · rw [if_neg (by omega), h2, upd_s]; rfl
        · rw [if_pos (by omega)]
      · rw [if_neg h, if_neg (by omega), upd_n (by omega)]
theorem fcZ_L {x1 r : Int32} : ∀ (m k F : Nat) (τ : St), k + m = 257 → m < F → ∃ τ', it3 (f_X8_forecast_L93 0 x1) F r (nI k) τ = some (r, τ') ∧ frM τ τ' ∧ τ'.2 = τ.2 ∧ ∀ j, τ'.1 (0 + 1) j = if k ≤ j ∧ j < 257 then τ.1 (0 + 2) j else τ.1 (0 + 1) j := by
  intro m
  induction m with
  | zero =>
    intro k F τ hkm hF
    obtain ⟨F, rfl⟩ : ∃ n', F = n' + 1 := ⟨F - 1, by omega⟩
    refine ⟨τ, ?_, frM.rf, rfl, fun j => by rw [if_neg (by omega)]⟩
    show f_X8_forecast_L93 0 x1 (it3 (f_X8_forecast_L93 0 x1) F) r (nI k) τ = _
    generalize it3 (f_X8_forecast_L93 0 x1) F = g
    unfold f_X8_forecast_L93
    rw [show (257 : Int32) = nI 257 from rfl, if_pos (leN (by omega) (by omega))]
  | succ m ih =>
    intro k F τ hkm hF
    obtain ⟨F, rfl⟩ : ∃ n', F = n' + 1 := ⟨F - 1, by omega⟩
    obtain ⟨τ', t1, t2, t3, t4⟩ := ih (k + 1) F (sI τ (0 + 1) k (gI τ (0 + 2) k)) (by omega) (by omega)
    refine ⟨τ', ?_, frM.row.tr t2, t3, fun j => ?_⟩
    · show f_X8_forecast_L93 0 x1 (it3 (f_X8_forecast_L93 0 x1) F) r (nI k) τ = _
      generalize it3 (f_X8_forecast_L93 0 x1) F = g at t1 ⊢
      unfold f_X8_forecast_L93
      rw [show (257 : Int32) = nI 257 from rfl, if_neg (nleN (by omega) (by omega)), if_pos (inb_nI (by omega) (by omega)), if_pos (inb_nI (by omega) (by omega)), bnd_e, bnd_e, cl_nI (by omega), nI_1, t1]
    · rw [t4, rI_s, rI_n (by omega)]
      by_cases h : k ≤ j ∧ j < 257
      · rw [if_pos h]
        by_cases h2 : j = k
        · rw [if_neg (by omega), h2, upd_s]; rfl
        · rw [if_pos (by omega)]
      · rw [if_neg h, if_neg (by omega), upd_n (by omega)]
theorem over_st : ∀ st, st ≤ 5 → ((nI st = 3 ↔ st = 3) ∧ (nI st = 5 ↔ st = 5)) := by
  intro st h
  exact ⟨eq_nI (b := 3) (by omega) (by omega), eq_nI (b := 5) (by omega) (by omega)⟩
theorem overM_eq {τ : St} {i st : Nat} (hi : i < 5) (h1 : gI τ (0 + 1) (92 + 33 * i + 1) = nI st) (hst : st ≤ 5) : f_X8_isOver 0 (nI i) τ = some (decide (st = 3 ∨ st = 5)) := by
  unfold f_X8_isOver
  simp only [bnd_e]
  rw [show f_X8_at (nI i) 1 = nI (92 + 33 * i + 1) from at_nI i 1, inb_nI (show 92 + 33 * i + 1 < 257 by omega) (by omega), cl_nI (show 92 + 33 * i + 1 < 10000000 by omega), h1, if_pos rfl, if_pos rfl]
  obtain ⟨o1, o2⟩ := over_st st hst
  by_cases c1 : st = 3
  · rw [if_pos (o1.mpr c1), decide_eq_true (Or.inl c1)]
  · rw [if_neg (fun z => c1 (o1.mp z))]
    by_cases c2 : st = 5
    · rw [if_pos (o2.mpr c2), decide_eq_true (Or.inr c2)]
    · rw [if_neg (fun z => c2 (o2.mp z)), decide_eq_false (by omega)]
theorem overC_eq {σ : St} {i sz : Nat} {v : Nat → Int32} (hF : FR σ (0 + 33) v) (z1 : v 10 = nI sz) (hsz : sz ≤ 5) (hi : i < sz) : ∃ st, st ≤ 5 ∧ v (92 + 33 * i + 1) = nI st ∧ f_X1_isOver (0 + 33) (nI i) σ = some (decide (st = 3 ∨ st = 5)) := by
  obtain ⟨st, pl, bg, m, a, b', c', d, ⟨h1, h2, h3, h4, h5, h6, h7, h8, h9⟩, -, e0, ⟨f1, f2, f3, f4⟩, -⟩ := (hF.row z1 hi hsz).use
  refine ⟨st, h2, h1, ?_⟩
  unfold f_X1_isOver
  rcases find_or hF (nI i) with ⟨i', sz', z1', z2', hi', hii, ef, ei⟩ | ⟨ef, ei⟩
  · have : i' = i := ((eq_nI (by omega) (by omega)).mp hii).symm
    subst this
    rw [ef, obd_s, opt_s, if_pos (shT i' (by omega)), f2]
    obtain ⟨o1, o2⟩ := over_st st h2
    by_cases c1 : st = 3
    · rw [if_pos (o1.mpr c1), decide_eq_true (Or.inl c1)]
    · rw [if_neg (fun z => c1 (o1.mp z))]
      by_cases c2 : st = 5
      · rw [if_pos (o2.mpr c2), decide_eq_true (Or.inr c2)]
      · rw [if_neg (fun z => c2 (o2.mp z)), decide_eq_false (by omega)]
  · exfalso
    rw [z1] at ei
    rcases in_0 (nI i) (n := sz) (by omega) with ⟨h, -⟩ | ⟨-, h⟩
    · rw [h] at ei
      exact absurd ei (by decide)
    · rcases h with h | h
      · exact absurd h (nI_pos (by omega))
      · exact absurd h (nleN hi (by omega))
theorem fc_L {i sz : Nat} (hsz : sz ≤ 5) (hi : i < sz) : ∀ (m k F G : Nat) (σ τ : St), k + m = 400 → m + 1 < F → m < G → FR σ (0 + 33) (τ.1 (0 + 1)) → SetsOK τ → gB σ (0 + 33) 3 = true → gB τ 0 6 = true → τ.1 (0 + 1) 10 = nI sz → ∃ r σ' τ' w, it2 (f_X7_forecast_L47 0 (nI i)) F (nI k) σ = some (r, σ') ∧ it2 (f_X8_forecast_L45 0 (nI i)) G (nI k) τ = it3 (f_X8_forecast_L93 0 (nI i)) sr_fuel r 0 (sB τ' 0 6 false) ∧ frC σ σ' (0 + 33) ∧ σ'.2.2 = σ.2.2 ∧ frM τ τ' ∧ SetsOK τ' ∧ FR σ' (0 + 33) w := by
  intro m
  induction m with
  | zero =>
    intro k F G σ τ hkm hF hG hFR hS hg1 hg2 z1
    obtain ⟨F, rfl⟩ : ∃ n', F = n' + 1 + 1 := ⟨F - 2, by omega⟩
    obtain ⟨G, rfl⟩ : ∃ n', G = n' + 1 := ⟨G - 1, by omega⟩
    obtain ⟨st, q1, q2, q3⟩ := overC_eq hFR z1 hsz hi
    have q4 := overM_eq (i := i) (by omega) q2 q1
    have eM : it2 (f_X8_forecast_L45 0 (nI i)) (G + 1) (nI k) τ = it3 (f_X8_forecast_L93 0 (nI i)) sr_fuel (if st = 3 ∨ st = 5 then nI k else -15) 0 (sB τ 0 6 false) := by
      show f_X8_forecast_L45 0 (nI i) (it2 (f_X8_forecast_L45 0 (nI i)) G) (nI k) τ = _
      generalize it2 (f_X8_forecast_L45 0 (nI i)) G = g
      unfold f_X8_forecast_L45 f_X8_forecast_B70
      rw [show (400 : Int32) = nI 400 from rfl, if_pos (leN (by omega) (by omega)), q4, obd_s, bnd_e]
      by_cases c : st = 3 ∨ st = 5
      · rw [decide_eq_true c, if_pos rfl, if_pos c]
      · rw [decide_eq_false c, if_neg (by decide), if_neg c, bnd_e]
    by_cases c : st = 3 ∨ st = 5
    · refine ⟨nI k, σ, τ, _, ?_, ?_, frC.rf, rfl, frM.rf, hS, hFR⟩
      · show f_X7_forecast_L47 0 (nI i) (it2 (f_X7_forecast_L47 0 (nI i)) (F + 1)) (nI k) σ = _
        generalize it2 (f_X7_forecast_L47 0 (nI i)) (F + 1) = g
        unfold f_X7_forecast_L47
        rw [show (400 : Int32) = nI 400 from rfl, if_neg (nltN (by omega) (by omega)), q3, obd_s, if_pos (decide_eq_true c)]
      · rw [eM, if_pos c]
    · obtain ⟨σ1, τ1, s1, t1, hST, -⟩ := hour_eq hFR hS (hg1.trans hg2.symm)
      refine ⟨-15, σ1, τ, _, ?_, ?_, hST.2.1, hST.2.2.2.1, frM.rf, hS, hST.1⟩
      · have e2 : it2 (f_X7_forecast_L47 0 (nI i)) (F + 1) (nI (k + 1)) σ1 = some (-15, σ1) := by
          show f_X7_forecast_L47 0 (nI i) (it2 (f_X7_forecast_L47 0 (nI i)) F) (nI (k + 1)) σ1 = _
          generalize it2 (f_X7_forecast_L47 0 (nI i)) F = g
          unfold f_X7_forecast_L47
          rw [show (400 : Int32) = nI 400 from rfl, if_pos (ltN (by omega) (by omega))]
        show f_X7_forecast_L47 0 (nI i) (it2 (f_X7_forecast_L47 0 (nI i)) (F + 1)) (nI k) σ = _
        rw [← e2]
        generalize it2 (f_X7_forecast_L47 0 (nI i)) (F + 1) = g
        unfold f_X7_forecast_L47
        rw [show (400 : Int32) = nI 400 from rfl, if_neg (nltN (by omega) (by omega)), q3, obd_s, decide_eq_false c, if_neg (by decide), s1, obd_s, bnd_e, nI_1]
      · rw [eM, if_neg c]
  | succ m ih =>
    intro k F G σ τ hkm hF hG hFR hS hg1 hg2 z1
    obtain ⟨F, rfl⟩ : ∃ n', F = n' + 1 := ⟨F - 1, by omega⟩
    obtain ⟨G, rfl⟩ : ∃ n', G = n' + 1 := ⟨G - 1, by omega⟩
    obtain ⟨st, q1, q2, q3⟩ := overC_eq hFR z1 hsz hi
    have q4 := overM_eq (i := i) (by omega) q2 q1
    by_cases c : st = 3 ∨ st = 5
    · refine ⟨nI k, σ, τ, _, ?_, ?_, frC.rf, rfl, frM.rf, hS, hFR⟩
      · show f_X7_forecast_L47 0 (nI i) (it2 (f_X7_forecast_L47 0 (nI i)) F) (nI k) σ = _
        generalize it2 (f_X7_forecast_L47 0 (nI i)) F = g
        unfold f_X7_forecast_L47
        rw [show (400 : Int32) = nI 400 from rfl, if_neg (nltN (by omega) (by omega)), q3, obd_s, if_pos (decide_eq_true c)]
      · show f_X8_forecast_L45 0 (nI i) (it2 (f_X8_forecast_L45 0 (nI i)) G) (nI k) τ = _
        generalize it2 (f_X8_forecast_L45 0 (nI i)) G = g
        unfold f_X8_forecast_L45 f_X8_forecast_B70
        rw [show (400 : Int32) = nI 400 from rfl, if_neg (nleN (by omega) (by omega)), q4, obd_s, obd_s, if_pos (decide_eq_true c), if_pos (decide_eq_true c), bnd_e]
    · obtain ⟨σ1, τ1, s1, t1, hST, -⟩ := hour_eq hFR hS (hg1.trans hg2.symm)
      obtain ⟨r, σ', τ', w, a1, a2, a3, a4, a5, a6, a7⟩ := ih (k + 1) F G σ1 τ1 (by omega) (by omega) (by omega) hST.1 (hST.2.2.2.2.1 hS) (by unfold gB; rw [hST.2.2.2.1]; exact hg1) (by unfold gB; rw [hST.2.2.1.2.2]; exact hg2) (hST.2.2.2.2.2.2.trans z1)
      refine ⟨r, σ', τ', w, ?_, ?_, hST.2.1.tr a3, a4.trans hST.2.2.2.1, hST.2.2.1.tr a5, a6, a7⟩
      · show f_X7_forecast_L47 0 (nI i) (it2 (f_X7_forecast_L47 0 (nI i)) F) (nI k) σ = _
        rw [← a1]
        generalize it2 (f_X7_forecast_L47 0 (nI i)) F = g
        unfold f_X7_forecast_L47
        rw [show (400 : Int32) = nI 400 from rfl, if_neg (nltN (by omega) (by omega)), q3, obd_s, decide_eq_false c, if_neg (by decide), s1, obd_s, bnd_e, nI_1]
      · show f_X8_forecast_L45 0 (nI i) (it2 (f_X8_forecast_L45 0 (nI i)) G) (nI k) τ = _
        rw [← a2]
        generalize it2 (f_X8_forecast_L45 0 (nI i)) G = g
        unfold f_X8_forecast_L45
        rw [show (400 : Int32) = nI 400 from rfl, if_neg (nleN (by omega) (by omega)), q4, obd_s, decide_eq_false c, if_neg (by decide), t1, obd_s, bnd_e, nI_1]
/-- a change of state 0 or 2 stays: no end -/
theorem fc0_L {i sz : Nat} (hsz : sz ≤ 5) (hi : i < sz) : ∀ (m k G : Nat) (σ τ : St), k + m = 400 → m < G → FR σ (0 + 33) (τ.1 (0 + 1)) → SetsOK τ → gB σ (0 + 33) 3 = true → gB τ 0 6 = true → τ.1 (0 + 1) 10 = nI sz → (τ.1 (0 + 1) (92 + 33 * i + 1) = nI 0 ∨ τ.1 (0 + 1) (92 + 33 * i + 1) = nI 2) → ∃ τ', it2 (f_X8_forecast_L45 0 (nI i)) G (nI k) τ = it3 (f_X8_forecast_L93 0 (nI i)) sr_fuel (-15) 0 (sB τ' 0 6 false) ∧ frM τ τ' ∧ SetsOK τ' := by
  intro m
  induction m with
  | zero =>
    intro k G σ τ hkm hG hFR hS hg1 hg2 z1 hx
    obtain ⟨G, rfl⟩ : ∃ n', G = n' + 1 := ⟨G - 1, by omega⟩
    have q4 : f_X8_isOver 0 (nI i) τ = some false := by
      rcases hx with hx | hx
      · exact overM_eq (st := 0) (by omega) hx (by omega)
      · exact overM_eq (st := 2) (by omega) hx (by omega)
    refine ⟨τ, ?_, frM.rf, hS⟩
    show f_X8_forecast_L45 0 (nI i) (it2 (f_X8_forecast_L45 0 (nI i)) G) (nI k) τ = _
    generalize it2 (f_X8_forecast_L45 0 (nI i)) G = g
    unfold f_X8_forecast_L45 f_X8_forecast_B70
    rw [show (400 : Int32) = nI 400 from rfl, if_pos (leN (by omega) (by omega)), q4, obd_s, if_neg (by decide), bnd_e]
  | succ m ih =>
    intro k G σ τ hkm hG hFR hS hg1 hg2 z1 hx
    obtain ⟨G, rfl⟩ : ∃ n', G = n' + 1 := ⟨G - 1, by omega⟩
    have q4 : f_X8_isOver 0 (nI i) τ = some false := by
      rcases hx with hx | hx
      · exact overM_eq (st := 0) (by omega) hx (by omega)
      · exact overM_eq (st := 2) (by omega) hx (by omega)
    obtain ⟨σ1, τ1, s1, t1, hST, hK⟩ := hour_eq hFR hS (hg1.trans hg2.symm)
    obtain ⟨τ', a2, a5, a6⟩ := ih (k + 1) G σ1 τ1 (by omega) (by omega) hST.1 (hST.2.2.2.2.1 hS) (by unfold gB; rw [hST.2.2.2.1]; exact hg1) (by unfold gB; rw [hST.2.2.1.2.2]; exact hg2) (hST.2.2.2.2.2.2.trans z1) (by rw [hK hg2 i (by omega) hx]; exact hx)
    refine ⟨τ', ?_, hST.2.2.1.tr a5, a6⟩
    show f_X8_forecast_L45 0 (nI i) (it2 (f_X8_forecast_L45 0 (nI i)) G) (nI k) τ = _
    rw [← a2]
    generalize it2 (f_X8_forecast_L45 0 (nI i)) G = g
    unfold f_X8_forecast_L45
    rw [show (400 : Int32) = nI 400 from rfl, if_neg (nleN (by omega) (by omega)), q4, obd_s, if_neg (by decide), t1, obd_s, bnd_e, nI_1]
theorem fc_end {σ τ τs τ' : St} {x1 r : Int32} (hR : Rel σ τ) (e2 : τs.2 = τ.2) (e1 : ∀ q, q ≠ 0 + 2 → τs.1 q = τ.1 q) (e3 : ∀ j, j < 257 → τs.1 (0 + 2) j = τ.1 (0 + 1) j) (fm : frM (sB τs 0 6 true) τ') (hS : SetsOK τ') : ∃ τe, it3 (f_X8_forecast_L93 0 x1) sr_fuel r 0 (sB τ' 0 6 false) = some (r, τe) ∧ ∀ σe, frC σ σe (0 + 33) → gB σe (0 + 33) 3 = true → (∀ i, i < 5 → gI σe (0 + 33 + 1 + 1 + 5 * i) 0 = nI i) → Rel σe τe := by
  obtain ⟨F, hFu, eF⟩ := fuel_ex
  rw [eF]
  obtain ⟨τe, t1, t2, t3, t4⟩ := fcZ_L (x1 := x1) (r := r) 257 0 F (sB τ' 0 6 false) (by omega) (by omega)
  refine ⟨τe, t1, fun σe fc hb hid => ?_⟩
  have rq : ∀ q, 2 ≤ q → q ≠ 0 + 2 → τe.1 q = τ.1 q := fun q h1 h2 => (t2.1 q h1).trans ((fm.1 q h1).trans (e1 q h2))
  have g0 : ∀ j, j ≠ 7 → gI τe 0 j = gI τ 0 j := fun j h => (t2.2.1 j h).trans ((fm.2.1 j h).trans (by unfold gI; exact congrFun (e1 0 (by omega)) j))
  have b4 : ∀ j, gB τe (0 + 4) j = gB τ (0 + 4) j := by
    intro j
    unfold gB
    rw [t3]
    show (sB τ' 0 6 false).2.2 (0 + 4) j = _
    rw [rB_n (by omega), fm.2.2, rB_n (by omega), e2]
  obtain ⟨hF, ht, hk, hs, -, -⟩ := hR
  refine ⟨?_, ht.same ?_ ?_ (g0 5 (by omega)) (rq _ (by omega) (by omega)), fun j hj => ⟨?_, fun hx => ?_⟩, ⟨?_, ?_, hid, fun j hj i hi => ?_⟩, ?_, ?_⟩
  · refine FR.row257 (v := τ.1 (0 + 1)) (hF.same (fun q h1 h2 => fc q (by omega))) (fun k hk => ?_)
    rw [t4, if_pos (by omega)]
    show τ'.1 (0 + 2) k = _
    rw [fm.1 _ (by omega)]
    exact e3 k hk
  · rw [(fc _ (by omega)).1]
  · rw [(fc _ (by omega)).1]
  · rw [b4]
    unfold gB
    rw [(fc _ (by omega)).2.2]
    exact (hk j hj).1
  · rw [b4] at hx
    have e : (fun k => gI τe (0 + 3) (257 * j + k)) = fun k => gI τ (0 + 3) (257 * j + k) := by
      funext k
      unfold gI
      rw [rq _ (by omega) (by omega)]
    rw [e]
    exact ((hk j hj).2 hx).same (fun q h1 h2 => fc q (by omega))
  · unfold gB; rw [(fc _ (by omega)).2.2]; exact hs.1
  · exact hb
  · unfold gI
    rw [(fc _ (by omega)).1]
    exact hs.2.2.2 j hj i hi
  · exact hS.same (by rw [t3]; rfl)
  · unfold gB
    rw [t3]
    show (sB τ' 0 6 false).2.2 0 6 = _
    rw [rB_s]
    rfl
theorem op_forecast {σ τ : St} (hR : Rel σ τ) (x1 : Int32) : ∃ r σ' τ', f_X7_forecast 0 x1 σ = some (r, σ') ∧ f_X8_forecast 0 x1 τ = some (r, τ') ∧ Rel σ' τ' := by
  obtain ⟨F, hFu, eF⟩ := fuel_ex
  have hF := hR.1
  unfold f_X7_forecast f_X8_forecast
  rw [bnd_e, isChange_eq]
  rcases find_or hF x1 with ⟨i, sz, z1, z2, hi, rfl, ef, ei⟩ | ⟨ef, ei⟩
  · obtain ⟨st, pl, bg, m, a, b', c', d, ⟨h1, h2, h3, h4, h5, h6, h7, h8, h9⟩, -, e0, ⟨f1, f2, f3, f4⟩, -⟩ := (hF.row z1 hi z2).use
    rw [ef, ei, obd_s, opt_s, if_pos (shF i (by omega)), if_pos rfl, f2]
    obtain ⟨τs, u1, u2, u3, u4⟩ := fcA_L (x1 := nI i) 257 0 F τ (by omega) (by omega)
    have u5 : ∀ j, j < 257 → τs.1 (0 + 2) j = τ.1 (0 + 1) j := fun j hj => by rw [u4, if_pos (by omega)]
    obtain ⟨σ1, s1, s2, s3, s4⟩ := copy_eq (q0 := 0 + 33) hF (by omega) hR.2.2.2.1.2.2.1
    have hFs : FR σ1 (0 + 33) ((sB τs 0 6 true).1 (0 + 1)) := by
      show FR σ1 (0 + 33) (τs.1 (0 + 1))
      rw [u3 _ (by omega)]
      exact s2
    have hSs : SetsOK (sB τs 0 6 true) := hR.2.2.2.2.1.same (by show τs.2.1 (0 + 7) = _; rw [u2])
    have hg1 : gB σ1 (0 + 33) 3 = true := s4.trans hR.2.2.2.1.2.1
    have hg2 : gB (sB τs 0 6 true) 0 6 = true := gB_s _ _ _ _
    have z1s : (sB τs 0 6 true).1 (0 + 1) 10 = nI sz := by
      show τs.1 (0 + 1) 10 = _
      rw [u3 _ (by omega)]
      exact z1
    have eM : it2 (f_X8_forecast_L13 0 (nI i)) sr_fuel 0 τ = it2 (f_X8_forecast_L45 0 (nI i)) F (nI 0) (sB τs 0 6 true) := by
      rw [show it2 (f_X8_forecast_L13 0 (nI i)) sr_fuel 0 τ = it2 (f_X8_forecast_L13 0 (nI i)) F (nI 0) τ by rw [eF]; rfl, u1, eF]
      rfl
    rw [eM]
    by_cases hs : st = 0 ∨ st = 2
    · obtain ⟨τ', a1, a2, a3⟩ := fc0_L (i := i) z2 hi 400 0 F σ1 (sB τs 0 6 true) (by omega) (by omega) hFs hSs hg1 hg2 z1s (by
        show τs.1 (0 + 1) (92 + 33 * i + 1) = nI 0 ∨ τs.1 (0 + 1) (92 + 33 * i + 1) = nI 2
        rw [u3 _ (by omega), h1]
        rcases hs with rfl | rfl
        · left; rfl
        · right; rfl)
      obtain ⟨τe, b1, b2⟩ := fc_end (x1 := nI i) (r := -15) hR u2 u3 u5 a2 a3
      rw [a1, b1]
      have : (if nI st = 0 then some ((-15 : Int32), σ) else if nI st = 2 then some (-15, σ) else obd (f_X1_copyFrom (0 + 33) (0 + 1) σ) fun σ16 => it2 (f_X7_forecast_L47 0 (nI i)) sr_fuel 0 σ16) = some (-15, σ) := by
        rcases hs with rfl | rfl
        · rw [if_pos (by decide)]
        · rw [if_neg (by decide), if_pos (by decide)]
      rw [this]
      exact ⟨_, _, _, rfl, rfl, b2 σ frC.rf hR.2.2.2.1.2.1 hR.2.2.2.1.2.2.1⟩
    · rw [if_neg (show ¬ nI st = 0 from neN (b := 0) (by omega) (by omega) (by omega)), if_neg (show ¬ nI st = 2 from neN (b := 2) (by omega) (by omega) (by omega)), s1, obd_s]
      obtain ⟨r, σ', τ', w, a1, a2, a3, a4, a5, a6, a7⟩ := fc_L (i := i) z2 hi 400 0 F F σ1 (sB τs 0 6 true) (by omega) (by omega) (by omega) hFs hSs hg1 hg2 z1s
      obtain ⟨τe, b1, b2⟩ := fc_end (x1 := nI i) (r := r) hR u2 u3 u5 a5 a6
      rw [a2, b1, show it2 (f_X7_forecast_L47 0 (nI i)) sr_fuel 0 σ1 = it2 (f_X7_forecast_L47 0 (nI i)) F (nI 0) σ1 by rw [eF]; rfl, a1]
      refine ⟨_, _, _, rfl, rfl, b2 σ' (s3.tr a3) ?_ a7.2.2.2.2⟩
      unfold gB
      rw [a4]
      exact hg1
  · rw [ef, ei, obd_s, opt_n, if_neg (by decide)]
    exact ⟨_, _, _, rfl, rfl, hR⟩
