/-! the reference's table and chance -/
def TabR (τ : St) (r : Nat) : Prop := ∀ n, n < r → n ≤ 50 → ∀ k, k ≤ n → gL τ (0 + 7) (51 * n + k) = lN (chs n k)
/-- only the table differs -/
def frT (τ τ' : St) : Prop := τ'.1 = τ.1 ∧ τ'.2.2 = τ.2.2 ∧ ∀ q, q ≠ 0 + 7 → τ'.2.1 q = τ.2.1 q
theorem frT.rf {τ : St} : frT τ τ := ⟨rfl, rfl, fun _ _ => rfl⟩
theorem frT.tr {τ τ' τ'' : St} (h : frT τ τ') (h' : frT τ' τ'') : frT τ τ'' := ⟨h'.1.trans h.1, h'.2.1.trans h.2.1, fun q hq => (h'.2.2 q hq).trans (h.2.2 q hq)⟩
theorem frT.L {τ : St} {j : Nat} {x : Int64} : frT τ (sL τ (0 + 7) j x) := ⟨rfl, rfl, fun q hq => rL_n hq⟩
theorem tabI_L {x1 x2 : Int32} {rec : Int32 → St → Option (Int64 × St)} {r : Nat} (hr : r ≤ 50) : ∀ (m k F : Nat) (τ : St), k + m = r + 1 → 1 ≤ k → m < F → TabR τ r → (∀ j, j < k → gL τ (0 + 7) (51 * r + j) = lN (chs r j)) → ∃ τ', it3 (f_X8_sets_L43 0 x1 x2 rec) F (nI r) (nI k) τ = rec (nI (r + 1)) τ' ∧ frT τ τ' ∧ TabR τ' (r + 1) := by
  intro m
  induction m with
  | zero =>
    intro k F τ hkm hk hF hT hj
    obtain ⟨F, rfl⟩ : ∃ n', F = n' + 1 := ⟨F - 1, by omega⟩
    refine ⟨τ, ?_, frT.rf, ?_⟩
    · show f_X8_sets_L43 0 x1 x2 rec (it3 (f_X8_sets_L43 0 x1 x2 rec) F) (nI r) (nI k) τ = _
      generalize it3 (f_X8_sets_L43 0 x1 x2 rec) F = g
      unfold f_X8_sets_L43
      rw [if_pos (ltN (by omega) (by omega)), bnd_e, nI_1]
    · intro n h1 h2 j h3
      by_cases hn : n = r
      · subst hn
        exact hj j (by omega)
      · exact hT n (by omega) h2 j h3
  | succ m ih =>
    intro k F τ hkm hk hF hT hj
    obtain ⟨F, rfl⟩ : ∃ n', F = n' + 1 := ⟨F - 1, by omega⟩
    have hT1 : ∀ n, n < r → n ≤ 50 → ∀ j, j ≤ n → gL (sL τ (0 + 7) (51 * r + k) (lN (chs r k))) (0 + 7) (51 * n + j) = lN (chs n j) := by
      intro n h1 h2 j h3
      rw [gL_n (Or.inr (by omega))]
      exact hT n h1 h2 j h3
    have hj1 : ∀ j, j < k + 1 → gL (sL τ (0 + 7) (51 * r + k) (lN (chs r k))) (0 + 7) (51 * r + j) = lN (chs r j) := by
      intro j h1
      by_cases hjk : j = k
      · subst hjk; rw [gL_s]
      · rw [gL_n (Or.inr (by omega))]; exact hj j (by omega)
    obtain ⟨τ', t1, t2, t3⟩ := ih (k + 1) F (sL τ (0 + 7) (51 * r + k) (lN (chs r k))) (by omega) (by omega) (by omega) hT1 hj1
    refine ⟨τ', ?_, frT.L.tr t2, t3⟩
    show f_X8_sets_L43 0 x1 x2 rec (it3 (f_X8_sets_L43 0 x1 x2 rec) F) (nI r) (nI k) τ = _
    generalize it3 (f_X8_sets_L43 0 x1 x2 rec) F = g at t1 ⊢
    unfold f_X8_sets_L43
    have i0 : (51 : Int32) * nI r = nI (51 * r) := pk_mul 51 r
    have i1 : (51 : Int32) * nI r - 51 + nI k = nI (51 * (r - 1) + k) := by
      rw [i0, show nI (51 * r) - 51 = nI (51 * r - 51) from pk_sub (b := 51) (by omega), nI_add]
      congr 1
      omega
    have i2 : nI (51 * (r - 1) + k) - 1 = nI (51 * (r - 1) + (k - 1)) := by
      rw [m1_nI (by omega)]
      congr 1
      omega
    obtain ⟨r', rfl⟩ : ∃ r', r = r' + 1 := ⟨r - 1, by omega⟩
    obtain ⟨k', rfl⟩ : ∃ k', k = k' + 1 := ⟨k - 1, by omega⟩
    rw [i1, i2, i0, nI_add, show r' + 1 - 1 = r' by omega, show k' + 1 - 1 = k' by omega, if_neg (nltN (by omega) (by omega)), bnd_e, if_pos (inb_nI (by omega) (by omega)), cl_nI (show 51 * r' + k' < 10000000 by omega), hT r' (by omega) (by omega) k' (by omega)]
    by_cases h : r' + 1 ≤ k' + 1
    · have hkr : k' = r' := by omega
      subst hkr
      rw [if_pos (leN h (by omega)), bnd_e, if_pos (inb_nI (by omega) (by omega)), cl_nI (by omega), bnd_e, bnd_e, nI_1, show lN (chs k' k') + 0 = lN (chs (k' + 1) (k' + 1)) by
        rw [show (0 : Int64) = lN 0 from rfl, lN_add, chs_ss, chs_gt k' (k' + 1) (by omega)], t1]
    · rw [if_neg (nleN (by omega) (by omega)), bnd_e, if_pos (inb_nI (by omega) (by omega)), bnd_e, if_pos (inb_nI (by omega) (by omega)), cl_nI (by omega), cl_nI (by omega), hT r' (by omega) (by omega) (k' + 1) (by omega), lN_add, ← chs_ss, bnd_e, bnd_e, nI_1, t1]
theorem tabO_L {x1 x2 : Int32} : ∀ (m r F : Nat) (τ : St), r + m = 51 → m < F → TabR τ r → ∃ τ', it2 (f_X8_sets_L24 0 x1 x2) F (nI r) τ = f_X8_sets_B116 0 x1 x2 τ' ∧ frT τ τ' ∧ TabR τ' 51 := by
  obtain ⟨G, hG, eG⟩ := fuel_ex
  intro m
  induction m with
  | zero =>
    intro r F τ hrm hF hT
    obtain ⟨F, rfl⟩ : ∃ n', F = n' + 1 := ⟨F - 1, by omega⟩
    refine ⟨τ, ?_, frT.rf, ?_⟩
    · show f_X8_sets_L24 0 x1 x2 (it2 (f_X8_sets_L24 0 x1 x2) F) (nI r) τ = _
      generalize it2 (f_X8_sets_L24 0 x1 x2) F = g
      unfold f_X8_sets_L24
      rw [if_pos (show (50 : Int32) < nI r from ltN (a := 50) (by omega) (by omega))]
    · rw [← show r = 51 by omega]; exact hT
  | succ m ih =>
    intro r F τ hrm hF hT
    obtain ⟨F, rfl⟩ : ∃ n', F = n' + 1 := ⟨F - 1, by omega⟩
    have hT1 : ∀ n, n < r → n ≤ 50 → ∀ j, j ≤ n → gL (sL τ (0 + 7) (51 * r) 1) (0 + 7) (51 * n + j) = lN (chs n j) := by
      intro n h1 h2 j h3
      rw [gL_n (Or.inr (by omega))]
      exact hT n h1 h2 j h3
    have hj1 : ∀ j, j < 1 → gL (sL τ (0 + 7) (51 * r) 1) (0 + 7) (51 * r + j) = lN (chs r j) := by
      intro j h1
      rw [show j = 0 by omega, Nat.add_zero (51 * r), gL_s, chs_0]
      rfl
    obtain ⟨τ1, a1, a2, a3⟩ := tabI_L (x1 := x1) (x2 := x2) (rec := it2 (f_X8_sets_L24 0 x1 x2) F) (r := r) (by omega) r 1 G (sL τ (0 + 7) (51 * r) 1) (by omega) (by omega) (by omega) hT1 hj1
    obtain ⟨τ', t1, t2, t3⟩ := ih (r + 1) F τ1 (by omega) (by omega) a3
    refine ⟨τ', ?_, (frT.L.tr a2).tr t2, t3⟩
    show f_X8_sets_L24 0 x1 x2 (it2 (f_X8_sets_L24 0 x1 x2) F) (nI r) τ = _
    rw [← t1, ← a1]
    generalize it2 (f_X8_sets_L24 0 x1 x2) F = g
    unfold f_X8_sets_L24
    rw [eG, if_neg (show ¬ (50 : Int32) < nI r from nltN (a := 50) (by omega) (by omega)), bnd_e, show (51 : Int32) * nI r = nI (51 * r) from pk_mul 51 r, if_pos (inb_nI (by omega) (by omega)), bnd_e, cl_nI (by omega)]
    rfl
theorem sets_eq {τ : St} {n k : Nat} (hS : SetsOK τ) (hn : n ≤ 50) (hk : k ≤ 50) : ∃ τ', f_X8_sets 0 (nI n) (nI k) τ = some (lN (chs n k), τ') ∧ frT τ τ' ∧ SetsOK τ' := by
  obtain ⟨F, hFu, eF⟩ := fuel_ex
  unfold f_X8_sets
  rw [eF, if_neg (nI_pos (by omega)), show (0 : Int32).toNatClampNeg = 0 from rfl]
  have hB : ∀ τ' : St, TabR τ' 51 → k ≤ n → f_X8_sets_B116 0 (nI n) (nI k) τ' = some (lN (chs n k), τ') := by
    intro τ' hT h
    unfold f_X8_sets_B116
    rw [bnd_e, show (51 : Int32) * nI n = nI (51 * n) from pk_mul 51 n, nI_add, if_pos (inb_nI (by omega) (by omega)), cl_nI (by omega), hT n (by omega) hn k h]
  by_cases h : k ≤ n
  · rw [if_pos (leN h (by omega))]
    rcases hS with hS | hS
    · rw [hS, if_pos (by decide)]
      obtain ⟨τ', t1, t2, t3⟩ := tabO_L (x1 := nI n) (x2 := nI k) 51 0 F τ (by omega) (by omega) (fun n h1 => absurd h1 (by omega))
      rw [show (0 : Int32) = nI 0 from rfl, t1, hB τ' t3 h]
      exact ⟨_, rfl, t2, Or.inr (fun n h1 k h2 => t3 n (by omega) h1 k h2)⟩
    · have h0 : gL τ (0 + 7) 0 = lN 1 := hS 0 (by omega) 0 (by omega)
      rw [h0, if_neg (by decide), hB τ (fun n h1 h2 k h3 => hS n h2 k h3) h]
      exact ⟨_, rfl, frT.rf, Or.inr hS⟩
  · rw [if_neg (nleN (by omega) (by omega)), chs_gt n k (by omega)]
    exact ⟨_, rfl, frT.rf, hS⟩
theorem frM.of1 {τ τ' : St} (h1 : τ'.1 = τ.1) (h2 : τ'.2.2 = τ.2.2) : frM τ τ' := ⟨fun q _ => by rw [h1], fun j _ => by unfold gI; rw [h1], h2⟩
theorem SetsOK.L {τ : St} {j : Nat} {x : Int64} (h : SetsOK τ) : SetsOK (sL τ 0 j x) := h.same (rL_n (by omega))
theorem find_L {t A B W : Nat} {x1 : Int32} (ht : t ≤ 25) (hAB : A + B ≤ 50) : ∀ (m k F w : Nat) (τ : St), k + m = min t A + 1 → m < F → w + wsum A B t k m = W → SetsOK τ → gL τ 0 13 = lN w → ∃ τ', it5 (f_X8_findChance_L85 0 x1) F (nI t) (nI A) (nI B) (nI k) τ = some τ' ∧ τ'.1 = τ.1 ∧ τ'.2.2 = τ.2.2 ∧ SetsOK τ' ∧ gL τ' 0 13 = lN W ∧ gL τ' 0 14 = gL τ 0 14 := by
  intro m
  induction m with
  | zero =>
    intro k F w τ hkm hF hw hS h13
    obtain ⟨F, rfl⟩ : ∃ n', F = n' + 1 := ⟨F - 1, by omega⟩
    have ew : w = W := by rw [← hw]; rfl
    refine ⟨τ, ?_, rfl, rfl, hS, by rw [h13, ew], rfl⟩
    show f_X8_findChance_L85 0 x1 (it5 (f_X8_findChance_L85 0 x1) F) (nI t) (nI A) (nI B) (nI k) τ = _
    generalize it5 (f_X8_findChance_L85 0 x1) F = g
    unfold f_X8_findChance_L85
    by_cases h : t < k
    · rw [if_pos (ltN h (by omega))]
    · rw [if_neg (nltN (by omega) (by omega)), if_pos (ltN (by omega) (by omega))]
  | succ m ih =>
    intro k F w τ hkm hF hw hS h13
    obtain ⟨F, rfl⟩ : ∃ n', F = n' + 1 := ⟨F - 1, by omega⟩
    obtain ⟨τ1, a1, a2, a3⟩ := sets_eq (n := A) (k := k) hS (by omega) (by omega)
    obtain ⟨τ2, b1, b2, b3⟩ := sets_eq (n := B) (k := t - k) a3 (by omega) (by omega)
    obtain ⟨τ', t1, t2, t3, t4, t5, t6⟩ := ih (k + 1) F (w + chs A k * chs B (t - k)) (sL τ2 0 13 (lN (w + chs A k * chs B (t - k)))) (by omega) (by omega) (by rw [← hw]; show _ = w + (chs A k * chs B (t - k) + wsum A B t (k + 1) m); omega) b3.L (gL_s _ _ _ _)
    have e0 : ∀ j, gL τ2 0 j = gL τ 0 j := fun j => by unfold gL; rw [b2.2.2 _ (by omega), a2.2.2 _ (by omega)]
    refine ⟨τ', ?_, t2.trans (b2.1.trans a2.1), t3.trans (b2.2.1.trans a2.2.1), t4, t5, ?_⟩
    · show f_X8_findChance_L85 0 x1 (it5 (f_X8_findChance_L85 0 x1) F) (nI t) (nI A) (nI B) (nI k) τ = _
      generalize it5 (f_X8_findChance_L85 0 x1) F = g at t1 ⊢
      unfold f_X8_findChance_L85
      rw [if_neg (nltN (by omega) (by omega)), if_neg (nltN (by omega) (by omega)), a1, ob2_s, pk_sub (by omega), b1, ob2_s, h13, lN_mul, lN_add, bnd_e, bnd_e, nI_1, t1]
    · rw [t6, gL_n (Or.inr (by omega)), e0]
theorem findChance_eq {τ : St} {i a b c d : Nat} (hi : i < 5) (hS : SetsOK τ) (e0 : gI τ (0 + 1) (92 + 33 * i + 5) = nI a) (e1 : gI τ (0 + 1) (92 + 33 * i + 6) = nI b) (e2 : gI τ (0 + 1) (92 + 33 * i + 7) = nI c) (e3 : gI τ (0 + 1) (92 + 33 * i + 8) = nI d) (h1 : a + b ≤ 25) (h2 : c + d ≤ 25) : ∃ τ', f_X8_findChance 0 (nI i) τ = some τ' ∧ τ'.1 = τ.1 ∧ τ'.2.2 = τ.2.2 ∧ SetsOK τ' ∧ gL τ' 0 13 = lN (chW a b c d) ∧ gL τ' 0 14 = lN (chA a b c d) := by
  obtain ⟨F, hFu, eF⟩ := fuel_ex
  obtain ⟨τ1, a1, a2, a3⟩ := sets_eq (τ := sL τ 0 13 0) (n := a + c + (b + d)) (k := a + b) hS.L (by omega) (by omega)
  obtain ⟨τ', t1, t2, t3, t4, t5, t6⟩ := find_L (t := a + b) (A := a + c) (B := b + d) (W := chW a b c d) (x1 := nI i) h1 (by omega) (min (a + b) (a + c) + 1 - a) a F 0 (sL τ1 0 14 (lN (chA a b c d))) (by omega) (by omega) (by rw [Nat.zero_add]; rfl) a3.L (by rw [gL_n (Or.inr (by omega))]; unfold gL; rw [a2.2.2 _ (by omega)]; exact gL_s _ _ _ _)
  refine ⟨τ', ?_, t2.trans a2.1, t3.trans a2.2.1, t4, t5, by rw [t6, gL_s]⟩
  have e4 : gI (sL τ1 0 14 (lN (chA a b c d))) (0 + 1) (92 + 33 * i + 5) = nI a := by
    rw [gI_sL, ← e0]
    unfold gI
    rw [a2.1]
    rfl
  unfold f_X8_findChance
  simp only [bnd_e]
  rw [eF, show f_X8_at (nI i) 5 = nI (92 + 33 * i + 5) from at_nI i 5, nI_1, show nI (92 + 33 * i + 5) + 2 = nI (92 + 33 * i + 5 + 2) from nI_add _ 2, show nI (92 + 33 * i + 5) + 3 = nI (92 + 33 * i + 5 + 3) from nI_add _ 3, inb_nI (show 92 + 33 * i + 5 < 257 by omega) (by omega), inb_nI (show 92 + 33 * i + 5 + 1 < 257 by omega) (by omega), inb_nI (show 92 + 33 * i + 5 + 2 < 257 by omega) (by omega), inb_nI (show 92 + 33 * i + 5 + 3 < 257 by omega) (by omega), cl_nI (show 92 + 33 * i + 5 < 10000000 by omega), cl_nI (show 92 + 33 * i + 5 + 1 < 10000000 by omega), cl_nI (show 92 + 33 * i + 5 + 2 < 10000000 by omega), cl_nI (show 92 + 33 * i + 5 + 3 < 10000000 by omega), show gI τ (0 + 1) (92 + 33 * i + 5 + 1) = nI b from e1, show gI τ (0 + 1) (92 + 33 * i + 5 + 2) = nI c from e2, show gI τ (0 + 1) (92 + 33 * i + 5 + 3) = nI d from e3, e0, nI_add, nI_add, nI_add, nI_add, a1, ob2_s, show chs (a + c + (b + d)) (a + b) = chA a b c d from rfl, e4, t1]
  simp only [if_true]
theorem op_chance {σ τ : St} (hR : Rel σ τ) (x1 : Int32) (x2 : Bool) : ∃ r τ', f_X7_chance 0 x1 x2 σ = some r ∧ f_X8_chance 0 x1 x2 τ = some (r, τ') ∧ Rel σ τ' := by
  unfold f_X7_chance f_X8_chance
  have hF := hR.1
  rw [bnd_e, isChange_eq]
  rcases find_or hF x1 with ⟨i, sz, z1, z2, hi, rfl, ef, ei⟩ | ⟨ef, ei⟩
  · obtain ⟨st, pl, bg, m, a, b, c, d, -, ⟨g1, g2, g3, g4, g5, g6⟩, e0, -, k1, k2, m1, m2, m3, m4, m5, m6⟩ := (hF.row z1 hi z2).use
    obtain ⟨τ', t1, t2, t3, t4, t5, t6⟩ := findChance_eq (i := i) (by omega) hR.2.2.2.2.1 g1 g2 g3 g4 g5 g6
    have hW := chW_le g5 g6
    have hA := chA_le g5 g6
    have hp := chA_pos a b c d
    have hg : 0 < Nat.gcd (chW a b c d) (chA a b c d) := Nat.gcd_pos_of_pos_right _ hp
    have hg2 : Nat.gcd (chW a b c d) (chA a b c d) ≤ chA a b c d := Nat.gcd_le_right _ hp
    rw [ef, ei, obd_s, opt_s, if_pos (shF i (by omega)), if_pos rfl, t1, obd_s, t5, t6, gcdM_eq hW hA, obd_s, obd_s, if_pos (lne0 hg (by omega)), if_pos (lne0 hg (by omega)), pk_lDiv (by omega) hg (by omega), pk_lDiv (by omega) hg (by omega), m5, m6]
    have hR' : Rel σ τ' := hR.step (by rw [t2]; exact hF) frC.rf (frM.of1 t2 t3) t4 rfl
    cases x2
    · exact ⟨_, _, rfl, rfl, hR'⟩
    · exact ⟨_, _, rfl, rfl, hR'⟩
  · rw [ef, ei, obd_s, opt_n, if_neg (by decide)]
    exact ⟨_, _, rfl, rfl, hR⟩
