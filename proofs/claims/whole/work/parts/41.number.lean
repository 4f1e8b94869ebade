theorem B72_eq {τ : St} {mx n : Nat} {x : Int32} (hm : mx ≤ 99) (hn : n ≤ 99) (e : gI τ 0 11 = nI n) : f_X8_number_B72 0 (nI mx) x τ = some (decide (n ≤ mx), sI τ 0 8 (if n ≤ mx then gI τ 0 8 else x)) := by
  unfold f_X8_number_B72 f_X8_number_B85
  rw [e]
  by_cases c : n ≤ mx
  · rw [if_neg (nltN c (by omega)), if_pos rfl, bnd_e, if_pos c, decide_eq_true c]
  · rw [if_pos (ltN (by omega) (by omega)), if_neg (by decide), bnd_e, if_neg c, decide_eq_false c]
theorem B56_eq {σ : St} {mx n k p : Nat} (hm : mx ≤ 99) (hn : n ≤ 99) (e : gI σ (0 + 131) 3 = nI p) : f_X5_parseNumber_B56 (0 + 131) (nI mx) (nI n) (nI k) σ = some (if n ≤ mx then (nI n, sI σ (0 + 131) 3 (nI (p + k))) else (-1, σ)) := by
  unfold f_X5_parseNumber_B56
  by_cases c : n ≤ mx
  · rw [if_pos (leN c (by omega)), if_pos c, bnd_e, e, nI_add]
  · rw [if_neg (nleN (by omega) (by omega)), if_neg c]
theorem num_end {σ τ τ2 : St} {p len mx n k : Nat} {t : Nat → Nat} (h : TS σ τ p len t) (hm : mx ≤ 99) (hn : n ≤ 99) (hk : p + k ≤ len) (fr : frP σ σ τ τ2) (e11 : gI τ2 0 11 = nI n) (e8 : gI τ2 0 8 = nI (p + k)) : ∃ (r : Option Nat) (σ' τ' : St) (p' : Nat), f_X5_parseNumber_B56 (0 + 131) (nI mx) (nI n) (nI k) σ = some (dgI r, σ') ∧ f_X8_number_B72 0 (nI mx) (nI p) τ2 = some (r.isSome, τ') ∧ TS σ' τ' p' len t ∧ frP σ σ' τ τ' ∧ (∀ d, r = some d → gI τ' 0 11 = nI d ∧ d ≤ 99) := by
  rw [B72_eq hm hn e11, B56_eq hm hn h.2.2.2.2.1]
  by_cases c : n ≤ mx
  · rw [if_pos c, if_pos c, decide_eq_true c]
    refine ⟨some n, _, _, p + k, rfl, rfl, h.mv ((fr.tr frP.m8).tr frP.c) (gI_s _ _ _ _) (by rw [gI_s]; exact e8) hk, (fr.tr frP.m8).tr frP.c, fun d hd => ?_⟩
    have hd2 := Option.some.inj hd
    exact ⟨by rw [gI_n (Or.inr (by omega)), e11, hd2], by omega⟩
  · rw [if_neg c, if_neg c, decide_eq_false c]
    exact ⟨none, _, _, p, rfl, rfl, h.mv (fr.tr frP.m8) h.2.2.2.2.1 (gI_s _ _ _ _) h.2.2.2.2.2.2, fr.tr frP.m8, fun d hd => by cases hd⟩
theorem number_eq {σ τ : St} {p len mx : Nat} {t : Nat → Nat} (h : TS σ τ p len t) (hm : mx ≤ 99) : ∃ (r : Option Nat) (σ' τ' : St) (p' : Nat), f_X5_parseNumber (0 + 131) (nI mx) σ = some (dgI r, σ') ∧ f_X8_number 0 (nI mx) τ = some (r.isSome, τ') ∧ TS σ' τ' p' len t ∧ frP σ σ' τ τ' ∧ (∀ d, r = some d → gI τ' 0 11 = nI d ∧ d ≤ 99) := by
  have hl := h.2.2.1
  have hpl := h.2.2.2.2.2.2
  have e5 := h.2.2.2.2.1
  have e6 := h.2.2.2.2.2.1
  unfold f_X5_parseNumber f_X8_number
  simp only [bnd_e]
  rw [e5, e6, dgtC h (by omega), dgtM h, obd_s, obd_s, obd_s]
  cases hd : dgt t len p with
  | none =>
    rw [if_neg (show ¬ 0 ≤ dgI none by decide), if_neg (show ¬ 0 ≤ dgI none by decide)]
    exact ⟨none, _, _, p, rfl, rfl, h, frP.rf, fun d hd => by cases hd⟩
  | some d =>
    obtain ⟨d9, hp, -⟩ := dgt_le hd
    have e11 : gI (sI (sI τ 0 11 (nI d)) 0 8 (nI (p + 1))) 0 11 = nI d := by rw [gI_n (Or.inr (by omega)), gI_s]
    have e8 : gI (sI (sI τ 0 11 (nI d)) 0 8 (nI (p + 1))) 0 8 = nI (p + 1) := gI_s _ _ _ _
    have fr1 : frP σ σ τ (sI (sI τ 0 11 (nI d)) 0 8 (nI (p + 1))) := frP.m11.tr frP.m8
    have h1 : TS (sI σ (0 + 131) 3 (nI (p + 1))) (sI (sI τ 0 11 (nI d)) 0 8 (nI (p + 1))) (p + 1) len t := h.mv (fr1.tr frP.c) (gI_s _ _ _ _) e8 (by omega)
    show ∃ (r : Option Nat) (σ' τ' : St) (p' : Nat), (if 0 ≤ nI d then _ else _) = _ ∧ _
    rw [show dgI (some d) = nI d from rfl, if_pos (nI_pos' (by omega)), if_pos (nI_pos' (by omega)), show gI (sI τ 0 11 (nI d)) 0 8 = nI p by rw [gI_n (Or.inr (by omega))]; exact e6, nI_1, e11, dgtM h1, obd_s]
    by_cases d0 : d = 0
    · rw [if_pos (show nI d = 0 by rw [d0]; rfl), if_pos (show nI d ≤ 0 by rw [d0]; decide), if_neg (show ¬ (0 : Int32) ≤ -1 by decide)]
      unfold f_X5_parseNumber_B43
      rw [if_pos (show (-1 : Int32) < 0 by decide)]
      exact num_end (k := 1) h hm (by omega) (by omega) fr1 e11 e8
    · rw [if_neg (show ¬ nI d = 0 from neN (b := 0) d0 (by omega) (by omega)), if_neg (show ¬ nI d ≤ 0 from nleN (b := 0) (by omega) (by omega)), dgtC h (by omega), obd_s]
      unfold f_X5_parseNumber_B43
      cases hd2 : dgt t len (p + 1) with
      | none =>
        rw [if_neg (show ¬ 0 ≤ dgI none by decide), if_pos (show dgI none < 0 by decide), if_pos (show dgI none < 0 by decide)]
        exact num_end (k := 1) h hm (by omega) (by omega) fr1 e11 e8
      | some d2 =>
        obtain ⟨d29, hp2, -⟩ := dgt_le hd2
        rw [show dgI (some d2) = nI d2 from rfl, if_pos (nI_pos' (by omega)), if_neg (nI_pos (by omega)), if_neg (nI_pos (by omega)), bnd_e, obd_s, gI_n (k := 0) (j := 11) (j' := 8) (Or.inr (by omega)), e8, nI_1, show (10 : Int32) * nI d + nI d2 = nI (10 * d + d2) by show nI 10 * nI d + nI d2 = _; rw [pk_mul, nI_add]]
        exact num_end (k := 2) h hm (by omega) (by omega) ((fr1.tr frP.m11).tr frP.m8) (by rw [gI_n (Or.inr (by omega)), gI_s]) (gI_s _ _ _ _)
