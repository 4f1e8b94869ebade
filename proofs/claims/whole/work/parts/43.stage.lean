def PL (σ τ : St) (n : Nat) : Prop := gI σ (0 + 131 + 2) 1 = nI n ∧ gI τ 0 10 = nI n ∧ n ≤ 6 ∧ ∀ k, k < n → ∀ j, j < 3 → gI σ (0 + 131 + 2 + 1) (3 * k + j) = gI τ (0 + 6) (3 * k + j)
def frQ (σ σ' τ τ' : St) : Prop := (∀ k, k ≠ 0 + 131 → k ≠ 0 + 131 + 2 → k ≠ 0 + 131 + 2 + 1 → σ'.1 k = σ.1 k) ∧ (∀ j, j ≠ 3 → gI σ' (0 + 131) j = gI σ (0 + 131) j) ∧ σ'.2 = σ.2 ∧ (∀ k, k ≠ 0 → k ≠ 0 + 6 → τ'.1 k = τ.1 k) ∧ (∀ j, j ≠ 8 → j ≠ 10 → j ≠ 11 → gI τ' 0 j = gI τ 0 j) ∧ τ'.2 = τ.2
theorem frP.q {σ σ' τ τ' : St} (h : frP σ σ' τ τ') : frQ σ σ' τ τ' := ⟨fun k h1 _ _ => h.1 k h1, h.2.1, h.2.2.1, fun k h1 _ => h.2.2.2.1 k h1, fun j h1 _ h3 => h.2.2.2.2.1 j h1 h3, h.2.2.2.2.2⟩
theorem frQ.rf {σ τ : St} : frQ σ σ τ τ := frP.rf.q
theorem frQ.tr {σ σ' σ'' τ τ' τ'' : St} (h : frQ σ σ' τ τ') (h' : frQ σ' σ'' τ' τ'') : frQ σ σ'' τ τ'' := ⟨fun k a b c => (h'.1 k a b c).trans (h.1 k a b c), fun j hj => (h'.2.1 j hj).trans (h.2.1 j hj), h'.2.2.1.trans h.2.2.1, fun k a b => (h'.2.2.2.1 k a b).trans (h.2.2.2.1 k a b), fun j a b c => (h'.2.2.2.2.1 j a b c).trans (h.2.2.2.2.1 j a b c), h'.2.2.2.2.2.trans h.2.2.2.2.2⟩
theorem frQ.m6 {σ τ : St} {j : Nat} {x : Int32} : frQ σ σ τ (sI τ (0 + 6) j x) := ⟨fun _ _ _ _ => rfl, fun _ _ => rfl, rfl, fun k _ h => rI_n h, fun j _ _ _ => gI_n (Or.inl (by omega)), rfl⟩
theorem frQ.m10 {σ τ : St} {x : Int32} : frQ σ σ τ (sI τ 0 10 x) := ⟨fun _ _ _ _ => rfl, fun _ _ => rfl, rfl, fun k h _ => rI_n h, fun j _ h _ => gI_n (Or.inr h), rfl⟩
theorem TS.q {σ σ' τ τ' : St} {p len : Nat} {t : Nat → Nat} (h : TS σ τ p len t) (fr : frQ σ σ' τ τ') (e1 : gI σ' (0 + 131) 3 = nI p) (e2 : gI τ' 0 8 = nI p) : TS σ' τ' p len t := by
  obtain ⟨h1, h2, h3, h4, h5, h6, h7⟩ := h
  refine ⟨(fr.2.1 2 (by omega)).trans h1, (fr.2.2.2.2.1 5 (by omega) (by omega) (by omega)).trans h2, h3, fun k hk => ?_, e1, e2, h7⟩
  obtain ⟨a1, a2, a3⟩ := h4 k hk
  refine ⟨a1, ?_, ?_⟩
  · unfold gI; rw [fr.1 _ (by omega) (by omega) (by omega)]; exact a2
  · unfold gI; rw [fr.2.2.2.1 _ (by omega) (by omega)]; exact a3
theorem TS.m6 {σ τ : St} {p len j : Nat} {t : Nat → Nat} {x : Int32} (h : TS σ τ p len t) : TS σ (sI τ (0 + 6) j x) p len t := h.q frQ.m6 h.2.2.2.2.1 (by rw [gI_n (Or.inl (by omega))]; exact h.2.2.2.2.2.1)
theorem TS.m10 {σ τ : St} {p len : Nat} {t : Nat → Nat} {x : Int32} (h : TS σ τ p len t) : TS σ (sI τ 0 10 x) p len t := h.q frQ.m10 h.2.2.2.2.1 (by rw [gI_n (Or.inr (by omega))]; exact h.2.2.2.2.2.1)
theorem orf_snoc {g : Nat → Int32} : ∀ (m s : Nat) (a : Int32), orf g s (m + 1) a = orf g s m a ||| g (s + m) := by
  intro m
  induction m with
  | zero => intro s a; rfl
  | succ m ih =>
    intro s a
    show orf g (s + 1) (m + 1) (a ||| g s) = orf g (s + 1) m (a ||| g s) ||| g (s + (m + 1))
    rw [ih, show s + 1 + m = s + (m + 1) by omega]
def msk (τ : St) (k : Nat) : Int32 := orf (fun j => gI τ (0 + 6) (3 * j)) 0 k 0
theorem stage_eq {σ τ : St} {p len k n : Nat} {t : Nat → Nat} (h : TS σ τ p len t) (hP : PL σ τ k) (hk : k < 6) (hn : n ≤ 8) (en : gI τ (0 + 1) 0 = nI n) : ∃ ok σ' τ' p', f_X5_parseStage (0 + 131) (nI n) σ = some (ok, σ') ∧ f_X8_isStage 0 (msk τ k) τ = some (ok, τ') ∧ TS σ' τ' p' len t ∧ frQ σ σ' τ τ' ∧ (ok = true → PL σ' τ' (k + 1)) ∧ ∀ j, j < 3 * k → gI τ' (0 + 6) j = gI τ (0 + 6) j := by
  obtain ⟨F, hFu, eF⟩ := fuel_ex
  obtain ⟨P1, P2, P3, P4⟩ := hP
  have eU : f_X4_cellsOfFirst (0 + 131 + 2) 6 σ = some (msk τ k) := by
    unfold f_X4_cellsOfFirst msk
    rw [eF, show (0 : Int32) = nI 0 from rfl, show (6 : Int32) = nI 6 from rfl, cellsC_L (by omega) P3 P1 (min 6 k) rfl (min 6 k) 0 F _ (by omega) (by omega), show min 6 k = k by omega]
    congr 1
    exact orf_congr _ _ _ (fun j h1 h2 => P4 j (by omega) 0 (by omega))
  obtain ⟨acc, ok1, σ1, τ1, p1, a1, a2, T1, fr1, alt⟩ := cells_L (U := msk τ k) hn 8 0 0 F F p 0 (-1) σ τ (by omega) (by omega) (by omega) (by omega) (by omega) (by decide) h en
  have i0 : (3 : Int32) * nI k = nI (3 * k) := pk_mul 3 k
  have eC : f_X5_parseCells (0 + 131) (nI n) σ = some (acc, σ1) := by
    unfold f_X5_parseCells
    rw [eU, obd_s, eF]
    exact a1
  have eM : f_X8_cells 0 (msk τ k) τ = some (ok1, τ1) := by
    unfold f_X8_cells
    rw [eF]
    exact a2
  unfold f_X5_parseStage f_X8_isStage
  rw [eC, ob2_s, bnd_e, P2, if_neg (show ¬ nI k = 6 from neN (b := 6) (by omega) (by omega) (by omega)), i0, eM, ob2_s]
  have r6 : ∀ j, gI τ1 (0 + 6) j = gI τ (0 + 6) j := fun j => by unfold gI; rw [fr1.2.2.2.1 _ (by omega)]
  rcases alt with ⟨b1, b2, b3⟩ | ⟨d, b1, b2⟩
  · by_cases c0 : acc = 0
    · rw [if_pos c0, b2, if_neg (by simp [c0])]
      exact ⟨false, _, _, p1, rfl, rfl, T1, fr1.q, fun z => absurd z (by decide), fun j _ => r6 j⟩
    · rw [if_neg c0, b2, if_pos (by simp [c0]), if_pos (inb_nI (by omega) (by omega)), bnd_e, cl_nI (by omega), b3]
      obtain ⟨r2, σ2, τ2, p2, s1, s2, T2, fr2, e2⟩ := skip_eq (x := 58) (T1.m6 (j := 3 * k) (x := acc)) (by decide)
      have Q2 : frQ σ σ2 τ τ2 := (fr1.q.tr frQ.m6).tr fr2.q
      have q2 : ∀ j, gI τ2 (0 + 6) j = if j = 3 * k then acc else gI τ (0 + 6) j := by
        intro j
        unfold gI
        rw [fr2.2.2.2.1 _ (by omega), rI_s]
        by_cases hj : j = 3 * k
        · rw [if_pos hj, hj, upd_s]
        · rw [if_neg hj, upd_n hj]; exact r6 j
      rw [s1, s2, ob2_s, ob2_s]
      cases r2 with
      | false =>
        rw [if_neg (by decide), if_neg (by decide)]
        exact ⟨false, _, _, p2, rfl, rfl, T2, Q2, fun z => absurd z (by decide), fun j hj => by rw [q2, if_neg (by omega)]⟩
      | true =>
        rw [if_pos rfl, if_pos rfl]
        obtain ⟨n3, σ3, τ3, p3, u1, u2, T3, fr3, e3⟩ := number_eq (mx := 48) T2 (by omega)
        rw [show f_X5_parseNumber (0 + 131) 48 σ2 = _ from u1, show f_X8_number 0 48 τ2 = _ from u2, ob2_s, ob2_s]
        have q3 : ∀ j, gI τ3 (0 + 6) j = if j = 3 * k then acc else gI τ (0 + 6) j := fun j => by rw [← q2]; unfold gI; rw [fr3.2.2.2.1 _ (by omega)]
        cases n3 with
        | none =>
          rw [if_pos (show dgI none < 0 by decide), if_neg (show ¬ Option.isSome none = true by decide)]
          exact ⟨false, _, _, p3, rfl, rfl, T3, Q2.tr fr3.q, fun z => absurd z (by decide), fun j hj => by rw [q3, if_neg (by omega)]⟩
        | some w =>
          obtain ⟨hw, hw9⟩ := e3 w rfl
          rw [show dgI (some w) = nI w from rfl, if_neg (nI_pos (by omega)), if_pos (show Option.isSome (some w) = true from rfl), nI_1, bnd_e, if_pos (inb_nI (by omega) (by omega)), bnd_e, cl_nI (by omega), hw]
          obtain ⟨r4, σ4, τ4, p4, s3, s4, T4, fr4, e4⟩ := skip_eq (x := 47) (T3.m6 (j := 3 * k + 1) (x := nI w)) (by decide)
          have Q4 : frQ σ σ4 τ τ4 := ((Q2.tr fr3.q).tr frQ.m6).tr fr4.q
          have q4 : ∀ j, gI τ4 (0 + 6) j = if j = 3 * k + 1 then nI w else if j = 3 * k then acc else gI τ (0 + 6) j := by
            intro j
            rw [← q3]
            unfold gI
            rw [fr4.2.2.2.1 _ (by omega), rI_s]
            by_cases hj : j = 3 * k + 1
            · rw [if_pos hj, hj, upd_s]
            · rw [if_neg hj, upd_n hj]
          rw [s3, s4, ob2_s, ob2_s]
          cases r4 with
          | false =>
            rw [if_neg (by decide), if_neg (by decide)]
            exact ⟨false, _, _, p4, rfl, rfl, T4, Q4, fun z => absurd z (by decide), fun j hj => by rw [q4, if_neg (by omega), if_neg (by omega)]⟩
          | true =>
            rw [if_pos rfl, if_pos rfl]
            obtain ⟨n5, σ5, τ5, p5, u3, u4, T5, fr5, e5⟩ := number_eq (mx := 25) T4 (by omega)
            rw [show f_X5_parseNumber (0 + 131) 25 σ4 = _ from u3, show f_X8_number 0 25 τ4 = _ from u4, ob2_s, ob2_s]
            have q5 : ∀ j, gI τ5 (0 + 6) j = if j = 3 * k + 1 then nI w else if j = 3 * k then acc else gI τ (0 + 6) j := fun j => by rw [← q4]; unfold gI; rw [fr5.2.2.2.1 _ (by omega)]
            cases n5 with
            | none =>
              rw [if_pos (show dgI none < 0 by decide), if_neg (show ¬ Option.isSome none = true by decide)]
              exact ⟨false, _, _, p5, rfl, rfl, T5, Q4.tr fr5.q, fun z => absurd z (by decide), fun j hj => by rw [q5, if_neg (by omega), if_neg (by omega)]⟩
            | some y =>
              obtain ⟨hy, hy9⟩ := e5 y rfl
              have Q5 : frQ σ σ5 τ τ5 := Q4.tr fr5.q
              have c10 : gI τ5 0 10 = nI k := by
                rw [fr5.2.2.2.2.1 10 (by omega) (by omega), fr4.2.2.2.2.1 10 (by omega) (by omega), gI_n (Or.inl (by omega)), fr3.2.2.2.2.1 10 (by omega) (by omega), fr2.2.2.2.2.1 10 (by omega) (by omega), gI_n (Or.inl (by omega)), fr1.2.2.2.2.1 10 (by omega) (by omega)]
                exact P2
              have r5 : ∀ q, q ≠ 0 + 131 → σ5.1 q = σ.1 q := fun q hq => by rw [fr5.1 q hq, fr4.1 q hq, fr3.1 q hq, fr2.1 q hq, fr1.1 q hq]
              rw [show dgI (some y) = nI y from rfl, if_neg (nI_pos (by omega)), if_pos (show Option.isSome (some y) = true from rfl), show nI (3 * k) + 2 = nI (3 * k + 2) from nI_add _ 2, bnd_e, if_pos (inb_nI (by omega) (by omega)), bnd_e, bnd_e, cl_nI (by omega), hy, gI_n (k := 0 + 6) (j' := 10) (Or.inl (by omega)), c10, nI_1]
              obtain ⟨r6', σ6, τ6, p6, s5, s6, T6, fr6, e6⟩ := skip_eq (x := 59) (TS.m10 (x := nI (k + 1)) (T5.m6 (j := 3 * k + 2) (x := nI y))) (by decide)
              have Q6 : frQ σ σ6 τ τ6 := ((Q5.tr frQ.m6).tr frQ.m10).tr fr6.q
              have q6 : ∀ j, gI τ6 (0 + 6) j = if j = 3 * k + 2 then nI y else if j = 3 * k + 1 then nI w else if j = 3 * k then acc else gI τ (0 + 6) j := by
                intro j
                rw [← q5]
                unfold gI
                rw [fr6.2.2.2.1 _ (by omega), rI_n (by omega), rI_s]
                by_cases hj : j = 3 * k + 2
                · rw [if_pos hj, hj, upd_s]
                · rw [if_neg hj, upd_n hj]
              rw [s5, s6, ob2_s, ob2_s]
              cases r6' with
              | false =>
                rw [if_neg (by decide)]
                exact ⟨false, _, _, p6, rfl, rfl, T6, Q6, fun z => absurd z (by decide), fun j hj => by rw [q6, if_neg (by omega), if_neg (by omega), if_neg (by omega)]⟩
              | true =>
                have r7 : ∀ q, q ≠ 0 + 131 → σ6.1 q = σ.1 q := fun q hq => by rw [fr6.1 q hq, r5 q hq]
                have g7 : gI σ6 (0 + 131 + 2) 1 = nI k := by unfold gI; rw [r7 _ (by omega)]; exact P1
                rw [if_pos rfl, put4_eq (by omega) g7, ob2_s]
                have Q7 : frQ σ6 (sI (sI (sI (sI σ6 (0 + 131 + 2 + 1) (3 * k) acc) (0 + 131 + 2 + 1) (3 * k + 1) (nI w)) (0 + 131 + 2 + 1) (3 * k + 2) (nI y)) (0 + 131 + 2) 1 (nI (k + 1))) τ6 τ6 := by
                  refine ⟨fun q h1 h2 h3 => ?_, fun j hj => ?_, rfl, fun _ _ _ => rfl, fun _ _ _ _ => rfl, rfl⟩
                  · rw [rI_n h2, rI_n h3, rI_n h3, rI_n h3]
                  · rw [gI_n (Or.inl (by omega)), gI_n (Or.inl (by omega)), gI_n (Or.inl (by omega)), gI_n (Or.inl (by omega))]
                refine ⟨true, _, _, p6, rfl, rfl, T6.q Q7 ?_ T6.2.2.2.2.2.1, Q6.tr Q7, fun _ => ⟨gI_s _ _ _ _, ?_, by omega, fun x hx j hj => ?_⟩, fun j hj => by rw [q6, if_neg (by omega), if_neg (by omega), if_neg (by omega)]⟩
                · rw [gI_n (Or.inl (by omega)), gI_n (Or.inl (by omega)), gI_n (Or.inl (by omega)), gI_n (Or.inl (by omega))]; exact T6.2.2.2.2.1
                · rw [fr6.2.2.2.2.1 10 (by omega) (by omega), gI_s]
                · rw [gI_n (Or.inl (by omega)), q6]
                  by_cases hxk : x = k
                  · subst hxk
                    have hj3 : j = 0 ∨ j = 1 ∨ j = 2 := by omega
                    rcases hj3 with rfl | rfl | rfl
                    · rw [gI_n (Or.inr (by omega)), gI_n (Or.inr (by omega)), Nat.add_zero (3 * x), gI_s, if_neg (by omega), if_neg (by omega), if_pos rfl]
                    · rw [gI_n (Or.inr (by omega)), gI_s, if_neg (by omega), if_pos rfl]
                    · rw [gI_s, if_pos rfl]
                  · rw [gI_n (Or.inr (by omega)), gI_n (Or.inr (by omega)), gI_n (Or.inr (by omega)), if_neg (by omega), if_neg (by omega), if_neg (by omega)]
                    unfold gI
                    rw [r7 _ (by omega)]
                    exact P4 x (by omega) j hj
  · rw [b2, if_neg (show ¬ false = true by decide)]
    have hS : f_X5_skip (0 + 131) 58 σ1 = some (false, σ1) := by
      obtain ⟨d9, hp, ht⟩ := dgt_le b1
      unfold f_X5_skip
      rw [T1.2.2.2.2.1, ltrC T1 (by have := T1.2.2.1; omega), obd_s, if_neg]
      unfold ltr
      rw [if_pos hp, ht]
      exact neN (b := 58) (by omega) (by omega) (by omega)
    by_cases c0 : acc = 0
    · rw [if_pos c0]
      exact ⟨false, _, _, p1, rfl, rfl, T1, fr1.q, fun z => absurd z (by decide), fun j _ => r6 j⟩
    · rw [if_neg c0, hS, ob2_s, if_neg (by decide)]
      exact ⟨false, _, _, p1, rfl, rfl, T1, fr1.q, fun z => absurd z (by decide), fun j _ => r6 j⟩
