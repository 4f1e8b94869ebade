/-! a change becomes, and is noted -/
/-- the rows of the other changes stay -/
def SL (i : Nat) (τ τ' : St) : Prop := ∀ k, 92 ≤ k → (k < 92 + 33 * i ∨ 92 + 33 * i + 33 ≤ k) → τ'.1 (0 + 1) k = τ.1 (0 + 1) k
theorem SL.tr {i : Nat} {τ τ' τ'' : St} (h : SL i τ τ') (h' : SL i τ' τ'') : SL i τ τ'' := fun k h1 h2 => (h' k h1 h2).trans (h k h1 h2)
theorem SL.rf {i : Nat} {τ : St} : SL i τ τ := fun _ _ _ => rfl
theorem become_eq {σ τ : St} {b sz i s2 : Nat} {x3 : Int32} (hF : FR σ b (τ.1 (0 + 1))) (z1 : τ.1 (0 + 1) 10 = nI sz) (hsz : sz ≤ 5) (hi : i < sz) (hs : s2 ≤ 5) (hs0 : s2 ≠ 0) : ∃ σ' τ', f_X1_become b (b + 1 + 1 + 5 * i) (nI s2) x3 σ = some σ' ∧ f_X8_becomes 0 (nI i) (nI s2) x3 τ = some (gI σ' (b + 1 + 1 + 5 * i) 6, τ') ∧ ST b σ τ σ' τ' ∧ SL i τ τ' := by
  obtain ⟨st, pl, bg, m, a, b', c', d, ⟨h1, h2, h3, h4, h5, h6, h7, h8, h9⟩, ⟨g1, g2, g3, g4, g5, g6⟩, e0, ⟨f1, f2, f3, f4⟩, k1, k2, m1, m2, m3, m4, m5, m6⟩ := (hF.row z1 hi hsz).use
  obtain ⟨lg, l1, l2⟩ := hF.lg
  have r1 : (sI τ (0 + 1) (92 + 33 * i + 1) (nI s2)).1 (0 + 1) = upd (τ.1 (0 + 1)) (92 + 33 * i + 1) (nI s2) := rI_s _ _ _ _
  obtain ⟨τ', t1, t2, t3, t4, t5, t6⟩ := notes_eq (τ := sI τ (0 + 1) (92 + 33 * i + 1) (nI s2)) (x1 := nI i) (x2 := x3) (x3 := -15) (lg := lg) (by rw [r1, upd_n (by omega)]; exact l1) l2
  rw [r1] at t5
  have t7 : ∀ k, (k < 11 ∨ 92 ≤ k) → τ'.1 (0 + 1) k = upd (τ.1 (0 + 1)) (92 + 33 * i + 1) (nI s2) k := fun k hk => by rw [t6 k hk, r1]
  obtain ⟨σ', s1, s2', s3, s4, s5⟩ := put_eq (σ := sI σ (b + 1 + 1 + 5 * i) 5 (nI s2)) (q := b + 30) (by rw [rI_n (by omega), rI_n (by omega)]; exact hF.2.2.1) (t5.congr (v2 := τ.1 (0 + 1)) (fun k k1 k2 => (upd_n (by omega)).symm))
  have er : ∀ q j, q ≠ b + 30 → q ≠ b + 30 + 1 → gI σ' q j = gI (sI σ (b + 1 + 1 + 5 * i) 5 (nI s2)) q j := fun q j q1 q2 => by unfold gI; rw [s2' q q1 q2]
  have eB : ∀ q j, gB σ' q j = gB σ q j := fun q j => by unfold gB; rw [s3]; rfl
  have eL : ∀ q j, gL σ' q j = gL σ q j := fun q j => by unfold gL; rw [s3]; rfl
  have ec : gI σ' (b + 1 + 1 + 5 * i) 6 = nI bg := by rw [er _ _ (by omega) (by omega), gI_n (Or.inr (by omega))]; exact f3
  refine ⟨σ', τ', ?_, ?_, ?_, fun k q1 q2 => by rw [t7 k (by omega), upd_n (by omega)]⟩
  · unfold f_X1_become
    rw [bnd_e, gI_n (k' := b) (Or.inl (by omega)), gI_n (Or.inr (by omega)), hF.2.2.2.2 i (by omega), show gI σ b 6 = τ.1 (0 + 1) 1 from hF.1.2.2.2.1]
    rw [show τ.1 (0 + 1) 1 = upd (τ.1 (0 + 1)) (92 + 33 * i + 1) (nI s2) 1 from (upd_n (by omega)).symm, s1, obd_s]
  · unfold f_X8_becomes
    rw [bnd_e, show f_X8_at (nI i) 1 = nI (92 + 33 * i + 1) from at_nI i 1, if_pos (inb_nI (by omega) (by omega)), cl_nI (by omega), bnd_e, t1, obd_s, bnd_e, show f_X8_at (nI i) 3 = nI (92 + 33 * i + 3) from at_nI i 3, if_pos (inb_nI (by omega) (by omega)), cl_nI (by omega), ec]
    have : gI τ' (0 + 1) (92 + 33 * i + 3) = nI bg := by
      show τ'.1 (0 + 1) (92 + 33 * i + 3) = _
      rw [t7 _ (by omega), upd_n (by omega)]; exact h5
    rw [this]
  · refine ⟨hF.chg (i := i) (by omega) ?_ ?_ s4 ?_ ?_, ?_, frM.row.tr t2, ?_, fun hS => hS.same (by rw [t3]; rfl), ⟨1, ?_, ?_⟩, ?_⟩
    · intro q q1 q2 q3
      exact ⟨by rw [s2' q (by omega) (by omega), rI_n (by omega)], by rw [s3]; rfl, by rw [s3]; rfl⟩
    · intro k q1 q2
      rw [t7 k (by omega), upd_n (by omega)]
    · refine CR.of s2 pl bg m a b' c' d ⟨?_, hs, ?_, h4, ?_, h6, fun z => absurd z hs0, ?_, h9⟩ ⟨?_, ?_, ?_, ?_, g5, g6⟩ ?_ ⟨?_, ?_, ec, ?_⟩ ?_ ?_ ⟨?_, ?_, ?_, ?_, ?_, ?_⟩
      · rw [t7 _ (by omega), upd_s]
      · rw [t7 _ (by omega), upd_n (by omega)]; exact h3
      · rw [t7 _ (by omega), upd_n (by omega)]; exact h5
      · rw [t7 _ (by omega), upd_n (by omega)]; exact h8
      · rw [t7 _ (by omega), upd_n (by omega)]; exact g1
      · rw [t7 _ (by omega), upd_n (by omega)]; exact g2
      · rw [t7 _ (by omega), upd_n (by omega)]; exact g3
      · rw [t7 _ (by omega), upd_n (by omega)]; exact g4
      · rw [t7 _ (by omega), upd_n (by omega), eB]; exact e0
      · rw [er _ _ (by omega) (by omega), gI_n (Or.inr (by omega))]; exact f1
      · rw [er _ _ (by omega) (by omega), gI_s]
      · rw [er _ _ (by omega) (by omega), gI_n (Or.inl (by omega))]; exact f4
      · intro k hk
        rw [er _ _ (by omega) (by omega), er _ _ (by omega) (by omega), er _ _ (by omega) (by omega), gI_n (Or.inl (by omega)), gI_n (Or.inl (by omega)), gI_n (Or.inl (by omega)), t7 _ (by omega), t7 _ (by omega), t7 _ (by omega), upd_n (by omega), upd_n (by omega), upd_n (by omega)]
        exact k1 k hk
      · intro k hk
        rw [er _ _ (by omega) (by omega), gI_n (Or.inl (by omega)), t7 _ (by omega), upd_n (by omega)]
        exact k2 k hk
      · rw [er _ _ (by omega) (by omega), gI_n (Or.inl (by omega))]; exact m1
      · rw [er _ _ (by omega) (by omega), gI_n (Or.inl (by omega))]; exact m2
      · rw [er _ _ (by omega) (by omega), gI_n (Or.inl (by omega))]; exact m3
      · rw [er _ _ (by omega) (by omega), gI_n (Or.inl (by omega))]; exact m4
      · rw [eL]; exact m5
      · rw [eL]; exact m6
    · rw [er _ _ (by omega) (by omega), gI_n (Or.inr (by omega))]
    · intro q hq
      exact ⟨by rw [s2' q (by omega) (by omega), rI_n (by omega)], by rw [s3]; rfl, by rw [s3]; rfl⟩
    · rw [s3]; rfl
    · rw [s5, gI_n (Or.inl (by omega))]
    · rw [t4, gI_n (Or.inl (by omega))]
    · rw [t7 _ (by omega), upd_n (by omega)]
theorem mask_b : ∀ st, st ≤ 5 → (((2 : Int32) >>> (nI st &&& 31)) &&& 1 = 0 ↔ st ≠ 1) ∧ (((4 : Int32) >>> (nI st &&& 31)) &&& 1 = 0 ↔ st ≠ 2) ∧ (((14 : Int32) >>> (nI st &&& 31)) &&& 1 = 0 ↔ ¬ (1 ≤ st ∧ st ≤ 3)) := by
  intro st h
  have : st = 0 ∨ st = 1 ∨ st = 2 ∨ st = 3 ∨ st = 4 ∨ st = 5 := by omega
  rcases this with rfl | rfl | rfl | rfl | rfl | rfl <;> decide
theorem op_hold {σ τ : St} (hR : Rel σ τ) (x1 : Int32) : ∃ r σ' τ', f_X7_hold 0 x1 σ = some (r, σ') ∧ f_X8_hold 0 x1 τ = some (r, τ') ∧ Rel σ' τ' := by
  unfold f_X7_hold f_X8_hold f_X7_move
  have hF := hR.1
  rw [bnd_e, isChange_eq]
  rcases find_or hF x1 with ⟨i, sz, z1, z2, hi, rfl, ef, ei⟩ | ⟨ef, ei⟩
  · obtain ⟨st, pl, bg, m, a, b, c, d, ⟨h1, h2, h3, h4, h5, h6, h7, h8, h9⟩, -, -, ⟨f1, f2, f3, f4⟩, -⟩ := (hF.row z1 hi z2).use
    rw [ef, ei, obd_s, opt_s, if_pos (shF i (by omega)), if_pos rfl, bnd_e, show f_X8_at (nI i) 1 = nI (92 + 33 * i + 1) from at_nI i 1, if_pos (inb_nI (by omega) (by omega)), cl_nI (by omega), show gI τ (0 + 1) (92 + 33 * i + 1) = nI st from h1, f2]
    have hm := (mask_b st h2).1
    by_cases hs : st = 1
    · obtain ⟨σ', τ', e1, e2, e3, -⟩ := become_eq (x3 := 6) (s2 := 2) hF z1 z2 hi (by omega) (by omega)
      rw [if_neg (fun z => (hm.mp z) hs), if_pos (show nI st = 1 by rw [hs]; rfl), show f_X1_become (0 + 1) (0 + 1 + 1 + 1 + 5 * i) 2 6 σ = _ from e1, show f_X8_becomes 0 (nI i) 2 6 τ = _ from e2]
      exact ⟨_, _, _, rfl, rfl, hR.st e3⟩
    · rw [if_pos (hm.mpr hs), if_neg (show ¬ nI st = 1 from neN (b := 1) hs (by omega) (by omega))]
      exact ⟨_, _, _, rfl, rfl, hR⟩
  · rw [ef, ei, obd_s, opt_n, if_neg (by decide)]
    exact ⟨_, _, _, rfl, rfl, hR⟩
theorem op_resume {σ τ : St} (hR : Rel σ τ) (x1 : Int32) : ∃ r σ' τ', f_X7_resume 0 x1 σ = some (r, σ') ∧ f_X8_resume 0 x1 τ = some (r, τ') ∧ Rel σ' τ' := by
  unfold f_X7_resume f_X8_resume f_X7_move
  have hF := hR.1
  rw [bnd_e, isChange_eq]
  rcases find_or hF x1 with ⟨i, sz, z1, z2, hi, rfl, ef, ei⟩ | ⟨ef, ei⟩
  · obtain ⟨st, pl, bg, m, a, b, c, d, ⟨h1, h2, h3, h4, h5, h6, h7, h8, h9⟩, -, -, ⟨f1, f2, f3, f4⟩, -⟩ := (hF.row z1 hi z2).use
    rw [ef, ei, obd_s, opt_s, if_pos (shF i (by omega)), if_pos rfl, bnd_e, show f_X8_at (nI i) 1 = nI (92 + 33 * i + 1) from at_nI i 1, if_pos (inb_nI (by omega) (by omega)), cl_nI (by omega), show gI τ (0 + 1) (92 + 33 * i + 1) = nI st from h1, f2]
    have hm := (mask_b st h2).2.1
    by_cases hs : st = 2
    · obtain ⟨σ', τ', e1, e2, e3, -⟩ := become_eq (x3 := 7) (s2 := 1) hF z1 z2 hi (by omega) (by omega)
      rw [if_neg (fun z => (hm.mp z) hs), if_pos (show nI st = 2 by rw [hs]; rfl), show f_X1_become (0 + 1) (0 + 1 + 1 + 1 + 5 * i) 1 7 σ = _ from e1, show f_X8_becomes 0 (nI i) 1 7 τ = _ from e2]
      exact ⟨_, _, _, rfl, rfl, hR.st e3⟩
    · rw [if_pos (hm.mpr hs), if_neg (show ¬ nI st = 2 from neN (b := 2) hs (by omega) (by omega))]
      exact ⟨_, _, _, rfl, rfl, hR⟩
  · rw [ef, ei, obd_s, opt_n, if_neg (by decide)]
    exact ⟨_, _, _, rfl, rfl, hR⟩
theorem op_turnBack {σ τ : St} (hR : Rel σ τ) (x1 : Int32) : ∃ r σ' τ', f_X7_turnBack 0 x1 σ = some (r, σ') ∧ f_X8_turnBack 0 x1 τ = some (r, τ') ∧ Rel σ' τ' := by
  unfold f_X7_turnBack f_X8_turnBack f_X7_move
  have hF := hR.1
  rw [bnd_e, isChange_eq]
  rcases find_or hF x1 with ⟨i, sz, z1, z2, hi, rfl, ef, ei⟩ | ⟨ef, ei⟩
  · obtain ⟨st, pl, bg, m, a, b, c, d, ⟨h1, h2, h3, h4, h5, h6, h7, h8, h9⟩, -, -, ⟨f1, f2, f3, f4⟩, -⟩ := (hF.row z1 hi z2).use
    rw [ef, ei, obd_s, opt_s, if_pos (shF i (by omega)), if_pos rfl, bnd_e, show f_X8_at (nI i) 1 = nI (92 + 33 * i + 1) from at_nI i 1, if_pos (inb_nI (by omega) (by omega)), cl_nI (by omega), bnd_e, show gI τ (0 + 1) (92 + 33 * i + 1) = nI st from h1, f2]
    have hm := (mask_b st h2).2.2
    have hn : f_X8_in (nI st) 1 3 = true ↔ 1 ≤ st ∧ st ≤ 3 := in_nI (a := 1) (b := 3) (by omega) (by omega) (by omega)
    by_cases hs : 1 ≤ st ∧ st ≤ 3
    · obtain ⟨σ', τ', e1, e2, e3, -⟩ := become_eq (x3 := 3) (s2 := 4) hF z1 z2 hi (by omega) (by omega)
      rw [if_neg (fun z => (hm.mp z) hs), if_pos (hn.mpr hs), show f_X1_become (0 + 1) (0 + 1 + 1 + 1 + 5 * i) 4 3 σ = _ from e1, show f_X8_becomes 0 (nI i) 4 3 τ = _ from e2]
      exact ⟨_, _, _, rfl, rfl, hR.st e3⟩
    · rw [if_pos (hm.mpr hs), if_neg (fun z => hs (hn.mp z))]
      exact ⟨_, _, _, rfl, rfl, hR⟩
  · rw [ef, ei, obd_s, opt_n, if_neg (by decide)]
    exact ⟨_, _, _, rfl, rfl, hR⟩
theorem op_start {σ τ : St} (hR : Rel σ τ) (x1 : Int32) : ∃ r σ' τ', f_X7_start 0 x1 σ = some (r, σ') ∧ f_X8_start 0 x1 τ = some (r, τ') ∧ Rel σ' τ' := by
  unfold f_X7_start f_X8_start
  have hF := hR.1
  simp only [bnd_d, isChange_eq]
  rcases find_or hF x1 with ⟨i, sz, z1, z2, hi, rfl, ef, ei⟩ | ⟨ef, ei⟩
  · obtain ⟨st, pl, bg, m, a, b, c, d, ⟨h1, h2, h3, h4, h5, h6, h7, h8, h9⟩, ⟨g1, g2, g3, g4, g5, g6⟩, e0, ⟨f1, f2, f3, f4⟩, k1, k2, m1, m2, m3, m4, m5, m6⟩ := (hF.row z1 hi z2).use
    rw [ef, ei, obd_s, opt_s, if_pos (shF i (by omega)), if_pos rfl, show f_X8_at (nI i) 1 = nI (92 + 33 * i + 1) from at_nI i 1, show f_X8_at (nI i) 2 = nI (92 + 33 * i + 2) from at_nI i 2, inb_nI (show 92 + 33 * i + 1 < 257 by omega) (by omega), inb_nI (show 92 + 33 * i + 2 < 257 by omega) (by omega), cl_nI (show 92 + 33 * i + 1 < 10000000 by omega), cl_nI (show 92 + 33 * i + 2 < 10000000 by omega), show gI τ (0 + 1) (92 + 33 * i + 1) = nI st from h1, show gI τ (0 + 1) (92 + 33 * i + 2) = nI pl from h3, f2, f4]
    simp only [if_true]
    by_cases hs : st = 0
    · rw [if_pos (show nI st = 0 by rw [hs]; rfl), if_pos (show nI st = 0 by rw [hs]; rfl)]
      by_cases hp : pl = 0
      · rw [if_pos (show nI pl = 0 by rw [hp]; rfl), if_pos (show nI pl = 0 by rw [hp]; rfl)]
        exact ⟨_, _, _, rfl, rfl, hR⟩
      · rw [if_neg (show ¬ nI pl = 0 from neN (b := 0) hp (by omega) (by omega)), if_neg (show ¬ nI pl = 0 from neN (b := 0) hp (by omega) (by omega)), gI_n (Or.inl (by omega)), gI_n (Or.inr (by omega)), f4, show gI τ (0 + 1) (92 + 33 * i + 2) = nI pl from h3]
        refine ⟨_, _, _, rfl, rfl, ?_⟩
        refine hR.step ?_ (frC.I (by omega)) frM.row (hR.2.2.2.2.1.same rfl) rfl
        rw [rI_s]
        refine hF.chg (i := i) (by omega) ?_ ?_ ?_ ?_ ?_
        · intro q q1 q2 q3
          exact ⟨rI_n (by omega), rfl, rfl⟩
        · intro k q1 q2
          rw [upd_n (by omega)]
        · rw [rI_n (by omega), rI_n (by omega)]
          exact hF.2.2.1.congr (fun k q1 q2 => upd_n (by omega))
        · refine CR.of 1 pl bg m a b c d ⟨upd_s _ _ _, by omega, ?_, h4, ?_, h6, fun z => absurd z (by omega), ?_, h9⟩ ⟨?_, ?_, ?_, ?_, g5, g6⟩ ?_ ⟨?_, ?_, ?_, ?_⟩ ?_ ?_ ⟨?_, ?_, ?_, ?_, m5, m6⟩
          · rw [upd_n (by omega)]; exact h3
          · rw [upd_n (by omega)]; exact h5
          · rw [upd_n (by omega)]; exact h8
          · rw [upd_n (by omega)]; exact g1
          · rw [upd_n (by omega)]; exact g2
          · rw [upd_n (by omega)]; exact g3
          · rw [upd_n (by omega)]; exact g4
          · rw [upd_n (by omega)]; exact e0
          · rw [gI_n (Or.inr (by omega))]; exact f1
          · exact gI_s _ _ _ _
          · rw [gI_n (Or.inr (by omega))]; exact f3
          · rw [gI_n (Or.inl (by omega))]; exact f4
          · intro k hk
            rw [gI_n (Or.inl (by omega)), gI_n (Or.inl (by omega)), gI_n (Or.inl (by omega)), upd_n (by omega), upd_n (by omega), upd_n (by omega)]
            exact k1 k hk
          · intro k hk
            rw [gI_n (Or.inl (by omega)), upd_n (by omega)]
            exact k2 k hk
          · rw [gI_n (Or.inl (by omega))]; exact m1
          · rw [gI_n (Or.inl (by omega))]; exact m2
          · rw [gI_n (Or.inl (by omega))]; exact m3
          · rw [gI_n (Or.inl (by omega))]; exact m4
        · rw [gI_n (Or.inr (by omega))]
    · rw [if_neg (show ¬ nI st = 0 from neN (b := 0) hs (by omega) (by omega)), if_neg (show ¬ nI st = 0 from neN (b := 0) hs (by omega) (by omega))]
      exact ⟨_, _, _, rfl, rfl, hR⟩
  · rw [ef, ei, obd_s, opt_n, if_neg (by decide)]
    exact ⟨_, _, _, rfl, rfl, hR⟩
/-- a number of an entry -/
theorem lgN_eq {σ : St} {q : Nat} {v : Nat → Int32} {lg k j : Nat} (h : LgW (σ.1 q) (σ.1 (q + 1)) v) (e : v 11 = nI lg) (hl : lg ≤ 20) (hk : k < lg) (hj : j < 4) : f_X3_number q (nI k) (nI j) σ = some (v (12 + 4 * k + j)) := by
  obtain ⟨lg', od, h1, h2, h3, h4, h5, h6⟩ := h
  have hll : lg' = lg := (eq_nI (by omega) (by omega)).mp (h1.symm.trans e)
  subst hll
  unfold f_X3_number f_X3_placeOf
  have hm : (od + k) % 20 < 20 := Nat.mod_lt _ (by omega)
  have h7 := h6 k hk j hj
  have i1 : irm (gI σ q 1 + nI k) 20 * 4 + nI j = nI (4 * ((od + k) % 20) + j) := by
    rw [show gI σ q 1 = nI od from h4, nI_add, show irm (nI (od + k)) 20 = nI ((od + k) % 20) from irm_nI (d := 20) (by omega) (by omega) (by omega)]
    show nI ((od + k) % 20) * nI 4 + nI j = _
    rw [pk_mul, nI_add]; congr 1; omega
  generalize (od + k) % 20 = p at hm i1 h7
  have i2 : f_X8_in (nI (4 * p + j)) 0 (80 - 1) = true := (in_nI (a := 0) (b := 79) (by omega) (by omega) (by omega)).mpr ⟨by omega, by omega⟩
  rw [i1, bnd_e, bnd_e, within_in, i2, if_pos rfl, if_pos (inb_nI (by omega) (by omega)), cl_nI (by omega)]
  exact congrArg some h7
theorem op_entry {σ τ : St} (hR : Rel σ τ) (x1 x2 : Int32) : ∃ r, f_X7_entry 0 x1 x2 σ = some r ∧ f_X8_entry 0 x1 x2 τ = some r ∧ Rel σ τ := by
  unfold f_X7_entry f_X8_entry
  simp only [bnd_e, within_in]
  have hF := hR.1
  obtain ⟨lg, l1, l2⟩ := hF.lg
  have e2 : gI σ (0 + 1 + 30) 2 = nI lg := by
    obtain ⟨lg', od, h1, h2, h3, h4, h5, h6⟩ := hF.2.2.1
    exact h5.trans l1
  rw [e2, show (11 : Int32).toNatClampNeg = 11 from rfl, show gI τ (0 + 1) 11 = nI lg from l1]
  rcases in_0 x1 (n := lg) (by omega) with ⟨g1, k, hk, rfl⟩ | ⟨g1, g2⟩
  · rw [g1, if_pos rfl, if_pos rfl]
    by_cases g : f_X8_in x2 0 3 = true
    · rw [if_pos g, if_pos g]
      obtain ⟨j, -, hj, rfl⟩ := in_lo 0 3 (by omega) (by omega) g
      rw [lgN_eq hF.2.2.1 l1 l2 hk (by omega), obd_s]
      have i1 : (12 : Int32) + 4 * nI k + nI j = nI (12 + 4 * k + j) := by show nI 12 + nI 4 * nI k + nI j = _; rw [pk_mul, nI_add, nI_add]
      rw [i1, if_pos (inb_nI (by omega) (by omega)), cl_nI (by omega)]
      exact ⟨_, rfl, rfl, hR⟩
    · rw [if_neg g, if_neg g]
      exact ⟨_, rfl, rfl, hR⟩
  · rw [g1, if_neg (by decide), if_neg (by decide)]
    exact ⟨_, rfl, rfl, hR⟩
/-- how many entries -/
def cnf (v : Nat → Int32) (x1 x2 : Int32) : Nat → Nat → Int32 → Int32
  | _, 0, a => a
  | k, m + 1, a => cnf v x1 x2 (k + 1) m (if v (12 + 4 * k + 2) = x1 ∧ (x2 = -1 ∨ v (12 + 4 * k + 1) = x2) then a + 1 else a)
theorem countC_L {σ : St} {q lg : Nat} {v : Nat → Int32} {x1 x2 : Int32} (h : LgW (σ.1 q) (σ.1 (q + 1)) v) (e : v 11 = nI lg) (e2 : gI σ q 2 = nI lg) (hl : lg ≤ 20) : ∀ (m k F : Nat) (a : Int32), k + m = lg → m < F → it2 (f_X3_countOf_L5 σ q x1 x2) F a (nI k) = some (cnf v x1 x2 k m a) := by
  intro m
  induction m with
  | zero =>
    intro k F a hkm hF
    obtain ⟨F, rfl⟩ : ∃ n', F = n' + 1 := ⟨F - 1, by omega⟩
    show f_X3_countOf_L5 σ q x1 x2 (it2 (f_X3_countOf_L5 σ q x1 x2) F) a (nI k) = _
    generalize it2 (f_X3_countOf_L5 σ q x1 x2) F = g
    unfold f_X3_countOf_L5
    rw [e2, if_pos (leN (by omega) (by omega))]; rfl
  | succ m ih =>
    intro k F a hkm hF
    obtain ⟨F, rfl⟩ : ∃ n', F = n' + 1 := ⟨F - 1, by omega⟩
    show f_X3_countOf_L5 σ q x1 x2 (it2 (f_X3_countOf_L5 σ q x1 x2) F) a (nI k) = _
    have ih' := fun a => ih (k + 1) F a (by omega) (by omega)
    generalize it2 (f_X3_countOf_L5 σ q x1 x2) F = g at ih' ⊢
    unfold f_X3_countOf_L5 f_X3_countOf_B42
    rw [e2, if_neg (nleN (by omega) (by omega)), show (20 : Int32) = nI 20 from rfl, if_neg (nleN (by omega) (by omega)), show f_X3_number q (nI k) 1 σ = some (v (12 + 4 * k + 1)) from lgN_eq (j := 1) h e hl (by omega) (by omega), show f_X3_number q (nI k) 2 σ = some (v (12 + 4 * k + 2)) from lgN_eq (j := 2) h e hl (by omega) (by omega)]
    simp only [bnd_e, obd_s, nI_1, ih']
    show _ = some (cnf v x1 x2 (k + 1) m (if v (12 + 4 * k + 2) = x1 ∧ (x2 = -1 ∨ v (12 + 4 * k + 1) = x2) then a + 1 else a))
    by_cases c1 : v (12 + 4 * k + 2) = x1
    · by_cases c2 : x2 = -1
      · simp [c1, c2]
      · by_cases c3 : v (12 + 4 * k + 1) = x2 <;> simp [c1, c2, c3]
    · by_cases c2 : x2 = -1
      · simp [c1, c2]
      · by_cases c3 : v (12 + 4 * k + 1) = x2 <;> simp [c1, c2, c3]
theorem countM_L {τ : St} {lg : Nat} {v : Nat → Int32} {x1 x2 : Int32} (ev : v = τ.1 (0 + 1)) (e : v 11 = nI lg) (hl : lg ≤ 20) : ∀ (m k F : Nat) (a : Int32), k + m = lg → m < F → it2 (f_X8_count_L35 τ 0 x1 x2) F a (nI (12 + 4 * k)) = some (cnf v x1 x2 k m a) := by
  have er : ∀ j, gI τ (0 + 1) j = v j := fun j => by rw [ev]; rfl
  have i0 : (12 : Int32) + 4 * nI lg = nI (12 + 4 * lg) := by show nI 12 + nI 4 * nI lg = _; rw [pk_mul, nI_add]
  intro m
  induction m with
  | zero =>
    intro k F a hkm hF
    obtain ⟨F, rfl⟩ : ∃ n', F = n' + 1 := ⟨F - 1, by omega⟩
    show f_X8_count_L35 τ 0 x1 x2 (it2 (f_X8_count_L35 τ 0 x1 x2) F) a (nI (12 + 4 * k)) = _
    generalize it2 (f_X8_count_L35 τ 0 x1 x2) F = g
    unfold f_X8_count_L35
    rw [show (11 : Int32).toNatClampNeg = 11 from rfl, er, e, i0, if_pos (leN (by omega) (by omega))]; rfl
  | succ m ih =>
    intro k F a hkm hF
    obtain ⟨F, rfl⟩ : ∃ n', F = n' + 1 := ⟨F - 1, by omega⟩
    show f_X8_count_L35 τ 0 x1 x2 (it2 (f_X8_count_L35 τ 0 x1 x2) F) a (nI (12 + 4 * k)) = _
    have ih' := fun a => ih (k + 1) F a (by omega) (by omega)
    generalize it2 (f_X8_count_L35 τ 0 x1 x2) F = g at ih' ⊢
    unfold f_X8_count_L35
    rw [show (11 : Int32).toNatClampNeg = 11 from rfl, er, e, i0, if_neg (nleN (by omega) (by omega))]
    simp only [bnd_e]
    rw [show nI (12 + 4 * k) + 2 = nI (12 + 4 * k + 2) from nI_add _ 2, show nI (12 + 4 * k) + 4 = nI (12 + 4 * (k + 1)) from nI_add _ 4, nI_1, if_pos (inb_nI (by omega) (by omega)), if_pos (inb_nI (by omega) (by omega)), cl_nI (by omega), cl_nI (by omega), er, er, ih', ih']
    show _ = some (cnf v x1 x2 (k + 1) m (if v (12 + 4 * k + 2) = x1 ∧ (x2 = -1 ∨ v (12 + 4 * k + 1) = x2) then a + 1 else a))
    by_cases c1 : v (12 + 4 * k + 2) = x1
    · by_cases c2 : x2 = -1
      · simp [c1, c2]
      · by_cases c3 : v (12 + 4 * k + 1) = x2 <;> simp [c1, c2, c3]
    · simp [c1]
theorem in_m1 (x : Int32) {n : Nat} (hn : n < 10000) : f_X8_in x (-1) (nI n - 1) = (decide (x = -1) || f_X8_in x 0 (nI n - 1)) := by
  unfold f_X8_in
  have h3 : (nI n - 1).toInt = (n : Int) - 1 := pk_sub_toInt (a := n) (b := 1) (by omega) (by omega)
  have h4 : (-1 : Int32).toInt = -1 := by decide
  have h5 : (0 : Int32).toInt = 0 := by decide
  by_cases h : x = -1
  · subst h
    rw [if_neg (by decide), if_neg]
    · simp
    · rw [Int32.lt_iff_toInt_lt, h3, h4]; omega
  · have h6 : x.toInt ≠ -1 := fun z => h (Int32.toInt_inj.mp (z.trans h4.symm))
    by_cases h1 : x < 0
    · have h7 : x < -1 := by rw [Int32.lt_iff_toInt_lt] at h1 ⊢; rw [h5] at h1; rw [h4]; omega
      rw [if_pos h7, if_pos h1]; simp [h]
    · have h7 : ¬ x < -1 := by rw [Int32.lt_iff_toInt_lt] at h1 ⊢; rw [h5] at h1; rw [h4]; omega
      rw [if_neg h7, if_neg h1]; simp [h]
theorem op_count {σ τ : St} (hR : Rel σ τ) (x1 x2 : Int32) : ∃ r, f_X7_count 0 x1 x2 σ = some r ∧ f_X8_count 0 x1 x2 τ = some r ∧ Rel σ τ := by
  obtain ⟨F, hFu, eF⟩ := fuel_ex
  unfold f_X7_count f_X8_count f_X3_countOf
  rw [eF]
  have hF := hR.1
  obtain ⟨lg, l1, l2⟩ := hF.lg
  have e2 : gI σ (0 + 1 + 30) 2 = nI lg := by
    obtain ⟨lg', od, h1, h2, h3, h4, h5, h6⟩ := hF.2.2.1
    exact h5.trans l1
  obtain ⟨sz, z1, z2, z3, -⟩ := hF.sz
  rw [show (0 : Int32) = nI 0 from rfl, countC_L hF.2.2.1 l1 e2 l2 lg 0 F (nI 0) (by omega) (by omega), show (12 : Int32) = nI (12 + 4 * 0) from rfl, countM_L rfl l1 l2 lg 0 F (nI 0) (by omega) (by omega)]
  simp only [bnd_e, within_in, isChange_eq]
  by_cases h : f_X8_in x1 1 7 = true
  · rw [if_pos h, if_pos h, z2, z1, in_m1 x2 (by omega)]
    by_cases h1 : x2 = -1
    · rw [if_pos h1, if_pos (by simp [h1])]
      exact ⟨_, rfl, rfl, hR⟩
    · rw [if_neg h1]
      by_cases h2 : f_X8_in x2 0 (nI sz - 1) = true
      · rw [if_pos h2, if_pos (by simp [h2])]
        exact ⟨_, rfl, rfl, hR⟩
      · rw [if_neg h2, if_neg (by simp [h1, h2])]
        exact ⟨_, rfl, rfl, hR⟩
  · rw [if_neg h, if_neg h]
    exact ⟨_, rfl, rfl, hR⟩
