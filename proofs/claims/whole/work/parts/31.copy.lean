/-! copies -/
theorem gI_cp (σ : St) (s d n q j : Nat) : gI (cpI σ s d n) q j = if q = d ∧ j < n then gI σ s j else gI σ q j := by
  unfold gI
  by_cases h : q = d
  · subst h
    rw [rC_s]
    by_cases h2 : j < n
    · rw [if_pos ⟨rfl, h2⟩, pk_cpy_in (by omega) (by omega), Nat.zero_add, Nat.sub_zero]
    · rw [if_neg (by omega), pk_cpy_out (by omega)]
  · rw [rC_n h, if_neg (by omega)]
theorem gI_cs {σ : St} {s d n j : Nat} (h : j < n) : gI (cpI σ s d n) d j = gI σ s j := by rw [gI_cp, if_pos ⟨rfl, h⟩]
theorem gI_cn {σ : St} {s d n q j : Nat} (h : q ≠ d) : gI (cpI σ s d n) q j = gI σ q j := by rw [gI_cp, if_neg (fun z => h z.1)]
theorem gL_s (σ : St) (k j : Nat) (v : Int64) : gL (sL σ k j v) k j = v := by rw [gL_sL, if_pos ⟨rfl, rfl⟩]
theorem gL_n {σ : St} {k j : Nat} {v : Int64} {k' j' : Nat} (h : k' ≠ k ∨ j' ≠ j) : gL (sL σ k j v) k' j' = gL σ k' j' := by
  rw [gL_sL, if_neg]
  intro z
  rcases h with h | h
  · exact h z.1
  · exact h z.2
theorem gB_s (σ : St) (k j : Nat) (v : Bool) : gB (sB σ k j v) k j = v := by rw [gB_sB, if_pos ⟨rfl, rfl⟩]
theorem gL_cp (σ : St) (s d n q j : Nat) : gL (cpI σ s d n) q j = gL σ q j := rfl
theorem gB_cp (σ : St) (s d n q j : Nat) : gB (cpI σ s d n) q j = gB σ q j := rfl
theorem copyX0 {σ : St} {c0 c1 : Nat} (hd : c0 + 5 ≤ c1 ∨ c1 + 5 ≤ c0) : (∀ j, 4 ≤ j → j < 7 → gI (f_X0_copyFrom c0 c1 σ) c0 j = gI σ c1 j) ∧ gI (f_X0_copyFrom c0 c1 σ) (c0 + 1) 1 = gI σ (c1 + 1) 1 ∧ (∀ j, j < 18 → gI (f_X0_copyFrom c0 c1 σ) (c0 + 1 + 1) j = gI σ (c1 + 1 + 1) j) ∧ (∀ j, j < 4 → gI (f_X0_copyFrom c0 c1 σ) (c0 + 3) j = gI σ (c1 + 3) j) ∧ (∀ j, j < 6 → gI (f_X0_copyFrom c0 c1 σ) (c0 + 4) j = gI σ (c1 + 4) j) ∧ gI (f_X0_copyFrom c0 c1 σ) c0 0 = gI σ c0 0 := by
  unfold f_X0_copyFrom f_X4_copyFrom f_X6_copyFrom
  simp only [bnd_e]
  refine ⟨?_, ?_, ?_, ?_, ?_, ?_⟩
  · intro j h1 h2
    have : j = 4 ∨ j = 5 ∨ j = 6 := by omega
    rcases this with rfl | rfl | rfl <;> repeat first | rw [gI_sL] | rw [gI_sB] | rw [gI_cn (by omega)] | rw [gI_cs (by omega)] | rw [gI_n (by omega)] | rw [gI_s]
  · repeat first | rw [gI_sL] | rw [gI_sB] | rw [gI_cn (by omega)] | rw [gI_cs (by omega)] | rw [gI_n (by omega)] | rw [gI_s]
  · intro j h1
    repeat first | rw [gI_sL] | rw [gI_sB] | rw [gI_cn (by omega)] | rw [gI_cs (by omega)] | rw [gI_n (by omega)] | rw [gI_s]
  · intro j h1
    have : j = 0 ∨ j = 1 ∨ j = 2 ∨ j = 3 := by omega
    rcases this with rfl | rfl | rfl | rfl <;> repeat first | rw [gI_sL] | rw [gI_sB] | rw [gI_cn (by omega)] | rw [gI_cs (by omega)] | rw [gI_n (by omega)] | rw [gI_s]
  · intro j h1
    repeat first | rw [gI_sL] | rw [gI_sB] | rw [gI_cn (by omega)] | rw [gI_cs (by omega)] | rw [gI_n (by omega)] | rw [gI_s]
  · repeat first | rw [gI_sL] | rw [gI_sB] | rw [gI_cn (by omega)] | rw [gI_cs (by omega)] | rw [gI_n (by omega)] | rw [gI_s]
theorem copyX0L {σ : St} {c0 c1 : Nat} (hd : c0 + 5 ≤ c1 ∨ c1 + 5 ≤ c0) : (∀ j, 4 ≤ j → j < 6 → gL (f_X0_copyFrom c0 c1 σ) (c0 + 3) j = gL σ (c1 + 3) j) ∧ gB (f_X0_copyFrom c0 c1 σ) c0 7 = gB σ c1 7 := by
  unfold f_X0_copyFrom f_X4_copyFrom f_X6_copyFrom
  simp only [bnd_e, gL_cp, gL_sB, gL_sI, gB_cp, gB_sL, gB_sI]
  refine ⟨?_, ?_⟩
  · intro j h1 h2
    have : j = 4 ∨ j = 5 := by omega
    rcases this with rfl | rfl <;> repeat first | rw [gL_sI] | rw [gL_sB] | rw [gL_cp] | rw [gL_n (by omega)] | rw [gL_s] | rw [gB_s]
  · repeat first | rw [gL_sI] | rw [gL_sB] | rw [gL_cp] | rw [gL_n (by omega)] | rw [gL_s] | rw [gB_s]
theorem copyX0r {σ : St} {c0 c1 q : Nat} (hq : q < c0 ∨ c0 + 5 ≤ q) : (f_X0_copyFrom c0 c1 σ).1 q = σ.1 q ∧ (f_X0_copyFrom c0 c1 σ).2.1 q = σ.2.1 q ∧ (f_X0_copyFrom c0 c1 σ).2.2 q = σ.2.2 q := by
  unfold f_X0_copyFrom f_X4_copyFrom f_X6_copyFrom
  simp only [bnd_e]
  refine ⟨?_, ?_, ?_⟩
  · rw [rC_n (by omega)]
    show (sI (sI (sI (sI (cpI (sI (sI (sI (sI (sB σ c0 7 (gB σ c1 7)) c0 4 _) c0 5 _) c0 6 _) (c0 + 1) 1 _) (c1 + 1 + 1) (c0 + 1 + 1) 18) (c0 + 3) 0 _) (c0 + 3) 1 _) (c0 + 3) 2 _) (c0 + 3) 3 _).1 q = _
    rw [rI_n (by omega), rI_n (by omega), rI_n (by omega), rI_n (by omega), rC_n (by omega), rI_n (by omega), rI_n (by omega), rI_n (by omega), rI_n (by omega)]
    rfl
  · show (sL (sL _ (c0 + 3) 4 _) (c0 + 3) 5 _).2.1 q = _
    rw [rL_n (by omega), rL_n (by omega)]
    rfl
  · exact rB_n (by omega)
theorem CR.copy {σ : St} {c0 c1 i : Nat} {v : Nat → Int32} (h : CR σ c1 i v) (hd : c0 + 5 ≤ c1 ∨ c1 + 5 ≤ c0) : CR (f_X0_copyFrom c0 c1 σ) c0 i v := by
  obtain ⟨st, pl, bg, m, a, b, c, d, ⟨h1, h2, h3, h4, h5, h6, h7, h8, h9⟩, ⟨g1, g2, g3, g4, g5, g6⟩, e0, ⟨f1, f2, f3, f4⟩, k1, k2, m1, m2, m3, m4, m5, m6⟩ := h.use
  obtain ⟨p1, p2, p3, p4, p5, p6⟩ := copyX0 (σ := σ) hd
  obtain ⟨q1, q2⟩ := copyX0L (σ := σ) hd
  refine CR.of st pl bg m a b c d ⟨h1, h2, h3, h4, h5, h6, h7, h8, h9⟩ ⟨g1, g2, g3, g4, g5, g6⟩ (by rw [q2]; exact e0) ⟨by rw [p1 4 (by omega) (by omega)]; exact f1, by rw [p1 5 (by omega) (by omega)]; exact f2, by rw [p1 6 (by omega) (by omega)]; exact f3, by rw [p2]; exact f4⟩ ?_ ?_ ⟨by rw [p4 0 (by omega)]; exact m1, by rw [p4 1 (by omega)]; exact m2, by rw [p4 2 (by omega)]; exact m3, by rw [p4 3 (by omega)]; exact m4, by rw [q1 4 (by omega) (by omega)]; exact m5, by rw [q1 5 (by omega) (by omega)]; exact m6⟩
  · intro k hk
    rw [p3 _ (by omega), p3 _ (by omega), p3 _ (by omega)]
    exact k1 k hk
  · intro k hk
    rw [p5 _ (by omega)]
    exact k2 k hk
theorem copy_L {q0 q1 sz : Nat} {v : Nat → Int32} (hd : q0 + 32 ≤ q1 ∨ q1 + 32 ≤ q0) (hs : sz ≤ 5) : ∀ (m k F : Nat) (σ : St), k + m = sz → m < F → gI σ q0 4 = nI sz → (∀ i, i < sz → CR σ (q1 + 1 + 1 + 5 * i) i v) → (∀ i, i < k → CR σ (q0 + 1 + 1 + 5 * i) i v) → ∃ σ', it2 (f_X1_copyFrom_L56 q0 q1) F (nI k) σ = some σ' ∧ (∀ i, i < sz → CR σ' (q0 + 1 + 1 + 5 * i) i v) ∧ (∀ q, (q < q0 + 1 + 1 ∨ q0 + 1 + 1 + 25 ≤ q) → σ'.1 q = σ.1 q ∧ σ'.2.1 q = σ.2.1 q ∧ σ'.2.2 q = σ.2.2 q) ∧ ∀ i, i < 5 → gI σ' (q0 + 1 + 1 + 5 * i) 0 = gI σ (q0 + 1 + 1 + 5 * i) 0 := by
  intro m
  induction m with
  | zero =>
    intro k F σ hkm hF e4 hc hk
    obtain ⟨F, rfl⟩ : ∃ n', F = n' + 1 := ⟨F - 1, by omega⟩
    refine ⟨σ, ?_, fun i hi => hk i (by omega), fun q _ => ⟨rfl, rfl, rfl⟩, fun i _ => rfl⟩
    show f_X1_copyFrom_L56 q0 q1 (it2 (f_X1_copyFrom_L56 q0 q1) F) (nI k) σ = _
    generalize it2 (f_X1_copyFrom_L56 q0 q1) F = g
    unfold f_X1_copyFrom_L56
    rw [e4, if_pos (leN (by omega) (by omega))]
  | succ m ih =>
    intro k F σ hkm hF e4 hc hk
    obtain ⟨F, rfl⟩ : ∃ n', F = n' + 1 := ⟨F - 1, by omega⟩
    have hr := fun q (hq : q < q0 + 1 + 1 + 5 * k ∨ q0 + 1 + 1 + 5 * k + 5 ≤ q) => copyX0r (σ := σ) (c0 := q0 + 1 + 1 + 5 * k) (c1 := q1 + 1 + 1 + 5 * k) hq
    obtain ⟨σ', t1, t2, t3, t4⟩ := ih (k + 1) F (f_X0_copyFrom (q0 + 1 + 1 + 5 * k) (q1 + 1 + 1 + 5 * k) σ) (by omega) (by omega) (by unfold gI; rw [(hr q0 (by omega)).1]; exact e4) (fun i hi => (hc i hi).congr (fun q h1 h2 => hr q (by omega)) (fun _ _ => rfl)) (fun i hi => by
      by_cases hik : i = k
      · subst hik
        exact (hc i (by omega)).copy (by omega)
      · exact (hk i (by omega)).congr (fun q h1 h2 => hr q (by omega)) (fun _ _ => rfl))
    refine ⟨σ', ?_, t2, fun q hq => ?_, fun i hi => ?_⟩
    · show f_X1_copyFrom_L56 q0 q1 (it2 (f_X1_copyFrom_L56 q0 q1) F) (nI k) σ = _
      generalize it2 (f_X1_copyFrom_L56 q0 q1) F = g at t1 ⊢
      unfold f_X1_copyFrom_L56
      rw [e4, if_neg (nleN (by omega) (by omega)), show (5 : Int32) = nI 5 from rfl, if_neg (nleN (by omega) (by omega)), if_pos (inb_nI (by omega) (by omega)), if_pos (inb_nI (by omega) (by omega)), cl_nI (by omega), bnd_e, bnd_e, nI_1, t1]
    · obtain ⟨a1, a2, a3⟩ := t3 q hq
      obtain ⟨b1, b2, b3⟩ := hr q (by omega)
      exact ⟨a1.trans b1, a2.trans b2, a3.trans b3⟩
    · rw [t4 i hi]
      by_cases hik : i = k
      · subst hik
        exact (copyX0 (σ := σ) (by omega)).2.2.2.2.2
      · unfold gI
        rw [(hr (q0 + 1 + 1 + 5 * i) (by omega)).1]
theorem copy_eq {σ : St} {q0 q1 : Nat} {v : Nat → Int32} (hF : FR σ q1 v) (hd : q0 + 32 ≤ q1 ∨ q1 + 32 ≤ q0) (hn : ∀ i, i < 5 → gI σ (q0 + 1 + 1 + 5 * i) 0 = nI i) : ∃ σ', f_X1_copyFrom q0 q1 σ = some σ' ∧ FR σ' q0 v ∧ frC σ σ' q0 ∧ gB σ' q0 3 = gB σ q0 3 := by
  obtain ⟨F, hFu, eF⟩ := fuel_ex
  unfold f_X1_copyFrom f_X2_copyFrom f_X3_copyFrom
  rw [eF]
  simp only [bnd_e]
  obtain ⟨⟨a0, a2, a3, a4, a5, a6⟩, ⟨ns, n1, n2, n3, n4⟩, ⟨lg, od, l1, l2, l3, l4, l5, l6⟩, ⟨sz, z1, z2, z3⟩, hn1⟩ := hF
  generalize hσ1 : cpI (sI (sI (cpI (cpI (sI (sI (sI (sI (sI σ q0 4 _) q0 5 _) q0 6 _) q0 7 _) (q0 + 27) 2 _) (q1 + 27 + 1) (q0 + 27 + 1) 3) (q1 + 27 + 2) (q0 + 27 + 2) 3) (q0 + 30) 1 _) (q0 + 30) 2 _) (q1 + 30 + 1) (q0 + 30 + 1) 80 = σ1
  have r1 : ∀ q, q ≠ q0 → q ≠ q0 + 27 → q ≠ q0 + 27 + 1 → q ≠ q0 + 27 + 2 → q ≠ q0 + 30 → q ≠ q0 + 30 + 1 → σ1.1 q = σ.1 q := by
    intro q h1 h2 h3 h4 h5 h6
    rw [← hσ1, rC_n h6, rI_n h5, rI_n h5, rC_n h4, rC_n h3, rI_n h2, rI_n h1, rI_n h1, rI_n h1, rI_n h1]
  have r2 : σ1.2 = σ.2 := by rw [← hσ1]; rfl
  have b4 : gI σ1 q0 4 = gI σ q1 4 := by
    rw [← hσ1]
    repeat first | rw [gI_sL] | rw [gI_sB] | rw [gI_cn (by omega)] | rw [gI_cs (by omega)] | rw [gI_n (by omega)] | rw [gI_s]
  have b5 : gI σ1 q0 5 = gI σ q1 5 := by
    rw [← hσ1]
    repeat first | rw [gI_sL] | rw [gI_sB] | rw [gI_cn (by omega)] | rw [gI_cs (by omega)] | rw [gI_n (by omega)] | rw [gI_s]
  have b6 : gI σ1 q0 6 = gI σ q1 6 := by
    rw [← hσ1]
    repeat first | rw [gI_sL] | rw [gI_sB] | rw [gI_cn (by omega)] | rw [gI_cs (by omega)] | rw [gI_n (by omega)] | rw [gI_s]
  have b7 : gI σ1 q0 7 = gI σ q1 7 := by
    rw [← hσ1]
    repeat first | rw [gI_sL] | rw [gI_sB] | rw [gI_cn (by omega)] | rw [gI_cs (by omega)] | rw [gI_n (by omega)] | rw [gI_s]
  have s2 : gI σ1 (q0 + 27) 2 = gI σ (q1 + 27) 2 := by
    rw [← hσ1]
    repeat first | rw [gI_sL] | rw [gI_sB] | rw [gI_cn (by omega)] | rw [gI_cs (by omega)] | rw [gI_n (by omega)] | rw [gI_s]
  have s3 : ∀ k, k < 3 → gI σ1 (q0 + 27 + 1) k = gI σ (q1 + 27 + 1) k := by
    intro k hk
    rw [← hσ1]
    repeat first | rw [gI_sL] | rw [gI_sB] | rw [gI_cn (by omega)] | rw [gI_cs (by omega)] | rw [gI_n (by omega)] | rw [gI_s]
  have s4 : ∀ k, k < 3 → gI σ1 (q0 + 27 + 2) k = gI σ (q1 + 27 + 2) k := by
    intro k hk
    rw [← hσ1]
    repeat first | rw [gI_sL] | rw [gI_sB] | rw [gI_cn (by omega)] | rw [gI_cs (by omega)] | rw [gI_n (by omega)] | rw [gI_s]
  have o1 : gI σ1 (q0 + 30) 1 = gI σ (q1 + 30) 1 := by
    rw [← hσ1]
    repeat first | rw [gI_sL] | rw [gI_sB] | rw [gI_cn (by omega)] | rw [gI_cs (by omega)] | rw [gI_n (by omega)] | rw [gI_s]
  have o2 : gI σ1 (q0 + 30) 2 = gI σ (q1 + 30) 2 := by
    rw [← hσ1]
    repeat first | rw [gI_sL] | rw [gI_sB] | rw [gI_cn (by omega)] | rw [gI_cs (by omega)] | rw [gI_n (by omega)] | rw [gI_s]
  have o3 : ∀ k, k < 80 → gI σ1 (q0 + 30 + 1) k = gI σ (q1 + 30 + 1) k := by
    intro k hk
    rw [← hσ1]
    repeat first | rw [gI_sL] | rw [gI_sB] | rw [gI_cn (by omega)] | rw [gI_cs (by omega)] | rw [gI_n (by omega)] | rw [gI_s]
  clear hσ1
  obtain ⟨σ', t1, t2, t3, t4⟩ := copy_L (v := v) hd z2 sz 0 F σ1 (by omega) (by omega) (b4.trans (a6.trans z1)) (fun i hi => (z3 i hi).congr (fun q h1 h2 => ⟨r1 q (by omega) (by omega) (by omega) (by omega) (by omega) (by omega), by rw [r2], by rw [r2]⟩) (fun _ _ => rfl)) (fun i hi => absurd hi (by omega))
  refine ⟨σ', t1, ⟨⟨a0, a2, ?_, ?_, ?_, ?_⟩, ⟨ns, n1, n2, ?_, fun k hk => ?_⟩, ⟨lg, od, l1, l2, l3, ?_, ?_, fun k hk j hj => ?_⟩, ⟨sz, z1, z2, t2⟩, fun i hi => ?_⟩, ?_, ?_⟩
  · unfold gI; rw [(t3 q0 (by omega)).1]; exact b5.trans a3
  · unfold gI; rw [(t3 q0 (by omega)).1]; exact b6.trans a4
  · unfold gI; rw [(t3 q0 (by omega)).1]; exact b7.trans a5
  · unfold gI; rw [(t3 q0 (by omega)).1]; exact b4.trans a6
  · rw [(t3 (q0 + 27) (by omega)).1]; exact s2.trans n3
  · rw [(t3 (q0 + 27 + 1) (by omega)).1, (t3 (q0 + 27 + 2) (by omega)).1]
    obtain ⟨p1, p2, p3⟩ := n4 k hk
    exact ⟨(s3 k (by omega)).trans p1, (s4 k (by omega)).trans p2, p3⟩
  · rw [(t3 (q0 + 30) (by omega)).1]; exact o1.trans l4
  · rw [(t3 (q0 + 30) (by omega)).1]; exact o2.trans l5
  · rw [(t3 (q0 + 30 + 1) (by omega)).1]
    have : (od + k) % 20 < 20 := Nat.mod_lt _ (by omega)
    exact (o3 _ (by omega)).trans (l6 k hk j hj)
  · rw [t4 i hi]
    unfold gI
    rw [r1 _ (by omega) (by omega) (by omega) (by omega) (by omega) (by omega)]
    exact hn i hi
  · intro q hq
    obtain ⟨c1, c2, c3⟩ := t3 q (by omega)
    exact ⟨c1.trans (r1 q (by omega) (by omega) (by omega) (by omega) (by omega) (by omega)), by rw [c2, r2], by rw [c3, r2]⟩
  · unfold gB
    rw [(t3 q0 (by omega)).2.2, r2]
/-- the reference's row is put away -/
theorem save_L {j : Nat} (hj : j < 2) : ∀ (m k F : Nat) (τ : St), k + m = 257 → m < F → ∃ τ', it2 (f_X8_save_L14 0 (nI j)) F (nI k) τ = some (gI τ (0 + 1) 1, sB τ' (0 + 4) j true) ∧ τ'.2 = τ.2 ∧ (∀ q, q ≠ 0 + 3 → τ'.1 q = τ.1 q) ∧ ∀ i, τ'.1 (0 + 3) i = if 257 * j + k ≤ i ∧ i < 257 * j + 257 then τ.1 (0 + 1) (i - 257 * j) else τ.1 (0 + 3) i := by
  intro m
  induction m with
  | zero =>
    intro k F τ hkm hF
    obtain ⟨F, rfl⟩ : ∃ n', F = n' + 1 := ⟨F - 1, by omega⟩
    refine ⟨τ, ?_, rfl, fun _ _ => rfl, fun i => by rw [if_neg (by omega)]⟩
    show f_X8_save_L14 0 (nI j) (it2 (f_X8_save_L14 0 (nI j)) F) (nI k) τ = _
    generalize it2 (f_X8_save_L14 0 (nI j)) F = g
    unfold f_X8_save_L14
    rw [show (257 : Int32) = nI 257 from rfl, if_pos (leN (by omega) (by omega)), if_pos (inb_nI (by omega) (by omega)), bnd_e, cl_nI (by omega), show (1 : Int32).toNatClampNeg = 1 from rfl, gI_sB]
  | succ m ih =>
    intro k F τ hkm hF
    obtain ⟨F, rfl⟩ : ∃ n', F = n' + 1 := ⟨F - 1, by omega⟩
    obtain ⟨τ', t1, t2, t3, t4⟩ := ih (k + 1) F (sI τ (0 + 3) (257 * j + k) (gI τ (0 + 1) k)) (by omega) (by omega)
    refine ⟨τ', ?_, t2, fun q hq => by rw [t3 q hq, rI_n hq], fun i => ?_⟩
    · show f_X8_save_L14 0 (nI j) (it2 (f_X8_save_L14 0 (nI j)) F) (nI k) τ = _
      generalize it2 (f_X8_save_L14 0 (nI j)) F = g at t1 ⊢
      unfold f_X8_save_L14
      have i1 : (257 : Int32) * nI j + nI k = nI (257 * j + k) := by show nI 257 * nI j + nI k = _; rw [pk_mul, nI_add]
      rw [i1, show (257 : Int32) = nI 257 from rfl, if_neg (nleN (by omega) (by omega)), if_pos (inb_nI (by omega) (by omega)), bnd_e, if_pos (inb_nI (by omega) (by omega)), bnd_e, bnd_e, cl_nI (by omega), cl_nI (by omega), nI_1, t1, gI_n (Or.inl (by omega))]
    · rw [t4, rI_s, rI_n (by omega)]
      by_cases h : 257 * j + k ≤ i ∧ i < 257 * j + 257
      · rw [if_pos h]
        by_cases h2 : i = 257 * j + k
        · rw [if_neg (by omega), h2, upd_s, show 257 * j + k - 257 * j = k by omega]; rfl
        · rw [if_pos (by omega)]
      · rw [if_neg h, if_neg (by omega), upd_n (by omega)]
theorem restore_L {j : Nat} (hj : j < 2) : ∀ (m k F : Nat) (τ : St), k + m = 257 → m < F → ∃ τ', it2 (f_X8_restore_L26 0 (nI j)) F (nI k) τ = some (gI τ' (0 + 1) 1, τ') ∧ frM τ τ' ∧ τ'.2 = τ.2 ∧ ∀ i, τ'.1 (0 + 1) i = if k ≤ i ∧ i < 257 then τ.1 (0 + 3) (257 * j + i) else τ.1 (0 + 1) i := by
  intro m
  induction m with
  | zero =>
    intro k F τ hkm hF
    obtain ⟨F, rfl⟩ : ∃ n', F = n' + 1 := ⟨F - 1, by omega⟩
    refine ⟨τ, ?_, frM.rf, rfl, fun i => by rw [if_neg (by omega)]⟩
    show f_X8_restore_L26 0 (nI j) (it2 (f_X8_restore_L26 0 (nI j)) F) (nI k) τ = _
    generalize it2 (f_X8_restore_L26 0 (nI j)) F = g
    unfold f_X8_restore_L26
    rw [show (257 : Int32) = nI 257 from rfl, if_pos (leN (by omega) (by omega)), show (1 : Int32).toNatClampNeg = 1 from rfl]
  | succ m ih =>
    intro k F τ hkm hF
    obtain ⟨F, rfl⟩ : ∃ n', F = n' + 1 := ⟨F - 1, by omega⟩
    obtain ⟨τ', t1, t2, t3, t4⟩ := ih (k + 1) F (sI τ (0 + 1) k (gI τ (0 + 3) (257 * j + k))) (by omega) (by omega)
    refine ⟨τ', ?_, frM.row.tr t2, t3, fun i => ?_⟩
    · show f_X8_restore_L26 0 (nI j) (it2 (f_X8_restore_L26 0 (nI j)) F) (nI k) τ = _
      generalize it2 (f_X8_restore_L26 0 (nI j)) F = g at t1 ⊢
      unfold f_X8_restore_L26
      have i1 : (257 : Int32) * nI j + nI k = nI (257 * j + k) := by show nI 257 * nI j + nI k = _; rw [pk_mul, nI_add]
      rw [i1, show (257 : Int32) = nI 257 from rfl, if_neg (nleN (by omega) (by omega)), bnd_e, if_pos (inb_nI (by omega) (by omega)), if_pos (inb_nI (by omega) (by omega)), bnd_e, bnd_e, cl_nI (by omega), cl_nI (by omega), nI_1, t1]
    · rw [t4, rI_s, rI_n (by omega)]
      by_cases h : k ≤ i ∧ i < 257
      · rw [if_pos h]
        by_cases h2 : i = k
        · rw [if_neg (by omega), h2, upd_s]; rfl
        · rw [if_pos (by omega)]
      · rw [if_neg h, if_neg (by omega), upd_n (by omega)]
/-- a fleet against a row: what the row is below 257 -/
theorem FR.row257 {σ : St} {b : Nat} {v v' : Nat → Int32} (h : FR σ b v) (hv : ∀ k, k < 257 → v' k = v k) : FR σ b v' := by
  refine h.mod rfl (hv 0 (by omega)) (hv 1 (by omega)) (hv 2 (by omega)) (hv 10 (by omega)) (h.2.1.congr (fun k h1 h2 => hv k (by omega))) (h.2.2.1.congr (fun k h1 h2 => hv k (by omega))) ?_ (fun i hi => rfl)
  intro sz z1 z2 i hi
  exact (h.crs sz z1 z2 i hi).congr (fun q h1 h2 => ⟨rfl, rfl, rfl⟩) (fun k hk => hv _ (by omega))
theorem op_save {σ τ : St} (hR : Rel σ τ) (x1 : Int32) : ∃ r σ' τ', f_X7_save 0 x1 σ = some (r, σ') ∧ f_X8_save 0 x1 τ = some (r, τ') ∧ Rel σ' τ' := by
  obtain ⟨F, hFu, eF⟩ := fuel_ex
  unfold f_X7_save f_X8_save
  rw [eF, bnd_e, bnd_e, within_in]
  by_cases h : f_X8_in x1 0 1 = true
  · rw [if_pos h, if_pos h]
    obtain ⟨j, -, hj, rfl⟩ := in_lo 0 1 (by omega) (by omega) h
    obtain ⟨hF, ht, hk, hs, hS, hi⟩ := hR
    rw [if_pos (inb_nI (by omega) (by omega)), cl_nI (by omega)]
    obtain ⟨σ', s1, s2, s3, s4⟩ := copy_eq (q0 := 0 + 65 + 2 + 32 * j) hF (by omega) (hs.2.2.2 j (by omega))
    obtain ⟨τ', t1, t2, t3, t4⟩ := save_L (j := j) (by omega) 257 0 F τ (by omega) (by omega)
    rw [show (0 : Int32) = nI 0 from rfl, t1, s1, obd_s, if_pos (inb_nI (by omega) (by omega)), bnd_e, gI_sB]
    have e1 : gI σ' (0 + 1) 6 = gI τ (0 + 1) 1 := by
      unfold gI
      rw [(s3 _ (by omega)).1]
      exact hF.1.2.2.2.1
    rw [e1]
    refine ⟨_, _, _, rfl, rfl, ?_, ?_, ?_, ?_, ?_, ?_⟩
    · show FR _ (0 + 1) (τ'.1 (0 + 1))
      rw [t3 _ (by omega)]
      exact hF.same (fun q h1 h2 => ⟨(s3 q (by omega)).1, (s3 q (by omega)).2.1, by rw [rB_n (by omega)]; exact (s3 q (by omega)).2.2⟩)
    · refine ht.same ?_ ?_ ?_ ?_
      · show σ'.1 (0 + 131) 2 = _
        rw [(s3 _ (by omega)).1]
      · show σ'.1 (0 + 131 + 1) = _
        rw [(s3 _ (by omega)).1]
      · show gI τ' 0 5 = _
        unfold gI
        rw [t3 _ (by omega)]
      · show τ'.1 (0 + 5) = _
        rw [t3 _ (by omega)]
    · intro j' hj'
      have eb : gB (sB τ' (0 + 4) j true) (0 + 4) j' = if j' = j then true else gB τ (0 + 4) j' := by
        rw [gB_sB]
        by_cases hjj : j' = j
        · rw [if_pos ⟨rfl, hjj⟩, if_pos hjj]
        · rw [if_neg (fun z => hjj z.2), if_neg hjj]
          unfold gB
          rw [t2]
      have ec : gB (sB σ' (0 + 66) j true) (0 + 66) j' = if j' = j then true else gB σ (0 + 66) j' := by
        rw [gB_sB]
        by_cases hjj : j' = j
        · rw [if_pos ⟨rfl, hjj⟩, if_pos hjj]
        · rw [if_neg (fun z => hjj z.2), if_neg hjj]
          unfold gB
          rw [(s3 _ (by omega)).2.2]
      rw [eb, ec]
      by_cases hjj : j' = j
      · subst hjj
        rw [if_pos rfl, if_pos rfl]
        refine ⟨rfl, fun _ => ?_⟩
        refine FR.row257 (v := τ.1 (0 + 1)) (s2.same (fun q h1 h2 => ⟨rfl, rfl, rB_n (by omega)⟩)) (fun k hk => ?_)
        show τ'.1 (0 + 3) (257 * j' + k) = _
        rw [t4, if_pos (by omega), show 257 * j' + k - 257 * j' = k by omega]
      · rw [if_neg hjj, if_neg hjj]
        refine ⟨(hk j' hj').1, fun hx => ?_⟩
        refine FR.row257 (v := fun k => gI τ (0 + 3) (257 * j' + k)) (((hk j' hj').2 hx).same (fun q h1 h2 => ⟨(s3 q (by omega)).1, (s3 q (by omega)).2.1, by rw [rB_n (by omega)]; exact (s3 q (by omega)).2.2⟩)) (fun k hk => ?_)
        show τ'.1 (0 + 3) (257 * j' + k) = _
        rw [t4, if_neg (by omega)]
        rfl
    · refine ⟨?_, ?_, fun i hi => ?_, fun j' hj' i hi => ?_⟩
      · show (sB σ' (0 + 66) j true).2.2 (0 + 1) 3 = _
        rw [rB_n (by omega), (s3 _ (by omega)).2.2]
        exact hs.1
      · show (sB σ' (0 + 66) j true).2.2 (0 + 33) 3 = _
        rw [rB_n (by omega), (s3 _ (by omega)).2.2]
        exact hs.2.1
      · rw [gI_sB]
        unfold gI
        rw [(s3 _ (by omega)).1]
        exact hs.2.2.1 i hi
      · rw [gI_sB]
        by_cases hjj : j' = j
        · subst hjj
          exact s2.2.2.2.2 i hi
        · unfold gI
          rw [(s3 _ (by omega)).1]
          exact hs.2.2.2 j' hj' i hi
    · exact hS.same (by show τ'.2.1 (0 + 7) = _; rw [t2])
    · show (sB τ' (0 + 4) j true).2.2 0 6 = _
      rw [rB_n (by omega), t2]
      exact hi
  · rw [if_neg h, if_neg h]
    exact ⟨_, _, _, rfl, rfl, hR⟩
theorem op_restore {σ τ : St} (hR : Rel σ τ) (x1 : Int32) : ∃ r σ' τ', f_X7_restore 0 x1 σ = some (r, σ') ∧ f_X8_restore 0 x1 τ = some (r, τ') ∧ Rel σ' τ' := by
  obtain ⟨F, hFu, eF⟩ := fuel_ex
  unfold f_X7_restore f_X8_restore
  rw [eF, bnd_e, bnd_e, within_in]
  by_cases h : f_X8_in x1 0 1 = true
  · rw [if_pos h, if_pos h]
    obtain ⟨j, -, hj, rfl⟩ := in_lo 0 1 (by omega) (by omega) h
    rw [inb_nI (show j < 2 by omega) (by omega), cl_nI (by omega), if_pos rfl, if_pos rfl, (hR.2.2.1 j (by omega)).1]
    by_cases hx : gB τ (0 + 4) j = true
    · rw [if_pos hx, if_pos hx, if_pos rfl]
      have hF := (hR.2.2.1 j (by omega)).2 hx
      obtain ⟨σ', s1, s2, s3, s4⟩ := copy_eq (q0 := 0 + 1) hF (by omega) hR.1.2.2.2.2
      obtain ⟨τ', t1, t2, t3, t4⟩ := restore_L (j := j) (by omega) 257 0 F τ (by omega) (by omega)
      have hF' : FR σ' (0 + 1) (τ'.1 (0 + 1)) := FR.row257 s2 (fun k hk => by rw [t4, if_pos (by omega)]; rfl)
      rw [show (0 : Int32) = nI 0 from rfl, t1, s1, obd_s, show gI σ' (0 + 1) 6 = gI τ' (0 + 1) 1 from hF'.1.2.2.2.1]
      exact ⟨_, _, _, rfl, rfl, hR.step hF' s3 t2 (hR.2.2.2.2.1.same (by rw [t3])) s4⟩
    · rw [if_neg hx, if_neg hx]
      exact ⟨_, _, _, rfl, rfl, hR⟩
  · rw [if_neg h, if_neg h]
    exact ⟨_, _, _, rfl, rfl, hR⟩
