theorem SpW.congr {r f t v v' : Nat → Int32} (h : SpW r f t v) (hv : ∀ k, 3 ≤ k → k < 10 → v' k = v k) : SpW r f t v' := by
  obtain ⟨ns, h1, h2, h3, h4⟩ := h
  refine ⟨ns, (hv 3 (by omega) (by omega)).trans h1, h2, h3.trans (hv 3 (by omega) (by omega)).symm, fun k hk => ?_⟩
  rw [hv (4 + 2 * k) (by omega) (by omega), hv (5 + 2 * k) (by omega) (by omega)]
  exact h4 k hk
theorem LgW.congr {r g v v' : Nat → Int32} (h : LgW r g v) (hv : ∀ k, 11 ≤ k → k < 92 → v' k = v k) : LgW r g v' := by
  obtain ⟨lg, od, h1, h2, h3, h4, h5, h6⟩ := h
  refine ⟨lg, od, (hv 11 (by omega) (by omega)).trans h1, h2, h3, h4, h5.trans (hv 11 (by omega) (by omega)).symm, fun k hk j hj => ?_⟩
  rw [hv _ (by omega) (by omega)]
  exact h6 k hk j hj
theorem CR.congr {σ σ' : St} {c i : Nat} {v v' : Nat → Int32} (h : CR σ c i v) (he : ∀ q, c ≤ q → q < c + 5 → σ'.1 q = σ.1 q ∧ σ'.2.1 q = σ.2.1 q ∧ σ'.2.2 q = σ.2.2 q) (hv : ∀ k, k < 33 → v' (92 + 33 * i + k) = v (92 + 33 * i + k)) : CR σ' c i v' := by
  unfold CR at h ⊢
  rw [(he c (by omega) (by omega)).1, (he (c + 1) (by omega) (by omega)).1, (he (c + 1 + 1) (by omega) (by omega)).1, (he (c + 3) (by omega) (by omega)).1, (he (c + 4) (by omega) (by omega)).1, (he (c + 3) (by omega) (by omega)).2.1, (he c (by omega) (by omega)).2.2]
  exact h.congr hv
/-- the fleet's own cell changes alone: cells, hour, limit -/
theorem FR.hdr {σ σ' : St} {b : Nat} {v v' : Nat → Int32} (h : FR σ b v) (he : ∀ q, b < q → q < b + 32 → σ'.1 q = σ.1 q ∧ σ'.2.1 q = σ.2.1 q ∧ σ'.2.2 q = σ.2.2 q) (hv : ∀ k, 3 ≤ k → k < 257 → v' k = v k) (h0 : ∃ n, v' 0 = nI n ∧ 1 ≤ n ∧ n ≤ 8) (h2 : ∃ n, v' 2 = nI n ∧ n ≤ 1000) (e5 : gI σ' b 5 = v' 0) (e6 : gI σ' b 6 = v' 1) (e7 : gI σ' b 7 = v' 2) (e4 : gI σ' b 4 = gI σ b 4) : FR σ' b v' := by
  obtain ⟨⟨-, -, -, -, -, h6⟩, hs, hl, ⟨sz, z1, z2, z3⟩, hn⟩ := h
  refine ⟨⟨h0, h2, e5, e6, e7, (e4.trans h6).trans (hv 10 (by omega) (by omega)).symm⟩, ?_, ?_, ⟨sz, (hv 10 (by omega) (by omega)).trans z1, z2, fun i hi => ?_⟩, fun i hi => ?_⟩
  · rw [(he _ (by omega) (by omega)).1, (he _ (by omega) (by omega)).1, (he _ (by omega) (by omega)).1]
    exact hs.congr (fun k h1 h2 => hv k h1 (by omega))
  · rw [(he _ (by omega) (by omega)).1, (he _ (by omega) (by omega)).1]
    exact hl.congr (fun k h1 h2 => hv k (by omega) (by omega))
  · exact (z3 i hi).congr (fun q h1 h2 => he q (by omega) (by omega)) (fun k hk => hv _ (by omega) (by omega))
  · unfold gI
    rw [(he (b + 1 + 1 + 5 * i) (by omega) (by omega)).1]
    exact hn i hi
def frM (τ τ' : St) : Prop := (∀ q, 2 ≤ q → τ'.1 q = τ.1 q) ∧ (∀ j, j ≠ 7 → gI τ' 0 j = gI τ 0 j) ∧ τ'.2.2 = τ.2.2
theorem frM.rf {τ : St} : frM τ τ := ⟨fun _ _ => rfl, fun _ _ => rfl, rfl⟩
theorem frM.tr {τ τ' τ'' : St} (h : frM τ τ') (h' : frM τ' τ'') : frM τ τ'' := ⟨fun q hq => (h'.1 q hq).trans (h.1 q hq), fun j hj => (h'.2.1 j hj).trans (h.2.1 j hj), h'.2.2.trans h.2.2⟩
theorem frM.row {τ : St} {j : Nat} {x : Int32} : frM τ (sI τ (0 + 1) j x) := ⟨fun q hq => rI_n (by omega), fun j _ => gI_n (Or.inl (by omega)), rfl⟩
theorem frM.noted {τ : St} {x : Int32} : frM τ (sI τ 0 7 x) := ⟨fun q hq => rI_n (by omega), fun j hj => gI_n (Or.inr hj), rfl⟩
theorem frM.long {τ : St} {k j : Nat} {x : Int64} : frM τ (sL τ k j x) := ⟨fun q hq => rfl, fun j hj => rfl, rfl⟩
theorem TxR.same {σ σ' τ τ' : St} (h : TxR σ τ) (e1 : σ'.1 (0 + 131) 2 = σ.1 (0 + 131) 2) (e2 : σ'.1 (0 + 131 + 1) = σ.1 (0 + 131 + 1)) (e3 : gI τ' 0 5 = gI τ 0 5) (e4 : τ'.1 (0 + 5) = τ.1 (0 + 5)) : TxR σ' τ' := by
  obtain ⟨len, h1, h2, h3, h4⟩ := h
  refine ⟨len, e3.trans h1, h2, e1.trans h3, fun k hk => ?_⟩
  unfold gI
  rw [e2, e4]
  exact h4 k hk
theorem Rel.step {σ σ' τ τ' : St} (hR : Rel σ τ) (hF : FR σ' (0 + 1) (τ'.1 (0 + 1))) (fc : frC σ σ' (0 + 1)) (fm : frM τ τ') (hS : SetsOK τ') (hb : gB σ' (0 + 1) 3 = gB σ (0 + 1) 3) : Rel σ' τ' := by
  obtain ⟨-, ht, hk, hs, -, hi⟩ := hR
  refine ⟨hF, ht.same ?_ ?_ (fm.2.1 5 (by omega)) (fm.1 _ (by omega)), fun j hj => ⟨?_, fun hx => ?_⟩, ⟨hb.trans hs.1, ?_, fun i hi => ?_, fun j hj i hi => ?_⟩, hS, ?_⟩
  · rw [(fc _ (by omega)).1]
  · rw [(fc _ (by omega)).1]
  · unfold gB
    rw [(fc _ (by omega)).2.2, fm.2.2]
    exact (hk j hj).1
  · have hx' : gB τ (0 + 4) j = true := by unfold gB at hx ⊢; rw [fm.2.2] at hx; exact hx
    have h2 := (hk j hj).2 hx'
    have e : (fun k => gI τ' (0 + 3) (257 * j + k)) = fun k => gI τ (0 + 3) (257 * j + k) := by
      funext k
      unfold gI
      rw [fm.1 _ (by omega)]
    rw [e]
    exact h2.same (fun q h1 h2 => fc q (by omega))
  · unfold gB
    rw [(fc _ (by omega)).2.2]
    exact hs.2.1
  · unfold gI
    rw [(fc _ (by omega)).1]
    exact hs.2.2.1 i hi
  · unfold gI
    rw [(fc _ (by omega)).1]
    exact hs.2.2.2 j hj i hi
  · unfold gB
    rw [fm.2.2]
    exact hi
theorem SetsOK.same {τ τ' : St} (h : SetsOK τ) (e : τ'.2.1 (0 + 7) = τ.2.1 (0 + 7)) : SetsOK τ' := by
  unfold SetsOK gL at h ⊢
  rw [e]
  exact h
theorem op_time {σ τ : St} (hR : Rel σ τ) : ∃ r, f_X7_time 0 σ = r ∧ f_X8_time 0 τ = r ∧ Rel σ τ := ⟨_, rfl, hR.1.1.2.2.2.1.symm, hR⟩
theorem op_changes {σ τ : St} (hR : Rel σ τ) : ∃ r, f_X7_changes 0 σ = r ∧ f_X8_changes 0 τ = r ∧ Rel σ τ := ⟨_, rfl, hR.1.1.2.2.2.2.2.symm, hR⟩
theorem op_entries {σ τ : St} (hR : Rel σ τ) : ∃ r, f_X7_entries 0 σ = r ∧ f_X8_entries 0 τ = r ∧ Rel σ τ := by
  obtain ⟨lg, od, h1, h2, h3, h4, h5, h6⟩ := hR.1.2.2.1
  exact ⟨_, rfl, h5.symm, hR⟩
theorem puts_nI {τ : St} {m : Nat} {x : Int32} (hm : m < 257) : f_X8_puts 0 (nI m) x τ = some (gI τ (0 + 1) m, sI τ (0 + 1) m x) := by
  unfold f_X8_puts
  simp only [bnd, inb_nI hm (by omega), if_true, cl_nI (show m < 10000000 by omega)]
theorem obd_s {α ρ : Type} (a : α) (f : α → Option ρ) : obd (some a) f = f a := rfl
theorem ob2_s {α β ρ : Type} (a : α) (b : β) (f : α → β → Option ρ) : ob2 (some (a, b)) f = f a b := rfl
theorem bn2_s {α β ρ : Type} (a : α) (b : β) (f : α → β → ρ) : bn2 (a, b) f = f a b := rfl
theorem opt_s {ρ : Type} (q : Nat) (z : ρ) (f : Nat → ρ) : opt (some q) z f = f q := rfl
theorem opt_n {ρ : Type} (z : ρ) (f : Nat → ρ) : opt none z f = z := rfl
theorem bnd_d {α ρ : Type} (a : α) (f : α → ρ) : bnd a f = f a := rfl
theorem op_setLimit {σ τ : St} (hR : Rel σ τ) (x1 : Int32) : ∃ r σ' τ', f_X7_setLimit 0 x1 σ = (r, σ') ∧ f_X8_setLimit 0 x1 τ = some (r, τ') ∧ Rel σ' τ' := by
  unfold f_X7_setLimit f_X8_setLimit
  simp only [bnd_d, within_in]
  by_cases h : f_X8_in x1 0 1000 = true
  · rw [if_pos h, if_pos h]
    obtain ⟨j, -, hj, rfl⟩ := in_lo 0 1000 (by omega) (by omega) h
    have hF := hR.1
    rw [show (2 : Int32) = nI 2 from rfl, puts_nI (by omega), ob2_s, show gI τ (0 + 1) 2 = gI σ (0 + 1) 7 from hF.1.2.2.2.2.1.symm]
    refine ⟨_, _, _, rfl, rfl, ?_⟩
    refine hR.step ?_ (frC.I (by omega)) frM.row (hR.2.2.2.2.1.same rfl) rfl
    rw [rI_s]
    refine hF.hdr (fun q h1 h2 => ⟨rI_n (by omega), rfl, rfl⟩) (fun k h1 h2 => upd_n (by omega)) ?_ ⟨j, upd_s _ _ _, hj⟩ ?_ ?_ ?_ ?_
    · rw [upd_n (by omega)]; exact hF.1.1
    · rw [gI_n (Or.inr (by omega)), upd_n (by omega)]; exact hF.1.2.2.1
    · rw [gI_n (Or.inr (by omega)), upd_n (by omega)]; exact hF.1.2.2.2.1
    · rw [gI_s, upd_s]
    · rw [gI_n (Or.inr (by omega))]
  · rw [if_neg h, if_neg h]
    exact ⟨_, _, _, rfl, rfl, hR⟩
/-- all but the fleet's own cell may change -/
theorem FR.mod {σ σ' : St} {b : Nat} {v v' : Nat → Int32} (h : FR σ b v) (hb : σ'.1 b = σ.1 b) (h0 : v' 0 = v 0) (h1 : v' 1 = v 1) (h2 : v' 2 = v 2) (h10 : v' 10 = v 10) (hs : SpW (σ'.1 (b + 27)) (σ'.1 (b + 27 + 1)) (σ'.1 (b + 27 + 2)) v') (hl : LgW (σ'.1 (b + 30)) (σ'.1 (b + 30 + 1)) v') (hc : ∀ sz, v 10 = nI sz → sz ≤ 5 → ∀ i, i < sz → CR σ' (b + 1 + 1 + 5 * i) i v') (hn : ∀ i, i < 5 → gI σ' (b + 1 + 1 + 5 * i) 0 = gI σ (b + 1 + 1 + 5 * i) 0) : FR σ' b v' := by
  obtain ⟨⟨a0, a2, a3, a4, a5, a6⟩, -, -, ⟨sz, z1, z2, z3⟩, hn0⟩ := h
  have e : ∀ j, gI σ' b j = gI σ b j := fun j => by unfold gI; rw [hb]
  refine ⟨⟨by rw [h0]; exact a0, by rw [h2]; exact a2, by rw [e, h0]; exact a3, by rw [e, h1]; exact a4, by rw [e, h2]; exact a5, by rw [e, h10]; exact a6⟩, hs, hl, ⟨sz, h10.trans z1, z2, hc sz z1 z2⟩, fun i hi => (hn i hi).trans (hn0 i hi)⟩
theorem FR.sz {σ : St} {b : Nat} {v : Nat → Int32} (h : FR σ b v) : ∃ sz, v 10 = nI sz ∧ gI σ b 4 = nI sz ∧ sz ≤ 5 ∧ ∀ i, i < sz → CR σ (b + 1 + 1 + 5 * i) i v := by
  obtain ⟨⟨a0, a2, a3, a4, a5, a6⟩, -, -, ⟨sz, z1, z2, z3⟩, hn0⟩ := h
  exact ⟨sz, z1, a6.trans z1, z2, z3⟩
theorem FR.crs {σ : St} {b : Nat} {v : Nat → Int32} (h : FR σ b v) : ∀ sz, v 10 = nI sz → sz ≤ 5 → ∀ i, i < sz → CR σ (b + 1 + 1 + 5 * i) i v := by
  intro sz e hsz i hi
  obtain ⟨sz', z1, -, z2, z3⟩ := h.sz
  have : sz = sz' := (eq_nI (by omega) (by omega)).mp (e.symm.trans z1)
  exact z3 i (by omega)
theorem op_thaw {σ τ : St} (hR : Rel σ τ) : ∃ r σ' τ', f_X7_thaw 0 σ = (r, σ') ∧ f_X8_thaw 0 τ = some (r, τ') ∧ Rel σ' τ' := by
  unfold f_X7_thaw f_X8_thaw
  have hF := hR.1
  obtain ⟨ns, n1, n2, n3, n4⟩ := hF.2.1
  rw [show (3 : Int32) = nI 3 from rfl, puts_nI (by omega), ob2_s]
  simp only [bnd_d]
  rw [show gI τ (0 + 1) 3 = gI σ (0 + 1 + 27) 2 from n3.symm]
  refine ⟨_, _, _, rfl, rfl, ?_⟩
  refine hR.step ?_ (frC.I (by omega)) frM.row (hR.2.2.2.2.1.same rfl) rfl
  rw [rI_s]
  refine hF.mod (rI_n (by omega)) (upd_n (by omega)) (upd_n (by omega)) (upd_n (by omega)) (upd_n (by omega)) ?_ ?_ ?_ ?_
  · refine ⟨0, upd_s _ _ _, by omega, ?_, fun k hk => absurd hk (by omega)⟩
    rw [rI_s, upd_s, upd_s]
  · rw [rI_n (by omega), rI_n (by omega)]
    exact hF.2.2.1.congr (fun k h1 h2 => upd_n (by omega))
  · intro sz z1 z2 i hi
    exact (hF.crs sz z1 z2 i hi).congr (fun q h1 h2 => ⟨rI_n (by omega), rfl, rfl⟩) (fun k hk => upd_n (by omega))
  · intro i hi
    exact gI_n (Or.inl (by omega))
theorem op_clearText {σ τ : St} (hR : Rel σ τ) : ∃ r σ' τ', f_X7_clearText 0 σ = (r, σ') ∧ f_X8_clearText 0 τ = (r, τ') ∧ Rel σ' τ' := by
  unfold f_X7_clearText f_X8_clearText
  simp only [bnd_d]
  obtain ⟨hF, ⟨len, t1, t2, t3, t4⟩, hk, hs, hS, hi⟩ := hR
  rw [t1, t3]
  refine ⟨_, _, _, rfl, rfl, ?_, ?_, ?_, ?_, hS, hi⟩
  · rw [rI_n (by omega)]
    exact hF.same (fun q h1 h2 => ⟨rI_n (by omega), rfl, rfl⟩)
  · exact ⟨0, gI_s _ _ _ _, by omega, gI_s _ _ _ _, fun k hk => absurd hk (by omega)⟩
  · intro j hj
    refine ⟨(hk j hj).1, fun hx => ?_⟩
    have e : (fun k => gI (sI τ 0 5 0) (0 + 3) (257 * j + k)) = fun k => gI τ (0 + 3) (257 * j + k) := funext fun k => gI_n (Or.inl (by omega))
    rw [e]
    exact ((hk j hj).2 hx).same (fun q h1 h2 => ⟨rI_n (by omega), rfl, rfl⟩)
  · refine ⟨hs.1, hs.2.1, fun i hi => ?_, fun j hj i hi => ?_⟩
    · rw [gI_n (Or.inl (by omega))]; exact hs.2.2.1 i hi
    · rw [gI_n (Or.inl (by omega))]; exact hs.2.2.2 j hj i hi
theorem b7 : ∀ n, n < 128 → ((nI n).toInt8.toInt32).toInt8.toInt32 = nI n := by decide +kernel
theorem op_append {σ τ : St} (hR : Rel σ τ) (x1 : Int32) : ∃ r σ' τ', f_X7_append 0 x1 σ = some (r, σ') ∧ f_X8_append 0 x1 τ = some (r, τ') ∧ Rel σ' τ' := by
  unfold f_X7_append f_X8_append
  simp only [bnd_d, within_in]
  by_cases h : f_X8_in x1 0 127 = true
  · rw [if_pos h, if_pos h]
    obtain ⟨ch, -, hch, rfl⟩ := in_lo 0 127 (by omega) (by omega) h
    have hR0 := hR
    obtain ⟨hF, ⟨len, t1, t2, t3, t4⟩, hk, hs, hS, hi⟩ := hR
    unfold f_X5_put
    rw [t1, t3]
    have e60 : (60 : Int32) = nI 60 := rfl
    rw [if_neg (nI_pos (by omega)), e60]
    by_cases hl : len = 60
    · subst hl
      rw [if_neg (by rw [lt_nI (by omega) (by omega)]; omega), if_pos rfl, ob2_s, if_neg (by decide)]
      exact ⟨_, _, _, rfl, rfl, hR0⟩
    · rw [if_pos ((lt_nI (by omega) (by omega)).mpr (by omega)), if_neg (by rw [eq_nI (by omega) (by omega)]; omega)]
      simp only [bnd_d]
      rw [if_pos (inb_nI (by omega) (by omega)), if_pos (inb_nI (by omega) (by omega)), ob2_s, if_pos rfl, cl_nI (by omega)]
      have e1 : gI (sI σ (0 + 131 + 1) len ((nI ch).toInt8.toInt32).toInt8.toInt32) (0 + 131) 2 = nI len := by rw [gI_n (Or.inl (by omega))]; exact t3
      have e2 : gI (sI τ (0 + 5) len (nI ch)) 0 5 = nI len := by rw [gI_n (Or.inl (by omega))]; exact t1
      rw [e1, e2, gI_s, gI_s, nI_1, b7 ch (by omega)]
      refine ⟨_, _, _, rfl, rfl, ?_, ?_, ?_, ?_, hS, hi⟩
      · rw [rI_n (by omega), rI_n (by omega)]
        exact hF.same (fun q h1 h2 => ⟨by rw [rI_n (by omega), rI_n (by omega)], rfl, rfl⟩)
      · refine ⟨len + 1, gI_s _ _ _ _, by omega, gI_s _ _ _ _, fun k hk2 => ?_⟩
        rw [gI_n (Or.inl (by omega)), gI_n (k := 0) (Or.inl (by omega))]
        by_cases hkl : k = len
        · subst hkl
          exact ⟨ch, hch, gI_s _ _ _ _, gI_s _ _ _ _⟩
        · rw [gI_n (Or.inr hkl), gI_n (Or.inr hkl)]
          exact t4 k (by omega)
      · intro j hj
        refine ⟨(hk j hj).1, fun hx => ?_⟩
        have e : (fun k => gI (sI (sI τ (0 + 5) len (nI ch)) 0 5 (nI (len + 1))) (0 + 3) (257 * j + k)) = fun k => gI τ (0 + 3) (257 * j + k) := funext fun k => by rw [gI_n (Or.inl (by omega)), gI_n (Or.inl (by omega))]
        rw [e]
        exact ((hk j hj).2 hx).same (fun q h1 h2 => ⟨by rw [rI_n (by omega), rI_n (by omega)], rfl, rfl⟩)
      · refine ⟨hs.1, hs.2.1, fun i hi => ?_, fun j hj i hi => ?_⟩
        · rw [gI_n (Or.inl (by omega)), gI_n (Or.inl (by omega))]; exact hs.2.2.1 i hi
        · rw [gI_n (Or.inl (by omega)), gI_n (Or.inl (by omega))]; exact hs.2.2.2 j hj i hi
  · rw [if_neg h, if_neg h]
    exact ⟨_, _, _, rfl, rfl, hR⟩
