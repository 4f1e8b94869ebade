theorem fuel_ex : ∃ F, 5000 ≤ F ∧ sr_fuel = F := ⟨sr_fuel, Nat.le_of_eq sr_fuel_eq.symm, rfl⟩
/-- is the hour h frozen by the spans k .. k + m - 1 -/
noncomputable def frz (v : Nat → Int32) (h : Int32) : Nat → Nat → Bool
  | _, 0 => false
  | k, m + 1 => f_X8_in h (v (4 + 2 * k)) (v (5 + 2 * k) - 1) || frz v h (k + 1) m
theorem in_half {h a : Int32} {u : Nat} (h1 : 1 ≤ u) (h2 : u ≤ 168) : f_X8_in h a (nI u - 1) = (if h < a then false else if nI u ≤ h then false else true) := by
  have e : (nI u - 1 < h) ↔ nI u ≤ h := by
    rw [Int32.lt_iff_toInt_lt, Int32.le_iff_toInt_le, nI_toInt (by omega)]
    have : (nI u - 1).toInt = (u : Int) - 1 := pk_sub_toInt (a := u) (b := 1) (by omega) (by omega)
    omega
  unfold f_X8_in
  simp only [e]
theorem covers_L {σ : St} {q : Nat} {v : Nat → Int32} {h : Int32} {ns : Nat} (hns : ns ≤ 3) (e2 : gI σ q 2 = nI ns) (hk : ∀ k, k < ns → gI σ (q + 1) k = v (4 + 2 * k) ∧ gI σ (q + 2) k = v (5 + 2 * k) ∧ ∃ u : Nat, 1 ≤ u ∧ u ≤ 168 ∧ v (5 + 2 * k) = nI u) : ∀ (m k n : Nat), k + m = ns → m < n → it1 (f_X2_covers_L2 σ q h) n (nI k) = some (frz v h k m) := by
  intro m
  induction m with
  | zero =>
    intro k n hkm hn
    obtain ⟨n, rfl⟩ : ∃ n', n = n' + 1 := ⟨n - 1, by omega⟩
    show f_X2_covers_L2 σ q h (it1 (f_X2_covers_L2 σ q h) n) (nI k) = _
    unfold f_X2_covers_L2
    rw [e2, if_pos ((le_nI (by omega) (by omega)).mpr (by omega))]
    rfl
  | succ m ih =>
    intro k n hkm hn
    obtain ⟨n, rfl⟩ : ∃ n', n = n' + 1 := ⟨n - 1, by omega⟩
    show f_X2_covers_L2 σ q h (it1 (f_X2_covers_L2 σ q h) n) (nI k) = _
    obtain ⟨a1, a2, u, u1, u2, u3⟩ := hk k (by omega)
    have ih' := ih (k + 1) n (by omega) (by omega)
    generalize it1 (f_X2_covers_L2 σ q h) n = g at ih' ⊢
    unfold f_X2_covers_L2
    rw [e2, if_neg (by rw [le_nI (by omega) (by omega)]; omega), show (3 : Int32) = nI 3 from rfl, if_neg (by rw [le_nI (by omega) (by omega)]; omega), if_pos (inb_nI (by omega) (by omega)), if_pos (inb_nI (by omega) (by omega)), cl_nI (by omega)]
    simp only [bnd_d, nI_1]
    rw [ih', a1, a2]
    show _ = some (f_X8_in h (v (4 + 2 * k)) (v (5 + 2 * k) - 1) || frz v h (k + 1) m)
    rw [u3, in_half u1 u2]
    by_cases c1 : h < v (4 + 2 * k)
    · simp [c1]
    · by_cases c2 : nI u ≤ h <;> simp [c1, c2]
theorem frozen_L {τ : St} {v : Nat → Int32} {h : Int32} {ns : Nat} (hns : ns ≤ 3) (ev : v = τ.1 (0 + 1)) (e3 : v 3 = nI ns) : ∀ (m k n : Nat) (b : Bool), k + m = ns → m < n → it2 (f_X8_isFrozenHour_L4 τ 0 h) n b (nI k) = some (b || frz v h k m) := by
  have er : ∀ j, gI τ (0 + 1) j = v j := fun j => by rw [ev]; rfl
  intro m
  induction m with
  | zero =>
    intro k n b hkm hn
    obtain ⟨n, rfl⟩ : ∃ n', n = n' + 1 := ⟨n - 1, by omega⟩
    show f_X8_isFrozenHour_L4 τ 0 h (it2 (f_X8_isFrozenHour_L4 τ 0 h) n) b (nI k) = _
    unfold f_X8_isFrozenHour_L4
    rw [show (3 : Int32).toNatClampNeg = 3 from rfl, er, e3, if_pos ((le_nI (by omega) (by omega)).mpr (by omega))]
    simp [frz]
  | succ m ih =>
    intro k n b hkm hn
    obtain ⟨n, rfl⟩ : ∃ n', n = n' + 1 := ⟨n - 1, by omega⟩
    show f_X8_isFrozenHour_L4 τ 0 h (it2 (f_X8_isFrozenHour_L4 τ 0 h) n) b (nI k) = _
    have ih1 := ih (k + 1) n true (by omega) (by omega)
    have ih2 := ih (k + 1) n false (by omega) (by omega)
    generalize it2 (f_X8_isFrozenHour_L4 τ 0 h) n = g at ih1 ih2 ⊢
    unfold f_X8_isFrozenHour_L4
    rw [show (3 : Int32).toNatClampNeg = 3 from rfl, er, e3, if_neg (by rw [le_nI (by omega) (by omega)]; omega)]
    have i1 : (4 : Int32) + 2 * nI k = nI (4 + 2 * k) := by show nI 4 + nI 2 * nI k = _; rw [pk_mul, nI_add]
    have i2 : (4 : Int32) + 2 * nI k + 1 = nI (5 + 2 * k) := by rw [i1, nI_1]; congr 1; omega
    simp only [bnd_d, nI_1, i1, i2]
    rw [show 4 + 2 * k + 1 = 5 + 2 * k by omega, if_pos (inb_nI (by omega) (by omega)), if_pos (inb_nI (by omega) (by omega)), cl_nI (by omega), cl_nI (by omega), er, er, ih1, ih2]
    show _ = some (b || (f_X8_in h (v (4 + 2 * k)) (v (5 + 2 * k) - 1) || frz v h (k + 1) m))
    cases b
    · cases f_X8_in h (v (4 + 2 * k)) (v (5 + 2 * k) - 1) <;> simp
    · simp
theorem covers_eq {σ : St} {b : Nat} {v : Nat → Int32} (h : FR σ b v) (x : Int32) : f_X2_covers (b + 27) x σ = some (frz v x 0 (v 3).toNatClampNeg) := by
  obtain ⟨ns, n1, n2, n3, n4⟩ := h.2.1
  rw [n1, cl_nI (by omega)]
  obtain ⟨F, hFu, eF⟩ := fuel_ex
  unfold f_X2_covers
  rw [eF]
  exact covers_L (ns := ns) (by omega) (n3.trans n1) (fun k hk => n4 k hk) ns 0 F (by omega) (by omega)
theorem frozen_eq {τ : St} (h3 : ∃ ns, τ.1 (0 + 1) 3 = nI ns ∧ ns ≤ 3) (x : Int32) : f_X8_isFrozenHour 0 x τ = some (frz (τ.1 (0 + 1)) x 0 (τ.1 (0 + 1) 3).toNatClampNeg) := by
  obtain ⟨ns, n1, n2⟩ := h3
  rw [n1, cl_nI (by omega)]
  obtain ⟨F, hFu, eF⟩ := fuel_ex
  unfold f_X8_isFrozenHour
  rw [eF, show (0 : Int32) = nI 0 from rfl, frozen_L (ns := ns) (by omega) rfl n1 ns 0 F false (by omega) (by omega)]
  simp
theorem FR.ns {σ : St} {b : Nat} {v : Nat → Int32} (h : FR σ b v) : ∃ ns, v 3 = nI ns ∧ ns ≤ 3 := by
  obtain ⟨ns, n1, n2, n3, n4⟩ := h.2.1
  exact ⟨ns, n1, n2⟩
theorem op_isFrozen {σ τ : St} (hR : Rel σ τ) (x1 : Int32) : ∃ r, f_X7_isFrozen 0 x1 σ = some r ∧ f_X8_isFrozen 0 x1 τ = some r ∧ Rel σ τ := by
  unfold f_X7_isFrozen f_X8_isFrozen
  simp only [bnd_d, within_in]
  rw [covers_eq hR.1, frozen_eq hR.1.ns]
  by_cases h : f_X8_in x1 0 167 = true
  · simp only [h, if_true, obd_s]
    cases frz (τ.1 (0 + 1)) x1 0 (τ.1 (0 + 1) 3).toNatClampNeg
    · exact ⟨_, rfl, rfl, hR⟩
    · exact ⟨_, rfl, rfl, hR⟩
  · simp only [h]
    exact ⟨_, rfl, rfl, hR⟩
theorem op_freeze {σ τ : St} (hR : Rel σ τ) (x1 x2 : Int32) : ∃ r σ' τ', f_X7_freeze 0 x1 x2 σ = some (r, σ') ∧ f_X8_freeze 0 x1 x2 τ = some (r, τ') ∧ Rel σ' τ' := by
  unfold f_X7_freeze f_X8_freeze
  simp only [bnd_d, within_in]
  by_cases h : f_X8_in x1 0 167 = true
  · rw [if_pos h, if_pos h]
    by_cases g : f_X8_in x2 (x1 + 1) 168 = true
    · rw [if_pos g, if_pos g]
      obtain ⟨f, -, hf, rfl⟩ := in_lo 0 167 (by omega) (by omega) h
      rw [nI_1] at g
      obtain ⟨u, u1, u2, rfl⟩ := in_lo (f + 1) 168 (by omega) (by omega) g
      have hF := hR.1
      obtain ⟨ns, n1, n2, n3, n4⟩ := hF.2.1
      have er : ∀ j, gI τ (0 + 1) j = τ.1 (0 + 1) j := fun j => rfl
      unfold f_X2_put
      have n3' : gI σ (0 + 1 + 27) 2 = nI ns := n3.trans n1
      rw [n3', if_neg (nI_pos (by omega)), show (3 : Int32).toNatClampNeg = 3 from rfl, er, n1, show (3 : Int32) = nI 3 from rfl]
      by_cases hns : ns = 3
      · subst hns
        rw [if_neg (by rw [lt_nI (by omega) (by omega)]; omega), if_pos rfl, ob2_s, if_neg (by decide)]
        exact ⟨_, _, _, rfl, rfl, hR⟩
      · rw [if_pos ((lt_nI (by omega) (by omega)).mpr (by omega)), if_neg (by rw [eq_nI (by omega) (by omega)]; omega)]
        have i1 : (4 : Int32) + 2 * nI ns = nI (4 + 2 * ns) := by show nI 4 + nI 2 * nI ns = _; rw [pk_mul, nI_add]
        simp only [bnd_d]
        rw [i1, if_pos (inb_nI (by omega) (by omega)), if_pos (inb_nI (show 4 + 2 * ns < 257 by omega) (by omega)), cl_nI (show ns < 10000000 by omega), cl_nI (show 4 + 2 * ns < 10000000 by omega)]
        have e1 : gI (sI σ (0 + 1 + 27 + 1) ns (nI f)) (0 + 1 + 27) 2 = nI ns := by rw [gI_n (Or.inl (by omega))]; exact n3'
        have e2 : gI (sI τ (0 + 1) (4 + 2 * ns) (nI f)) (0 + 1) 3 = nI ns := by rw [gI_n (Or.inr (by omega))]; exact n1
        rw [e1, e2, i1, nI_1, if_pos (inb_nI (by omega) (by omega)), if_pos (inb_nI (show 4 + 2 * ns + 1 < 257 by omega) (by omega)), cl_nI (show ns < 10000000 by omega), cl_nI (show 4 + 2 * ns + 1 < 10000000 by omega), ob2_s, if_pos rfl]
        have e3 : gI (sI (sI σ (0 + 1 + 27 + 1) ns (nI f)) (0 + 1 + 27 + 2) ns (nI u)) (0 + 1 + 27) 2 = nI ns := by rw [gI_n (Or.inl (by omega))]; exact e1
        have e4 : gI (sI (sI τ (0 + 1) (4 + 2 * ns) (nI f)) (0 + 1) (4 + 2 * ns + 1) (nI u)) (0 + 1) 3 = nI ns := by rw [gI_n (Or.inr (by omega))]; exact e2
        rw [e3, e4, nI_1, gI_s, gI_s]
        refine ⟨_, _, _, rfl, rfl, ?_⟩
        refine hR.step ?_ (((frC.I (by omega)).tr (frC.I (by omega))).tr (frC.I (by omega))) ((frM.row.tr frM.row).tr frM.row) (hR.2.2.2.2.1.same rfl) rfl
        have ev : (sI (sI (sI τ (0 + 1) (4 + 2 * ns) (nI f)) (0 + 1) (4 + 2 * ns + 1) (nI u)) (0 + 1) 3 (nI (ns + 1))).1 (0 + 1) = upd (upd (upd (τ.1 (0 + 1)) (4 + 2 * ns) (nI f)) (4 + 2 * ns + 1) (nI u)) 3 (nI (ns + 1)) := by rw [rI_s, rI_s, rI_s]
        rw [ev]
        refine hF.mod (by rw [rI_n (by omega), rI_n (by omega), rI_n (by omega)]) ?_ ?_ ?_ ?_ ?_ ?_ ?_ ?_
        · rw [upd_n (by omega), upd_n (by omega), upd_n (by omega)]
        · rw [upd_n (by omega), upd_n (by omega), upd_n (by omega)]
        · rw [upd_n (by omega), upd_n (by omega), upd_n (by omega)]
        · rw [upd_n (by omega), upd_n (by omega), upd_n (by omega)]
        · refine ⟨ns + 1, upd_s _ _ _, by omega, ?_, fun k hk => ?_⟩
          · rw [rI_s, upd_s, upd_s]
          · rw [rI_n (by omega), rI_n (by omega), rI_s, rI_n (k := 0 + 1 + 27) (by omega), rI_s, rI_n (k := 0 + 1 + 27 + 1) (by omega), upd_n (k := 3) (by omega), upd_n (k := 3) (by omega)]
            by_cases hkn : k = ns
            · subst hkn
              refine ⟨?_, ?_, u, by omega, by omega, ?_⟩
              · rw [upd_s, upd_n (by omega), upd_s]
              · rw [upd_s, show 5 + 2 * k = 4 + 2 * k + 1 by omega, upd_s]
              · rw [show 5 + 2 * k = 4 + 2 * k + 1 by omega, upd_s]
            · obtain ⟨a1, a2, a3⟩ := n4 k (by omega)
              rw [upd_n hkn, upd_n hkn, upd_n (show 4 + 2 * k ≠ 4 + 2 * ns + 1 by omega), upd_n (show 4 + 2 * k ≠ 4 + 2 * ns by omega), upd_n (show 5 + 2 * k ≠ 4 + 2 * ns + 1 by omega), upd_n (show 5 + 2 * k ≠ 4 + 2 * ns by omega)]
              exact ⟨a1, a2, a3⟩
        · rw [rI_n (by omega), rI_n (by omega), rI_n (by omega), rI_n (by omega), rI_n (by omega), rI_n (by omega)]
          exact hF.2.2.1.congr (fun k h1 h2 => by rw [upd_n (by omega), upd_n (by omega), upd_n (by omega)])
        · intro sz z1 z2 i hi
          exact (hF.crs sz z1 z2 i hi).congr (fun q h1 h2 => ⟨by rw [rI_n (by omega), rI_n (by omega), rI_n (by omega)], rfl, rfl⟩) (fun k hk => by rw [upd_n (by omega), upd_n (by omega), upd_n (by omega)])
        · intro i hi
          rw [gI_n (Or.inl (by omega)), gI_n (Or.inl (by omega)), gI_n (Or.inl (by omega))]
    · rw [if_neg g, if_neg g]
      exact ⟨_, _, _, rfl, rfl, hR⟩
  · rw [if_neg h, if_neg h]
    exact ⟨_, _, _, rfl, rfl, hR⟩
theorem begin_L (x1 : Int32) : ∀ (m k n : Nat) (x2 x3 : Int32) (τ : St), k + m = 257 → m < n → ∃ τ', it4 (f_X8_begin_L30 0 x1) n x2 x3 (nI k) τ = some (x3, τ') ∧ frM τ τ' ∧ τ'.2.1 = τ.2.1 ∧ ∀ j, j < 257 → τ'.1 (0 + 1) j = if j = 0 then x1 else if j = 2 then x2 else if k ≤ j then 0 else τ.1 (0 + 1) j := by
  intro m
  induction m with
  | zero =>
    intro k n x2 x3 τ hkm hn
    obtain ⟨n, rfl⟩ : ∃ n', n = n' + 1 := ⟨n - 1, by omega⟩
    refine ⟨sI (sI τ (0 + 1) 0 x1) (0 + 1) 2 x2, ?_, frM.row.tr frM.row, rfl, fun j hj => ?_⟩
    · show f_X8_begin_L30 0 x1 (it4 (f_X8_begin_L30 0 x1) n) x2 x3 (nI k) τ = _
      unfold f_X8_begin_L30
      rw [show (257 : Int32) = nI 257 from rfl, if_pos ((le_nI (by omega) (by omega)).mpr (by omega))]
      rfl
    · rw [rI_s, rI_s]
      by_cases h2 : j = 2
      · subst h2; rw [upd_s]; rfl
      · rw [upd_n h2]
        by_cases h0 : j = 0
        · subst h0; rw [upd_s]; rfl
        · rw [upd_n h0, if_neg h0, if_neg h2, if_neg (by omega)]
  | succ m ih =>
    intro k n x2 x3 τ hkm hn
    obtain ⟨n, rfl⟩ : ∃ n', n = n' + 1 := ⟨n - 1, by omega⟩
    obtain ⟨τ', e1, e2, e3, e4⟩ := ih (k + 1) n x2 x3 (sI τ (0 + 1) k 0) (by omega) (by omega)
    refine ⟨τ', ?_, frM.row.tr e2, e3, fun j hj => ?_⟩
    · show f_X8_begin_L30 0 x1 (it4 (f_X8_begin_L30 0 x1) n) x2 x3 (nI k) τ = _
      generalize it4 (f_X8_begin_L30 0 x1) n = g at e1 ⊢
      unfold f_X8_begin_L30
      rw [show (257 : Int32) = nI 257 from rfl, if_neg (by rw [le_nI (by omega) (by omega)]; omega), if_pos (inb_nI (by omega) (by omega)), cl_nI (by omega)]
      simp only [bnd_d, nI_1]
      exact e1
    · rw [e4 j hj]
      by_cases h0 : j = 0
      · rw [if_pos h0, if_pos h0]
      · rw [if_neg h0, if_neg h0]
        by_cases h2 : j = 2
        · rw [if_pos h2, if_pos h2]
        · rw [if_neg h2, if_neg h2]
          by_cases hk : k + 1 ≤ j
          · rw [if_pos hk, if_pos (by omega)]
          · rw [if_neg hk, rI_s]
            by_cases hjk : j = k
            · subst hjk; rw [upd_s, if_pos (by omega)]
            · rw [upd_n hjk, if_neg (by omega)]
theorem begin_FR {σ : St} {v v' : Nat → Int32} {b c : Nat} (hF : FR σ b v) (c1 : 1 ≤ c) (c2 : c ≤ 8) (e4 : ∀ j, j < 257 → v' j = if j = 0 then nI c else if j = 2 then v 2 else 0) : FR (f_X1_beginAnew b (nI c) σ) b v' := by
  have v0 : v' 0 = nI c := by rw [e4 0 (by omega), if_pos rfl]
  have v1 : v' 1 = 0 := by rw [e4 1 (by omega), if_neg (by omega), if_neg (by omega)]
  have v2 : v' 2 = v 2 := by rw [e4 2 (by omega), if_neg (by omega), if_pos rfl]
  have v3 : v' 3 = 0 := by rw [e4 3 (by omega), if_neg (by omega), if_neg (by omega)]
  have v10 : v' 10 = 0 := by rw [e4 10 (by omega), if_neg (by omega), if_neg (by omega)]
  have v11 : v' 11 = 0 := by rw [e4 11 (by omega), if_neg (by omega), if_neg (by omega)]
  unfold f_X1_beginAnew f_X3_empty
  simp only [bnd_d]
  refine ⟨⟨⟨c, v0, c1, c2⟩, ?_, ?_, ?_, ?_, ?_⟩, ⟨0, v3, by omega, ?_, fun k hk => absurd hk (by omega)⟩, ⟨0, 0, v11, by omega, by omega, ?_, ?_, fun k hk => absurd hk (by omega)⟩, ⟨0, v10, by omega, fun i hi => absurd hi (by omega)⟩, fun i hi => ?_⟩
  · rw [v2]
    exact hF.1.2.1
  · rw [v0, gI_n (Or.inl (by omega)), gI_n (Or.inl (by omega)), gI_n (Or.inl (by omega)), gI_n (Or.inr (by omega)), gI_n (Or.inr (by omega)), gI_s]
  · rw [v1, gI_n (Or.inl (by omega)), gI_n (Or.inl (by omega)), gI_n (Or.inl (by omega)), gI_s]
  · rw [v2, gI_n (Or.inl (by omega)), gI_n (Or.inl (by omega)), gI_n (Or.inl (by omega)), gI_n (Or.inr (by omega)), gI_n (Or.inr (by omega)), gI_n (Or.inr (by omega))]
    exact hF.1.2.2.2.2.1
  · rw [v10, gI_n (Or.inl (by omega)), gI_n (Or.inl (by omega)), gI_n (Or.inl (by omega)), gI_n (Or.inr (by omega)), gI_s]
  · rw [v3, rI_n (by omega), rI_n (by omega), rI_s, upd_s]
  · rw [rI_s, upd_n (by omega), rI_s, upd_s]; rfl
  · rw [v11, rI_s, upd_s]
  · rw [gI_n (Or.inl (by omega)), gI_n (Or.inl (by omega)), gI_n (Or.inl (by omega)), gI_n (Or.inl (by omega)), gI_n (Or.inl (by omega)), gI_n (Or.inl (by omega))]
    exact hF.2.2.2.2 i hi
theorem begin_frC {σ : St} {b : Nat} {x : Int32} : frC σ (f_X1_beginAnew b x σ) b := by
  unfold f_X1_beginAnew f_X3_empty
  simp only [bnd_d]
  exact (((((frC.I (by omega)).tr (frC.I (by omega))).tr (frC.I (by omega))).tr (frC.I (by omega))).tr (frC.I (by omega))).tr (frC.I (by omega))
theorem begin_B {σ : St} {b : Nat} {x : Int32} : (f_X1_beginAnew b x σ).2.2 = σ.2.2 := rfl
theorem op_begin {σ τ : St} (hR : Rel σ τ) (x1 : Int32) : ∃ r σ' τ', f_X7_begin 0 x1 σ = (r, σ') ∧ f_X8_begin 0 x1 τ = some (r, τ') ∧ Rel σ' τ' := by
  obtain ⟨F, hFu, eF⟩ := fuel_ex
  unfold f_X7_begin f_X8_begin
  rw [eF]
  simp only [bnd_d, within_in]
  by_cases h : f_X8_in x1 1 8 = true
  · rw [if_pos h, if_pos h]
    obtain ⟨c, c1, c2, rfl⟩ := in_lo 1 8 (by omega) (by omega) h
    have hF := hR.1
    obtain ⟨τ', e1, e2, e3, e4⟩ := begin_L (nI c) 257 0 F (gI τ (0 + 1) 2) (gI τ (0 + 1) 0) τ (by omega) (by omega)
    have z0 : Int32.toNatClampNeg 0 = 0 := rfl
    have z2 : Int32.toNatClampNeg 2 = 2 := rfl
    rw [z0, z2]
    have e1' : it4 (f_X8_begin_L30 0 (nI c)) F (gI τ (0 + 1) 2) (gI τ (0 + 1) 0) 0 τ = some (gI σ (0 + 1) 5, τ') := by
      rw [hF.1.2.2.1]
      exact e1
    rw [e1']
    refine ⟨_, _, _, rfl, rfl, ?_⟩
    refine hR.step (begin_FR hF c1 c2 (fun j hj => ?_)) begin_frC e2 (hR.2.2.2.2.1.same (by rw [e3])) (by unfold gB; rw [begin_B])
    rw [e4 j hj]
    by_cases h0 : j = 0
    · rw [if_pos h0, if_pos h0]
    · rw [if_neg h0, if_neg h0]
      by_cases h2 : j = 2
      · rw [if_pos h2, if_pos h2]; rfl
      · rw [if_neg h2, if_neg h2, if_pos (by omega)]
  · rw [if_neg h, if_neg h]
    exact ⟨_, _, _, rfl, rfl, hR⟩
