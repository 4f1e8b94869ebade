/-! the log, side by side -/
theorem irm_nI {a d : Nat} (ha : a < 10000000) (h0 : 0 < d) (hd : d < 10000000) : irm (nI a) (nI d) = nI (a % d) := pk_rem (by omega) h0 (by omega)
/-- one more entry in the row -/
def NT (v v' : Nat → Int32) (x0 x1 x2 x3 : Int32) : Prop :=
  ∃ n s : Nat, v 11 = nI (n + s) ∧ n ≤ 19 ∧ (s = 0 ∨ (s = 1 ∧ n = 19)) ∧ v' 11 = nI (n + 1) ∧ (∀ k, k < n → ∀ j, j < 4 → v' (12 + 4 * k + j) = v (12 + 4 * (k + s) + j)) ∧ (v' (12 + 4 * n) = x0 ∧ v' (12 + 4 * n + 1) = x1 ∧ v' (12 + 4 * n + 2) = x2 ∧ v' (12 + 4 * n + 3) = x3)
theorem put_B {σ : St} {q od n : Nat} {x1 x2 x3 x4 : Int32} (e1 : gI σ q 1 = nI od) (e2 : gI σ q 2 = nI n) (ho : od < 20) (hn : n ≤ 19) : f_X3_put_B28 q x1 x2 x3 x4 σ = some (sI (sI (sI (sI (sI (sI σ q 2 (nI (n + 1))) q 3 (gI σ q 3 + 1)) (q + 1) (4 * ((od + n) % 20)) x1) (q + 1) (4 * ((od + n) % 20) + 1) x2) (q + 1) (4 * ((od + n) % 20) + 2) x3) (q + 1) (4 * ((od + n) % 20) + 3) x4) := by
  unfold f_X3_put_B28 f_X3_placeOf
  simp only [bnd_d, within_in]
  have hm : (od + n) % 20 < 20 := Nat.mod_lt _ (by omega)
  have i1 : irm (gI σ q 1 + gI σ q 2) 20 * 4 + 0 = nI (4 * ((od + n) % 20)) := by
    rw [e1, e2, nI_add, show irm (nI (od + n)) 20 = nI ((od + n) % 20) from irm_nI (d := 20) (by omega) (by omega) (by omega)]
    show nI ((od + n) % 20) * nI 4 + nI 0 = _
    rw [pk_mul, nI_add]; congr 1; omega
  generalize (od + n) % 20 = p at hm i1 ⊢
  rw [i1, e2, nI_1]
  have i2 : f_X8_in (nI (4 * p)) 0 (80 - 4) = true := (in_nI (a := 0) (b := 76) (by omega) (by omega) (by omega)).mpr ⟨by omega, by omega⟩
  rw [i2, if_pos rfl, show nI (4 * p) + 0 = nI (4 * p) from nI_add _ 0, show nI (4 * p) + 2 = nI (4 * p + 2) from nI_add _ 2, show nI (4 * p) + 3 = nI (4 * p + 3) from nI_add _ 3, nI_1, if_pos (inb_nI (by omega) (by omega)), if_pos (inb_nI (by omega) (by omega)), if_pos (inb_nI (by omega) (by omega)), if_pos (inb_nI (by omega) (by omega)), cl_nI (by omega), cl_nI (by omega), cl_nI (by omega), cl_nI (by omega), gI_n (Or.inr (by omega))]
theorem put_g {g : Nat → Int32} {p k j : Nat} {x1 x2 x3 x4 : Int32} (hj : j < 4) (h : k ≠ p) : upd (upd (upd (upd g (4 * p) x1) (4 * p + 1) x2) (4 * p + 2) x3) (4 * p + 3) x4 (4 * k + j) = g (4 * k + j) := by
  rw [upd_n (by omega), upd_n (by omega), upd_n (by omega), upd_n (by omega)]
theorem put_eq0 {σ : St} {q od n lg : Nat} {v v' : Nat → Int32} {x0 x1 x2 x3 : Int32} (hlg : lg = n + 0) (n2 : n ≤ 19) (h1 : v 11 = nI lg) (h3 : od < 20) (h4 : σ.1 q 1 = nI od) (e1 : gI σ q 1 = nI od) (e2 : gI σ q 2 = nI lg) (h6 : ∀ k, k < lg → ∀ j, j < 4 → σ.1 (q + 1) (4 * ((od + k) % 20) + j) = v (12 + 4 * k + j)) (n4 : v' 11 = nI (n + 1)) (n5 : ∀ k, k < n → ∀ j, j < 4 → v' (12 + 4 * k + j) = v (12 + 4 * (k + 0) + j)) (m0 : v' (12 + 4 * n) = x0) (m1 : v' (12 + 4 * n + 1) = x1) (m2 : v' (12 + 4 * n + 2) = x2) (m3 : v' (12 + 4 * n + 3) = x3) : ∃ σ', f_X3_put q x0 x1 x2 x3 σ = some σ' ∧ (∀ k, k ≠ q → k ≠ q + 1 → σ'.1 k = σ.1 k) ∧ σ'.2 = σ.2 ∧ LgW (σ'.1 q) (σ'.1 (q + 1)) v' ∧ gI σ' q 3 = gI σ q 3 + 1 := by
  unfold f_X3_put
  rw [e2]
  rw [show (20 : Int32) = nI 20 from rfl, if_pos (ltN (by omega) (by omega)), put_B (n := n) e1 (by rw [e2, hlg, Nat.add_zero]) h3 n2]
  refine ⟨_, rfl, fun k k1 k2 => ?_, rfl, ?_, ?_⟩
  · rw [rI_n k2, rI_n k2, rI_n k2, rI_n k2, rI_n k1, rI_n k1]
  · rw [rI_n (by omega), rI_n (by omega), rI_n (by omega), rI_n (by omega), rI_s, rI_s, rI_s, rI_s, rI_s, rI_s, rI_n (by omega), rI_n (by omega)]
    refine ⟨n + 1, od, n4, by omega, h3, ?_, ?_, fun k hk j hj => ?_⟩
    · rw [upd_n (by omega), upd_n (by omega)]; exact h4
    · rw [upd_n (by omega), upd_s]; exact n4.symm
    · by_cases hkn : k = n
      · subst hkn
        have hj4 : j = 0 ∨ j = 1 ∨ j = 2 ∨ j = 3 := by omega
        rcases hj4 with rfl | rfl | rfl | rfl
        · rw [upd_n (by omega), upd_n (by omega), upd_n (by omega), Nat.add_zero (4 * ((od + k) % 20)), upd_s]; exact m0.symm
        · rw [upd_n (by omega), upd_n (by omega), upd_s]; exact m1.symm
        · rw [upd_n (by omega), upd_s]; exact m2.symm
        · rw [upd_s]; exact m3.symm
      · rw [put_g hj (by omega), n5 k (by omega) j hj]
        exact h6 k (by omega) j hj
  · rw [gI_n (Or.inl (by omega)), gI_n (Or.inl (by omega)), gI_n (Or.inl (by omega)), gI_n (Or.inl (by omega)), gI_s]
theorem irm20 {od : Nat} (h : od < 20) : irm (nI od + 1) 20 = nI ((od + 1) % 20) := by
  rw [nI_1]
  exact irm_nI (d := 20) (by omega) (by omega) (by omega)
theorem bnd_e {α ρ : Type} (a : α) (f : α → ρ) : bnd a f = f a := by
  cases Classical.em True <;> rfl
theorem put_full {σ : St} {q od o2 : Nat} {x0 x1 x2 x3 : Int32} (e1 : gI σ q 1 = nI od) (e2 : gI σ q 2 = nI 20) (h3 : irm (nI od + 1) 20 = nI o2) : f_X3_put q x0 x1 x2 x3 σ = f_X3_put_B28 q x0 x1 x2 x3 (sI (sI σ q 1 (nI o2)) q 2 (nI 19)) := by
  unfold f_X3_put
  rw [e2, if_neg (show ¬ nI 20 < 20 by decide)]
  rw [bnd_e, bnd_e, e1, h3, show (19 : Int32) = nI 19 from rfl]
theorem put_LgW {g v v' : Nat → Int32} {r : Nat → Int32} {o2 p : Nat} {x0 x1 x2 x3 : Int32} (ho : o2 < 20) (ep : p = (o2 + 19) % 20) (h6 : ∀ k, k < 19 → ∀ j, j < 4 → g (4 * ((o2 + k) % 20) + j) = v (12 + 4 * (k + 1) + j)) (n4 : v' 11 = nI 20) (r1 : r 1 = nI o2) (r2 : r 2 = nI 20) (n5 : ∀ k, k < 19 → ∀ j, j < 4 → v' (12 + 4 * k + j) = v (12 + 4 * (k + 1) + j)) (m0 : v' (12 + 4 * 19) = x0) (m1 : v' (12 + 4 * 19 + 1) = x1) (m2 : v' (12 + 4 * 19 + 2) = x2) (m3 : v' (12 + 4 * 19 + 3) = x3) : LgW r (upd (upd (upd (upd g (4 * p) x0) (4 * p + 1) x1) (4 * p + 2) x2) (4 * p + 3) x3) v' := by
  refine ⟨20, o2, n4, by omega, ho, r1, r2.trans n4.symm, fun k hk j hj => ?_⟩
  by_cases hkn : k = 19
  · subst hkn
    rw [← ep]
    have hj4 : j = 0 ∨ j = 1 ∨ j = 2 ∨ j = 3 := by omega
    rcases hj4 with rfl | rfl | rfl | rfl
    · rw [upd_n (by omega), upd_n (by omega), upd_n (by omega), Nat.add_zero (4 * p), upd_s]; exact m0.symm
    · rw [upd_n (by omega), upd_n (by omega), upd_s]; exact m1.symm
    · rw [upd_n (by omega), upd_s]; exact m2.symm
    · rw [upd_s]; exact m3.symm
  · rw [put_g hj (by omega), n5 k (by omega) j hj]
    exact h6 k (by omega) j hj
theorem put_eq1 {σ : St} {q od : Nat} {v v' : Nat → Int32} {x0 x1 x2 x3 : Int32} (h3 : od < 20) (e1 : gI σ q 1 = nI od) (e2 : gI σ q 2 = nI 20) (h6 : ∀ k, k < 20 → ∀ j, j < 4 → σ.1 (q + 1) (4 * ((od + k) % 20) + j) = v (12 + 4 * k + j)) (n4 : v' 11 = nI 20) (n5 : ∀ k, k < 19 → ∀ j, j < 4 → v' (12 + 4 * k + j) = v (12 + 4 * (k + 1) + j)) (m0 : v' (12 + 4 * 19) = x0) (m1 : v' (12 + 4 * 19 + 1) = x1) (m2 : v' (12 + 4 * 19 + 2) = x2) (m3 : v' (12 + 4 * 19 + 3) = x3) : ∃ σ', f_X3_put q x0 x1 x2 x3 σ = some σ' ∧ (∀ k, k ≠ q → k ≠ q + 1 → σ'.1 k = σ.1 k) ∧ σ'.2 = σ.2 ∧ LgW (σ'.1 q) (σ'.1 (q + 1)) v' ∧ gI σ' q 3 = gI σ q 3 + 1 := by
  have ho : (od + 1) % 20 < 20 := Nat.mod_lt _ (by omega)
  have i1 := irm20 h3
  have h7 : ∀ k, k < 19 → ∀ j, j < 4 → σ.1 (q + 1) (4 * (((od + 1) % 20 + k) % 20) + j) = v (12 + 4 * (k + 1) + j) := by
    intro k hk j hj
    rw [show ((od + 1) % 20 + k) % 20 = (od + (k + 1)) % 20 by omega]
    exact h6 (k + 1) (by omega) j hj
  generalize (od + 1) % 20 = o2 at ho i1 h7
  rw [put_full e1 e2 i1, put_B (od := o2) (n := 19) (by rw [gI_n (Or.inr (by omega)), gI_s]) (gI_s _ _ _ _) ho (by omega)]
  have ep : ∃ p, p = (o2 + 19) % 20 := ⟨_, rfl⟩
  obtain ⟨p, ep⟩ := ep
  rw [← ep]
  refine ⟨_, rfl, fun k k1 k2 => ?_, rfl, ?_, ?_⟩
  · rw [rI_n k2, rI_n k2, rI_n k2, rI_n k2, rI_n k1, rI_n k1, rI_n k1, rI_n k1]
  · rw [rI_n (by omega), rI_n (by omega), rI_n (by omega), rI_n (by omega), rI_s, rI_s, rI_s, rI_s, rI_s, rI_s, rI_s, rI_s, rI_n (by omega), rI_n (by omega), rI_n (by omega), rI_n (by omega)]
    refine put_LgW ho ep h7 n4 ?_ ?_ n5 m0 m1 m2 m3
    · rw [upd_n (by omega), upd_n (by omega), upd_n (by omega), upd_s]
    · rw [upd_n (by omega), upd_s]
  · rw [gI_n (Or.inl (by omega)), gI_n (Or.inl (by omega)), gI_n (Or.inl (by omega)), gI_n (Or.inl (by omega)), gI_s, gI_n (Or.inr (by omega)), gI_n (Or.inr (by omega))]
theorem put_eq {σ : St} {q : Nat} {v v' : Nat → Int32} {x0 x1 x2 x3 : Int32} (h : LgW (σ.1 q) (σ.1 (q + 1)) v) (hN : NT v v' x0 x1 x2 x3) : ∃ σ', f_X3_put q x0 x1 x2 x3 σ = some σ' ∧ (∀ k, k ≠ q → k ≠ q + 1 → σ'.1 k = σ.1 k) ∧ σ'.2 = σ.2 ∧ LgW (σ'.1 q) (σ'.1 (q + 1)) v' ∧ gI σ' q 3 = gI σ q 3 + 1 := by
  obtain ⟨lg, od, h1, h2, h3, h4, h5, h6⟩ := h
  obtain ⟨n, s, n1, n2, n3, n4, n5, m0, m1, m2, m3⟩ := hN
  have hlg : lg = n + s := (eq_nI (by omega) (by omega)).mp (h1.symm.trans n1)
  have e1 : gI σ q 1 = nI od := h4
  have e2 : gI σ q 2 = nI lg := h5.trans h1
  rcases n3 with rfl | ⟨rfl, rfl⟩
  · exact put_eq0 hlg n2 h1 h3 h4 e1 e2 h6 n4 n5 m0 m1 m2 m3
  · subst hlg
    exact put_eq1 h3 e1 e2 h6 n4 n5 m0 m1 m2 m3
theorem notes_B {τ : St} {n : Nat} {x1 x2 x3 : Int32} (e : gI τ (0 + 1) 11 = nI n) (hn : n ≤ 19) : f_X8_notes_B54 0 x1 x2 x3 τ = some (sI (sI (sI (sI (sI (sI τ (0 + 1) (12 + 4 * n) (gI τ (0 + 1) 1)) (0 + 1) (12 + 4 * n + 1) x1) (0 + 1) (12 + 4 * n + 2) x2) (0 + 1) (12 + 4 * n + 3) x3) (0 + 1) 11 (nI (n + 1))) 0 7 (gI τ 0 7 + 1)) := by
  unfold f_X8_notes_B54
  simp only [bnd_d]
  rw [show (11 : Int32).toNatClampNeg = 11 from rfl, show (1 : Int32).toNatClampNeg = 1 from rfl, e]
  have i1 : (12 : Int32) + 4 * nI n = nI (12 + 4 * n) := by show nI 12 + nI 4 * nI n = _; rw [pk_mul, nI_add]
  rw [i1, nI_1, show nI (12 + 4 * n) + 2 = nI (12 + 4 * n + 2) from nI_add _ 2, show nI (12 + 4 * n) + 3 = nI (12 + 4 * n + 3) from nI_add _ 3, if_pos (inb_nI (by omega) (by omega)), if_pos (inb_nI (by omega) (by omega)), if_pos (inb_nI (by omega) (by omega)), if_pos (inb_nI (by omega) (by omega)), cl_nI (by omega), cl_nI (by omega), cl_nI (by omega), cl_nI (by omega)]
  rw [gI_n (k' := 0 + 1) (Or.inr (by omega)), gI_n (k' := 0 + 1) (Or.inr (by omega)), gI_n (k' := 0 + 1) (Or.inr (by omega)), gI_n (k' := 0 + 1) (Or.inr (by omega)), e, nI_1, gI_n (k' := 0) (Or.inl (by omega)), gI_n (k' := 0) (Or.inl (by omega)), gI_n (k' := 0) (Or.inl (by omega)), gI_n (k' := 0) (Or.inl (by omega)), gI_n (k' := 0) (Or.inl (by omega))]
/-- the shift: what is at 12 .. 87 comes from four further on -/
theorem notes_L {x1 x2 x3 : Int32} : ∀ (m k F : Nat) (τ : St), k + m = 88 → 12 ≤ k → m < F → ∃ τ', it2 (f_X8_notes_L16 0 x1 x2 x3) F (nI k) τ = f_X8_notes_B54 0 x1 x2 x3 (sI τ' (0 + 1) 11 19) ∧ frM τ τ' ∧ τ'.2 = τ.2 ∧ gI τ' 0 7 = gI τ 0 7 ∧ ∀ j, τ'.1 (0 + 1) j = if k ≤ j ∧ j < 88 then τ.1 (0 + 1) (j + 4) else τ.1 (0 + 1) j := by
  intro m
  induction m with
  | zero =>
    intro k F τ hkm hk hF
    obtain ⟨F, rfl⟩ : ∃ n', F = n' + 1 := ⟨F - 1, by omega⟩
    refine ⟨τ, ?_, frM.rf, rfl, rfl, fun j => by rw [if_neg (by omega)]⟩
    show f_X8_notes_L16 0 x1 x2 x3 (it2 (f_X8_notes_L16 0 x1 x2 x3) F) (nI k) τ = _
    generalize it2 (f_X8_notes_L16 0 x1 x2 x3) F = g
    unfold f_X8_notes_L16
    rw [show (88 : Int32) = nI 88 from rfl, if_pos (leN (by omega) (by omega))]
    rfl
  | succ m ih =>
    intro k F τ hkm hk hF
    obtain ⟨F, rfl⟩ : ∃ n', F = n' + 1 := ⟨F - 1, by omega⟩
    obtain ⟨τ', t1, t2, t3, t4, t5⟩ := ih (k + 1) F (sI τ (0 + 1) k (gI τ (0 + 1) (k + 4))) (by omega) (by omega) (by omega)
    refine ⟨τ', ?_, frM.row.tr t2, t3, by rw [t4, gI_n (Or.inl (by omega))], fun j => ?_⟩
    · show f_X8_notes_L16 0 x1 x2 x3 (it2 (f_X8_notes_L16 0 x1 x2 x3) F) (nI k) τ = _
      generalize it2 (f_X8_notes_L16 0 x1 x2 x3) F = g at t1 ⊢
      unfold f_X8_notes_L16
      simp only [bnd_d]
      rw [show (88 : Int32) = nI 88 from rfl, if_neg (nleN (by omega) (by omega)), show nI k + 4 = nI (k + 4) from nI_add _ 4, if_pos (inb_nI (by omega) (by omega)), if_pos (inb_nI (by omega) (by omega)), cl_nI (by omega), cl_nI (by omega), nI_1, t1]
    · rw [t5, rI_s]
      by_cases hj : k ≤ j ∧ j < 88
      · rw [if_pos hj]
        by_cases hjk : j = k
        · subst hjk
          rw [if_neg (by omega), upd_s]
          rfl
        · rw [if_pos (by omega), upd_n (by omega)]
      · rw [if_neg hj, if_neg (by omega), upd_n (by omega)]
theorem notes_eq {τ : St} {lg : Nat} {x1 x2 x3 : Int32} (e : τ.1 (0 + 1) 11 = nI lg) (hl : lg ≤ 20) : ∃ τ', f_X8_notes 0 x1 x2 x3 τ = some τ' ∧ frM τ τ' ∧ τ'.2 = τ.2 ∧ gI τ' 0 7 = gI τ 0 7 + 1 ∧ NT (τ.1 (0 + 1)) (τ'.1 (0 + 1)) (τ.1 (0 + 1) 1) x1 x2 x3 ∧ ∀ k, (k < 11 ∨ 92 ≤ k) → τ'.1 (0 + 1) k = τ.1 (0 + 1) k := by
  obtain ⟨F, hFu, eF⟩ := fuel_ex
  unfold f_X8_notes
  rw [eF, show (11 : Int32).toNatClampNeg = 11 from rfl, show gI τ (0 + 1) 11 = nI lg from e]
  by_cases h20 : lg = 20
  · subst h20
    rw [if_pos (by decide)]
    obtain ⟨τ1, t1, t2, t3, t4, t5⟩ := notes_L (x1 := x1) (x2 := x2) (x3 := x3) 76 12 F τ (by omega) (by omega) (by omega)
    rw [show (12 : Int32) = nI 12 from rfl, t1, notes_B (n := 19) (show gI (sI τ1 (0 + 1) 11 19) (0 + 1) 11 = nI 19 from gI_s _ _ _ _) (by omega)]
    have e1 : gI (sI τ1 (0 + 1) 11 19) (0 + 1) 1 = τ.1 (0 + 1) 1 := by
      rw [gI_n (Or.inr (by omega))]
      show τ1.1 (0 + 1) 1 = _
      rw [t5, if_neg (by omega)]
    refine ⟨_, rfl, ?_, t3, ?_, ?_⟩
    · exact (((((((t2.tr frM.row).tr frM.row).tr frM.row).tr frM.row).tr frM.row).tr frM.row).tr frM.noted)
    · rw [gI_s, gI_n (Or.inl (by omega)), t4]
    · rw [rI_n (by omega), rI_s, rI_s, rI_s, rI_s, rI_s, rI_s, e1]
      refine ⟨⟨19, 1, e, by omega, Or.inr ⟨rfl, rfl⟩, upd_s _ _ _, fun k hk j hj => ?_, ?_, ?_, ?_, ?_⟩, fun k hk2 => ?_⟩
      · rw [upd_n (by omega), upd_n (by omega), upd_n (by omega), upd_n (by omega), upd_n (by omega), upd_n (by omega), t5, if_pos (by omega)]
        rw [show 12 + 4 * k + j + 4 = 12 + 4 * (k + 1) + j by omega]
      · rw [upd_n (by omega), upd_n (by omega), upd_n (by omega), upd_n (by omega), upd_s]
      · rw [upd_n (by omega), upd_n (by omega), upd_n (by omega), upd_s]
      · rw [upd_n (by omega), upd_n (by omega), upd_s]
      · rw [upd_n (by omega), upd_s]
      · rw [upd_n (by omega), upd_n (by omega), upd_n (by omega), upd_n (by omega), upd_n (by omega), upd_n (by omega), t5, if_neg (by omega)]
  · rw [if_neg (show ¬ nI lg = 20 from neN (b := 20) h20 (by omega) (by omega)), notes_B (n := lg) e (by omega)]
    refine ⟨_, rfl, ?_, rfl, ?_, ?_⟩
    · exact (((((frM.row.tr frM.row).tr frM.row).tr frM.row).tr frM.row).tr frM.noted)
    · rw [gI_s]
    · rw [rI_n (by omega), rI_s, rI_s, rI_s, rI_s, rI_s]
      refine ⟨⟨lg, 0, e, by omega, Or.inl rfl, upd_s _ _ _, fun k hk j hj => ?_, ?_, ?_, ?_, ?_⟩, fun k hk2 => ?_⟩
      · rw [upd_n (by omega), upd_n (by omega), upd_n (by omega), upd_n (by omega), upd_n (by omega)]
        congr 1
      · rw [upd_n (by omega), upd_n (by omega), upd_n (by omega), upd_n (by omega), upd_s]
        rfl
      · rw [upd_n (by omega), upd_n (by omega), upd_n (by omega), upd_s]
      · rw [upd_n (by omega), upd_n (by omega), upd_s]
      · rw [upd_n (by omega), upd_s]
      · rw [upd_n (by omega), upd_n (by omega), upd_n (by omega), upd_n (by omega), upd_n (by omega)]
theorem NT.congr {v v2 v' : Nat → Int32} {x0 x1 x2 x3 : Int32} (h : NT v v' x0 x1 x2 x3) (hv : ∀ k, 11 ≤ k → k < 92 → v2 k = v k) : NT v2 v' x0 x1 x2 x3 := by
  obtain ⟨n, s, n1, n2, n3, n4, n5, m⟩ := h
  refine ⟨n, s, (hv 11 (by omega) (by omega)).trans n1, n2, n3, n4, fun k hk j hj => ?_, m⟩
  rw [hv _ (by omega) (by omega)]
  exact n5 k hk j hj
theorem FR.lg {σ : St} {b : Nat} {v : Nat → Int32} (h : FR σ b v) : ∃ lg, v 11 = nI lg ∧ lg ≤ 20 := by
  obtain ⟨lg, od, h1, h2, -⟩ := h.2.2.1
  exact ⟨lg, h1, h2⟩
/-- one change and the log change, all else stays -/
theorem FR.chg {σ σ' : St} {b i : Nat} {v v' : Nat → Int32} (h : FR σ b v) (hi : i < 5) (he : ∀ q, b ≤ q → q < b + 30 → (q < b + 1 + 1 + 5 * i ∨ b + 1 + 1 + 5 * i + 5 ≤ q) → σ'.1 q = σ.1 q ∧ σ'.2.1 q = σ.2.1 q ∧ σ'.2.2 q = σ.2.2 q) (hv : ∀ k, k < 257 → (k < 11 ∨ (92 ≤ k ∧ (k < 92 + 33 * i ∨ 92 + 33 * i + 33 ≤ k))) → v' k = v k) (hl : LgW (σ'.1 (b + 30)) (σ'.1 (b + 30 + 1)) v') (hc : CR σ' (b + 1 + 1 + 5 * i) i v') (h0 : gI σ' (b + 1 + 1 + 5 * i) 0 = gI σ (b + 1 + 1 + 5 * i) 0) : FR σ' b v' := by
  refine h.mod (he b (by omega) (by omega) (by omega)).1 (hv 0 (by omega) (by omega)) (hv 1 (by omega) (by omega)) (hv 2 (by omega) (by omega)) (hv 10 (by omega) (by omega)) ?_ hl ?_ ?_
  · rw [(he (b + 27) (by omega) (by omega) (by omega)).1, (he (b + 27 + 1) (by omega) (by omega) (by omega)).1, (he (b + 27 + 2) (by omega) (by omega) (by omega)).1]
    exact h.2.1.congr (fun k h1 h2 => hv k (by omega) (by omega))
  · intro sz z1 z2 j hj
    by_cases hji : j = i
    · rw [hji]; exact hc
    · exact (h.crs sz z1 z2 j hj).congr (fun q h1 h2 => he q (by omega) (by omega) (by omega)) (fun k hk => hv _ (by omega) (by omega))
  · intro j hj
    by_cases hji : j = i
    · rw [hji]; exact h0
    · unfold gI
      rw [(he (b + 1 + 1 + 5 * j) (by omega) (by omega) (by omega)).1]
/-- a change from its facts -/
theorem CR.of {σ : St} {c i : Nat} {v : Nat → Int32} (st pl bg m a b c' d : Nat) (h1 : v (92 + 33 * i + 1) = nI st ∧ st ≤ 5 ∧ v (92 + 33 * i + 2) = nI pl ∧ pl ≤ 6 ∧ v (92 + 33 * i + 3) = nI bg ∧ bg ≤ pl ∧ (st = 0 → bg = 0) ∧ v (92 + 33 * i + 4) = nI m ∧ m < 2 ^ i) (h2 : v (92 + 33 * i + 5) = nI a ∧ v (92 + 33 * i + 6) = nI b ∧ v (92 + 33 * i + 7) = nI c' ∧ v (92 + 33 * i + 8) = nI d ∧ a + b ≤ 25 ∧ c' + d ≤ 25) (h3 : v (92 + 33 * i) = bI (gB σ c 7))
  (h4 : gI σ c 4 = nI m ∧ gI σ c 5 = nI st ∧ gI σ c 6 = nI bg ∧ gI σ (c + 1) 1 = nI pl) (h5 : ∀ k, k < pl → gI σ (c + 1 + 1) (3 * k) = v (92 + 33 * i + (9 + 4 * k)) ∧ gI σ (c + 1 + 1) (3 * k + 1) = v (92 + 33 * i + (10 + 4 * k)) ∧ gI σ (c + 1 + 1) (3 * k + 2) = v (92 + 33 * i + (11 + 4 * k))) (h6 : ∀ k, k < bg → gI σ (c + 4) k = v (92 + 33 * i + (12 + 4 * k)))
  (h7 : gI σ (c + 3) 0 = nI a ∧ gI σ (c + 3) 1 = nI b ∧ gI σ (c + 3) 2 = nI c' ∧ gI σ (c + 3) 3 = nI d ∧ gL σ (c + 3) 4 = lN (chN a b c' d) ∧ gL σ (c + 3) 5 = lN (chD a b c' d)) : CR σ c i v := by
  obtain ⟨f1, f2, f3, f4⟩ := h4
  obtain ⟨m1, m2, m3, m4, m5, m6⟩ := h7
  exact ⟨st, pl, bg, m, a, b, c', d, h1, h2, h3, ⟨f1.trans h1.2.2.2.2.2.2.2.1.symm, f2.trans h1.1.symm, f3.trans h1.2.2.2.2.1.symm, f4.trans h1.2.2.1.symm⟩, h5, h6, m1.trans h2.1.symm, m2.trans h2.2.1.symm, m3.trans h2.2.2.1.symm, m4.trans h2.2.2.2.1.symm, m5, m6⟩
/-- a step of the fleet at b and of the reference -/
def ST (b : Nat) (σ τ σ' τ' : St) : Prop := FR σ' b (τ'.1 (0 + 1)) ∧ frC σ σ' b ∧ frM τ τ' ∧ σ'.2.2 = σ.2.2 ∧ (SetsOK τ → SetsOK τ') ∧ (∃ n : Int32, gI σ' (b + 30) 3 = gI σ (b + 30) 3 + n ∧ gI τ' 0 7 = gI τ 0 7 + n) ∧ τ'.1 (0 + 1) 10 = τ.1 (0 + 1) 10
theorem ST.rf {b : Nat} {σ τ : St} (h : FR σ b (τ.1 (0 + 1))) : ST b σ τ σ τ := ⟨h, frC.rf, frM.rf, rfl, id, ⟨0, by simp, by simp⟩, rfl⟩
theorem ST.tr {b : Nat} {σ τ σ' τ' σ'' τ'' : St} (h : ST b σ τ σ' τ') (h' : ST b σ' τ' σ'' τ'') : ST b σ τ σ'' τ'' := by
  obtain ⟨-, a2, a3, a4, a5, ⟨n, a6, a7⟩, a8⟩ := h
  obtain ⟨b1, b2, b3, b4, b5, ⟨n', b6, b7⟩, b8⟩ := h'
  refine ⟨b1, a2.tr b2, a3.tr b3, b4.trans a4, b5 ∘ a5, ⟨n + n', ?_, ?_⟩, b8.trans a8⟩
  · rw [b6, a6, Int32.add_assoc]
  · rw [b7, a7, Int32.add_assoc]
theorem Rel.st {σ τ σ' τ' : St} (hR : Rel σ τ) (h : ST (0 + 1) σ τ σ' τ') : Rel σ' τ' := hR.step h.1 h.2.1 h.2.2.1 (h.2.2.2.2.1 hR.2.2.2.2.1) (by unfold gB; rw [h.2.2.2.1])
