theorem isCell_eq {σ : St} {b : Nat} {v : Nat → Int32} (h : FR σ b v) (x : Int32) : f_X1_isCell b x σ = f_X8_in x 0 (v 0 - 1) := by
  obtain ⟨n, n1, n2, n3⟩ := h.1.1
  unfold f_X1_isCell
  rw [h.1.2.2.1, n1]
  rcases in_0 x (n := n) (by omega) with ⟨h1, j, hj, rfl⟩ | ⟨h1, h2⟩
  · rw [h1, if_neg (nI_pos (by omega)), if_neg (nleN (by omega) (by omega))]
  · rw [h1]
    by_cases h0 : x < 0
    · rw [if_pos h0]
    · rw [if_neg h0, if_pos (h2.resolve_left h0)]
theorem changesOf_eq {σ : St} {b : Nat} {v : Nat → Int32} (h : FR σ b v) (x : Int32) : f_X1_changesOf b x σ = some (hvf v x 0 (v 10).toNatClampNeg 0) := by
  obtain ⟨sz, z1, z2, z3, z4⟩ := h.sz
  obtain ⟨F, hFu, eF⟩ := fuel_ex
  unfold f_X1_changesOf
  rw [eF, z1, cl_nI (by omega)]
  exact changesOf_L z3 z2 z4 sz 0 F 0 (by omega) (by omega)
theorem having_eq {σ τ : St} {b : Nat} (h : FR σ b (τ.1 (0 + 1))) (x : Int32) : f_X8_having 0 x τ = some (hvf (τ.1 (0 + 1)) x 0 (τ.1 (0 + 1) 10).toNatClampNeg 0) := by
  obtain ⟨sz, z1, z2, z3, z4⟩ := h.sz
  obtain ⟨F, hFu, eF⟩ := fuel_ex
  unfold f_X8_having
  rw [eF, z1, cl_nI (by omega)]
  refine having_L rfl z3 z1 (fun i hi => ?_) sz 0 F 0 (by omega) (by omega)
  obtain ⟨st, pl, bg, m', a', b', c', d, ⟨h1, h2, h3, h4, h5, h6, h7, h8, h9⟩, -⟩ := (z4 i hi).use
  exact ⟨bg, h5, by omega⟩
theorem op_has {σ τ : St} (hR : Rel σ τ) (x1 : Int32) : ∃ r, f_X7_has 0 x1 σ = some r ∧ f_X8_has 0 x1 τ = some r ∧ Rel σ τ := by
  unfold f_X7_has f_X8_has
  simp only [bnd_d]
  rw [isCell_eq hR.1, changesOf_eq hR.1, having_eq hR.1, show f_X8_isCell 0 x1 τ = f_X8_in x1 0 (τ.1 (0 + 1) 0 - 1) from rfl]
  by_cases h : f_X8_in x1 0 (τ.1 (0 + 1) 0 - 1) = true
  · simp only [if_pos h, obd_s]
    exact ⟨_, rfl, rfl, hR⟩
  · simp only [if_neg h]
    exact ⟨_, rfl, rfl, hR⟩
def anyb (p : Nat → Bool) : Nat → Nat → Bool
  | _, 0 => false
  | k, m + 1 => p k || anyb p (k + 1) m
theorem anyb_add (p : Nat → Bool) : ∀ (m m' k : Nat), anyb p k (m + m') = (anyb p k m || anyb p (k + m) m') := by
  intro m
  induction m with
  | zero => intro m' k; simp [anyb]
  | succ m ih =>
    intro m' k
    rw [show m + 1 + m' = (m + m') + 1 by omega]
    show (p k || anyb p (k + 1) (m + m')) = ((p k || anyb p (k + 1) m) || anyb p (k + (m + 1)) m')
    rw [ih, show k + 1 + m = k + (m + 1) by omega, Bool.or_assoc]
theorem anyb_f (p : Nat → Bool) : ∀ (m k : Nat), (∀ j, k ≤ j → j < k + m → p j = false) → anyb p k m = false := by
  intro m
  induction m with
  | zero => intro k _; rfl
  | succ m ih =>
    intro k h
    show (p k || anyb p (k + 1) m) = false
    rw [h k (by omega) (by omega), ih (k + 1) (fun j h1 h2 => h j (by omega) (by omega))]
    rfl
/-- one that has to be done first is not -/
def ndp (v : Nat → Int32) (x : Int32) (j : Nat) : Bool := !decide ((x >>> (nI j &&& 31)) &&& 1 = 0) && !decide (v (92 + 33 * j + 1) = 3)
theorem lacksDone_L {σ : St} {b sz : Nat} {v : Nat → Int32} {x : Int32} (hsz : sz ≤ 5) (e4 : gI σ b 4 = nI sz) (hc : ∀ i, i < sz → gI σ (b + 1 + 1 + 5 * i) 5 = v (92 + 33 * i + 1)) : ∀ (m k F : Nat), k + m = sz → m < F → it1 (f_X1_lacksDone_L2 σ b x) F (nI k) = some (anyb (ndp v x) k m) := by
  intro m
  induction m with
  | zero =>
    intro k F hkm hF
    obtain ⟨F, rfl⟩ : ∃ n', F = n' + 1 := ⟨F - 1, by omega⟩
    show f_X1_lacksDone_L2 σ b x (it1 (f_X1_lacksDone_L2 σ b x) F) (nI k) = _
    generalize it1 (f_X1_lacksDone_L2 σ b x) F = g
    unfold f_X1_lacksDone_L2
    rw [e4, if_pos (leN (by omega) (by omega))]; rfl
  | succ m ih =>
    intro k F hkm hF
    obtain ⟨F, rfl⟩ : ∃ n', F = n' + 1 := ⟨F - 1, by omega⟩
    show f_X1_lacksDone_L2 σ b x (it1 (f_X1_lacksDone_L2 σ b x) F) (nI k) = _
    have ih' := ih (k + 1) F (by omega) (by omega)
    generalize it1 (f_X1_lacksDone_L2 σ b x) F = g at ih' ⊢
    unfold f_X1_lacksDone_L2
    rw [e4, if_neg (nleN (by omega) (by omega)), show (5 : Int32) = nI 5 from rfl, if_neg (nleN (by omega) (by omega)), if_pos (inb_nI (by omega) (by omega)), cl_nI (by omega), hc k (by omega)]
    simp only [bnd_d, nI_1]
    rw [ih']
    show _ = some (ndp v x k || anyb (ndp v x) (k + 1) m)
    unfold ndp
    by_cases h1 : (x >>> (nI k &&& 31)) &&& 1 = 0
    · simp [h1]
    · by_cases h2 : v (92 + 33 * k + 1) = 3 <;> simp [h1, h2]
theorem allDone_L {τ : St} {v : Nat → Int32} {x : Int32} (ev : v = τ.1 (0 + 1)) : ∀ (m k F : Nat) (d : Bool), k + m = 5 → m < F → it2 (f_X8_areAllDone_L4 τ 0 x) F d (nI k) = some (d && !anyb (ndp v x) k m) := by
  intro m
  induction m with
  | zero =>
    intro k F d hkm hF
    obtain ⟨F, rfl⟩ : ∃ n', F = n' + 1 := ⟨F - 1, by omega⟩
    show f_X8_areAllDone_L4 τ 0 x (it2 (f_X8_areAllDone_L4 τ 0 x) F) d (nI k) = _
    generalize it2 (f_X8_areAllDone_L4 τ 0 x) F = g
    unfold f_X8_areAllDone_L4
    rw [show (5 : Int32) = nI 5 from rfl, if_pos (leN (by omega) (by omega))]
    simp [anyb]
  | succ m ih =>
    intro k F d hkm hF
    obtain ⟨F, rfl⟩ : ∃ n', F = n' + 1 := ⟨F - 1, by omega⟩
    show f_X8_areAllDone_L4 τ 0 x (it2 (f_X8_areAllDone_L4 τ 0 x) F) d (nI k) = _
    have ih1 := ih (k + 1) F true (by omega) (by omega)
    have ih2 := ih (k + 1) F false (by omega) (by omega)
    generalize it2 (f_X8_areAllDone_L4 τ 0 x) F = g at ih1 ih2 ⊢
    unfold f_X8_areAllDone_L4
    simp only [bnd_d, nI_1]
    rw [show (5 : Int32) = nI 5 from rfl, if_neg (nleN (by omega) (by omega)), show f_X8_at (nI k) 1 = nI (92 + 33 * k + 1) from at_nI k 1, if_pos (inb_nI (by omega) (by omega)), cl_nI (by omega), show gI τ (0 + 1) (92 + 33 * k + 1) = v (92 + 33 * k + 1) by rw [ev]; rfl, ih1, ih2]
    show _ = some (d && !(ndp v x k || anyb (ndp v x) (k + 1) m))
    unfold ndp
    cases d
    · simp
    · by_cases h1 : (x >>> (nI k &&& 31)) &&& 1 = 0
      · simp [h1]
      · by_cases h2 : v (92 + 33 * k + 1) = 3 <;> simp [h1, h2]
theorem smod5 : ∀ j, j < 5 → ((nI j &&& 31).toBitVec.smod 32).toNat = j := by decide +kernel
theorem bit_hi {m i j : Nat} (hm : m < 2 ^ i) (hij : i ≤ j) (hj : j < 5) : (nI m >>> (nI j &&& 31)) &&& 1 = 0 := by
  have h1 : 2 ^ i ≤ 2 ^ j := Nat.pow_le_pow_right (by omega) hij
  have h2 : 2 ^ j ≤ 2 ^ 5 := Nat.pow_le_pow_right (by omega) (by omega)
  rw [pk_shrN (by omega) _ j (smod5 j hj), Nat.div_eq_of_lt (by omega)]
  rfl
theorem done_eq {σ τ : St} {b sz i m : Nat} (hF : FR σ b (τ.1 (0 + 1))) (z1 : τ.1 (0 + 1) 10 = nI sz) (hsz : sz ≤ 5) (hi : i < sz) (hm : m < 2 ^ i) : ∃ d, f_X1_lacksDone b (nI m) σ = some d ∧ f_X8_areAllDone 0 (nI m) τ = some (!d) := by
  obtain ⟨sz', z1', z2, z3, z4⟩ := hF.sz
  have hs : sz' = sz := (eq_nI (by omega) (by omega)).mp (z1'.symm.trans z1)
  subst hs
  obtain ⟨F, hFu, eF⟩ := fuel_ex
  unfold f_X1_lacksDone f_X8_areAllDone
  rw [eF]
  refine ⟨anyb (ndp (τ.1 (0 + 1)) (nI m)) 0 sz', lacksDone_L z3 z2 (fun j hj => ?_) sz' 0 F (by omega) (by omega), ?_⟩
  · obtain ⟨st, pl, bg, m', a', b', c', d, ⟨h1, h2, h3, h4, h5, h6, h7, h8, h9⟩, -, -, ⟨f1, f2, f3, f4⟩, -⟩ := (z4 j hj).use
    exact f2.trans h1.symm
  · rw [show (0 : Int32) = nI 0 from rfl, allDone_L rfl 5 0 F true (by omega) (by omega)]
    rw [show (5 : Nat) = sz' + (5 - sz') by omega, anyb_add, anyb_f _ (5 - sz') (0 + sz') (fun j h1 h2 => ?_)]
    · simp
    · unfold ndp
      rw [bit_hi hm (by omega) (by omega)]
      simp
/-- another risky one is under way -/
def rkp (v : Nat → Int32) (i j : Nat) : Bool := !decide (j = i) && (decide (v (92 + 33 * j) = 1) && ((decide (v (92 + 33 * j + 1) = 1) || decide (v (92 + 33 * j + 1) = 2) || decide (v (92 + 33 * j + 1) = 4)) && !decide (v (92 + 33 * j + 3) ≤ 0)))
theorem under_eq {σ : St} {c : Nat} : f_X0_isUnderWay c σ = (decide (gI σ c 5 = 1) || decide (gI σ c 5 = 2) || decide (gI σ c 5 = 4)) := by
  unfold f_X0_isUnderWay
  by_cases h1 : gI σ c 5 = 1
  · simp [h1]
  · by_cases h2 : gI σ c 5 = 2
    · simp [h2]
    · by_cases h4 : gI σ c 5 = 4 <;> simp [h1, h2, h4]
theorem meets_L {σ : St} {b sz i : Nat} {v : Nat → Int32} (hsz : sz ≤ 5) (e4 : gI σ b 4 = nI sz) (hc : ∀ j, j < sz → gI σ (b + 1 + 1 + 5 * j) 5 = v (92 + 33 * j + 1) ∧ gI σ (b + 1 + 1 + 5 * j) 6 = v (92 + 33 * j + 3) ∧ v (92 + 33 * j) = bI (gB σ (b + 1 + 1 + 5 * j) 7)) : ∀ (m k F : Nat), k + m = sz → m < F → it1 (f_X1_meetsOtherRisk_L2 σ b (b + 1 + 1 + 5 * i)) F (nI k) = some (anyb (rkp v i) k m) := by
  intro m
  induction m with
  | zero =>
    intro k F hkm hF
    obtain ⟨F, rfl⟩ : ∃ n', F = n' + 1 := ⟨F - 1, by omega⟩
    show f_X1_meetsOtherRisk_L2 σ b (b + 1 + 1 + 5 * i) (it1 (f_X1_meetsOtherRisk_L2 σ b (b + 1 + 1 + 5 * i)) F) (nI k) = _
    generalize it1 (f_X1_meetsOtherRisk_L2 σ b (b + 1 + 1 + 5 * i)) F = g
    unfold f_X1_meetsOtherRisk_L2
    rw [e4, if_pos (leN (by omega) (by omega))]; rfl
  | succ m ih =>
    intro k F hkm hF
    obtain ⟨F, rfl⟩ : ∃ n', F = n' + 1 := ⟨F - 1, by omega⟩
    show f_X1_meetsOtherRisk_L2 σ b (b + 1 + 1 + 5 * i) (it1 (f_X1_meetsOtherRisk_L2 σ b (b + 1 + 1 + 5 * i)) F) (nI k) = _
    have ih' := ih (k + 1) F (by omega) (by omega)
    generalize it1 (f_X1_meetsOtherRisk_L2 σ b (b + 1 + 1 + 5 * i)) F = g at ih' ⊢
    obtain ⟨a1, a2, a3⟩ := hc k (by omega)
    unfold f_X1_meetsOtherRisk_L2
    rw [e4, if_neg (nleN (by omega) (by omega)), show (5 : Int32) = nI 5 from rfl, if_neg (nleN (by omega) (by omega)), if_pos (inb_nI (by omega) (by omega)), cl_nI (by omega), under_eq, a1, a2]
    simp only [bnd_d, nI_1]
    rw [ih']
    show _ = some (rkp v i k || anyb (rkp v i) (k + 1) m)
    unfold rkp
    rw [a3]
    by_cases h0 : k = i
    · rw [if_pos (by rw [h0])]; simp [h0]
    · rw [if_neg (by omega)]
      by_cases h1 : gB σ (b + 1 + 1 + 5 * k) 7 = true
      · rw [if_pos h1, h1]
        by_cases h2 : (decide (v (92 + 33 * k + 1) = 1) || decide (v (92 + 33 * k + 1) = 2) || decide (v (92 + 33 * k + 1) = 4)) = true
        · rw [if_pos h2, h2]
          by_cases h3 : v (92 + 33 * k + 3) ≤ 0 <;> simp [h0, h3, bI]
        · rw [if_neg h2]
          simp only [Bool.not_eq_true] at h2
          rw [h2]
          simp
      · rw [if_neg h1]
        simp only [Bool.not_eq_true] at h1
        rw [h1]
        simp [bI]
theorem other_L {τ : St} {sz i : Nat} {v : Nat → Int32} (ev : v = τ.1 (0 + 1)) (hsz : sz ≤ 5) (hi : i < 5) (e4 : v 10 = nI sz) : ∀ (m k F : Nat) (d : Bool), k + m = sz → m < F → it2 (f_X8_isOtherRisk_L4 τ 0 (nI i)) F d (nI k) = some ((d || anyb (rkp v i) k m) && decide (v (92 + 33 * i) = 1)) := by
  have er : ∀ j, gI τ (0 + 1) j = v j := fun j => by rw [ev]; rfl
  intro m
  induction m with
  | zero =>
    intro k F d hkm hF
    obtain ⟨F, rfl⟩ : ∃ n', F = n' + 1 := ⟨F - 1, by omega⟩
    show f_X8_isOtherRisk_L4 τ 0 (nI i) (it2 (f_X8_isOtherRisk_L4 τ 0 (nI i)) F) d (nI k) = _
    generalize it2 (f_X8_isOtherRisk_L4 τ 0 (nI i)) F = g
    unfold f_X8_isOtherRisk_L4
    simp only [bnd_d]
    rw [show (10 : Int32).toNatClampNeg = 10 from rfl, er, e4, if_pos (leN (by omega) (by omega)), show f_X8_at (nI i) 0 = nI (92 + 33 * i + 0) from at_nI i 0, if_pos (inb_nI (by omega) (by omega)), cl_nI (by omega), er]
    cases d
    · simp [anyb]
    · by_cases h : v (92 + 33 * i) = 1 <;> simp [h]
  | succ m ih =>
    intro k F d hkm hF
    obtain ⟨F, rfl⟩ : ∃ n', F = n' + 1 := ⟨F - 1, by omega⟩
    show f_X8_isOtherRisk_L4 τ 0 (nI i) (it2 (f_X8_isOtherRisk_L4 τ 0 (nI i)) F) d (nI k) = _
    have ih1 := ih (k + 1) F true (by omega) (by omega)
    have ih2 := ih (k + 1) F false (by omega) (by omega)
    generalize it2 (f_X8_isOtherRisk_L4 τ 0 (nI i)) F = g at ih1 ih2 ⊢
    unfold f_X8_isOtherRisk_L4 f_X8_isOtherRisk_B48
    simp only [bnd_d, nI_1]
    rw [show (10 : Int32).toNatClampNeg = 10 from rfl, er, e4, if_neg (nleN (by omega) (by omega)), show f_X8_at (nI k) 0 = nI (92 + 33 * k + 0) from at_nI k 0, show f_X8_at (nI k) 1 = nI (92 + 33 * k + 1) from at_nI k 1, show f_X8_at (nI k) 3 = nI (92 + 33 * k + 3) from at_nI k 3, inb_nI (show 92 + 33 * k + 0 < 257 by omega) (by omega), inb_nI (show 92 + 33 * k + 1 < 257 by omega) (by omega), inb_nI (show 92 + 33 * k + 3 < 257 by omega) (by omega), cl_nI (show 92 + 33 * k + 0 < 10000000 by omega), cl_nI (show 92 + 33 * k + 1 < 10000000 by omega), cl_nI (show 92 + 33 * k + 3 < 10000000 by omega), er, er, er, ih1, ih2]
    simp only [if_true]
    show _ = some ((d || (rkp v i k || anyb (rkp v i) (k + 1) m)) && decide (v (92 + 33 * i) = 1))
    have hin : f_X8_in (v (92 + 33 * k + 1)) 1 2 = true ↔ (v (92 + 33 * k + 1) = 1 ∨ v (92 + 33 * k + 1) = 2) := by
      constructor
      · intro h
        obtain ⟨j, j1, j2, ej⟩ := in_lo 1 2 (by omega) (by omega) h
        have : j = 1 ∨ j = 2 := by omega
        rcases this with rfl | rfl
        · left; exact ej
        · right; exact ej
      · intro h
        rcases h with h | h <;> rw [h] <;> decide
    have hk : (nI k = nI i) ↔ k = i := eq_nI (by omega) (by omega)
    unfold rkp
    cases d
    · by_cases h0 : k = i
      · have h0' := hk.mpr h0
        by_cases c1 : f_X8_in (v (92 + 33 * k + 1)) 1 2 = true
        · simp [c1, h0]
        · by_cases c4 : v (92 + 33 * k + 1) = 4 <;> simp [c1, c4, h0]
      · have h0' : ¬ nI k = nI i := fun z => h0 (hk.mp z)
        by_cases h1 : v (92 + 33 * k) = 1
        · by_cases h3 : v (92 + 33 * k + 3) ≤ 0
          · by_cases c1 : f_X8_in (v (92 + 33 * k + 1)) 1 2 = true
            · simp [c1, h0, h0', h1, h3]
            · by_cases c4 : v (92 + 33 * k + 1) = 4 <;> simp [c1, c4, h0, h0', h1, h3]
          · by_cases c1 : f_X8_in (v (92 + 33 * k + 1)) 1 2 = true
            · rcases hin.mp c1 with c | c <;> simp [show f_X8_in 1 1 2 = true by decide, show f_X8_in 2 1 2 = true by decide, c, h0, h0', h1, h3]
            · have c2 : ¬ (v (92 + 33 * k + 1) = 1 ∨ v (92 + 33 * k + 1) = 2) := fun z => c1 (hin.mpr z)
              by_cases c4 : v (92 + 33 * k + 1) = 4
              · simp [c1, c4, h0, h0', h1, h3]
              · simp only [not_or] at c2
                simp [c1, c2.1, c2.2, c4, h0', h1]
        · by_cases c1 : f_X8_in (v (92 + 33 * k + 1)) 1 2 = true
          · simp [c1, h0', h1]
          · by_cases c4 : v (92 + 33 * k + 1) = 4 <;> simp [c1, c4, h0', h1]
    · by_cases c1 : f_X8_in (v (92 + 33 * k + 1)) 1 2 = true
      · simp [c1]
      · by_cases c4 : v (92 + 33 * k + 1) = 4 <;> simp [c1, c4]
theorem risk_eq {σ τ : St} {b sz i : Nat} (hF : FR σ b (τ.1 (0 + 1))) (z1 : τ.1 (0 + 1) 10 = nI sz) (hsz : sz ≤ 5) (hi : i < sz) : ∃ d, f_X1_meetsOtherRisk b (b + 1 + 1 + 5 * i) σ = some d ∧ f_X8_isOtherRisk 0 (nI i) τ = some (d && gB σ (b + 1 + 1 + 5 * i) 7) := by
  obtain ⟨sz', z1', z2, z3, z4⟩ := hF.sz
  have hs : sz' = sz := (eq_nI (by omega) (by omega)).mp (z1'.symm.trans z1)
  subst hs
  obtain ⟨F, hFu, eF⟩ := fuel_ex
  unfold f_X1_meetsOtherRisk f_X8_isOtherRisk
  rw [eF]
  refine ⟨anyb (rkp (τ.1 (0 + 1)) i) 0 sz', meets_L z3 z2 (fun j hj => ?_) sz' 0 F (by omega) (by omega), ?_⟩
  · obtain ⟨st, pl, bg, m', a', b', c', d, ⟨h1, h2, h3, h4, h5, h6, h7, h8, h9⟩, -, e0, ⟨f1, f2, f3, f4⟩, -⟩ := (z4 j hj).use
    exact ⟨f2.trans h1.symm, f3.trans h5.symm, e0⟩
  · rw [show (0 : Int32) = nI 0 from rfl, other_L rfl z3 (by omega) z1 sz' 0 F false (by omega) (by omega)]
    obtain ⟨st, pl, bg, m', a', b', c', d, -, -, e0, -⟩ := (z4 i hi).use
    rw [e0]
    cases gB σ (b + 1 + 1 + 5 * i) 7 <;> simp [bI]
theorem m1_nI {n : Nat} (h : 0 < n) : nI n - 1 = nI (n - 1) := pk_sub (a := n) (b := 1) (by omega)
theorem hoursC {σ : St} {c bg : Nat} {x : Int32} (e : gI σ c 6 = nI bg) (h0 : 0 < bg) (h6 : bg ≤ 6) : f_X0_hoursSinceLatest c x σ = some (x - gI σ (c + 4) (bg - 1)) := by
  unfold f_X0_hoursSinceLatest
  simp only [bnd_d]
  rw [e, m1_nI h0, if_neg (nI_pos (by omega)), show (6 : Int32) = nI 6 from rfl, if_neg (nleN (by omega) (by omega)), if_pos (inb_nI (by omega) (by omega)), cl_nI (by omega)]
theorem hoursC0 {σ : St} {c : Nat} {x : Int32} (e : gI σ c 6 = nI 0) : f_X0_hoursSinceLatest c x σ = some 0 := by
  unfold f_X0_hoursSinceLatest
  simp only [bnd_d]
  rw [e, if_pos (by decide)]
theorem hoursM {τ : St} {i bg : Nat} (hi : i < 5) (e : gI τ (0 + 1) (92 + 33 * i + 3) = nI bg) (h6 : bg ≤ 6) : f_X8_hoursSince 0 (nI i) τ = some (if bg = 0 then 0 else gI τ (0 + 1) 1 - gI τ (0 + 1) (92 + 33 * i + (12 + 4 * (bg - 1)))) := by
  unfold f_X8_hoursSince
  simp only [bnd_d]
  rw [show f_X8_at (nI i) 3 = nI (92 + 33 * i + 3) from at_nI i 3, if_pos (inb_nI (by omega) (by omega)), cl_nI (by omega), e]
  by_cases h0 : bg = 0
  · subst h0
    rw [if_pos (by decide), if_pos rfl]
  · rw [if_neg (show ¬ nI bg = 0 from fun z => h0 ((eq_nI (b := 0) (by omega) (by omega)).mp z)), if_neg h0, m1_nI (by omega), show f_X8_stageAt (nI i) (nI (bg - 1)) 3 = nI (92 + 33 * i + (9 + 4 * (bg - 1) + 3)) from sat_nI i (bg - 1) 3, if_pos (inb_nI (by omega) (by omega)), cl_nI (by omega), show 9 + 4 * (bg - 1) + 3 = 12 + 4 * (bg - 1) by omega]
    rfl
theorem lacksC {σ : St} {c bg pl i a b c' d : Nat} {x : Int32} {v : Nat → Int32} (hpl : pl ≤ 6) (hb : bg ≤ pl) (h0 : 0 < bg) (e1 : gI σ (c + 1) 1 = nI pl) (e6 : gI σ c 6 = nI bg) (hk : ∀ k, k < pl → gI σ (c + 1 + 1) (3 * k) = v (92 + 33 * i + (9 + 4 * k))) (t0 : gI σ (c + 3) 0 = nI a) (t1 : gI σ (c + 3) 1 = nI b) (t2 : gI σ (c + 3) 2 = nI c') (t3 : gI σ (c + 3) 3 = nI d) : f_X0_lacksSamples c x σ = some (decide (nI a + nI b < gI σ (c + 1 + 1) (3 * (bg - 1) + 2)) || (!decide (ORv v i bg = x) && !decide (gI σ (c + 1 + 1) (3 * (bg - 1) + 2) ≤ nI c' + nI d))) := by
  unfold f_X0_lacksSamples f_X0_lacksSamples_B44 f_X6_treated f_X6_control
  simp only [bnd_d]
  rw [e6, if_neg (fun z => by have := (eq_nI (b := 0) (by omega) (by omega)).mp z; omega), m1_nI h0, show (2 : Int32) = nI 2 from rfl, number_nI e1 hpl (by omega) (by omega), obd_s, cellsC_eq (by omega) hpl e1 hk, obd_s, t0, t1, t2, t3, show min bg pl = bg by omega]
  generalize gI σ (c + 1 + 1) (3 * (bg - 1) + 2) = sm
  by_cases h1 : ORv v i bg = x
  · by_cases h2 : nI a + nI b < sm
    · simp [h1, h2]
    · simp [h1, h2]
  · by_cases h2 : nI a + nI b < sm
    · simp [h1, h2]
    · by_cases h3 : sm ≤ nI c' + nI d <;> simp [h1, h2, h3]
theorem lacksM {τ : St} {i bg : Nat} (hi : i < 5) (e : gI τ (0 + 1) (92 + 33 * i + 3) = nI bg) (h0 : 0 < bg) (h6 : bg ≤ 6) : f_X8_lacks 0 (nI i) τ = some (!gB τ 0 6 && (decide (gI τ (0 + 1) (92 + 33 * i + 5) + gI τ (0 + 1) (92 + 33 * i + 6) < gI τ (0 + 1) (92 + 33 * i + (11 + 4 * (bg - 1)))) || (!decide (ORv (τ.1 (0 + 1)) i bg = (1 <<< ((gI τ (0 + 1) 0) &&& 31)) - 1) && !decide (gI τ (0 + 1) (92 + 33 * i + (11 + 4 * (bg - 1))) ≤ gI τ (0 + 1) (92 + 33 * i + 7) + gI τ (0 + 1) (92 + 33 * i + 8))))) := by
  unfold f_X8_lacks f_X8_lacks_B52
  simp only [bnd_d]
  rw [show f_X8_at (nI i) 3 = nI (92 + 33 * i + 3) from at_nI i 3, show f_X8_at (nI i) 5 = nI (92 + 33 * i + 5) from at_nI i 5, if_pos (inb_nI (by omega) (by omega)), cl_nI (by omega), e, m1_nI h0, show f_X8_stageAt (nI i) (nI (bg - 1)) 2 = nI (92 + 33 * i + (9 + 4 * (bg - 1) + 2)) from sat_nI i (bg - 1) 2, if_pos (inb_nI (by omega) (by omega)), cl_nI (show 92 + 33 * i + (9 + 4 * (bg - 1) + 2) < 10000000 by omega), show 9 + 4 * (bg - 1) + 2 = 11 + 4 * (bg - 1) by omega, reached_eq hi h6 e, obd_s, nI_1, show nI (92 + 33 * i + 5) + 2 = nI (92 + 33 * i + 5 + 2) from nI_add _ 2, show nI (92 + 33 * i + 5) + 3 = nI (92 + 33 * i + 5 + 3) from nI_add _ 3, inb_nI (show 92 + 33 * i + 5 < 257 by omega) (by omega), inb_nI (show 92 + 33 * i + 5 + 1 < 257 by omega) (by omega), inb_nI (show 92 + 33 * i + 5 + 2 < 257 by omega) (by omega), inb_nI (show 92 + 33 * i + 5 + 3 < 257 by omega) (by omega), cl_nI (show 92 + 33 * i + 5 < 10000000 by omega), cl_nI (show 92 + 33 * i + 5 + 1 < 10000000 by omega), cl_nI (show 92 + 33 * i + 5 + 2 < 10000000 by omega), cl_nI (show 92 + 33 * i + 5 + 3 < 10000000 by omega)]
  simp only [if_true, show (0 : Int32).toNatClampNeg = 0 from rfl, Nat.add_assoc, Nat.reduceAdd]
  generalize gI τ (0 + 1) (92 + (33 * i + (11 + 4 * (bg - 1)))) = sm
  generalize gI τ (0 + 1) (92 + (33 * i + 5)) + gI τ (0 + 1) (92 + (33 * i + 6)) = tr
  generalize gI τ (0 + 1) (92 + (33 * i + 7)) + gI τ (0 + 1) (92 + (33 * i + 8)) = ct
  cases gB τ 0 6
  · by_cases h1 : ORv (τ.1 1) i bg = (1 <<< (gI τ 1 0 &&& 31)) - 1
    · by_cases h2 : tr < sm <;> simp [h1, h2]
    · by_cases h2 : tr < sm
      · simp [h1, h2]
      · by_cases h3 : sm ≤ ct <;> simp [h1, h2, h3]
  · simp
