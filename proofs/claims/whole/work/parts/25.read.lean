/-! what is read of a change, on both sides -/
def orf (g : Nat → Int32) : Nat → Nat → Int32 → Int32
  | _, 0, a => a
  | k, m + 1, a => orf g (k + 1) m (a ||| g k)
theorem orf_congr {g g' : Nat → Int32} : ∀ (m k : Nat) (a : Int32), (∀ j, k ≤ j → j < k + m → g j = g' j) → orf g k m a = orf g' k m a := by
  intro m
  induction m with
  | zero => intro k a _; rfl
  | succ m ih =>
    intro k a h
    show orf g (k + 1) m (a ||| g k) = orf g' (k + 1) m (a ||| g' k)
    rw [h k (by omega) (by omega), ih (k + 1) _ (fun j h1 h2 => h j (by omega) (by omega))]
theorem cellsC_L {σ : St} {q n pl : Nat} (hn : n ≤ 6) (hpl : pl ≤ 6) (e : gI σ q 1 = nI pl) (t : Nat) (ht : t = min n pl) : ∀ (m k F : Nat) (a : Int32), k + m = t → m < F → it2 (f_X4_cellsOfFirst_L4 σ q (nI n)) F a (nI k) = some (orf (fun k => gI σ (q + 1) (3 * k)) k m a) := by
  intro m
  induction m with
  | zero =>
    intro k F a hkm hF
    obtain ⟨F, rfl⟩ : ∃ n', F = n' + 1 := ⟨F - 1, by omega⟩
    show f_X4_cellsOfFirst_L4 σ q (nI n) (it2 (f_X4_cellsOfFirst_L4 σ q (nI n)) F) a (nI k) = _
    generalize it2 (f_X4_cellsOfFirst_L4 σ q (nI n)) F = g
    unfold f_X4_cellsOfFirst_L4
    rw [e]
    by_cases h : n ≤ k
    · rw [if_pos (leN h (by omega))]; rfl
    · rw [if_neg (nleN (by omega) (by omega)), if_pos (leN (by omega) (by omega))]; rfl
  | succ m ih =>
    intro k F a hkm hF
    obtain ⟨F, rfl⟩ : ∃ n', F = n' + 1 := ⟨F - 1, by omega⟩
    show f_X4_cellsOfFirst_L4 σ q (nI n) (it2 (f_X4_cellsOfFirst_L4 σ q (nI n)) F) a (nI k) = _
    have ih' := fun a => ih (k + 1) F a (by omega) (by omega)
    generalize it2 (f_X4_cellsOfFirst_L4 σ q (nI n)) F = g at ih' ⊢
    unfold f_X4_cellsOfFirst_L4
    have i1 : nI k * 3 + 0 = nI (3 * k) := by show nI k * nI 3 + nI 0 = _; rw [pk_mul, nI_add]; congr 1; omega
    rw [e, if_neg (nleN (by omega) (by omega)), if_neg (nleN (by omega) (by omega)), show (6 : Int32) = nI 6 from rfl, if_neg (nleN (by omega) (by omega))]
    simp only [bnd_d, nI_1, i1]
    rw [if_pos (inb_nI (by omega) (by omega)), cl_nI (by omega), ih']
    rfl
theorem cellsM_L {τ : St} {i n : Nat} (hi : i < 5) (hn : n ≤ 6) : ∀ (m k F : Nat) (a : Int32), k + m = n → m < F → it2 (f_X8_cellsOf_L5 τ 0 (nI i) (nI n)) F a (nI k) = some (orf (fun k => τ.1 (0 + 1) (92 + 33 * i + (9 + 4 * k))) k m a) := by
  intro m
  induction m with
  | zero =>
    intro k F a hkm hF
    obtain ⟨F, rfl⟩ : ∃ n', F = n' + 1 := ⟨F - 1, by omega⟩
    show f_X8_cellsOf_L5 τ 0 (nI i) (nI n) (it2 (f_X8_cellsOf_L5 τ 0 (nI i) (nI n)) F) a (nI k) = _
    generalize it2 (f_X8_cellsOf_L5 τ 0 (nI i) (nI n)) F = g
    unfold f_X8_cellsOf_L5
    rw [if_pos (leN (by omega) (by omega))]; rfl
  | succ m ih =>
    intro k F a hkm hF
    obtain ⟨F, rfl⟩ : ∃ n', F = n' + 1 := ⟨F - 1, by omega⟩
    show f_X8_cellsOf_L5 τ 0 (nI i) (nI n) (it2 (f_X8_cellsOf_L5 τ 0 (nI i) (nI n)) F) a (nI k) = _
    have ih' := fun a => ih (k + 1) F a (by omega) (by omega)
    generalize it2 (f_X8_cellsOf_L5 τ 0 (nI i) (nI n)) F = g at ih' ⊢
    unfold f_X8_cellsOf_L5
    rw [if_neg (nleN (by omega) (by omega))]
    simp only [bnd_d, nI_1]
    rw [show (0 : Int32) = nI 0 from rfl, sat_nI, if_pos (inb_nI (by omega) (by omega)), cl_nI (by omega), ih']
    rfl
/-- the cells of the first n stages -/
def ORv (v : Nat → Int32) (i n : Nat) : Int32 := orf (fun k => v (92 + 33 * i + (9 + 4 * k))) 0 n 0
theorem cellsC_eq {σ : St} {c i n pl : Nat} {v : Nat → Int32} (hn : n ≤ 6) (hpl : pl ≤ 6) (e : gI σ (c + 1) 1 = nI pl) (hk : ∀ k, k < pl → gI σ (c + 1 + 1) (3 * k) = v (92 + 33 * i + (9 + 4 * k))) : f_X4_cellsOfFirst (c + 1) (nI n) σ = some (ORv v i (min n pl)) := by
  obtain ⟨F, hFu, eF⟩ := fuel_ex
  unfold f_X4_cellsOfFirst
  rw [eF, show (0 : Int32) = nI 0 from rfl, cellsC_L hn hpl e (min n pl) rfl (min n pl) 0 F _ (by omega) (by omega)]
  unfold ORv
  congr 1
  exact orf_congr _ _ _ (fun j h1 h2 => hk j (by omega))
theorem cellsM_eq {τ : St} {i n : Nat} (hi : i < 5) (hn : n ≤ 6) : f_X8_cellsOf 0 (nI i) (nI n) τ = some (ORv (τ.1 (0 + 1)) i n) := by
  obtain ⟨F, hFu, eF⟩ := fuel_ex
  unfold f_X8_cellsOf
  rw [eF, show (0 : Int32) = nI 0 from rfl, cellsM_L hi hn n 0 F _ (by omega) (by omega)]
  rfl
/-- the facts of a change, named -/
theorem CR.use {σ : St} {c i : Nat} {v : Nat → Int32} (h : CR σ c i v) : ∃ st pl bg m a b c' d : Nat, (v (92 + 33 * i + 1) = nI st ∧ st ≤ 5 ∧ v (92 + 33 * i + 2) = nI pl ∧ pl ≤ 6 ∧ v (92 + 33 * i + 3) = nI bg ∧ bg ≤ pl ∧ (st = 0 → bg = 0) ∧ v (92 + 33 * i + 4) = nI m ∧ m < 2 ^ i) ∧ (v (92 + 33 * i + 5) = nI a ∧ v (92 + 33 * i + 6) = nI b ∧ v (92 + 33 * i + 7) = nI c' ∧ v (92 + 33 * i + 8) = nI d ∧ a + b ≤ 25 ∧ c' + d ≤ 25) ∧ v (92 + 33 * i) = bI (gB σ c 7) ∧
  (gI σ c 4 = nI m ∧ gI σ c 5 = nI st ∧ gI σ c 6 = nI bg ∧ gI σ (c + 1) 1 = nI pl) ∧ (∀ k, k < pl → gI σ (c + 1 + 1) (3 * k) = v (92 + 33 * i + (9 + 4 * k)) ∧ gI σ (c + 1 + 1) (3 * k + 1) = v (92 + 33 * i + (10 + 4 * k)) ∧ gI σ (c + 1 + 1) (3 * k + 2) = v (92 + 33 * i + (11 + 4 * k))) ∧ (∀ k, k < bg → gI σ (c + 4) k = v (92 + 33 * i + (12 + 4 * k))) ∧
  (gI σ (c + 3) 0 = nI a ∧ gI σ (c + 3) 1 = nI b ∧ gI σ (c + 3) 2 = nI c' ∧ gI σ (c + 3) 3 = nI d ∧ gL σ (c + 3) 4 = lN (chN a b c' d) ∧ gL σ (c + 3) 5 = lN (chD a b c' d)) := by
  obtain ⟨st, pl, bg, m, a, b, c', d, ⟨h1, h2, h3, h4, h5, h6, h7, h8, h9⟩, ⟨g1, g2, g3, g4, g5, g6⟩, e0, ⟨f1, f2, f3, f4⟩, k1, k2, m1, m2, m3, m4, m5, m6⟩ := h
  exact ⟨st, pl, bg, m, a, b, c', d, ⟨h1, h2, h3, h4, h5, h6, h7, h8, h9⟩, ⟨g1, g2, g3, g4, g5, g6⟩, e0, ⟨f1.trans h8, f2.trans h1, f3.trans h5, f4.trans h3⟩, k1, k2, m1.trans g1, m2.trans g2, m3.trans g3, m4.trans g4, m5, m6⟩
theorem reached_eq {τ : St} {i bg : Nat} (hi : i < 5) (hb : bg ≤ 6) (e : τ.1 (0 + 1) (92 + 33 * i + 3) = nI bg) : f_X8_reached 0 (nI i) τ = some (ORv (τ.1 (0 + 1)) i bg) := by
  unfold f_X8_reached
  simp only [bnd_d]
  rw [show (3 : Int32) = nI 3 from rfl, at_nI, if_pos (inb_nI (by omega) (by omega)), cl_nI (by omega), show gI τ (0 + 1) (92 + 33 * i + 3) = nI bg from e, cellsM_eq hi hb, obd_s]
theorem isAt_eq {σ : St} {c i bg pl : Nat} {v : Nat → Int32} {x : Int32} (hpl : pl ≤ 6) (hb : bg ≤ pl) (e1 : gI σ (c + 1) 1 = nI pl) (e6 : gI σ c 6 = nI bg) (hk : ∀ k, k < pl → gI σ (c + 1 + 1) (3 * k) = v (92 + 33 * i + (9 + 4 * k))) : f_X0_isAt c x σ = some (!decide ((ORv v i bg >>> (x &&& 31)) &&& 1 = 0)) := by
  unfold f_X0_isAt
  rw [e6, cellsC_eq (by omega) hpl e1 hk, obd_s, show min bg pl = bg by omega]
  by_cases h : (ORv v i bg >>> (x &&& 31)) &&& 1 = 0 <;> simp [h]
theorem bit01 (x s : Int32) : (x >>> s) &&& 1 = 0 ∨ (x >>> s) &&& 1 = 1 := by
  obtain ⟨j, hj, e⟩ := pk_andE (x >>> s) (m := 1) 1 (by decide)
  rw [e]
  have : j = 0 ∨ j = 1 := by omega
  rcases this with rfl | rfl
  · left; rfl
  · right; rfl
/-- which changes a cell has: changes k .. k + m - 1 -/
def hvf (v : Nat → Int32) (x : Int32) : Nat → Nat → Int32 → Int32
  | _, 0, a => a
  | k, m + 1, a => hvf v x (k + 1) m (a ||| (((ORv v k (v (92 + 33 * k + 3)).toNatClampNeg >>> (x &&& 31)) &&& 1) <<< (nI k &&& 31)))
theorem changesOf_L {σ : St} {b sz : Nat} {v : Nat → Int32} {x : Int32} (hsz : sz ≤ 5) (e4 : gI σ b 4 = nI sz) (hc : ∀ i, i < sz → CR σ (b + 1 + 1 + 5 * i) i v) : ∀ (m k F : Nat) (a : Int32), k + m = sz → m < F → it2 (f_X1_changesOf_L4 σ b x) F a (nI k) = some (hvf v x k m a) := by
  intro m
  induction m with
  | zero =>
    intro k F a hkm hF
    obtain ⟨F, rfl⟩ : ∃ n', F = n' + 1 := ⟨F - 1, by omega⟩
    show f_X1_changesOf_L4 σ b x (it2 (f_X1_changesOf_L4 σ b x) F) a (nI k) = _
    generalize it2 (f_X1_changesOf_L4 σ b x) F = g
    unfold f_X1_changesOf_L4
    rw [e4, if_pos (leN (by omega) (by omega))]; rfl
  | succ m ih =>
    intro k F a hkm hF
    obtain ⟨F, rfl⟩ : ∃ n', F = n' + 1 := ⟨F - 1, by omega⟩
    show f_X1_changesOf_L4 σ b x (it2 (f_X1_changesOf_L4 σ b x) F) a (nI k) = _
    have ih' := fun a => ih (k + 1) F a (by omega) (by omega)
    generalize it2 (f_X1_changesOf_L4 σ b x) F = g at ih' ⊢
    obtain ⟨st, pl, bg, m', a', b', c', d, ⟨h1, h2, h3, h4, h5, h6, h7, h8, h9⟩, -, -, ⟨f1, f2, f3, f4⟩, k1, -⟩ := (hc k (by omega)).use
    unfold f_X1_changesOf_L4
    rw [e4, if_neg (nleN (by omega) (by omega)), show (5 : Int32) = nI 5 from rfl, if_neg (nleN (by omega) (by omega)), if_pos (inb_nI (by omega) (by omega)), cl_nI (by omega), isAt_eq h4 h6 f4 f3 (fun k hk => (k1 k hk).1), obd_s]
    simp only [bnd_d, nI_1]
    rw [ih', ih']
    show _ = some (hvf v x (k + 1) m (a ||| (((ORv v k (v (92 + 33 * k + 3)).toNatClampNeg >>> (x &&& 31)) &&& 1) <<< (nI k &&& 31))))
    rw [h5, cl_nI (by omega)]
    rcases bit01 (ORv v k bg) (x &&& 31) with h | h
    · rw [h]
      simp
    · rw [h]
      simp
theorem having_L {τ : St} {sz : Nat} {v : Nat → Int32} {x : Int32} (ev : v = τ.1 (0 + 1)) (hsz : sz ≤ 5) (e4 : v 10 = nI sz) (hc : ∀ i, i < sz → ∃ bg, v (92 + 33 * i + 3) = nI bg ∧ bg ≤ 6) : ∀ (m k F : Nat) (a : Int32), k + m = sz → m < F → it2 (f_X8_having_L4 τ 0 x) F a (nI k) = some (hvf v x k m a) := by
  intro m
  induction m with
  | zero =>
    intro k F a hkm hF
    obtain ⟨F, rfl⟩ : ∃ n', F = n' + 1 := ⟨F - 1, by omega⟩
    show f_X8_having_L4 τ 0 x (it2 (f_X8_having_L4 τ 0 x) F) a (nI k) = _
    generalize it2 (f_X8_having_L4 τ 0 x) F = g
    unfold f_X8_having_L4
    rw [show (10 : Int32).toNatClampNeg = 10 from rfl, show gI τ (0 + 1) 10 = nI sz by rw [← e4, ev]; rfl, if_pos (leN (by omega) (by omega))]; rfl
  | succ m ih =>
    intro k F a hkm hF
    obtain ⟨F, rfl⟩ : ∃ n', F = n' + 1 := ⟨F - 1, by omega⟩
    show f_X8_having_L4 τ 0 x (it2 (f_X8_having_L4 τ 0 x) F) a (nI k) = _
    have ih' := fun a => ih (k + 1) F a (by omega) (by omega)
    generalize it2 (f_X8_having_L4 τ 0 x) F = g at ih' ⊢
    obtain ⟨bg, h5, h6⟩ := hc k (by omega)
    unfold f_X8_having_L4
    rw [show (10 : Int32).toNatClampNeg = 10 from rfl, show gI τ (0 + 1) 10 = nI sz by rw [← e4, ev]; rfl, if_neg (nleN (by omega) (by omega)), reached_eq (by omega) h6 (by rw [← ev]; exact h5), obd_s, ← ev]
    simp only [bnd_d, nI_1]
    rw [ih']
    show _ = some (hvf v x (k + 1) m (a ||| (((ORv v k (v (92 + 33 * k + 3)).toNatClampNeg >>> (x &&& 31)) &&& 1) <<< (nI k &&& 31))))
    rw [h5, cl_nI (by omega)]
