/-! numbers of sets -/
theorem chs_0 (n : Nat) : chs n 0 = 1 := by cases n <;> rfl
theorem chs_ss (n k : Nat) : chs (n + 1) (k + 1) = chs n k + chs n (k + 1) := rfl
theorem chs_gt : ∀ (n k : Nat), n < k → chs n k = 0 := by
  intro n
  induction n with
  | zero =>
    intro k h
    obtain ⟨k, rfl⟩ : ∃ k', k = k' + 1 := ⟨k - 1, by omega⟩
    rfl
  | succ n ih =>
    intro k h
    obtain ⟨k, rfl⟩ : ∃ k', k = k' + 1 := ⟨k - 1, by omega⟩
    rw [chs_ss, ih k (by omega), ih (k + 1) (by omega)]
theorem chs_le : ∀ (n k : Nat), chs n k ≤ 2 ^ n := by
  intro n
  induction n with
  | zero =>
    intro k
    cases k with
    | zero => exact Nat.le_refl _
    | succ k => exact Nat.zero_le _
  | succ n ih =>
    intro k
    cases k with
    | zero => rw [chs_0]; exact Nat.two_pow_pos _
    | succ k =>
      rw [chs_ss, Nat.pow_succ]
      have h1 := ih k
      have h2 := ih (k + 1)
      omega
theorem chs_pos : ∀ (n k : Nat), k ≤ n → 0 < chs n k := by
  intro n
  induction n with
  | zero =>
    intro k h
    rw [show k = 0 by omega, chs_0]
    omega
  | succ n ih =>
    intro k h
    cases k with
    | zero => rw [chs_0]; omega
    | succ k =>
      rw [chs_ss]
      have := ih k (by omega)
      omega
theorem chs_mul : ∀ (n k : Nat), (k + 1) * chs (n + 1) (k + 1) = (n + 1) * chs n k := by
  intro n
  induction n with
  | zero =>
    intro k
    cases k with
    | zero => rfl
    | succ k =>
      rw [chs_gt 1 (k + 1 + 1) (by omega), chs_gt 0 (k + 1) (by omega), Nat.mul_zero, Nat.mul_zero]
  | succ n ih =>
    intro k
    cases k with
    | zero =>
      have h := ih 0
      rw [chs_0] at h
      rw [chs_ss, chs_0]
      omega
    | succ k =>
      have h1 := ih k
      have h2 := ih (k + 1)
      rw [chs_ss (n + 1) (k + 1), Nat.mul_add, h2, Nat.add_mul (k + 1) 1, h1, chs_ss n k, Nat.mul_add (n + 1 + 1), Nat.add_mul (n + 1) 1, Nat.add_mul (n + 1) 1]
      omega
theorem chs_sy : ∀ (a b : Nat), chs (a + b) a = chs (a + b) b := by
  intro a
  induction a with
  | zero =>
    intro b
    rw [chs_0, Nat.zero_add]
    induction b with
    | zero => rfl
    | succ b ih => rw [chs_ss, ← ih, chs_gt b (b + 1) (by omega)]
  | succ a ih =>
    intro b
    induction b with
    | zero => 
      rw [chs_0, Nat.add_zero]
      have h := ih 0
      rw [chs_0, Nat.add_zero] at h
      rw [chs_ss, h, chs_gt a (a + 1) (by omega)]
    | succ b ihb =>
      have h := ih (b + 1)
      rw [show a + 1 + (b + 1) = (a + 1 + b) + 1 by omega, chs_ss, chs_ss, ihb]
      rw [show a + (b + 1) = a + 1 + b by omega] at h
      rw [h]
      omega
theorem sets_L {n r m : Nat} {y : Int32} (hn : n ≤ 50) (hr : r ≤ n) (hm : m = n - r) : ∀ (t j F : Nat), j + t = r → t < F → it3 (f_X6_setsOf_L21 (nI n) y) F (nI r) (lN (chs (m + j) j)) (nI (j + 1)) = some (lN (chs n r)) := by
  intro t
  induction t with
  | zero =>
    intro j F hjt hF
    obtain ⟨F, rfl⟩ : ∃ n', F = n' + 1 := ⟨F - 1, by omega⟩
    show f_X6_setsOf_L21 (nI n) y (it3 (f_X6_setsOf_L21 (nI n) y) F) (nI r) (lN (chs (m + j) j)) (nI (j + 1)) = _
    generalize it3 (f_X6_setsOf_L21 (nI n) y) F = g
    unfold f_X6_setsOf_L21
    rw [if_pos (ltN (by omega) (by omega)), show m + j = n by omega, show j = r by omega]
  | succ t ih =>
    intro j F hjt hF
    obtain ⟨F, rfl⟩ : ∃ n', F = n' + 1 := ⟨F - 1, by omega⟩
    show f_X6_setsOf_L21 (nI n) y (it3 (f_X6_setsOf_L21 (nI n) y) F) (nI r) (lN (chs (m + j) j)) (nI (j + 1)) = _
    have ih' := ih (j + 1) F (by omega) (by omega)
    generalize it3 (f_X6_setsOf_L21 (nI n) y) F = g at ih' ⊢
    unfold f_X6_setsOf_L21
    have hb : chs (m + j) j ≤ 2 ^ 50 := Nat.le_trans (chs_le _ _) (Nat.pow_le_pow_right (by omega) (by omega))
    have hmul : chs (m + j) j * (m + j + 1) = (j + 1) * chs (m + j + 1) (j + 1) := by rw [chs_mul, Nat.mul_comm]
    have hbb : chs (m + j) j * (m + j + 1) ≤ 2 ^ 50 * 51 := Nat.mul_le_mul hb (by omega)
    have hn0 : ¬ lN (j + 1) = 0 := fun z => by
      have := (pk_lEQ (b := 0) (show j + 1 < 2 ^ 63 by omega) (by omega)).mp z
      omega
    rw [if_neg (nltN (by omega) (by omega)), nI_l (by omega), if_pos hn0, pk_sub hr, ← hm, nI_add, nI_l (by omega), lN_mul, show m + (j + 1) = m + j + 1 by omega, pk_lDiv (by omega) (by omega) (by omega), hmul, Nat.mul_div_cancel_left _ (by omega), bnd_e, bnd_e, nI_1]
    exact ih'
theorem setsOf_eq {n k : Nat} (hn : n ≤ 50) (hk : k ≤ 50) : f_X6_setsOf (nI n) (nI k) = some (lN (chs n k)) := by
  obtain ⟨F, hFu, eF⟩ := fuel_ex
  unfold f_X6_setsOf
  rw [eF, bnd_e]
  by_cases h : k ≤ n
  · rw [pk_sub h]
    by_cases h2 : n - k < k
    · rw [if_pos (ltN h2 (by omega)), if_pos (nI_pos' (by omega))]
      have := sets_L (y := nI k) hn (show n - k ≤ n by omega) (show n - (n - k) = n - (n - k) from rfl) (n - k) 0 F (by omega) (by omega)
      rw [show n - (n - k) + 0 = k by omega, chs_0] at this
      have e := chs_sy k (n - k)
      rw [show k + (n - k) = n by omega] at e
      rw [e]
      exact this
    · rw [if_neg (nltN (by omega) (by omega)), if_pos (nI_pos' (by omega))]
      have := sets_L (y := nI k) hn h (show n - k = n - k from rfl) k 0 F (by omega) (by omega)
      rw [chs_0] at this
      exact this
  · have e1 : (nI n - nI k).toInt = (n : Int) - k := pk_sub_toInt (by omega) (by omega)
    have c1 : nI n - nI k < nI k := by rw [Int32.lt_iff_toInt_lt, e1, nI_toInt (by omega)]; omega
    have c2 : ¬ 0 ≤ nI n - nI k := by rw [Int32.le_iff_toInt_le, e1, show (0 : Int32).toInt = 0 from rfl]; omega
    have c3 : nI n - nI k < 1 := by rw [Int32.lt_iff_toInt_lt, e1, show (1 : Int32).toInt = 1 from rfl]; omega
    rw [if_pos c1, if_neg c2, chs_gt n k (by omega)]
    obtain ⟨F, rfl⟩ : ∃ n', F = n' + 1 := ⟨F - 1, by omega⟩
    show f_X6_setsOf_L21 (nI n) (nI k) (it3 (f_X6_setsOf_L21 (nI n) (nI k)) F) (nI n - nI k) 0 1 = _
    generalize it3 (f_X6_setsOf_L21 (nI n) (nI k)) F = g
    unfold f_X6_setsOf_L21
    rw [if_pos c3]
    rfl
/-- a part of a row of numbers of sets -/
def rsum (A : Nat) : Nat → Nat → Nat
  | _, 0 => 0
  | k, m + 1 => chs A k + rsum A (k + 1) m
theorem rsum_s (A : Nat) : ∀ (m k : Nat), rsum (A + 1) (k + 1) m = rsum A k m + rsum A (k + 1) m := by
  intro m
  induction m with
  | zero => intro k; rfl
  | succ m ih =>
    intro k
    show chs (A + 1) (k + 1) + rsum (A + 1) (k + 1 + 1) m = (chs A k + rsum A (k + 1) m) + (chs A (k + 1) + rsum A (k + 1 + 1) m)
    rw [ih, chs_ss]
    omega
theorem rsum_le : ∀ (A m k : Nat), rsum A k m ≤ 2 ^ A := by
  intro A
  induction A with
  | zero =>
    intro m
    induction m with
    | zero => intro k; exact Nat.zero_le _
    | succ m ih =>
      intro k
      show chs 0 k + rsum 0 (k + 1) m ≤ 1
      cases k with
      | zero =>
        have : ∀ m k, rsum 0 (k + 1) m = 0 := by
          intro m
          induction m with
          | zero => intro k; rfl
          | succ m ih => intro k; show chs 0 (k + 1) + rsum 0 (k + 1 + 1) m = 0; rw [ih]; rfl
        rw [this]
        exact Nat.le_refl _
      | succ k =>
        have := ih (k + 1 + 1)
        show 0 + _ ≤ _
        rw [Nat.zero_add]
        exact this
  | succ A ih =>
    intro m k
    rw [Nat.pow_succ]
    cases k with
    | succ k =>
      rw [rsum_s]
      have h1 := ih m k
      have h2 := ih m (k + 1)
      omega
    | zero =>
      cases m with
      | zero => exact Nat.zero_le _
      | succ m =>
        show chs (A + 1) 0 + rsum (A + 1) 1 m ≤ _
        rw [rsum_s, chs_0]
        have h1 := ih m 0
        have h2 := ih (m + 1) 0
        have h3 : rsum A 0 (m + 1) = chs A 0 + rsum A 1 m := rfl
        rw [chs_0] at h3
        show 1 + (rsum A 0 m + rsum A 1 m) ≤ _
        omega
theorem wsum_le (A B t : Nat) : ∀ (m k : Nat), wsum A B t k m ≤ rsum A k m * 2 ^ B := by
  intro m
  induction m with
  | zero => intro k; exact Nat.zero_le _
  | succ m ih =>
    intro k
    show chs A k * chs B (t - k) + wsum A B t (k + 1) m ≤ (chs A k + rsum A (k + 1) m) * 2 ^ B
    rw [Nat.add_mul]
    exact Nat.add_le_add (Nat.mul_le_mul_left _ (chs_le _ _)) (ih _)
theorem wsum_50 {A B t m k : Nat} (h : A + B ≤ 50) : wsum A B t k m ≤ 2 ^ 50 := by
  refine Nat.le_trans (wsum_le A B t m k) (Nat.le_trans (Nat.mul_le_mul_right _ (rsum_le A m k)) ?_)
  rw [← Nat.pow_add]
  exact Nat.pow_le_pow_right (by omega) h
theorem chs_50 {n k : Nat} (h : n ≤ 50) : chs n k ≤ 2 ^ 50 := Nat.le_trans (chs_le _ _) (Nat.pow_le_pow_right (by omega) h)
/-- the greatest common divisor, in at most 2 t + 1 turns -/
theorem half_mod {a b : Nat} (hb : 0 < b) (h : 0 < a % b) : 2 * (b % (a % b)) < b := by
  have h1 : a % b < b := Nat.mod_lt _ hb
  have h2 : b % (a % b) < a % b := Nat.mod_lt _ h
  have h3 : (a % b) * (b / (a % b)) + b % (a % b) = b := Nat.div_add_mod _ _
  have h4 : 0 < b / (a % b) := Nat.div_pos (by omega) h
  have h5 : a % b ≤ (a % b) * (b / (a % b)) := Nat.le_mul_of_pos_right _ h4
  omega
