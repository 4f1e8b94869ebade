/-! the greatest common divisor on both sides, and the chance of the component -/
theorem cmp0 {b : Nat} (hb : b < 2 ^ 63) : lg_cmp (lN b) 0 = 0 ↔ b = 0 := by
  unfold lg_cmp
  have h1 : (lN b > 0) ↔ 0 < b := pk_lLT (a := 0) (by omega) hb
  have h2 : (lN b = 0) ↔ b = 0 := pk_lEQ (b := 0) hb (by omega)
  by_cases h : b = 0
  · subst h
    constructor
    · intro _; rfl
    · intro _; rfl
  · rw [if_pos (h1.mpr (by omega))]
    constructor
    · intro z; exact absurd z (by decide)
    · intro z; exact absurd z h
theorem cmp_lt {a b : Nat} (ha : a < 2 ^ 63) (hb : b < 2 ^ 63) : 0 < lg_cmp (lN a) (lN b) ↔ b < a := by
  unfold lg_cmp
  have h1 : (lN a > lN b) ↔ b < a := pk_lLT hb ha
  by_cases h : b < a
  · rw [if_pos (h1.mpr h)]
    exact ⟨fun _ => h, fun _ => by decide⟩
  · rw [if_neg (fun z => h (h1.mp z))]
    by_cases h2 : lN a = lN b
    · rw [if_pos h2]
      exact ⟨fun z => absurd z (by decide), fun z => absurd z h⟩
    · rw [if_neg h2]
      exact ⟨fun z => absurd z (by decide), fun z => absurd z h⟩
theorem gcd_st (a b : Nat) : Nat.gcd a b = Nat.gcd b (a % b) := by rw [Nat.gcd_comm a b, Nat.gcd_rec b a, Nat.gcd_comm]
theorem lne0 {b : Nat} (h : 0 < b) (hb : b < 2 ^ 63) : ¬ lN b = 0 := fun z => by
  have := (pk_lEQ (b := 0) hb (by omega)).mp z
  omega
theorem gcdC_0 {w0 w2 : Int64} {a x F : Nat} (ha : a < 2 ^ 63) (h0 : 0 < a) (hx : x < 1000) : it3 (f_X6_commonDivisor_L9 w0 w2) (F + 1) (lN a) (lN 0) (nI x) = some (lN a) := by
  show f_X6_commonDivisor_L9 w0 w2 (it3 (f_X6_commonDivisor_L9 w0 w2) F) (lN a) (lN 0) (nI x) = _
  generalize it3 (f_X6_commonDivisor_L9 w0 w2) F = g
  unfold f_X6_commonDivisor_L9
  rw [if_neg (show ¬ (1000 : Int32) ≤ nI x from nleN (a := 1000) hx (by omega)), if_pos ((cmp0 (by omega)).mpr rfl)]
  by_cases h1 : 1 < a
  · rw [if_pos (show (1 : Int64) < lN a from (pk_lLT (a := 1) (by omega) ha).mpr h1)]
  · rw [if_neg (show ¬ (1 : Int64) < lN a from fun z => h1 ((pk_lLT (a := 1) (by omega) ha).mp z)), show a = 1 by omega]
    rfl
theorem gcdC_s {w0 w2 : Int64} {a b x F : Nat} (ha : a < 2 ^ 63) (hb : b < 2 ^ 63) (h0 : 0 < b) (hx : x < 1000) : it3 (f_X6_commonDivisor_L9 w0 w2) (F + 1) (lN a) (lN b) (nI x) = it3 (f_X6_commonDivisor_L9 w0 w2) F (lN b) (lN (a % b)) (nI (x + 1)) := by
  show f_X6_commonDivisor_L9 w0 w2 (it3 (f_X6_commonDivisor_L9 w0 w2) F) (lN a) (lN b) (nI x) = _
  generalize it3 (f_X6_commonDivisor_L9 w0 w2) F = g
  unfold f_X6_commonDivisor_L9
  rw [if_neg (show ¬ (1000 : Int32) ≤ nI x from nleN (a := 1000) hx (by omega)), if_neg (fun z => by have := (cmp0 hb).mp z; omega), if_pos (lne0 h0 hb), pk_lRem ha h0 hb, bnd_e, bnd_e, nI_1]
theorem gcdC_L {w0 w2 : Int64} : ∀ (t a b x F : Nat), b < 2 ^ t → a < 2 ^ 63 → b < 2 ^ 63 → 0 < Nat.gcd a b → x + 2 * t < 1000 → 2 * t < F → it3 (f_X6_commonDivisor_L9 w0 w2) F (lN a) (lN b) (nI x) = some (lN (Nat.gcd a b)) := by
  intro t
  induction t with
  | zero =>
    intro a b x F hb ha hb2 hg hx hF
    obtain ⟨F, rfl⟩ : ∃ n', F = n' + 1 := ⟨F - 1, by omega⟩
    have : b = 0 := by omega
    subst this
    rw [Nat.gcd_zero_right] at hg ⊢
    exact gcdC_0 ha hg (by omega)
  | succ t ih =>
    intro a b x F hb ha hb2 hg hx hF
    obtain ⟨F, rfl⟩ : ∃ n', F = n' + 1 + 1 := ⟨F - 2, by omega⟩
    by_cases h0 : b = 0
    · subst h0
      rw [Nat.gcd_zero_right] at hg ⊢
      exact gcdC_0 ha hg (by omega)
    · have hr : a % b < b := Nat.mod_lt _ (by omega)
      rw [gcdC_s ha hb2 (by omega) (by omega), gcd_st a b]
      rw [gcd_st a b] at hg
      by_cases h1 : a % b = 0
      · rw [h1, Nat.gcd_zero_right]
        exact gcdC_0 hb2 (by omega) (by omega)
      · have hh := half_mod (a := a) (b := b) (by omega) (by omega)
        rw [gcdC_s hb2 (by omega) (by omega) (by omega), gcd_st b (a % b)]
        rw [gcd_st b (a % b)] at hg
        rw [Nat.pow_succ] at hb
        exact ih (a % b) (b % (a % b)) (x + 1 + 1) F (by omega) (by omega) (by omega) hg (by omega) (by omega)
theorem gcdC_eq {a b : Nat} (ha : a ≤ 2 ^ 50) (hb : b ≤ 2 ^ 50) (hg : 0 < b) : f_X6_commonDivisor (lN a) (lN b) = some (lN (Nat.gcd a b)) := by
  obtain ⟨F, hFu, eF⟩ := fuel_ex
  unfold f_X6_commonDivisor
  rw [eF]
  exact gcdC_L 51 a b 0 F (by omega) (by omega) (by omega) (Nat.gcd_pos_of_pos_right _ hg) (by omega) (by omega)
theorem gcdM_s {w0 w2 : Int64} {a b F : Nat} (ha : a < 2 ^ 63) (hb : b < 2 ^ 63) (h0 : 0 < b) : it2 (f_X8_divisor_L6 w0 w2) (F + 1) (lN a) (lN b) = it2 (f_X8_divisor_L6 w0 w2) F (lN b) (lN (a % b)) := by
  show f_X8_divisor_L6 w0 w2 (it2 (f_X8_divisor_L6 w0 w2) F) (lN a) (lN b) = _
  generalize it2 (f_X8_divisor_L6 w0 w2) F = g
  unfold f_X8_divisor_L6
  rw [if_neg (fun z => by have := (cmp0 hb).mp z; omega), if_pos (lne0 h0 hb), pk_lRem ha h0 hb, bnd_e]
theorem gcdM_0 {w0 w2 : Int64} {a F : Nat} : it2 (f_X8_divisor_L6 w0 w2) (F + 1) (lN a) (lN 0) = some (lN a) := by
  show f_X8_divisor_L6 w0 w2 (it2 (f_X8_divisor_L6 w0 w2) F) (lN a) (lN 0) = _
  generalize it2 (f_X8_divisor_L6 w0 w2) F = g
  unfold f_X8_divisor_L6
  rw [if_pos ((cmp0 (by omega)).mpr rfl)]
theorem gcdM_L {w0 w2 : Int64} : ∀ (t a b F : Nat), b < 2 ^ t → a < 2 ^ 63 → b < 2 ^ 63 → 2 * t < F → it2 (f_X8_divisor_L6 w0 w2) F (lN a) (lN b) = some (lN (Nat.gcd a b)) := by
  intro t
  induction t with
  | zero =>
    intro a b F hb ha hb2 hF
    obtain ⟨F, rfl⟩ : ∃ n', F = n' + 1 := ⟨F - 1, by omega⟩
    have : b = 0 := by omega
    subst this
    rw [Nat.gcd_zero_right]
    exact gcdM_0
  | succ t ih =>
    intro a b F hb ha hb2 hF
    obtain ⟨F, rfl⟩ : ∃ n', F = n' + 1 + 1 := ⟨F - 2, by omega⟩
    by_cases h0 : b = 0
    · subst h0
      rw [Nat.gcd_zero_right]
      exact gcdM_0
    · have hr : a % b < b := Nat.mod_lt _ (by omega)
      rw [gcdM_s ha hb2 (by omega), gcd_st a b]
      by_cases h1 : a % b = 0
      · rw [h1, Nat.gcd_zero_right]
        exact gcdM_0
      · have hh := half_mod (a := a) (b := b) (by omega) (by omega)
        rw [gcdM_s hb2 (by omega) (by omega), gcd_st b (a % b)]
        rw [Nat.pow_succ] at hb
        exact ih (a % b) (b % (a % b)) F (by omega) (by omega) (by omega) (by omega)
theorem gcdM_eq {a b : Nat} (ha : a ≤ 2 ^ 50) (hb : b ≤ 2 ^ 50) : f_X8_divisor (lN a) (lN b) = some (lN (Nat.gcd a b)) := by
  obtain ⟨F, hFu, eF⟩ := fuel_ex
  unfold f_X8_divisor
  rw [eF]
  exact gcdM_L 51 a b F (by omega) (by omega) (by omega) (by omega)
/-- the sum over the range, by end -/
theorem chance_L {q t A B W : Nat} (hA : t ≤ 25) (hAB : A + B ≤ 50) (hW : W ≤ 2 ^ 50) {σ : St} : ∀ (m k F : Nat) (w : Nat), k + m = min t A + 1 → m < F → w + wsum A B t k m = W → it6 (f_X6_computeChance_L34 q) F (nI t) (nI A) (nI B) (lN w) (nI k) σ = f_X6_computeChance_B72 q (nI t) (nI A) (nI B) (lN W) σ := by
  intro m
  induction m with
  | zero =>
    intro k F w hkm hF hw
    obtain ⟨F, rfl⟩ : ∃ n', F = n' + 1 := ⟨F - 1, by omega⟩
    show f_X6_computeChance_L34 q (it6 (f_X6_computeChance_L34 q) F) (nI t) (nI A) (nI B) (lN w) (nI k) σ = _
    generalize it6 (f_X6_computeChance_L34 q) F = g
    unfold f_X6_computeChance_L34
    have ew : w = W := by rw [← hw]; rfl
    rw [ew]
    by_cases h : t < k
    · rw [if_pos (ltN h (by omega))]
    · rw [if_neg (nltN (by omega) (by omega)), if_pos (ltN (by omega) (by omega))]
  | succ m ih =>
    intro k F w hkm hF hw
    obtain ⟨F, rfl⟩ : ∃ n', F = n' + 1 := ⟨F - 1, by omega⟩
    show f_X6_computeChance_L34 q (it6 (f_X6_computeChance_L34 q) F) (nI t) (nI A) (nI B) (lN w) (nI k) σ = _
    have ih' := ih (k + 1) F (w + chs A k * chs B (t - k)) (by omega) (by omega) (by rw [← hw]; show _ = w + (chs A k * chs B (t - k) + wsum A B t (k + 1) m); omega)
    generalize it6 (f_X6_computeChance_L34 q) F = g at ih' ⊢
    unfold f_X6_computeChance_L34
    rw [if_neg (nltN (by omega) (by omega)), if_neg (nltN (by omega) (by omega)), setsOf_eq (by omega) (by omega), obd_s, pk_sub (by omega), setsOf_eq (by omega) (by omega), obd_s, lN_mul, lN_add, bnd_e, bnd_e, nI_1, ih']
theorem chA_pos (a b c d : Nat) : 0 < chA a b c d := chs_pos _ _ (by omega)
theorem chA_le {a b c d : Nat} (h1 : a + b ≤ 25) (h2 : c + d ≤ 25) : chA a b c d ≤ 2 ^ 50 := chs_50 (by omega)
theorem chW_le {a b c d : Nat} (h1 : a + b ≤ 25) (h2 : c + d ≤ 25) : chW a b c d ≤ 2 ^ 50 := wsum_50 (by omega)
theorem compute_eq {σ : St} {q a b c d : Nat} (e0 : gI σ q 0 = nI a) (e1 : gI σ q 1 = nI b) (e2 : gI σ q 2 = nI c) (e3 : gI σ q 3 = nI d) (h1 : a + b ≤ 25) (h2 : c + d ≤ 25) : f_X6_computeChance q σ = some (sL (sL σ q 4 (lN (chN a b c d))) q 5 (lN (chD a b c d))) := by
  obtain ⟨F, hFu, eF⟩ := fuel_ex
  have hW := chW_le h1 h2
  have hA := chA_le h1 h2
  have hp := chA_pos a b c d
  have hg : 0 < Nat.gcd (chW a b c d) (chA a b c d) := Nat.gcd_pos_of_pos_right _ hp
  have hg2 : Nat.gcd (chW a b c d) (chA a b c d) ≤ chA a b c d := Nat.gcd_le_right _ hp
  unfold f_X6_computeChance f_X6_treated
  rw [eF, e0, e1, e2, e3, bnd_e, bnd_e, bnd_e, bnd_e, nI_add, nI_add, nI_add, show (0 : Int64) = lN 0 from rfl, chance_L (W := chW a b c d) h1 (by omega) hW (min (a + b) (a + c) + 1 - a) a F 0 (by omega) (by omega) (by rw [Nat.zero_add]; rfl)]
  unfold f_X6_computeChance_B72
  rw [nI_add, setsOf_eq (by omega) (by omega), obd_s, show chs (a + c + (b + d)) (a + b) = chA a b c d from rfl, gcdC_eq hW hA hp, obd_s, if_pos (lne0 hg (by omega)), bnd_e, if_pos (lne0 hg (by omega)), bnd_e, pk_lDiv (by omega) hg (by omega), pk_lDiv (by omega) hg (by omega)]
  rfl
