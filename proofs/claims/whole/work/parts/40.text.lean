/-! the text: letters, digits, numbers -/
/-- what both sides read: the text of the two, and a place p -/
def TS (σ τ : St) (p len : Nat) (t : Nat → Nat) : Prop := gI σ (0 + 131) 2 = nI len ∧ gI τ 0 5 = nI len ∧ len ≤ 60 ∧ (∀ k, k < len → t k ≤ 127 ∧ gI σ (0 + 131 + 1) k = nI (t k) ∧ gI τ (0 + 5) k = nI (t k)) ∧ gI σ (0 + 131) 3 = nI p ∧ gI τ 0 8 = nI p ∧ p ≤ len
def ltr (t : Nat → Nat) (len p : Nat) : Int32 := if p < len then nI (t p) else -1
theorem ltrC {σ τ : St} {p len p' : Nat} {t : Nat → Nat} (h : TS σ τ p len t) (hp : p' ≤ 61) : f_X5_letterAt (0 + 131) (nI p') σ = some (ltr t len p') := by
  obtain ⟨h1, h2, h3, h4, h5, h6, h7⟩ := h
  unfold f_X5_letterAt ltr
  rw [bnd_e, within_in, h1]
  by_cases c : p' < len
  · rw [if_pos c]
    rcases in_0 (nI p') (n := len) (by omega) with ⟨g, -⟩ | ⟨-, g⟩
    · rw [g, if_pos rfl, show (60 : Int32) = nI 60 from rfl, if_neg (nleN (by omega) (by omega)), if_pos (inb_nI (by omega) (by omega)), cl_nI (by omega), (h4 p' c).2.1]
    · rcases g with g | g
      · exact absurd g (nI_pos (by omega))
      · exact absurd g (nleN c (by omega))
  · rw [if_neg c]
    rcases in_0 (nI p') (n := len) (by omega) with ⟨-, j, hj, e⟩ | ⟨g, -⟩
    · have := (eq_nI (by omega) (by omega)).mp e
      omega
    · rw [g, if_neg (by decide)]
theorem ltrM {σ τ : St} {p len : Nat} {t : Nat → Nat} (h : TS σ τ p len t) : f_X8_here 0 τ = some (ltr t len p) := by
  obtain ⟨h1, h2, h3, h4, h5, h6, h7⟩ := h
  unfold f_X8_here ltr
  rw [h2, h6]
  by_cases c : p < len
  · rw [if_pos c, if_neg (nleN c (by omega)), bnd_e, if_pos (inb_nI (by omega) (by omega)), cl_nI (by omega), (h4 p c).2.2]
  · rw [if_neg c, if_pos (leN (by omega) (by omega))]
/-- the digit at a place: none or some d -/
def dgt (t : Nat → Nat) (len p : Nat) : Option Nat := if p < len ∧ 48 ≤ t p ∧ t p ≤ 57 then some (t p - 48) else none
def dgI : Option Nat → Int32
  | none => -1
  | some d => nI d
theorem dg128 : ∀ c, c < 128 → f_X8_in (nI c - 48) 0 9 = decide (48 ≤ c ∧ c ≤ 57) ∧ f_X8_in (nI c) 48 57 = decide (48 ≤ c ∧ c ≤ 57) := by decide +kernel
theorem dgt_le {t : Nat → Nat} {len p d : Nat} (h : dgt t len p = some d) : d ≤ 9 ∧ p < len ∧ t p = d + 48 := by
  unfold dgt at h
  by_cases c : p < len ∧ 48 ≤ t p ∧ t p ≤ 57
  · rw [if_pos c] at h
    have := Option.some.inj h
    omega
  · rw [if_neg c] at h
    exact absurd h (by intro z; cases z)
theorem dgtC {σ τ : St} {p len p' : Nat} {t : Nat → Nat} (h : TS σ τ p len t) (hp : p' ≤ 61) : f_X5_digitAt (0 + 131) (nI p') σ = some (dgI (dgt t len p')) := by
  unfold f_X5_digitAt
  rw [ltrC h hp, obd_s, bnd_e, bnd_e, within_in]
  unfold ltr dgt
  by_cases c : p' < len
  · have ht := (h.2.2.2.1 p' c).1
    rw [if_pos c, (dg128 (t p') (by omega)).1]
    by_cases c2 : 48 ≤ t p' ∧ t p' ≤ 57
    · rw [if_pos (decide_eq_true c2), if_pos ⟨c, c2⟩, show nI (t p') - 48 = nI (t p' - 48) from pk_sub (b := 48) c2.1]
      rfl
    · rw [decide_eq_false c2, if_neg (by decide), if_neg (fun z => c2 z.2)]
      rfl
  · rw [if_neg c, if_neg (by decide), if_neg (fun z => c z.1)]
    rfl
theorem dgtM {σ τ : St} {p len : Nat} {t : Nat → Nat} (h : TS σ τ p len t) : f_X8_digit 0 τ = some (dgI (dgt t len p)) := by
  unfold f_X8_digit
  rw [ltrM h, obd_s, bnd_e]
  unfold ltr dgt
  by_cases c : p < len
  · have ht := (h.2.2.2.1 p c).1
    rw [if_pos c, (dg128 (t p) (by omega)).2]
    by_cases c2 : 48 ≤ t p ∧ t p ≤ 57
    · rw [if_pos (decide_eq_true c2), if_pos ⟨c, c2⟩, obd_s, show nI (t p) - 48 = nI (t p - 48) from pk_sub (b := 48) c2.1]
      rfl
    · rw [decide_eq_false c2, if_neg (by decide), if_neg (fun z => c2 z.2)]
      rfl
  · rw [if_neg c, if_neg (by decide), if_neg (fun z => c z.1)]
    rfl
/-- a step of the two readers: only their own places differ -/
def frP (σ σ' τ τ' : St) : Prop := (∀ k, k ≠ 0 + 131 → σ'.1 k = σ.1 k) ∧ (∀ j, j ≠ 3 → gI σ' (0 + 131) j = gI σ (0 + 131) j) ∧ σ'.2 = σ.2 ∧ (∀ k, k ≠ 0 → τ'.1 k = τ.1 k) ∧ (∀ j, j ≠ 8 → j ≠ 11 → gI τ' 0 j = gI τ 0 j) ∧ τ'.2 = τ.2
theorem frP.rf {σ τ : St} : frP σ σ τ τ := ⟨fun _ _ => rfl, fun _ _ => rfl, rfl, fun _ _ => rfl, fun _ _ _ => rfl, rfl⟩
theorem frP.tr {σ σ' σ'' τ τ' τ'' : St} (h : frP σ σ' τ τ') (h' : frP σ' σ'' τ' τ'') : frP σ σ'' τ τ'' := ⟨fun k hk => (h'.1 k hk).trans (h.1 k hk), fun j hj => (h'.2.1 j hj).trans (h.2.1 j hj), h'.2.2.1.trans h.2.2.1, fun k hk => (h'.2.2.2.1 k hk).trans (h.2.2.2.1 k hk), fun j h1 h2 => (h'.2.2.2.2.1 j h1 h2).trans (h.2.2.2.2.1 j h1 h2), h'.2.2.2.2.2.trans h.2.2.2.2.2⟩
theorem frP.c {σ τ : St} {x : Int32} : frP σ (sI σ (0 + 131) 3 x) τ τ := ⟨fun k hk => rI_n hk, fun j hj => gI_n (Or.inr hj), rfl, fun _ _ => rfl, fun _ _ _ => rfl, rfl⟩
theorem frP.m8 {σ τ : St} {x : Int32} : frP σ σ τ (sI τ 0 8 x) := ⟨fun _ _ => rfl, fun _ _ => rfl, rfl, fun k hk => rI_n hk, fun j h1 h2 => gI_n (Or.inr h1), rfl⟩
theorem frP.m11 {σ τ : St} {x : Int32} : frP σ σ τ (sI τ 0 11 x) := ⟨fun _ _ => rfl, fun _ _ => rfl, rfl, fun k hk => rI_n hk, fun j h1 h2 => gI_n (Or.inr h2), rfl⟩
theorem TS.mv {σ σ' τ τ' : St} {p p' len : Nat} {t : Nat → Nat} (h : TS σ τ p len t) (fr : frP σ σ' τ τ') (e1 : gI σ' (0 + 131) 3 = nI p') (e2 : gI τ' 0 8 = nI p') (hp : p' ≤ len) : TS σ' τ' p' len t := by
  obtain ⟨h1, h2, h3, h4, h5, h6, h7⟩ := h
  refine ⟨(fr.2.1 2 (by omega)).trans h1, (fr.2.2.2.2.1 5 (by omega) (by omega)).trans h2, h3, fun k hk => ?_, e1, e2, hp⟩
  obtain ⟨a1, a2, a3⟩ := h4 k hk
  refine ⟨a1, ?_, ?_⟩
  · unfold gI; rw [fr.1 _ (by omega)]; exact a2
  · unfold gI; rw [fr.2.2.2.1 _ (by omega)]; exact a3
theorem skip_eq {σ τ : St} {p len : Nat} {t : Nat → Nat} {x : Int32} (h : TS σ τ p len t) (hx : x ≠ -1) : ∃ r σ' τ' p', f_X5_skip (0 + 131) x σ = some (r, σ') ∧ f_X8_takes 0 x τ = some (r, τ') ∧ TS σ' τ' p' len t ∧ frP σ σ' τ τ' ∧ gI τ' 0 11 = gI τ 0 11 := by
  have e5 := h.2.2.2.2.1
  have e6 := h.2.2.2.2.2.1
  unfold f_X5_skip f_X8_takes f_X8_takes_B13
  rw [e5, ltrC h (by have := h.2.2.1; have := h.2.2.2.2.2.2; omega), ltrM h, obd_s, obd_s]
  by_cases c : ltr t len p = x
  · have hp : p < len := by
      by_cases c2 : p < len
      · exact c2
      · unfold ltr at c
        rw [if_neg c2] at c
        exact absurd c.symm hx
    rw [if_pos c, if_pos c, if_pos rfl, bnd_e, bnd_e, e6, nI_1]
    exact ⟨_, _, _, p + 1, rfl, rfl, h.mv (frP.c.tr frP.m8) (gI_s _ _ _ _) (gI_s _ _ _ _) (by omega), frP.c.tr frP.m8, gI_n (Or.inr (by omega))⟩
  · rw [if_neg c, if_neg c, if_neg (by decide), bnd_e, e6]
    exact ⟨_, _, _, p, rfl, rfl, h.mv frP.m8 e5 (by rw [gI_s]; exact nI_add p 0) h.2.2.2.2.2.2, frP.m8, gI_n (Or.inr (by omega))⟩
