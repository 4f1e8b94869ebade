/-! THE RELATION between the component's store and the reference's -/
/-- the number of sets of k of n things -/
def chs : Nat → Nat → Nat
  | _, 0 => 1
  | 0, _ + 1 => 0
  | n + 1, k + 1 => chs n k + chs n (k + 1)
/-- sum over k from k0 on, m terms -/
def wsum (A B t : Nat) : Nat → Nat → Nat
  | _, 0 => 0
  | k, m + 1 => chs A k * chs B (t - k) + wsum A B t (k + 1) m
def chW (a b c d : Nat) : Nat := wsum (a + c) (b + d) (a + b) a (min (a + b) (a + c) + 1 - a)
def chA (a b c d : Nat) : Nat := chs (a + c + (b + d)) (a + b)
def chN (a b c d : Nat) : Nat := chW a b c d / Nat.gcd (chW a b c d) (chA a b c d)
def chD (a b c d : Nat) : Nat := chA a b c d / Nat.gcd (chW a b c d) (chA a b c d)
/-- one change: its five cells' rows, and its part w of the reference's row -/
def CRw (i : Nat) (r0 r1 r2 r3 r4 : Nat → Int32) (l3 : Nat → Int64) (b0 : Nat → Bool) (w : Nat → Int32) : Prop :=
  ∃ st pl bg m a b c d : Nat, (w 1 = nI st ∧ st ≤ 5 ∧ w 2 = nI pl ∧ pl ≤ 6 ∧ w 3 = nI bg ∧ bg ≤ pl ∧ (st = 0 → bg = 0) ∧ w 4 = nI m ∧ m < 2 ^ i) ∧ (w 5 = nI a ∧ w 6 = nI b ∧ w 7 = nI c ∧ w 8 = nI d ∧ a + b ≤ 25 ∧ c + d ≤ 25) ∧ w 0 = bI (b0 7) ∧
  (r0 4 = w 4 ∧ r0 5 = w 1 ∧ r0 6 = w 3 ∧ r1 1 = w 2) ∧ (∀ k, k < pl → r2 (3 * k) = w (9 + 4 * k) ∧ r2 (3 * k + 1) = w (10 + 4 * k) ∧ r2 (3 * k + 2) = w (11 + 4 * k)) ∧ (∀ k, k < bg → r4 k = w (12 + 4 * k)) ∧
  (r3 0 = w 5 ∧ r3 1 = w 6 ∧ r3 2 = w 7 ∧ r3 3 = w 8 ∧ l3 4 = lN (chN a b c d) ∧ l3 5 = lN (chD a b c d))
theorem CRw.congr {i : Nat} {r0 r1 r2 r3 r4 : Nat → Int32} {l3 : Nat → Int64} {b0 : Nat → Bool} {w w' : Nat → Int32} (h : CRw i r0 r1 r2 r3 r4 l3 b0 w) (hw : ∀ k, k < 33 → w' k = w k) : CRw i r0 r1 r2 r3 r4 l3 b0 w' := by
  obtain ⟨st, pl, bg, m, a, b, c, d, ⟨h1, h2, h3, h4, h5, h6, h7, h8, h9⟩, ⟨g1, g2, g3, g4, g5, g6⟩, e0, ⟨f1, f2, f3, f4⟩, k1, k2, m1, m2, m3, m4, m5, m6⟩ := h
  refine ⟨st, pl, bg, m, a, b, c, d, ⟨(hw 1 (by omega)).trans h1, h2, (hw 2 (by omega)).trans h3, h4, (hw 3 (by omega)).trans h5, h6, h7, (hw 4 (by omega)).trans h8, h9⟩, ⟨(hw 5 (by omega)).trans g1, (hw 6 (by omega)).trans g2, (hw 7 (by omega)).trans g3, (hw 8 (by omega)).trans g4, g5, g6⟩, (hw 0 (by omega)).trans e0, ⟨f1.trans (hw 4 (by omega)).symm, f2.trans (hw 1 (by omega)).symm, f3.trans (hw 3 (by omega)).symm, f4.trans (hw 2 (by omega)).symm⟩, fun k hk => ?_, fun k hk => ?_, m1.trans (hw 5 (by omega)).symm, m2.trans (hw 6 (by omega)).symm, m3.trans (hw 7 (by omega)).symm, m4.trans (hw 8 (by omega)).symm, m5, m6⟩
  · rw [hw _ (by omega), hw _ (by omega), hw _ (by omega)]
    exact k1 k hk
  · rw [hw _ (by omega)]
    exact k2 k hk
/-- frozen spans -/
def SpW (r f t : Nat → Int32) (v : Nat → Int32) : Prop := ∃ ns : Nat, v 3 = nI ns ∧ ns ≤ 3 ∧ r 2 = v 3 ∧ ∀ k, k < ns → f k = v (4 + 2 * k) ∧ t k = v (5 + 2 * k) ∧ ∃ u : Nat, 1 ≤ u ∧ u ≤ 168 ∧ v (5 + 2 * k) = nI u
/-- the log: a ring against a row -/
def LgW (r g : Nat → Int32) (v : Nat → Int32) : Prop := ∃ lg od : Nat, v 11 = nI lg ∧ lg ≤ 20 ∧ od < 20 ∧ r 1 = nI od ∧ r 2 = v 11 ∧ ∀ k, k < lg → ∀ j, j < 4 → g (4 * ((od + k) % 20) + j) = v (12 + 4 * k + j)
def CR (σ : St) (c i : Nat) (v : Nat → Int32) : Prop := CRw i (σ.1 c) (σ.1 (c + 1)) (σ.1 (c + 1 + 1)) (σ.1 (c + 3)) (σ.1 (c + 4)) (σ.2.1 (c + 3)) (σ.2.2 c) (fun k => v (92 + 33 * i + k))
/-- a fleet at b, and a row of the reference -/
def FR (σ : St) (b : Nat) (v : Nat → Int32) : Prop :=
  ((∃ n, v 0 = nI n ∧ 1 ≤ n ∧ n ≤ 8) ∧ (∃ n, v 2 = nI n ∧ n ≤ 1000) ∧ gI σ b 5 = v 0 ∧ gI σ b 6 = v 1 ∧ gI σ b 7 = v 2 ∧ gI σ b 4 = v 10) ∧
  SpW (σ.1 (b + 27)) (σ.1 (b + 27 + 1)) (σ.1 (b + 27 + 2)) v ∧ LgW (σ.1 (b + 30)) (σ.1 (b + 30 + 1)) v ∧
  (∃ sz : Nat, v 10 = nI sz ∧ sz ≤ 5 ∧ ∀ i, i < sz → CR σ (b + 1 + 1 + 5 * i) i v) ∧ ∀ i, i < 5 → gI σ (b + 1 + 1 + 5 * i) 0 = nI i
/-- nothing outside the fleet at b differs -/
def frC (σ σ' : St) (b : Nat) : Prop := ∀ q, (q < b ∨ b + 32 ≤ q) → σ'.1 q = σ.1 q ∧ σ'.2.1 q = σ.2.1 q ∧ σ'.2.2 q = σ.2.2 q
theorem frC.rf {σ : St} {b : Nat} : frC σ σ b := fun _ _ => ⟨rfl, rfl, rfl⟩
theorem frC.tr {σ σ' σ'' : St} {b : Nat} (h : frC σ σ' b) (h' : frC σ' σ'' b) : frC σ σ'' b := fun q hq => ⟨(h' q hq).1.trans (h q hq).1, (h' q hq).2.1.trans (h q hq).2.1, (h' q hq).2.2.trans (h q hq).2.2⟩
theorem frC.I {σ : St} {b k j : Nat} {x : Int32} (h : b ≤ k ∧ k < b + 32) : frC σ (sI σ k j x) b := fun q hq => ⟨rI_n (by omega), rfl, rfl⟩
theorem frC.L {σ : St} {b k j : Nat} {x : Int64} (h : b ≤ k ∧ k < b + 32) : frC σ (sL σ k j x) b := fun q hq => ⟨rfl, rL_n (by omega), rfl⟩
theorem frC.B {σ : St} {b k j : Nat} {x : Bool} (h : b ≤ k ∧ k < b + 32) : frC σ (sB σ k j x) b := fun q hq => ⟨rfl, rfl, rB_n (by omega)⟩
theorem frC.C {σ : St} {b s k n : Nat} (h : b ≤ k ∧ k < b + 32) : frC σ (cpI σ s k n) b := fun q hq => ⟨rC_n (by omega), rfl, rfl⟩
/-- a fleet is where its 32 cells are -/
theorem FR.same {σ σ' : St} {b : Nat} {v : Nat → Int32} (h : FR σ b v) (he : ∀ q, b ≤ q → q < b + 32 → σ'.1 q = σ.1 q ∧ σ'.2.1 q = σ.2.1 q ∧ σ'.2.2 q = σ.2.2 q) : FR σ' b v := by
  obtain ⟨⟨h1, h2, h3, h4, h5, h6⟩, hs, hl, ⟨sz, z1, z2, z3⟩, hn⟩ := h
  have e0 := (he b (by omega) (by omega)).1
  refine ⟨⟨h1, h2, ?_, ?_, ?_, ?_⟩, ?_, ?_, ⟨sz, z1, z2, fun i hi => ?_⟩, fun i hi => ?_⟩
  · unfold gI; rw [e0]; exact h3
  · unfold gI; rw [e0]; exact h4
  · unfold gI; rw [e0]; exact h5
  · unfold gI; rw [e0]; exact h6
  · rw [(he _ (by omega) (by omega)).1, (he _ (by omega) (by omega)).1, (he _ (by omega) (by omega)).1]; exact hs
  · rw [(he _ (by omega) (by omega)).1, (he _ (by omega) (by omega)).1]; exact hl
  · unfold CR
    rw [(he (b + 1 + 1 + 5 * i) (by omega) (by omega)).1, (he (b + 1 + 1 + 5 * i + 1) (by omega) (by omega)).1, (he (b + 1 + 1 + 5 * i + 1 + 1) (by omega) (by omega)).1, (he (b + 1 + 1 + 5 * i + 3) (by omega) (by omega)).1, (he (b + 1 + 1 + 5 * i + 4) (by omega) (by omega)).1, (he (b + 1 + 1 + 5 * i + 3) (by omega) (by omega)).2.1, (he (b + 1 + 1 + 5 * i) (by omega) (by omega)).2.2]
    exact z3 i hi
  · unfold gI; rw [(he (b + 1 + 1 + 5 * i) (by omega) (by omega)).1]; exact hn i hi
/-- the reference's table of numbers of sets -/
def SetsOK (τ : St) : Prop := gL τ (0 + 7) 0 = 0 ∨ ∀ n, n ≤ 50 → ∀ k, k ≤ n → gL τ (0 + 7) (51 * n + k) = lN (chs n k)
def TxR (σ τ : St) : Prop := ∃ len : Nat, gI τ 0 5 = nI len ∧ len ≤ 60 ∧ gI σ (0 + 131) 2 = nI len ∧ ∀ k, k < len → ∃ ch : Nat, ch ≤ 127 ∧ gI σ (0 + 131 + 1) k = nI ch ∧ gI τ (0 + 5) k = nI ch
def KpR (σ τ : St) : Prop := ∀ j, j < 2 → gB σ (0 + 66) j = gB τ (0 + 4) j ∧ (gB τ (0 + 4) j = true → FR σ (0 + 65 + 2 + 32 * j) (fun k => gI τ (0 + 3) (257 * j + k)))
/-- what stays as it was made -/
def StR (σ : St) : Prop := gB σ (0 + 1) 3 = false ∧ gB σ (0 + 33) 3 = true ∧ (∀ i, i < 5 → gI σ (0 + 33 + 1 + 1 + 5 * i) 0 = nI i) ∧ ∀ j, j < 2 → ∀ i, i < 5 → gI σ (0 + 65 + 2 + 32 * j + 1 + 1 + 5 * i) 0 = nI i
def Rel (σ τ : St) : Prop := FR σ (0 + 1) (τ.1 (0 + 1)) ∧ TxR σ τ ∧ KpR σ τ ∧ StR σ ∧ SetsOK τ ∧ gB τ 0 6 = false
