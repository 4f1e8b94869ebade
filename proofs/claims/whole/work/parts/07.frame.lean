/-! A STORE: what the cells of a world hold, as one pure value; the object graph is fixed (a reference lies at a fixed distance from the cell that holds it) -/
abbrev St : Type := (Nat → Nat → Int32) × (Nat → Nat → Int64) × (Nat → Nat → Bool)
def bI (b : Bool) : Int32 := match b with
  | true => 1
  | false => 0
def gI (σ : St) (k j : Nat) : Int32 := σ.1 k j
def gL (σ : St) (k j : Nat) : Int64 := σ.2.1 k j
def gB (σ : St) (k j : Nat) : Bool := σ.2.2 k j
def sI (σ : St) (k j : Nat) (v : Int32) : St := (fun a => if a = k then upd (σ.1 k) j v else σ.1 a, σ.2)
def sL (σ : St) (k j : Nat) (v : Int64) : St := (σ.1, fun a => if a = k then vp_updL (σ.2.1 k) j v else σ.2.1 a, σ.2.2)
def sB (σ : St) (k j : Nat) (v : Bool) : St := (σ.1, σ.2.1, fun a => if a = k then (fun b => if b = j then v else σ.2.2 k b) else σ.2.2 a)
def cpI (σ : St) (ks kd n : Nat) : St := (fun a => if a = kd then va_cpy (σ.1 ks) (σ.1 kd) 0 0 n else σ.1 a, σ.2)
/-- the fields of an object, by its code (class number + 1), at the offset q -/
def sr_F (n0 : Nat) (i : Nat → Int32) (l : Nat → Int64) (b : Nat → Bool) (q : Nat) (c : Nat) : List Value := match c with
  | 1 => [.int (i 0), .ref (n0 + (q + 1)), .ref (n0 + (q + 3)), .ref (n0 + (q + 4)), .int (i 4), .int (i 5), .int (i 6), .int (bI (b 7))]
  | 2 => [.ref (n0 + (q + 1)), .ref (n0 + (q + 27)), .ref (n0 + (q + 30)), .int (bI (b 3)), .int (i 4), .int (i 5), .int (i 6), .int (i 7)]
  | 3 => [.ref (n0 + (q + 1)), .ref (n0 + (q + 2)), .int (i 2)]
  | 4 => [.ref (n0 + (q + 1)), .int (i 1), .int (i 2), .int (i 3)]
  | 5 => [.ref (n0 + (q + 1)), .int (i 1)]
  | 6 => [.ref (n0 + (q + 1)), .ref (n0 + (q + 2)), .int (i 2), .int (i 3)]
  | 7 => [.int (i 0), .int (i 1), .int (i 2), .int (i 3), .long (l 4), .long (l 5)]
  | 8 => [.ref (n0 + (q + 1)), .ref (n0 + (q + 33)), .ref (n0 + (q + 65)), .ref (n0 + (q + 66)), .ref (n0 + (q + 131))]
  | 9 => [.ref (n0 + (q + 1)), .ref (n0 + (q + 2)), .ref (n0 + (q + 3)), .ref (n0 + (q + 4)), .ref (n0 + (q + 5)), .int (i 5), .int (bI (b 6)), .int (i 7), .int (i 8), .ref (n0 + (q + 6)), .int (i 10), .int (i 11), .ref (n0 + (q + 7)), .long (l 13), .long (l 14)]
  | _ => []
def sr_E (aC : Nat → ClassId) (n0 : Nat) (i : Nat → Int32) (l : Nat → Int64) (b : Nat → Bool) (q c : Nat) : va_E :=
  if c < 10000 then .inr (c - 1, sr_F n0 i l b q c)
  else if c < 20000 then .inl (aC 0, c - 10000, .inl i)
  else if c < 30000 then .inl (aC 2, c - 20000, .inl (fun j => bI (b j)))
  else if c < 40000 then .inl (aC 1, c - 30000, .inl i)
  else if c < 50000 then .inl (aC 3, c - 40000, .inr (.inl l))
  else if c < 60000 then .inl (aC 4, c - 50000, .inr (.inr (.inr (.inr (fun j => some (n0 + (q + 1 + 5 * j)))))))
  else .inl (aC 5, c - 60000, .inr (.inr (.inr (.inr (fun j => some (n0 + (q + 2 + 32 * j)))))))
abbrev sr_e (aC : Nat → ClassId) (sh : Nat → Nat) (n0 : Nat) (σ : St) (q : Nat) : va_E := sr_E aC n0 (σ.1 q) (σ.2.1 q) (σ.2.2 q) q (sh q)
abbrev sr_cls : List vw_C := [(RX0, TX0, 8), (RX1, TX1, 8), (RX2, TX2, 3), (RX3, TX3, 4), (RX4, TX4, 2), (RX5, TX5, 4), (RX6, TX6, 6), (RX7, TX7, 5), (RX8, TX8, 15)]
abbrev sr_tys (aC : Nat → ClassId) : List (ClassId × FieldType) := [(aC 0, .int), (aC 1, .byte), (aC 2, .boolean), (aC 3, .long), (aC 4, .object RX0), (aC 5, .object RX1)]
def sr_A (sh : Nat → Nat) (n0 : Nat) (x : Nat) : Prop := ∃ q, sh q ≠ 0 ∧ x = n0 + q
def sr_P (D : va_G) (aC : Nat → ClassId) (sh : Nat → Nat) (n0 : Nat) (σ : St) (H : Heap) : Prop := ∀ q, sh q ≠ 0 → va_at D sr_cls (n0 + q, sr_e aC sh n0 σ q) H
def sr_V (D : va_G) (aC : Nat → ClassId) (sh : Nat → Nat) (n0 : Nat) (σ : St) (H0 H : Heap) (locs : List Loc) : Prop :=
  H.size = H0.size ∧ (∀ x, ¬ sr_A sh n0 x → H[x]? = H0[x]?) ∧ (∀ l ∈ locs, sr_A sh n0 l.base) ∧ sr_P D aC sh n0 σ H
/-- what is known of the tables at a state -/
def sr_K (D : va_G) (aC : Nat → ClassId) (U : State) : Prop := va_K D sr_cls (sr_tys aC) U ∧ va_Nw (.methodLinkNest RX4 19 yX7_isWithin RX7) U ∧ va_Nw (.methodLinkNest RX3 29 yX7_isWithin RX7) U ∧ va_Nw (.methodLinkNest RX5 60 yX7_isWithin RX7) U ∧ va_AO RX0 U ∧ va_AO RX1 U
theorem sr_K.warm {D : va_G} {aC : Nat → ClassId} {s U : State} (hW : s.WarmedH U.vm) (h : sr_K D aC s) : sr_K D aC U := ⟨va_K.moved hW.alike h.1, va_Nw.warmM hW h.2.1, va_Nw.warmM hW h.2.2.1, va_Nw.warmM hW h.2.2.2.1, va_AO.moved hW.alike h.2.2.2.2.1, va_AO.moved hW.alike h.2.2.2.2.2⟩
theorem sr_K.same {D : va_G} {aC : Nat → ClassId} {s U : State} (hv : s.vm = U.vm) (h : sr_K D aC s) : sr_K D aC U := ⟨va_K.moved (by rw [← hv]; exact Vm.Alike.refl _) h.1, va_Nw.same rfl hv h.2.1, va_Nw.same rfl hv h.2.2.1, va_Nw.same rfl hv h.2.2.2.1, va_AO.moved (by rw [← hv]; exact Vm.Alike.refl _) h.2.2.2.2.1, va_AO.moved (by rw [← hv]; exact Vm.Alike.refl _) h.2.2.2.2.2⟩
/-- what stays through a method's walk -/
def sr_X (p : Program) (s : State) (m : MethodId) (args : Array Value) (meth : Method) (c : Code) (cc : ByteArray) (nL : Nat) (ret : Option FieldType) (own : String) (D : va_G) (aC : Nat → ClassId) : Prop :=
  CallFix p m c cc nL s args sr_G own ∧ sr_K D aC s ∧ meth.sig.returnType = ret ∧ meth.locks = false
def sr_off (σ σ' : St) (q : Nat) : Prop := ∀ a, a ≠ q → σ'.1 a = σ.1 a ∧ σ'.2.1 a = σ.2.1 a ∧ σ'.2.2 a = σ.2.2 a
theorem sr_off_I {σ : St} {k j : Nat} {v : Int32} : sr_off σ (sI σ k j v) k := fun a h => ⟨by simp [sI, h], rfl, rfl⟩
theorem sr_off_L {σ : St} {k j : Nat} {v : Int64} : sr_off σ (sL σ k j v) k := fun a h => ⟨rfl, by simp [sL, h], rfl⟩
theorem sr_off_B {σ : St} {k j : Nat} {v : Bool} : sr_off σ (sB σ k j v) k := fun a h => ⟨rfl, rfl, by simp [sB, h]⟩
theorem sr_off_c {σ : St} {ks kd n : Nat} : sr_off σ (cpI σ ks kd n) kd := fun a h => ⟨by simp [cpI, h], rfl, rfl⟩
theorem sr_upd {D : va_G} {aC : Nat → ClassId} {sh : Nat → Nat} {n0 q k : Nat} {σ σ' : St} {H0 H H1 : Heap} {locs : List Loc} (hV : sr_V D aC sh n0 σ H0 H locs) (hq : sh q ≠ 0) (hoff : sr_off σ σ' q) (hat : va_at D sr_cls (n0 + q, sr_e aC sh n0 σ' q) H1) (z : H1.size = H.size) (oq : ∀ x : Nat, x ≠ n0 + q → H1[x]? = H[x]?) : sr_V D aC sh n0 σ' H0 H1 (locs ++ [⟨n0 + q, k⟩]) := by
  obtain ⟨h1, h2, h3, h4⟩ := hV
  refine ⟨z.trans h1, fun x hx => ?_, fun l hl => ?_, fun a ha => ?_⟩
  · rw [oq x (fun e => hx ⟨q, hq, e⟩)]
    exact h2 x hx
  · rcases List.mem_append.mp hl with h | h
    · exact h3 l h
    · rw [List.mem_singleton.mp h]
      exact ⟨q, hq, rfl⟩
  · by_cases e : a = q
    · subst e
      exact hat
    · have e2 := hoff a e
      have e3 : sr_e aC sh n0 σ' a = sr_e aC sh n0 σ a := by simp only [sr_e, e2.1, e2.2.1, e2.2.2]
      rw [e3]
      exact (h4 a ha).kept (oq _ (fun x => e (by show a = q; have : n0 + a = n0 + q := x; omega)))
theorem sr_e_o {aC : Nat → ClassId} {sh : Nat → Nat} {n0 q ci : Nat} {σ : St} (hq : sh q = ci + 1) (hci : ci + 1 < 10000) : sr_e aC sh n0 σ q = .inr (ci, sr_F n0 (σ.1 q) (σ.2.1 q) (σ.2.2 q) q (ci + 1)) := by
  simp only [sr_e, sr_E, hq, hci, if_true, Nat.add_sub_cancel]
theorem sr_e_i {aC : Nat → ClassId} {sh : Nat → Nat} {n0 q n : Nat} {σ : St} (hq : sh q = 10000 + n) (hn : n < 10000) : sr_e aC sh n0 σ q = .inl (aC 0, n, .inl (σ.1 q)) := by
  simp only [sr_e, sr_E, hq]
  rw [if_neg (by omega), if_pos (by omega), Nat.add_sub_cancel_left]
theorem sr_e_z {aC : Nat → ClassId} {sh : Nat → Nat} {n0 q n : Nat} {σ : St} (hq : sh q = 20000 + n) (hn : n < 10000) : sr_e aC sh n0 σ q = .inl (aC 2, n, .inl (fun j => bI (σ.2.2 q j))) := by
  simp only [sr_e, sr_E, hq]
  rw [if_neg (by omega), if_neg (by omega), if_pos (by omega), Nat.add_sub_cancel_left]
theorem sr_e_b {aC : Nat → ClassId} {sh : Nat → Nat} {n0 q n : Nat} {σ : St} (hq : sh q = 30000 + n) (hn : n < 10000) : sr_e aC sh n0 σ q = .inl (aC 1, n, .inl (σ.1 q)) := by
  simp only [sr_e, sr_E, hq]
  rw [if_neg (by omega), if_neg (by omega), if_neg (by omega), if_pos (by omega), Nat.add_sub_cancel_left]
theorem sr_e_l {aC : Nat → ClassId} {sh : Nat → Nat} {n0 q n : Nat} {σ : St} (hq : sh q = 40000 + n) (hn : n < 10000) : sr_e aC sh n0 σ q = .inl (aC 3, n, .inr (.inl (σ.2.1 q))) := by
  simp only [sr_e, sr_E, hq]
  rw [if_neg (by omega), if_neg (by omega), if_neg (by omega), if_neg (by omega), if_pos (by omega), Nat.add_sub_cancel_left]
theorem sr_e_c {aC : Nat → ClassId} {sh : Nat → Nat} {n0 q n : Nat} {σ : St} (hq : sh q = 50000 + n) (hn : n < 10000) : sr_e aC sh n0 σ q = .inl (aC 4, n, .inr (.inr (.inr (.inr (fun j => some (n0 + (q + 1 + 5 * j))))))) := by
  simp only [sr_e, sr_E, hq]
  rw [if_neg (by omega), if_neg (by omega), if_neg (by omega), if_neg (by omega), if_neg (by omega), if_pos (by omega), Nat.add_sub_cancel_left]
theorem sr_e_f {aC : Nat → ClassId} {sh : Nat → Nat} {n0 q n : Nat} {σ : St} (hq : sh q = 60000 + n) (hn : n < 10000) : sr_e aC sh n0 σ q = .inl (aC 5, n, .inr (.inr (.inr (.inr (fun j => some (n0 + (q + 2 + 32 * j))))))) := by
  simp only [sr_e, sr_E, hq]
  rw [if_neg (by omega), if_neg (by omega), if_neg (by omega), if_neg (by omega), if_neg (by omega), if_neg (by omega), Nat.add_sub_cancel_left]
/-! the function side: binds, guards, branches -/
def bnd {α ρ : Type} (a : α) (f : α → ρ) : ρ := f a
def bn2 {α β ρ : Type} (a : α × β) (f : α → β → ρ) : ρ := f a.1 a.2
def obd {α ρ : Type} (a : Option α) (f : α → Option ρ) : Option ρ := match a with
  | none => none
  | some x => f x
def ob2 {α β ρ : Type} (a : Option (α × β)) (f : α → β → Option ρ) : Option ρ := match a with
  | none => none
  | some x => f x.1 x.2
def opt {ρ : Type} (a : Option Nat) (z : ρ) (f : Nat → ρ) : ρ := match a with
  | none => z
  | some x => f x
theorem sr_bnd {α ρ : Type} {a : α} {f : α → ρ} {r : ρ} (h : bnd a f = r) : ∃ x, a = x ∧ f x = r := ⟨a, rfl, h⟩
theorem sr_bn2 {α β ρ : Type} {a : α × β} {f : α → β → ρ} {r : ρ} (h : bn2 a f = r) : ∃ x y, a = (x, y) ∧ f x y = r := ⟨a.1, a.2, rfl, h⟩
theorem sr_obd {α ρ : Type} {a : Option α} {f : α → Option ρ} {r : ρ} (h : obd a f = some r) : ∃ x, a = some x ∧ f x = some r := by
  cases a with
  | none => cases h
  | some x => exact ⟨x, rfl, h⟩
theorem sr_ob2 {α β ρ : Type} {a : Option (α × β)} {f : α → β → Option ρ} {r : ρ} (h : ob2 a f = some r) : ∃ x y, a = some (x, y) ∧ f x y = some r := by
  cases a with
  | none => cases h
  | some x => exact ⟨x.1, x.2, rfl, h⟩
theorem sr_t {ρ : Type} {P : Prop} {dP : Decidable P} {a b r : ρ} (h : (if P then a else b) = r) (hp : P) : a = r := by rw [if_pos hp] at h; exact h
theorem sr_f {ρ : Type} {P : Prop} {dP : Decidable P} {a b r : ρ} (h : (if P then a else b) = r) (hp : ¬ P) : b = r := by rw [if_neg hp] at h; exact h
theorem sr_gd {ρ : Type} {P : Prop} {dP : Decidable P} {a : Option ρ} {r : ρ} (h : (if P then a else none) = some r) : P ∧ a = some r := by
  by_cases hp : P
  · exact ⟨hp, sr_t h hp⟩
  · exact absurd (sr_f h hp) (by simp)
theorem sr_fuel_ex : ∃ n : Nat, n = 5000 := ⟨5000, rfl⟩
noncomputable def sr_fuel : Nat := Classical.choose sr_fuel_ex
theorem sr_fuel_eq : sr_fuel = 5000 := Classical.choose_spec sr_fuel_ex
section
variable {p : Program} {l : Launch} {e : Env} {R : Room} {s : State} {m : MethodId} {args : Array Value} {below : List Frame} {meth : Method} {c : Code} {H H0 : Heap} {locs : List Loc} {cells slots : Nat} {Q : State → Prop} {cc : ByteArray} {nL pc q n index : Nat} {ret : Option FieldType} {own : String} {D : va_G} {aC : Nat → ClassId} {sh : Nat → Nat} {n0 : Nat} {σ σ' : St} {ls : Array Slot} {rest : List Value}
theorem s_w (hX : sr_X p s m args meth c cc nL ret own D aC) {w : Cond} (h : w ∈ sr_G) : w.before args s = true := hX.1.2.2.2.2 w h
theorem s_get (hX : sr_X p s m args meth c cc nL ret own D aC) (hV : sr_V D aC sh n0 σ H0 H locs) {C : String} {T : u_T} {N ci k : Nat} (hin : ∀ w ∈ u_ws C T N, w ∈ sr_G) (hc : sr_cls[ci]? = some (C, T, N)) (hk : k < N) (hci : ci + 1 < 10000) (hlk : Cond.fieldLink own index (T k).1 (T k).2.1 (T k).2.2.1 ∈ sr_G) (hq : sh q = ci + 1) {v : Value} (hv : (sr_F n0 (σ.1 q) (σ.2.1 q) (σ.2.2 q) q (ci + 1))[k]? = some v) (hdg : decode cc pc = .ok (.getfield index, 3))
    (kk : W p l e R s m args below meth c H locs cells slots Q (F0 m (pc + 3) ls (v :: rest))) : W p l e R s m args below meth c H locs cells slots Q (F0 m pc ls (.ref (n0 + q) :: rest)) := by
  have hat := hV.2.2.2 q (by rw [hq]; exact Nat.succ_ne_zero _)
  rw [sr_e_o hq hci] at hat
  have hP : va_P D sr_cls [(n0 + q, .inr (ci, sr_F n0 (σ.1 q) (σ.2.1 q) (σ.2.2 q) q (ci + 1)))] H := fun j x hx => by
    have hz : j < 1 := (List.getElem?_eq_some_iff.mp hx).1
    rw [show j = 0 by omega] at hx
    cases hx
    exact hat
  exact va_get hX.1.1 hX.1.2.1 hX.1.2.2.2.2 hin hX.1.2.2.2.1 hX.2.1.1 hP 0 rfl hc k hk (s_w hX hlk) (fun _ h => h) hv hdg kk
theorem s_put (hX : sr_X p s m args meth c cc nL ret own D aC) (hV : sr_V D aC sh n0 σ H0 H locs) {C : String} {T : u_T} {N ci k : Nat} (hin : ∀ w ∈ u_ws C T N, w ∈ sr_G) (ty0 : Nat → FieldType) (hty : ∀ k, k < N → parseFieldDescriptor (T k).2.2.1 = some (ty0 k)) (hnm : ∀ a, a < N → ∀ b, b < N → a ≠ b → (T a).2.1 ≠ (T b).2.1) (hc : sr_cls[ci]? = some (C, T, N)) (hk : k < N) (hci : ci + 1 < 10000) (hlk : Cond.fieldLink own index (T k).1 (T k).2.1 (T k).2.2.1 ∈ sr_G) (hq : sh q = ci + 1) (hfin : (T k).2.2.2 = false) {ty : FieldType} {v : Value} (hd : parseFieldDescriptor (T k).2.2.1 = some ty) (hn : narrow ty v = v) (hfit : fits ty v = true)
    (hl : k < (sr_F n0 (σ.1 q) (σ.2.1 q) (σ.2.2 q) q (ci + 1)).length) (hσ : sr_F n0 (σ'.1 q) (σ'.2.1 q) (σ'.2.2 q) q (ci + 1) = (sr_F n0 (σ.1 q) (σ.2.1 q) (σ.2.2 q) q (ci + 1)).set k v) (hoff : sr_off σ σ' q) (hdg : decode cc pc = .ok (.putfield index, 3))
    (kk : ∀ (H1 : Heap) (locs1 : List Loc), sr_V D aC sh n0 σ' H0 H1 locs1 → W p l e R s m args below meth c H1 locs1 cells slots Q (F0 m (pc + 3) ls rest)) : W p l e R s m args below meth c H locs cells slots Q (F0 m pc ls (v :: .ref (n0 + q) :: rest)) := by
  have hat := hV.2.2.2 q (by rw [hq]; exact Nat.succ_ne_zero _)
  rw [sr_e_o hq hci] at hat
  have hap := va_apart (own := own) hX.1.2.2.2.2 hin ty0 hty hnm hX.2.1.1 hc
  obtain ⟨r, h1, cell, q1, q2, q3, q4⟩ := hat
  have hr : r = (C, T, N) := Option.some.inj (h1.symm.trans hc)
  subst hr
  obtain ⟨hS, hfc, kC, hkC, hkind⟩ := hX.2.1.1.1 ci _ hc
  obtain ⟨cf, kf, fi, f, hi, hsl⟩ := hS k hk
  have hlay := hX.1.2.2.2.2 _ (hin _ (u_in_lay hk))
  unfold u_lay at hlay
  rw [if_neg (by rw [hfin]; decide)] at hlay
  have hst := (u_facts hfc hkC (u_lays hX.1.2.2.2.2 hin hk) hi).1
  have h6 := u_store hfc hkC hkind hlay hi hd hn hfit
  refine W.putK hX.1.1 hX.1.2.1 (f := f) ⟨hX.1.2.2.2.1, s_w hX hlk, ⟨_, _, _, hi⟩, hst⟩ (by rw [q2]; exact h6) q1 q3 (by rw [hsl]; exact k2_hasslot (q4 k hk)) rfl rfl hdg fun H' e1 e2 e3 => ?_
  rw [hsl] at e1 ⊢
  refine kk H' _ (sr_upd hV (by rw [hq]; exact Nat.succ_ne_zero _) hoff ?_ e2 e3)
  rw [sr_e_o hq hci, hσ]
  exact ⟨_, hc, t_OB.to (V := updV (vp_V (sr_F n0 (σ.1 q) (σ.2.1 q) (σ.2.2 q) q (ci + 1))) k v) ⟨_, e1, q2, q3, t_set q4 hap hk v⟩ (fun j _ => vp_updV_set hl v j)⟩
theorem s_iald (hX : sr_X p s m args meth c cc nL ret own D aC) (hV : sr_V D aC sh n0 σ H0 H locs) (hq : sh q = 10000 + n) (hn : n < 10000) {i : Int32} (hin : vp_in i n) (hdg : decode cc pc = .ok (.iaload, 1))
    (kk : W p l e R s m args below meth c H locs cells slots Q (F0 m (pc + 1) ls (.int (gI σ q i.toNatClampNeg) :: rest))) : W p l e R s m args below meth c H locs cells slots Q (F0 m pc ls (.int i :: .ref (n0 + q) :: rest)) := by
  have hat := hV.2.2.2 q (by rw [hq]; omega)
  rw [sr_e_i hq hn] at hat
  have hlt : i.toNatClampNeg < n := Nat.not_le.mp fun q => hin (Or.inr q)
  exact W.iald (v := .int (gI σ q i.toNatClampNeg)) hX.1.1 hX.1.2.1 hat ((hX.2.1.1.2 0 _ rfl).1 n (fun j => .int (σ.1 q j))) (fun q => by cases q) (by show ¬ (i < 0 ∨ (arrV _ _ _).slots.size ≤ _); rw [arrV_size]; exact hin) (by show (arrV _ _ _).slots[_]? = _; rw [arrV_read _ _ hlt]; rfl) rfl rfl hdg kk
theorem s_bald (hX : sr_X p s m args meth c cc nL ret own D aC) (hV : sr_V D aC sh n0 σ H0 H locs) (hq : sh q = 30000 + n) (hn : n < 10000) {i : Int32} (hin : vp_in i n) (hdg : decode cc pc = .ok (.baload, 1))
    (kk : W p l e R s m args below meth c H locs cells slots Q (F0 m (pc + 1) ls (.int (gI σ q i.toNatClampNeg) :: rest))) : W p l e R s m args below meth c H locs cells slots Q (F0 m pc ls (.int i :: .ref (n0 + q) :: rest)) := by
  have hat := hV.2.2.2 q (by rw [hq]; omega)
  rw [sr_e_b hq hn] at hat
  have hlt : i.toNatClampNeg < n := Nat.not_le.mp fun q => hin (Or.inr q)
  exact W.bald (v := .int (gI σ q i.toNatClampNeg)) hX.1.1 hX.1.2.1 hat ((hX.2.1.1.2 1 _ rfl).1 n (fun j => .int (σ.1 q j))) (fun q => by cases q) (by show ¬ (i < 0 ∨ (arrV _ _ _).slots.size ≤ _); rw [arrV_size]; exact hin) (by show (arrV _ _ _).slots[_]? = _; rw [arrV_read _ _ hlt]; rfl) rfl rfl hdg kk
theorem s_zald (hX : sr_X p s m args meth c cc nL ret own D aC) (hV : sr_V D aC sh n0 σ H0 H locs) (hq : sh q = 20000 + n) (hn : n < 10000) {i : Int32} (hin : vp_in i n) (hdg : decode cc pc = .ok (.baload, 1))
    (kk : W p l e R s m args below meth c H locs cells slots Q (F0 m (pc + 1) ls (.int (bI (gB σ q i.toNatClampNeg)) :: rest))) : W p l e R s m args below meth c H locs cells slots Q (F0 m pc ls (.int i :: .ref (n0 + q) :: rest)) := by
  have hat := hV.2.2.2 q (by rw [hq]; omega)
  rw [sr_e_z hq hn] at hat
  have hlt : i.toNatClampNeg < n := Nat.not_le.mp fun q => hin (Or.inr q)
  exact W.zald (v := .int (bI (gB σ q i.toNatClampNeg))) hX.1.1 hX.1.2.1 hat ((hX.2.1.1.2 2 _ rfl).1 n (fun j => .int (bI (σ.2.2 q j)))) (fun q => by cases q) (by show ¬ (i < 0 ∨ (arrV _ _ _).slots.size ≤ _); rw [arrV_size]; exact hin) (by show (arrV _ _ _).slots[_]? = _; rw [arrV_read _ _ hlt]; rfl) rfl rfl hdg kk
theorem s_lald (hX : sr_X p s m args meth c cc nL ret own D aC) (hV : sr_V D aC sh n0 σ H0 H locs) (hq : sh q = 40000 + n) (hn : n < 10000) {i : Int32} (hin : vp_in i n) (hdg : decode cc pc = .ok (.laload, 1))
    (kk : W p l e R s m args below meth c H locs cells slots Q (F0 m (pc + 1) ls (.long (gL σ q i.toNatClampNeg) :: rest))) : W p l e R s m args below meth c H locs cells slots Q (F0 m pc ls (.int i :: .ref (n0 + q) :: rest)) := by
  have hat := hV.2.2.2 q (by rw [hq]; omega)
  rw [sr_e_l hq hn] at hat
  have hlt : i.toNatClampNeg < n := Nat.not_le.mp fun q => hin (Or.inr q)
  exact W.lald (v := .long (gL σ q i.toNatClampNeg)) hX.1.1 hX.1.2.1 hat ((hX.2.1.1.2 3 _ rfl).1 n (fun j => .long (σ.2.1 q j))) (fun q => by cases q) (by show ¬ (i < 0 ∨ (arrV _ _ _).slots.size ≤ _); rw [arrV_size]; exact hin) (by show (arrV _ _ _).slots[_]? = _; rw [arrV_read _ _ hlt]; rfl) rfl rfl hdg kk
theorem s_cald (hX : sr_X p s m args meth c cc nL ret own D aC) (hV : sr_V D aC sh n0 σ H0 H locs) (hq : sh q = 50000 + n) (hn : n < 10000) {i : Int32} (hin : vp_in i n) (hdg : decode cc pc = .ok (.aaload, 1))
    (kk : W p l e R s m args below meth c H locs cells slots Q (F0 m (pc + 1) ls (.ref (n0 + (q + 1 + 5 * i.toNatClampNeg)) :: rest))) : W p l e R s m args below meth c H locs cells slots Q (F0 m pc ls (.int i :: .ref (n0 + q) :: rest)) := by
  have hat := hV.2.2.2 q (by rw [hq]; omega)
  rw [sr_e_c hq hn] at hat
  have hlt : i.toNatClampNeg < n := Nat.not_le.mp fun q => hin (Or.inr q)
  exact W.aald (v := .ref (n0 + (q + 1 + 5 * i.toNatClampNeg))) hX.1.1 hX.1.2.1 hat ((hX.2.1.1.2 4 _ rfl).1 n (fun j => va_rf (some (n0 + (q + 1 + 5 * j))))) rfl (fun q => by cases q) (by show ¬ (i < 0 ∨ (arrV _ _ _).slots.size ≤ _); rw [arrV_size]; exact hin) (by show (arrV _ _ _).slots[_]? = _; rw [arrV_read _ _ hlt]; rfl) rfl rfl hdg kk
theorem s_fald (hX : sr_X p s m args meth c cc nL ret own D aC) (hV : sr_V D aC sh n0 σ H0 H locs) (hq : sh q = 60000 + n) (hn : n < 10000) {i : Int32} (hin : vp_in i n) (hdg : decode cc pc = .ok (.aaload, 1))
    (kk : W p l e R s m args below meth c H locs cells slots Q (F0 m (pc + 1) ls (.ref (n0 + (q + 2 + 32 * i.toNatClampNeg)) :: rest))) : W p l e R s m args below meth c H locs cells slots Q (F0 m pc ls (.int i :: .ref (n0 + q) :: rest)) := by
  have hat := hV.2.2.2 q (by rw [hq]; omega)
  rw [sr_e_f hq hn] at hat
  have hlt : i.toNatClampNeg < n := Nat.not_le.mp fun q => hin (Or.inr q)
  exact W.aald (v := .ref (n0 + (q + 2 + 32 * i.toNatClampNeg))) hX.1.1 hX.1.2.1 hat ((hX.2.1.1.2 5 _ rfl).1 n (fun j => va_rf (some (n0 + (q + 2 + 32 * j))))) rfl (fun q => by cases q) (by show ¬ (i < 0 ∨ (arrV _ _ _).slots.size ≤ _); rw [arrV_size]; exact hin) (by show (arrV _ _ _).slots[_]? = _; rw [arrV_read _ _ hlt]; rfl) rfl rfl hdg kk
theorem s_alen (hX : sr_X p s m args meth c cc nL ret own D aC) (hV : sr_V D aC sh n0 σ H0 H locs) (hq : sh q = 10000 + n) (hn : n < 10000) {v : Int32} (hv : Int32.ofNat n = v) (hdg : decode cc pc = .ok (.arraylength, 1))
    (kk : W p l e R s m args below meth c H locs cells slots Q (F0 m (pc + 1) ls (.int v :: rest))) : W p l e R s m args below meth c H locs cells slots Q (F0 m pc ls (.ref (n0 + q) :: rest)) := by
  have hat := hV.2.2.2 q (by rw [hq]; omega)
  rw [sr_e_i hq hn] at hat
  subst hv
  exact W.alen (n := Int32.ofNat n) hX.1.1 hX.1.2.1 hat ((hX.2.1.1.2 0 _ rfl).1 n (fun j => .int (σ.1 q j))) (by rw [vp_cell_i, arrV_size] <;> rfl) rfl rfl hdg kk
theorem s_iast (hX : sr_X p s m args meth c cc nL ret own D aC) (hV : sr_V D aC sh n0 σ H0 H locs) (hq : sh q = 10000 + n) (hn : n < 10000) {i x : Int32} (hin : vp_in i n) (hdg : decode cc pc = .ok (.iastore, 1))
    (kk : ∀ (H1 : Heap) (locs1 : List Loc), sr_V D aC sh n0 (sI σ q i.toNatClampNeg x) H0 H1 locs1 → W p l e R s m args below meth c H1 locs1 cells slots Q (F0 m (pc + 1) ls rest)) : W p l e R s m args below meth c H locs cells slots Q (F0 m pc ls (.int x :: .int i :: .ref (n0 + q) :: rest)) := by
  have hat := hV.2.2.2 q (by rw [hq]; omega)
  rw [sr_e_i hq hn] at hat
  refine W.iast hX.1.1 hX.1.2.1 hat ((hX.2.1.1.2 0 _ rfl).1 n (fun j => .int (σ.1 q j))) (fun q => by cases q) (by show ¬ (i < 0 ∨ (arrV _ _ _).slots.size ≤ _); rw [arrV_size]; exact hin) rfl rfl hdg fun H1 e z oq => ?_
  refine kk H1 _ (sr_upd hV (by rw [hq]; omega) sr_off_I ?_ z oq)
  rw [sr_e_i hq hn]
  show H1[n0 + q]? = some (vp_cell _ _)
  rw [e, vp_cell_i, vp_cell_i, arrV_store]
  congr 2
  funext y
  by_cases hy : y = i.toNatClampNeg <;> simp [updV, upd, sI, hy]
theorem s_bast (hX : sr_X p s m args meth c cc nL ret own D aC) (hV : sr_V D aC sh n0 σ H0 H locs) (hq : sh q = 30000 + n) (hn : n < 10000) {i x : Int32} (hin : vp_in i n) (hdg : decode cc pc = .ok (.bastore, 1))
    (kk : ∀ (H1 : Heap) (locs1 : List Loc), sr_V D aC sh n0 (sI σ q i.toNatClampNeg x.toInt8.toInt32) H0 H1 locs1 → W p l e R s m args below meth c H1 locs1 cells slots Q (F0 m (pc + 1) ls rest)) : W p l e R s m args below meth c H locs cells slots Q (F0 m pc ls (.int x :: .int i :: .ref (n0 + q) :: rest)) := by
  have hat := hV.2.2.2 q (by rw [hq]; omega)
  rw [sr_e_b hq hn] at hat
  refine W.bast hX.1.1 hX.1.2.1 hat ((hX.2.1.1.2 1 _ rfl).1 n (fun j => .int (σ.1 q j))) (fun q => by cases q) (by show ¬ (i < 0 ∨ (arrV _ _ _).slots.size ≤ _); rw [arrV_size]; exact hin) rfl rfl hdg fun H1 e z oq => ?_
  refine kk H1 _ (sr_upd hV (by rw [hq]; omega) sr_off_I ?_ z oq)
  rw [sr_e_b hq hn]
  show H1[n0 + q]? = some (vp_cell _ _)
  rw [e, vp_cell_i, vp_cell_i, arrV_store]
  congr 2
  funext y
  by_cases hy : y = i.toNatClampNeg <;> simp [updV, upd, sI, hy, narrow]
theorem s_zast (hX : sr_X p s m args meth c cc nL ret own D aC) (hV : sr_V D aC sh n0 σ H0 H locs) (hq : sh q = 20000 + n) (hn : n < 10000) {i : Int32} {b : Bool} (hin : vp_in i n) (hdg : decode cc pc = .ok (.bastore, 1))
    (kk : ∀ (H1 : Heap) (locs1 : List Loc), sr_V D aC sh n0 (sB σ q i.toNatClampNeg b) H0 H1 locs1 → W p l e R s m args below meth c H1 locs1 cells slots Q (F0 m (pc + 1) ls rest)) : W p l e R s m args below meth c H locs cells slots Q (F0 m pc ls (.int (bI b) :: .int i :: .ref (n0 + q) :: rest)) := by
  have hat := hV.2.2.2 q (by rw [hq]; omega)
  rw [sr_e_z hq hn] at hat
  refine W.zast hX.1.1 hX.1.2.1 hat ((hX.2.1.1.2 2 _ rfl).1 n (fun j => .int (bI (σ.2.2 q j)))) (fun q => by cases q) (by show ¬ (i < 0 ∨ (arrV _ _ _).slots.size ≤ _); rw [arrV_size]; exact hin) rfl rfl hdg fun H1 e z oq => ?_
  refine kk H1 _ (sr_upd hV (by rw [hq]; omega) sr_off_B ?_ z oq)
  rw [sr_e_z hq hn]
  show H1[n0 + q]? = some (vp_cell _ _)
  rw [e, vp_cell_i, vp_cell_i, arrV_store]
  congr 2
  funext y
  by_cases hy : y = i.toNatClampNeg
  · subst hy
    cases b <;> simp [updV, sB, narrow, bI]
  · simp [updV, sB, hy]
theorem s_last (hX : sr_X p s m args meth c cc nL ret own D aC) (hV : sr_V D aC sh n0 σ H0 H locs) (hq : sh q = 40000 + n) (hn : n < 10000) {i : Int32} {x : Int64} (hin : vp_in i n) (hdg : decode cc pc = .ok (.lastore, 1))
    (kk : ∀ (H1 : Heap) (locs1 : List Loc), sr_V D aC sh n0 (sL σ q i.toNatClampNeg x) H0 H1 locs1 → W p l e R s m args below meth c H1 locs1 cells slots Q (F0 m (pc + 1) ls rest)) : W p l e R s m args below meth c H locs cells slots Q (F0 m pc ls (.long x :: .int i :: .ref (n0 + q) :: rest)) := by
  have hat := hV.2.2.2 q (by rw [hq]; omega)
  rw [sr_e_l hq hn] at hat
  refine W.last hX.1.1 hX.1.2.1 hat ((hX.2.1.1.2 3 _ rfl).1 n (fun j => .long (σ.2.1 q j))) (fun q => by cases q) (by show ¬ (i < 0 ∨ (arrV _ _ _).slots.size ≤ _); rw [arrV_size]; exact hin) rfl rfl hdg fun H1 e z oq => ?_
  refine kk H1 _ (sr_upd hV (by rw [hq]; omega) sr_off_L ?_ z oq)
  rw [sr_e_l hq hn]
  show H1[n0 + q]? = some (vp_cell _ _)
  rw [e, vp_cell_l, vp_cell_l, arrV_store]
  congr 2
  funext y
  by_cases hy : y = i.toNatClampNeg <;> simp [updV, vp_updL, sL, hy]
/-- System.arraycopy of ints, from the beginning to the beginning -/
theorem s_copy {a0 a1 n1 n2 nn : Nat} {k : Int32} (hX : sr_X p s m args meth c cc nL ret own D aC) (hV : sr_V D aC sh n0 σ H0 H locs) (hls : ls.size = nL) (hlink : Cond.methodLink own index arraycopyName ∈ sr_G) (h0 : sh a0 = 10000 + n1) (h1 : sh a1 = 10000 + n2) (l1 : n1 < 10000) (l2 : n2 < 10000) (hk : ¬ k < 0) (hkn : k.toNatClampNeg = nn) (k1 : nn ≤ n1) (k2 : nn ≤ n2)
    (hframes : 1 ≤ R.frames) (hlocals : (rest.map fun v => v.category).sum + (nativeFrameWords "java/lang/System" "arraycopy" 5 + 11) ≤ R.locals) (hdg : decode cc pc = .ok (.invokestatic index, 3))
    (kk : ∀ (H1 : Heap) (locs1 : List Loc), sr_V D aC sh n0 (cpI σ a0 a1 nn) H0 H1 locs1 → W p l e R s m args below meth c H1 locs1 cells slots Q (F0 m (pc + 3) ls rest)) : W p l e R s m args below meth c H locs cells slots Q (F0 m pc ls (.int k :: .int 0 :: .ref (n0 + a1) :: .int 0 :: .ref (n0 + a0) :: rest)) := by
  have hc0 := hV.2.2.2 a0 (by rw [h0]; omega)
  have hc1 := hV.2.2.2 a1 (by rw [h1]; omega)
  rw [sr_e_i h0 l1] at hc0
  rw [sr_e_i h1 l2] at hc1
  have hc0 : H[n0 + a0]? = some (vp_cell (aC 0) (n1, .inl (σ.1 a0))) := hc0
  have hc1 : H[n0 + a1]? = some (vp_cell (aC 0) (n2, .inl (σ.1 a1))) := hc1
  obtain ⟨-, k0, hk0, cm0, hkk0⟩ := (hX.2.1.1.2 0 _ rfl).1 n1 (fun j => .int (σ.1 a0 j))
  obtain ⟨-, k1', hk1', cm1, hkk1⟩ := (hX.2.1.1.2 0 _ rfl).1 n2 (fun j => .int (σ.1 a1 j))
  have z0 : ¬ (0 : Int32) < 0 := by decide
  have hki : k.toInt = (nn : Int) := by
    have hz0 : (0 : Int) ≤ k.toInt := by
      have := Int32.not_lt.mp hk
      simpa using Int32.le_iff_toInt_le.mp this
    have : (k.toInt.toNat : Nat) = nn := hkn
    omega
  have e0 : (0 : Int32).toNatClampNeg = 0 := by decide
  intro T hT X
  obtain ⟨vm', X', step⟩ := X.arraycopy hX.1.1 hX.1.2.2.2.1 (s_w hX hlink) (s_w hX lk_379) (s_w hX lk_378) (s_w hX lk_11) (src := n0 + a0) (dst := n0 + a1) (cs := vp_cell (aC 0) (n1, .inl (σ.1 a0))) (cd := vp_cell (aC 0) (n2, .inl (σ.1 a1))) (srcPos := 0) (destPos := 0) (n := k) (by rw [hT]; exact hc0) (by rw [hT]; exact hc1)
    (fun _ h => by cases h) (fun _ h => by cases h) (fun h => by cases h) (fun h => by cases h) hk0 hk1' hkk0 hkk1 (by simp [refKind]) z0 z0 hk
    (by rw [hki]; show ¬ _ > ((arrV (aC 0) n1 (fun j => .int (σ.1 a0 j))).slots.size : Int); rw [arrV_size]; show ¬ ((0 : Int) + nn > n1); omega)
    (by rw [hki]; show ¬ _ > ((arrV (aC 0) n2 (fun j => .int (σ.1 a1 j))).slots.size : Int); rw [arrV_size]; show ¬ ((0 : Int) + nn > n2); omega)
    (fun vm₁ _ i hi => by
      have e : (vp_cell (aC 0) (n1, .inl (σ.1 a0))).slots.getD ((0 : Int32).toNatClampNeg + i) .null = .int (σ.1 a0 ((0 : Int32).toNatClampNeg + i)) := by
        show (arrV (aC 0) n1 (fun j => .int (σ.1 a0 j))).slots.getD _ _ = _
        have hi2 : i < nn := by rw [← hkn]; exact hi
        rw [Array.getD_eq_getD_getElem?, arrV_read _ _ (by rw [e0]; omega)]
        rfl
      refine ⟨?_, ?_⟩
      · rw [e]; rfl
      · rw [e]; exact trivial)
    (g := F0 m pc ls (.int k :: .int 0 :: .ref (n0 + a1) :: .int 0 :: .ref (n0 + a0) :: rest)) rfl (by rw [hX.1.2.2.1, ← hls]) (rest := rest) rfl (by rw [hX.1.2.1]; exact hdg) hframes (by show 2 * 0 + _ + _ ≤ _; omega)
  have e1 : copied (vp_cell (aC 0) (n1, .inl (σ.1 a0))) (vp_cell (aC 0) (n2, .inl (σ.1 a1))) 0 0 k = vp_cell (aC 0) (n2, .inl (va_cpy (σ.1 a0) (σ.1 a1) 0 0 nn)) := by
    have h4 : (0 : Int32).toNatClampNeg + k.toNatClampNeg ≤ n1 := by rw [e0, hkn]; omega
    have e2 : copied (vp_cell (aC 0) (n1, .inl (σ.1 a0))) (vp_cell (aC 0) (n2, .inl (σ.1 a1))) 0 0 k = vp_cell (aC 0) (n2, .inl (va_cpy (σ.1 a0) (σ.1 a1) (0 : Int32).toNatClampNeg (0 : Int32).toNatClampNeg k.toNatClampNeg)) := va_copied (fun z => .int z) (aC 0) (aC 0) (σ.1 a0) (σ.1 a1) h4
    rw [e0, hkn] at e2
    exact e2
  rw [e1] at X' step
  have hl : n0 + a1 < H.size := (Array.getElem?_eq_some_iff.mp hc1).1
  have hheap : ((T.setVm vm').setCell (n0 + a1) (vp_cell (aC 0) (n2, .inl (va_cpy (σ.1 a0) (σ.1 a1) 0 0 nn)))).heap = H.setIfInBounds (n0 + a1) (vp_cell (aC 0) (n2, .inl (va_cpy (σ.1 a0) (σ.1 a1) 0 0 nn))) := by rw [← hT]; rfl
  have oq : ∀ x : Nat, x ≠ n0 + a1 → (H.setIfInBounds (n0 + a1) (vp_cell (aC 0) (n2, .inl (va_cpy (σ.1 a0) (σ.1 a1) 0 0 nn))))[x]? = H[x]? := fun x hx => by simp [Array.getElem?_setIfInBounds, Ne.symm hx]
  have hV1 : sr_V D aC sh n0 (cpI σ a0 a1 nn) H0 (H.setIfInBounds (n0 + a1) (vp_cell (aC 0) (n2, .inl (va_cpy (σ.1 a0) (σ.1 a1) 0 0 nn)))) (locs ++ [⟨n0 + a1, 0⟩]) := sr_upd hV (by rw [h1]; omega) sr_off_c (by
    rw [sr_e_i h1 l2]
    show (H.setIfInBounds (n0 + a1) _)[n0 + a1]? = some _
    simp [Array.getElem?_setIfInBounds, hl, cpI]) (by simp) oq
  obtain ⟨t, a1', b1⟩ := kk _ _ ⟨hV1.1, hV1.2.1, fun x hx => by
      rcases List.mem_append.mp hx with h | h
      · exact hV.2.2.1 x h
      · obtain ⟨z, -, hz⟩ := List.mem_map.mp h
        rw [← hz]
        exact ⟨a1, by rw [h1]; omega, rfl⟩, hV1.2.2.2⟩ _ hheap X'
  exact ⟨t, step t a1', b1⟩
end
