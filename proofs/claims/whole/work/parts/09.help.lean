/-! iteration with fuel; guards -/
def inb (i : Int32) (n : Nat) : Bool := decide (0 ≤ i) && decide (i.toNatClampNeg < n)
theorem inb_in {i : Int32} {n : Nat} (h : inb i n = true) : vp_in i n := by
  simp only [inb, Bool.and_eq_true, decide_eq_true_eq] at h
  intro z
  rcases z with z | z
  · exact absurd h.1 (Int32.not_le.mpr z)
  · omega
theorem sr_b0 {b : Bool} (h : bI b = 0) : ¬ b = true := by
  intro e
  subst e
  exact absurd h (by decide)
theorem sr_b1 {b : Bool} (h : ¬ bI b = 0) : b = true := by
  cases b with
  | true => rfl
  | false => exact absurd rfl h
def irm (x y : Int32) : Int32 := x - x / y * y
theorem sr_on {ρ : Type} {z : ρ} {f : Nat → ρ} {r : ρ} (h : opt none z f = r) : z = r := h
theorem sr_os {ρ : Type} {z : ρ} {f : Nat → ρ} {q : Nat} {r : ρ} (h : opt (some q) z f = r) : f q = r := h
theorem sr_ac {n0 a b : Nat} : (some (n0 + a) = some (n0 + b)) ↔ a = b := by
  constructor
  · intro h; have := Option.some.inj h; omega
  · intro h; rw [h]
def it1 {A1 ρ : Type} (f : (A1 → Option ρ) → A1 → Option ρ) : Nat → A1 → Option ρ
  | 0 => fun _ => none
  | n + 1 => f (it1 f n)
theorem it1_ind {A1 ρ : Type} {f : (A1 → Option ρ) → A1 → Option ρ} (G : (A1 → Option ρ) → Prop) (h0 : G (fun _ => none)) (hs : ∀ r, G r → G (f r)) : ∀ n, G (it1 f n)
  | 0 => h0
  | n + 1 => hs _ (it1_ind G h0 hs n)
def it2 {A1 A2 ρ : Type} (f : (A1 → A2 → Option ρ) → A1 → A2 → Option ρ) : Nat → A1 → A2 → Option ρ
  | 0 => fun _ _ => none
  | n + 1 => f (it2 f n)
theorem it2_ind {A1 A2 ρ : Type} {f : (A1 → A2 → Option ρ) → A1 → A2 → Option ρ} (G : (A1 → A2 → Option ρ) → Prop) (h0 : G (fun _ _ => none)) (hs : ∀ r, G r → G (f r)) : ∀ n, G (it2 f n)
  | 0 => h0
  | n + 1 => hs _ (it2_ind G h0 hs n)
def it3 {A1 A2 A3 ρ : Type} (f : (A1 → A2 → A3 → Option ρ) → A1 → A2 → A3 → Option ρ) : Nat → A1 → A2 → A3 → Option ρ
  | 0 => fun _ _ _ => none
  | n + 1 => f (it3 f n)
theorem it3_ind {A1 A2 A3 ρ : Type} {f : (A1 → A2 → A3 → Option ρ) → A1 → A2 → A3 → Option ρ} (G : (A1 → A2 → A3 → Option ρ) → Prop) (h0 : G (fun _ _ _ => none)) (hs : ∀ r, G r → G (f r)) : ∀ n, G (it3 f n)
  | 0 => h0
  | n + 1 => hs _ (it3_ind G h0 hs n)
def it4 {A1 A2 A3 A4 ρ : Type} (f : (A1 → A2 → A3 → A4 → Option ρ) → A1 → A2 → A3 → A4 → Option ρ) : Nat → A1 → A2 → A3 → A4 → Option ρ
  | 0 => fun _ _ _ _ => none
  | n + 1 => f (it4 f n)
theorem it4_ind {A1 A2 A3 A4 ρ : Type} {f : (A1 → A2 → A3 → A4 → Option ρ) → A1 → A2 → A3 → A4 → Option ρ} (G : (A1 → A2 → A3 → A4 → Option ρ) → Prop) (h0 : G (fun _ _ _ _ => none)) (hs : ∀ r, G r → G (f r)) : ∀ n, G (it4 f n)
  | 0 => h0
  | n + 1 => hs _ (it4_ind G h0 hs n)
def it5 {A1 A2 A3 A4 A5 ρ : Type} (f : (A1 → A2 → A3 → A4 → A5 → Option ρ) → A1 → A2 → A3 → A4 → A5 → Option ρ) : Nat → A1 → A2 → A3 → A4 → A5 → Option ρ
  | 0 => fun _ _ _ _ _ => none
  | n + 1 => f (it5 f n)
theorem it5_ind {A1 A2 A3 A4 A5 ρ : Type} {f : (A1 → A2 → A3 → A4 → A5 → Option ρ) → A1 → A2 → A3 → A4 → A5 → Option ρ} (G : (A1 → A2 → A3 → A4 → A5 → Option ρ) → Prop) (h0 : G (fun _ _ _ _ _ => none)) (hs : ∀ r, G r → G (f r)) : ∀ n, G (it5 f n)
  | 0 => h0
  | n + 1 => hs _ (it5_ind G h0 hs n)
def it6 {A1 A2 A3 A4 A5 A6 ρ : Type} (f : (A1 → A2 → A3 → A4 → A5 → A6 → Option ρ) → A1 → A2 → A3 → A4 → A5 → A6 → Option ρ) : Nat → A1 → A2 → A3 → A4 → A5 → A6 → Option ρ
  | 0 => fun _ _ _ _ _ _ => none
  | n + 1 => f (it6 f n)
theorem it6_ind {A1 A2 A3 A4 A5 A6 ρ : Type} {f : (A1 → A2 → A3 → A4 → A5 → A6 → Option ρ) → A1 → A2 → A3 → A4 → A5 → A6 → Option ρ} (G : (A1 → A2 → A3 → A4 → A5 → A6 → Option ρ) → Prop) (h0 : G (fun _ _ _ _ _ _ => none)) (hs : ∀ r, G r → G (f r)) : ∀ n, G (it6 f n)
  | 0 => h0
  | n + 1 => hs _ (it6_ind G h0 hs n)
def it7 {A1 A2 A3 A4 A5 A6 A7 ρ : Type} (f : (A1 → A2 → A3 → A4 → A5 → A6 → A7 → Option ρ) → A1 → A2 → A3 → A4 → A5 → A6 → A7 → Option ρ) : Nat → A1 → A2 → A3 → A4 → A5 → A6 → A7 → Option ρ
  | 0 => fun _ _ _ _ _ _ _ => none
  | n + 1 => f (it7 f n)
theorem it7_ind {A1 A2 A3 A4 A5 A6 A7 ρ : Type} {f : (A1 → A2 → A3 → A4 → A5 → A6 → A7 → Option ρ) → A1 → A2 → A3 → A4 → A5 → A6 → A7 → Option ρ} (G : (A1 → A2 → A3 → A4 → A5 → A6 → A7 → Option ρ) → Prop) (h0 : G (fun _ _ _ _ _ _ _ => none)) (hs : ∀ r, G r → G (f r)) : ∀ n, G (it7 f n)
  | 0 => h0
  | n + 1 => hs _ (it7_ind G h0 hs n)
def it8 {A1 A2 A3 A4 A5 A6 A7 A8 ρ : Type} (f : (A1 → A2 → A3 → A4 → A5 → A6 → A7 → A8 → Option ρ) → A1 → A2 → A3 → A4 → A5 → A6 → A7 → A8 → Option ρ) : Nat → A1 → A2 → A3 → A4 → A5 → A6 → A7 → A8 → Option ρ
  | 0 => fun _ _ _ _ _ _ _ _ => none
  | n + 1 => f (it8 f n)
theorem it8_ind {A1 A2 A3 A4 A5 A6 A7 A8 ρ : Type} {f : (A1 → A2 → A3 → A4 → A5 → A6 → A7 → A8 → Option ρ) → A1 → A2 → A3 → A4 → A5 → A6 → A7 → A8 → Option ρ} (G : (A1 → A2 → A3 → A4 → A5 → A6 → A7 → A8 → Option ρ) → Prop) (h0 : G (fun _ _ _ _ _ _ _ _ => none)) (hs : ∀ r, G r → G (f r)) : ∀ n, G (it8 f n)
  | 0 => h0
  | n + 1 => hs _ (it8_ind G h0 hs n)
def it9 {A1 A2 A3 A4 A5 A6 A7 A8 A9 ρ : Type} (f : (A1 → A2 → A3 → A4 → A5 → A6 → A7 → A8 → A9 → Option ρ) → A1 → A2 → A3 → A4 → A5 → A6 → A7 → A8 → A9 → Option ρ) : Nat → A1 → A2 → A3 → A4 → A5 → A6 → A7 → A8 → A9 → Option ρ
  | 0 => fun _ _ _ _ _ _ _ _ _ => none
  | n + 1 => f (it9 f n)
theorem it9_ind {A1 A2 A3 A4 A5 A6 A7 A8 A9 ρ : Type} {f : (A1 → A2 → A3 → A4 → A5 → A6 → A7 → A8 → A9 → Option ρ) → A1 → A2 → A3 → A4 → A5 → A6 → A7 → A8 → A9 → Option ρ} (G : (A1 → A2 → A3 → A4 → A5 → A6 → A7 → A8 → A9 → Option ρ) → Prop) (h0 : G (fun _ _ _ _ _ _ _ _ _ => none)) (hs : ∀ r, G r → G (f r)) : ∀ n, G (it9 f n)
  | 0 => h0
  | n + 1 => hs _ (it9_ind G h0 hs n)
def it10 {A1 A2 A3 A4 A5 A6 A7 A8 A9 A10 ρ : Type} (f : (A1 → A2 → A3 → A4 → A5 → A6 → A7 → A8 → A9 → A10 → Option ρ) → A1 → A2 → A3 → A4 → A5 → A6 → A7 → A8 → A9 → A10 → Option ρ) : Nat → A1 → A2 → A3 → A4 → A5 → A6 → A7 → A8 → A9 → A10 → Option ρ
  | 0 => fun _ _ _ _ _ _ _ _ _ _ => none
  | n + 1 => f (it10 f n)
theorem it10_ind {A1 A2 A3 A4 A5 A6 A7 A8 A9 A10 ρ : Type} {f : (A1 → A2 → A3 → A4 → A5 → A6 → A7 → A8 → A9 → A10 → Option ρ) → A1 → A2 → A3 → A4 → A5 → A6 → A7 → A8 → A9 → A10 → Option ρ} (G : (A1 → A2 → A3 → A4 → A5 → A6 → A7 → A8 → A9 → A10 → Option ρ) → Prop) (h0 : G (fun _ _ _ _ _ _ _ _ _ _ => none)) (hs : ∀ r, G r → G (f r)) : ∀ n, G (it10 f n)
  | 0 => h0
  | n + 1 => hs _ (it10_ind G h0 hs n)
def it11 {A1 A2 A3 A4 A5 A6 A7 A8 A9 A10 A11 ρ : Type} (f : (A1 → A2 → A3 → A4 → A5 → A6 → A7 → A8 → A9 → A10 → A11 → Option ρ) → A1 → A2 → A3 → A4 → A5 → A6 → A7 → A8 → A9 → A10 → A11 → Option ρ) : Nat → A1 → A2 → A3 → A4 → A5 → A6 → A7 → A8 → A9 → A10 → A11 → Option ρ
  | 0 => fun _ _ _ _ _ _ _ _ _ _ _ => none
  | n + 1 => f (it11 f n)
theorem it11_ind {A1 A2 A3 A4 A5 A6 A7 A8 A9 A10 A11 ρ : Type} {f : (A1 → A2 → A3 → A4 → A5 → A6 → A7 → A8 → A9 → A10 → A11 → Option ρ) → A1 → A2 → A3 → A4 → A5 → A6 → A7 → A8 → A9 → A10 → A11 → Option ρ} (G : (A1 → A2 → A3 → A4 → A5 → A6 → A7 → A8 → A9 → A10 → A11 → Option ρ) → Prop) (h0 : G (fun _ _ _ _ _ _ _ _ _ _ _ => none)) (hs : ∀ r, G r → G (f r)) : ∀ n, G (it11 f n)
  | 0 => h0
  | n + 1 => hs _ (it11_ind G h0 hs n)
def it12 {A1 A2 A3 A4 A5 A6 A7 A8 A9 A10 A11 A12 ρ : Type} (f : (A1 → A2 → A3 → A4 → A5 → A6 → A7 → A8 → A9 → A10 → A11 → A12 → Option ρ) → A1 → A2 → A3 → A4 → A5 → A6 → A7 → A8 → A9 → A10 → A11 → A12 → Option ρ) : Nat → A1 → A2 → A3 → A4 → A5 → A6 → A7 → A8 → A9 → A10 → A11 → A12 → Option ρ
  | 0 => fun _ _ _ _ _ _ _ _ _ _ _ _ => none
  | n + 1 => f (it12 f n)
theorem it12_ind {A1 A2 A3 A4 A5 A6 A7 A8 A9 A10 A11 A12 ρ : Type} {f : (A1 → A2 → A3 → A4 → A5 → A6 → A7 → A8 → A9 → A10 → A11 → A12 → Option ρ) → A1 → A2 → A3 → A4 → A5 → A6 → A7 → A8 → A9 → A10 → A11 → A12 → Option ρ} (G : (A1 → A2 → A3 → A4 → A5 → A6 → A7 → A8 → A9 → A10 → A11 → A12 → Option ρ) → Prop) (h0 : G (fun _ _ _ _ _ _ _ _ _ _ _ _ => none)) (hs : ∀ r, G r → G (f r)) : ∀ n, G (it12 f n)
  | 0 => h0
  | n + 1 => hs _ (it12_ind G h0 hs n)
section
variable {p : Program} {l : Launch} {e : Env} {R : Room} {s : State} {m : MethodId} {args : Array Value} {below : List Frame} {meth : Method} {c : Code} {H H0 : Heap} {locs : List Loc} {cells slots : Nat} {Q : State → Prop} {cc : ByteArray} {nL pc q n index : Nat} {ret : Option FieldType} {own : String} {D : va_G} {aC : Nat → ClassId} {sh : Nat → Nat} {n0 : Nat} {σ σ' : St} {ls : Array Slot} {rest : List Value}
theorem s_callV0 {y : MethodName} {bytes : ByteArray} {maxL nn : Nat} {rt : Option FieldType} {rm : Room} {As : List Value} {C : String} {ci N : Nat} {T : u_T} (hX : sr_X p s m args meth c cc nL ret own D aC) (hV : sr_V D aC sh n0 σ H0 H locs) (hls : ls.size = nL) (hM : sr_Met l D aC sh n0 y bytes maxL rt rm (.ref (n0 + q) :: As) σ none σ') (hC : sr_Cv y bytes maxL rt C nn) (hlink : Cond.methodLink own index y ∈ sr_G) (hR : rm.cells = 0 ∧ rm.slots = 0 ∧ rm.frames + 1 ≤ R.frames ∧ 8 + (maxL + 11) + rm.locals ≤ R.locals) (hc : sr_cls[ci]? = some (C, T, N)) (hci : ci + 1 < 10000) (hq : sh q = ci + 1) (hn : As.length = nn) {st0 : List Value} (hst : st0 = As.reverse ++ .ref (n0 + q) :: rest) (hsum : (rest.map fun v => v.category).sum ≤ 8) (hdg : decode cc pc = .ok (.invokevirtual index, 3)) (hf : cells ≤ R.cells ∧ slots ≤ R.slots)
    (kk : ∀ (H1 : Heap) (locs1 : List Loc), sr_V D aC sh n0 σ' H0 H1 locs1 → W p l e R s m args below meth c H1 locs1 cells slots Q (F0 m (pc + 3) ls rest)) : W p l e R s m args below meth c H locs cells slots Q (F0 m pc ls st0) :=
  s_callV hX hV hls hM hC hlink hR hc hci hq hn hst hsum hdg hf kk
theorem s_callV1 {y : MethodName} {bytes : ByteArray} {maxL nn : Nat} {rt : Option FieldType} {rm : Room} {As : List Value} {v : Value} {C : String} {ci N : Nat} {T : u_T} (hX : sr_X p s m args meth c cc nL ret own D aC) (hV : sr_V D aC sh n0 σ H0 H locs) (hls : ls.size = nL) (hM : sr_Met l D aC sh n0 y bytes maxL rt rm (.ref (n0 + q) :: As) σ (some v) σ') (hC : sr_Cv y bytes maxL rt C nn) (hlink : Cond.methodLink own index y ∈ sr_G) (hR : rm.cells = 0 ∧ rm.slots = 0 ∧ rm.frames + 1 ≤ R.frames ∧ 8 + (maxL + 11) + rm.locals ≤ R.locals) (hc : sr_cls[ci]? = some (C, T, N)) (hci : ci + 1 < 10000) (hq : sh q = ci + 1) (hn : As.length = nn) {st0 : List Value} (hst : st0 = As.reverse ++ .ref (n0 + q) :: rest) (hsum : (rest.map fun v => v.category).sum ≤ 8) (hdg : decode cc pc = .ok (.invokevirtual index, 3)) (hf : cells ≤ R.cells ∧ slots ≤ R.slots)
    (kk : ∀ (H1 : Heap) (locs1 : List Loc), sr_V D aC sh n0 σ' H0 H1 locs1 → W p l e R s m args below meth c H1 locs1 cells slots Q (F0 m (pc + 3) ls (v :: rest))) : W p l e R s m args below meth c H locs cells slots Q (F0 m pc ls st0) :=
  s_callV hX hV hls hM hC hlink hR hc hci hq hn hst hsum hdg hf kk
theorem s_callS0 {y : MethodName} {bytes : ByteArray} {maxL nn : Nat} {rt : Option FieldType} {rm : Room} {As : List Value} {C : String} (hX : sr_X p s m args meth c cc nL ret own D aC) (hV : sr_V D aC sh n0 σ H0 H locs) (hls : ls.size = nL) (hM : sr_Met l D aC sh n0 y bytes maxL rt rm As σ none σ') (hC : sr_Cs y bytes maxL rt C nn) (hlink : Cond.methodLink own index y ∈ sr_G) (hR : rm.cells = 0 ∧ rm.slots = 0 ∧ rm.frames + 1 ≤ R.frames ∧ 8 + (maxL + 11) + rm.locals ≤ R.locals) (hn : As.length = nn) {st0 : List Value} (hst : st0 = As.reverse ++ rest) (hsum : (rest.map fun v => v.category).sum ≤ 8) (hdg : decode cc pc = .ok (.invokestatic index, 3)) (hf : cells ≤ R.cells ∧ slots ≤ R.slots)
    (kk : ∀ (H1 : Heap) (locs1 : List Loc), sr_V D aC sh n0 σ' H0 H1 locs1 → W p l e R s m args below meth c H1 locs1 cells slots Q (F0 m (pc + 3) ls rest)) : W p l e R s m args below meth c H locs cells slots Q (F0 m pc ls st0) :=
  s_callS hX hV hls hM hC hlink hR hn hst hsum hdg hf kk
theorem s_callS1 {y : MethodName} {bytes : ByteArray} {maxL nn : Nat} {rt : Option FieldType} {rm : Room} {As : List Value} {v : Value} {C : String} (hX : sr_X p s m args meth c cc nL ret own D aC) (hV : sr_V D aC sh n0 σ H0 H locs) (hls : ls.size = nL) (hM : sr_Met l D aC sh n0 y bytes maxL rt rm As σ (some v) σ') (hC : sr_Cs y bytes maxL rt C nn) (hlink : Cond.methodLink own index y ∈ sr_G) (hR : rm.cells = 0 ∧ rm.slots = 0 ∧ rm.frames + 1 ≤ R.frames ∧ 8 + (maxL + 11) + rm.locals ≤ R.locals) (hn : As.length = nn) {st0 : List Value} (hst : st0 = As.reverse ++ rest) (hsum : (rest.map fun v => v.category).sum ≤ 8) (hdg : decode cc pc = .ok (.invokestatic index, 3)) (hf : cells ≤ R.cells ∧ slots ≤ R.slots)
    (kk : ∀ (H1 : Heap) (locs1 : List Loc), sr_V D aC sh n0 σ' H0 H1 locs1 → W p l e R s m args below meth c H1 locs1 cells slots Q (F0 m (pc + 3) ls (v :: rest))) : W p l e R s m args below meth c H locs cells slots Q (F0 m pc ls st0) :=
  s_callS hX hV hls hM hC hlink hR hn hst hsum hdg hf kk
theorem s_callN0 {y : MethodName} {bytes : ByteArray} {maxL nn : Nat} {rt : Option FieldType} {rm : Room} {As : List Value} {C : String} {host : String} (hX : sr_X p s m args meth c cc nL ret own D aC) (hV : sr_V D aC sh n0 σ H0 H locs) (hls : ls.size = nL) (hM : sr_Met l D aC sh n0 y bytes maxL rt rm As σ none σ') (hC : sr_Cs y bytes maxL rt C nn) (hlink : va_Nw (.methodLinkNest own index y host) s) (hR : rm.cells = 0 ∧ rm.slots = 0 ∧ rm.frames + 1 ≤ R.frames ∧ 8 + (maxL + 11) + rm.locals ≤ R.locals) (hn : As.length = nn) {st0 : List Value} (hst : st0 = As.reverse ++ rest) (hsum : (rest.map fun v => v.category).sum ≤ 8) (hdg : decode cc pc = .ok (.invokestatic index, 3)) (hf : cells ≤ R.cells ∧ slots ≤ R.slots)
    (kk : ∀ (H1 : Heap) (locs1 : List Loc), sr_V D aC sh n0 σ' H0 H1 locs1 → W p l e R s m args below meth c H1 locs1 cells slots Q (F0 m (pc + 3) ls rest)) : W p l e R s m args below meth c H locs cells slots Q (F0 m pc ls st0) :=
  s_callN hX hV hls hM hC hlink hR hn hst hsum hdg hf kk
theorem s_callN1 {y : MethodName} {bytes : ByteArray} {maxL nn : Nat} {rt : Option FieldType} {rm : Room} {As : List Value} {v : Value} {C : String} {host : String} (hX : sr_X p s m args meth c cc nL ret own D aC) (hV : sr_V D aC sh n0 σ H0 H locs) (hls : ls.size = nL) (hM : sr_Met l D aC sh n0 y bytes maxL rt rm As σ (some v) σ') (hC : sr_Cs y bytes maxL rt C nn) (hlink : va_Nw (.methodLinkNest own index y host) s) (hR : rm.cells = 0 ∧ rm.slots = 0 ∧ rm.frames + 1 ≤ R.frames ∧ 8 + (maxL + 11) + rm.locals ≤ R.locals) (hn : As.length = nn) {st0 : List Value} (hst : st0 = As.reverse ++ rest) (hsum : (rest.map fun v => v.category).sum ≤ 8) (hdg : decode cc pc = .ok (.invokestatic index, 3)) (hf : cells ≤ R.cells ∧ slots ≤ R.slots)
    (kk : ∀ (H1 : Heap) (locs1 : List Loc), sr_V D aC sh n0 σ' H0 H1 locs1 → W p l e R s m args below meth c H1 locs1 cells slots Q (F0 m (pc + 3) ls (v :: rest))) : W p l e R s m args below meth c H locs cells slots Q (F0 m pc ls st0) :=
  s_callN hX hV hls hM hC hlink hR hn hst hsum hdg hf kk
theorem s_tabIn {x k : Int32} {dflt lo hi : Int} {offs : Array Int} {len : Nat} {off : Int} {tgt : Nat} (hk : x = k) (hexec : p.tables.exec = Jvm.exec) (hb : c.code = cc) (hdg : decode cc pc = .ok (.tableswitch dflt lo hi offs, len)) (h1 : ¬ k.toInt < lo) (h2 : ¬ hi < k.toInt) (ho : offs[(k.toInt - lo).toNat]? = some off) (ht : (pc : Int) + off = (tgt : Int))
    (kk : W p l e R s m args below meth c H locs cells slots Q (F0 m tgt ls rest)) : W p l e R s m args below meth c H locs cells slots Q (F0 m pc ls (.int x :: rest)) := by
  subst hk
  exact lv_tableIn hexec hb hdg h1 h2 ho ht kk
end
