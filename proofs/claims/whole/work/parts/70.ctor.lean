/-! CONSTRUCTORS: a world that grows, cell by cell, from its base a -/
def sr_H (D : va_G) (a N : Nat) (E : Nat → va_E) (H0 H : Heap) (locs : List Loc) : Prop := H.size = a + N ∧ (∀ x, x < a → H[x]? = H0[x]?) ∧ (∀ l ∈ locs, a ≤ l.base) ∧ ∀ k, k < N → va_at D sr_cls (a + k, E k) H
def upE (E : Nat → va_E) (k : Nat) (e : va_E) : Nat → va_E := fun j => if j = k then e else E j
theorem sr_H.congr {D : va_G} {a N : Nat} {E E' : Nat → va_E} {H0 H : Heap} {locs : List Loc} (h : sr_H D a N E H0 H locs) (hE : ∀ k, k < N → E k = E' k) : sr_H D a N E' H0 H locs := ⟨h.1, h.2.1, h.2.2.1, fun k hk => by rw [← hE k hk]; exact h.2.2.2 k hk⟩
def sr_eq (e e' : va_E) : Prop := e = e' ∨ ∃ (cA : ClassId) (n : Nat) (f g : Nat → Option Nat), e = .inl (cA, n, .inr (.inr (.inr (.inr f)))) ∧ e' = .inl (cA, n, .inr (.inr (.inr (.inr g)))) ∧ ∀ j, j < n → f j = g j
theorem sr_eq.at {D : va_G} {cl : List vw_C} {x : Nat} {e e' : va_E} {H : Heap} (h : sr_eq e e') (ha : va_at D cl (x, e) H) : va_at D cl (x, e') H := by
  rcases h with rfl | ⟨cA, n, f, g, rfl, rfl, h⟩
  · exact ha
  · show H[x]? = some (vp_cell cA (n, .inr (.inr (.inr (.inr g)))))
    rw [show H[x]? = some (vp_cell cA (n, .inr (.inr (.inr (.inr f))))) from ha, vp_cell_q, vp_cell_q]
    congr 1
    unfold arrV
    congr 1
    apply Array.ext
    · simp
    · intro i h1 h2
      simp only [Array.size_ofFn] at h1
      simp [h i h1]
theorem sr_H.push {D : va_G} {a N : Nat} {E : Nat → va_E} {H0 H H1 : Heap} {locs : List Loc} {e : va_E} (h : sr_H D a N E H0 H locs) (z : H1.size = a + N + 1) (oq : ∀ q : Nat, q < a + N → H1[q]? = H[q]?) (he : va_at D sr_cls (a + N, e) H1) : sr_H D a (N + 1) (upE E N e) H0 H1 locs := by
  refine ⟨by omega, fun x hx => (oq x (by omega)).trans (h.2.1 x hx), h.2.2.1, fun k hk => ?_⟩
  by_cases hkN : k = N
  · subst hkN
    simp only [upE, if_true]
    exact he
  · simp only [upE, if_neg hkN]
    exact (h.2.2.2 k (by omega)).kept (oq _ (by show a + k < a + N; omega))
theorem sr_H.set {D : va_G} {a N k i : Nat} {E : Nat → va_E} {H0 H H1 : Heap} {locs : List Loc} {e : va_E} (h : sr_H D a N E H0 H locs) (z : H1.size = H.size) (oq : ∀ q : Nat, q ≠ a + k → H1[q]? = H[q]?) (he : va_at D sr_cls (a + k, e) H1) : sr_H D a N (upE E k e) H0 H1 (locs ++ [⟨a + k, i⟩]) := by
  refine ⟨z.trans h.1, fun x hx => (oq x (by omega)).trans (h.2.1 x hx), fun l hl => ?_, fun j hj => ?_⟩
  · rcases List.mem_append.mp hl with q | q
    · exact h.2.2.1 l q
    · rw [List.mem_singleton.mp q]
      exact Nat.le_add_right _ _
  · by_cases hjk : j = k
    · subst hjk
      simp only [upE, if_true]
      exact he
    · simp only [upE, if_neg hjk]
      exact (h.2.2.2 j hj).kept (oq _ (by show a + j ≠ a + k; omega))
/-- the store at the beginning, by the shapes -/
def sr_I (sh : Nat → Nat) (num : Nat → Int32) (ign : Nat → Bool) : St := (fun q j => if sh q = 2 ∧ j = 5 then 4 else if sh q = 2 ∧ j = 7 then 50 else if sh q = 1 ∧ j = 0 then num q else 0, fun q j => if sh q = 7 ∧ (j = 4 ∨ j = 5) then 1 else 0, fun q j => if sh q = 2 ∧ j = 3 then ign q else false)
theorem sr_F_shift (a k : Nat) (i : Nat → Int32) (l : Nat → Int64) (b : Nat → Bool) (j c : Nat) : sr_F (a + k) i l b j c = sr_F a i l b (k + j) c := by
  have h : ∀ d, a + k + (j + d) = a + (k + j + d) := fun d => by omega
  unfold sr_F
  split <;> simp only [h]
theorem sr_E_shift (aC : Nat → ClassId) (a k : Nat) (i : Nat → Int32) (l : Nat → Int64) (b : Nat → Bool) (j c : Nat) : sr_E aC (a + k) i l b j c = sr_E aC a i l b (k + j) c := by
  have h1 : ∀ x, a + k + (j + 1 + 5 * x) = a + (k + j + 1 + 5 * x) := fun d => by omega
  have h2 : ∀ x, a + k + (j + 2 + 32 * x) = a + (k + j + 2 + 32 * x) := fun d => by omega
  simp only [sr_E, sr_F_shift, h1, h2]
theorem sr_emb {aC : Nat → ClassId} {sh sh' : Nat → Nat} {num num' : Nat → Int32} {ign ign' : Nat → Bool} {a k j : Nat} (h1 : sh (k + j) = sh' j) (h2 : num (k + j) = num' j) (h3 : ign (k + j) = ign' j) : sr_e aC sh' (a + k) (sr_I sh' num' ign') j = sr_e aC sh a (sr_I sh num ign) (k + j) := by
  simp only [sr_e, sr_I, h1, h2, h3, sr_E_shift]
def sr_PcI (D : va_G) (aC : Nat → ClassId) (av : List Value) (a ci : Nat) (fs : List Value) : Array Value → State → Prop := fun v U => v = (.ref a :: av).toArray ∧ sr_K D aC U ∧ U.heap.size = a + 1 ∧ va_at D sr_cls (a, .inr (ci, fs)) U.heap
def sr_QcI (D : va_G) (a sz : Nat) (E : Nat → va_E) : Array Value → State → Outcome → State → Prop := fun _ st oc t => oc = .returned none ∧ sr_H D a sz E st.heap t.heap []
def sr_MetI (l : Launch) (D : va_G) (aC : Nat → ClassId) (y : MethodName) (cc : ByteArray) (mL : Nat) (rm : Room) (av : List Value) (a ci : Nat) (fs : List Value) (sz : Nat) (E : Nat → va_E) : Prop :=
  Met l y (Cond.code y cc mL none :: sr_G) rm (sr_PcI D aC av a ci fs) (sr_QcI D a sz E) rm.cells rm.slots (fun q => a ≤ q)
section
variable {p : Program} {l : Launch} {e : Env} {R : Room} {s : State} {m : MethodId} {args : Array Value} {below : List Frame} {meth : Method} {c : Code} {H H0 : Heap} {locs : List Loc} {cells slots : Nat} {Q : State → Prop} {cc : ByteArray} {nL pc q n index : Nat} {ret : Option FieldType} {own : String} {D : va_G} {aC : Nat → ClassId} {a N k : Nat} {E : Nat → va_E} {ls : Array Slot} {rest : List Value}
theorem g_obj (hX : sr_X p s m args meth c cc nL ret own D aC) (hls : ls.size = nL) (hlink : Cond.methodLink own index objectInit ∈ sr_G) (hframes : 1 ≤ R.frames) (hlocals : (rest.map fun v => v.category).sum + 12 ≤ R.locals) (hdg : decode cc pc = .ok (.invokespecial index, 3))
    (kk : W p l e R s m args below meth c H locs cells slots Q (F0 m (pc + 3) ls rest)) : W p l e R s m args below meth c H locs cells slots Q (F0 m pc ls (.ref a :: rest)) :=
  W.objInit hX.1.1 hX.1.2.1 hX.1.2.2.2.1 (s_w hX hlink) (s_w hX lk_19) (s_w hX lk_20) rfl (by rw [hX.1.2.2.1]; exact hls) rfl hdg hframes (by show 2 * 0 + _ + 12 ≤ _; omega) kk
theorem g_new (hX : sr_X p s m args meth c cc nL ret own D aC) (hV : sr_H D a N E H0 H locs) {C : String} {T : u_T} {ci Nf : Nat} (hin : ∀ w ∈ u_ws C T Nf, w ∈ sr_G) (ty : Nat → FieldType) (hty : ∀ k, k < Nf → parseFieldDescriptor (T k).2.2.1 = some (ty k)) (hc : sr_cls[ci]? = some (C, T, Nf)) (hlk : Cond.classLink own index C ∈ sr_G) (hins : Cond.instantiable C Nf ∈ sr_G) (hini : Cond.initialized C ∈ sr_G) {fs : List Value} (hfs : ∀ j, j < Nf → defaultValue (ty j) = vp_V fs j) (hcells : cells + 1 ≤ R.cells) (hslots : slots + Nf ≤ R.slots) (hdg : decode cc pc = .ok (.new index, 3))
    (kk : ∀ H1 : Heap, sr_H D a (N + 1) (upE E N (.inr (ci, fs))) H0 H1 locs → W p l e R s m args below meth c H1 locs (cells + 1) (slots + Nf) Q (F0 m (pc + 3) ls (.ref (a + N) :: rest))) : W p l e R s m args below meth c H locs cells slots Q (F0 m pc ls rest) := by
  have hKn := hX.2.1.1.1 ci _ hc
  refine W.newcK hX.1.1 hX.1.2.1 hX.1.2.2.2.1 (s_w hX hlk) (s_w hX hins) (s_w hX hini) rfl hdg hcells hslots hKn.2.1 hV.1 fun H1 kC hkC e1 z1 o1 => ?_
  exact kk H1 (hV.push z1 o1 ⟨_, hc, (u_born ty hX.1.2.2.2.2 hin hKn hkC e1 hty).to hfs⟩)
theorem g_newa {atype : ArrayType} {ty : FieldType} {t0 : Nat} (hX : sr_X p s m args meth c cc nL ret own D aC) (hV : sr_H D a N E H0 H locs) (hty : newarray.typeOf atype = ty) (harr : Cond.arrayClass ty ∈ sr_G) (hnm : ∀ cA, s.vm.findClass ("[" ++ ty.toString) = some cA → cA = aC t0) {x : Int32} {n : Nat} {a0 : vp_A} (ha : ∀ cA : ClassId, vp_cell cA a0 = arrV cA n (fun _ => defaultValue ty)) (hn : ¬ x < 0) (hN : x.toNatClampNeg = n) (hbytes : n * componentBytes ty ≤ 536870912) (hcells : cells + 1 ≤ R.cells) (hslots : slots + n ≤ R.slots) (hdg : decode cc pc = .ok (.newarray atype, 2))
    (kk : ∀ H1 : Heap, sr_H D a (N + 1) (upE E N (.inl (aC t0, a0))) H0 H1 locs → W p l e R s m args below meth c H1 locs (cells + 1) (slots + n) Q (F0 m (pc + 2) ls (.ref (a + N) :: rest))) : W p l e R s m args below meth c H locs cells slots Q (F0 m pc ls (.int x :: rest)) := by
  subst hty
  refine va_newaK hX.1.1 hX.1.2.1 (s_w hX harr) rfl hdg rfl hn hN hbytes hcells hslots hV.1 fun H1 cA e1 z1 o1 hAr hNm => ?_
  refine kk H1 (hV.push z1 o1 ?_)
  show H1[a + N]? = some (vp_cell _ _)
  rw [ha, ← hnm cA hNm]
  exact e1
theorem g_anew {C : String} {t0 : Nat} (hX : sr_X p s m args meth c cc nL ret own D aC) (hV : sr_H D a N E H0 H locs) (hlk : Cond.classLink own index C ∈ sr_G) (hov : va_AO C s) (hnm : ∀ cA, s.vm.findClass ("[" ++ (FieldType.object C).toString) = some cA → cA = aC t0) {x : Int32} {n : Nat} (hn : ¬ x < 0) (hN : x.toNatClampNeg = n) (hbytes : n * 4 ≤ 536870912) (hcells : cells + 1 ≤ R.cells) (hslots : slots + n ≤ R.slots) (hdg : decode cc pc = .ok (.anewarray index, 3))
    (kk : ∀ H1 : Heap, sr_H D a (N + 1) (upE E N (.inl (aC t0, n, .inr (.inr (.inr (.inr (fun _ => none))))))) H0 H1 locs → W p l e R s m args below meth c H1 locs (cells + 1) (slots + n) Q (F0 m (pc + 3) ls (.ref (a + N) :: rest))) : W p l e R s m args below meth c H locs cells slots Q (F0 m pc ls (.int x :: rest)) := by
  subst hN
  refine W.anew hX.1.1 hX.1.2.1 hX.1.2.2.2.1 (s_w hX hlk) hov.use rfl hdg rfl hn hbytes hcells hslots fun cA kA comp h1 h2 h3 h4 => ?_
  refine W.eq (g2 := F0 m (pc + 3) ls (.ref (a + N) :: rest)) (by rw [hV.1]) ?_
  refine kk _ (hV.push (by simp [hV.1]) (fun q hq => by rw [Array.getElem?_push, if_neg (by rw [hV.1]; omega)]) ?_)
  show (H.push _)[a + N]? = some (vp_cell _ _)
  rw [← hnm cA h1, ← hV.1, vp_cell_q, arrV_new]
  simp [va_rf]
theorem g_get (hX : sr_X p s m args meth c cc nL ret own D aC) (hV : sr_H D a N E H0 H locs) {C : String} {T : u_T} {Nf ci j : Nat} (hin : ∀ w ∈ u_ws C T Nf, w ∈ sr_G) (hc : sr_cls[ci]? = some (C, T, Nf)) (hj : j < Nf) (hlk : Cond.fieldLink own index (T j).1 (T j).2.1 (T j).2.2.1 ∈ sr_G) (hk : k < N) {fs : List Value} (he : E k = .inr (ci, fs)) {v : Value} (hv : fs[j]? = some v) (hdg : decode cc pc = .ok (.getfield index, 3))
    (kk : W p l e R s m args below meth c H locs cells slots Q (F0 m (pc + 3) ls (v :: rest))) : W p l e R s m args below meth c H locs cells slots Q (F0 m pc ls (.ref (a + k) :: rest)) := by
  have hat := hV.2.2.2 k hk
  rw [he] at hat
  have hP : va_P D sr_cls [(a + k, .inr (ci, fs))] H := fun i x hx => by
    have hz : i < 1 := (List.getElem?_eq_some_iff.mp hx).1
    rw [show i = 0 by omega] at hx
    cases hx
    exact hat
  exact va_get hX.1.1 hX.1.2.1 hX.1.2.2.2.2 hin hX.1.2.2.2.1 hX.2.1.1 hP 0 rfl hc j hj (s_w hX hlk) (fun _ h => h) hv hdg kk
theorem g_put (hX : sr_X p s m args meth c cc nL ret own D aC) (hV : sr_H D a N E H0 H locs) {C : String} {T : u_T} {Nf ci j : Nat} (hin : ∀ w ∈ u_ws C T Nf, w ∈ sr_G) (ty0 : Nat → FieldType) (hty : ∀ k, k < Nf → parseFieldDescriptor (T k).2.2.1 = some (ty0 k)) (hnm : ∀ a, a < Nf → ∀ b, b < Nf → a ≠ b → (T a).2.1 ≠ (T b).2.1) (hc : sr_cls[ci]? = some (C, T, Nf)) (hj : j < Nf) (hlk : Cond.fieldLink own index (T j).1 (T j).2.1 (T j).2.2.1 ∈ sr_G) (hk : k < N) {fs : List Value} (he : E k = .inr (ci, fs)) (hfin : (T j).2.2.2 = false ∨ ((T j).2.2.2 = true ∧ meth.name = "<init>" ∧ (T j).1 = own)) {ty : FieldType} {v : Value} (hd : parseFieldDescriptor (T j).2.2.1 = some ty) (hn : narrow ty v = v) (hfit : fits ty v = true) (hl : j < fs.length) (hdg : decode cc pc = .ok (.putfield index, 3))
    (kk : ∀ (H1 : Heap) (locs1 : List Loc), sr_H D a N (upE E k (.inr (ci, fs.set j v))) H0 H1 locs1 → W p l e R s m args below meth c H1 locs1 cells slots Q (F0 m (pc + 3) ls rest)) : W p l e R s m args below meth c H locs cells slots Q (F0 m pc ls (v :: .ref (a + k) :: rest)) := by
  have hat := hV.2.2.2 k hk
  rw [he] at hat
  have hap := va_apart (own := own) hX.1.2.2.2.2 hin ty0 hty hnm hX.2.1.1 hc
  obtain ⟨r, h1, cell, q1, q2, q3, q4⟩ := hat
  have hr : r = (C, T, Nf) := Option.some.inj (h1.symm.trans hc)
  subst hr
  obtain ⟨hS, hfc, kC, hkC, hkind⟩ := hX.2.1.1.1 ci _ hc
  obtain ⟨cf, kf, fi, f, hi, hsl⟩ := hS j hj
  have hlay := hX.1.2.2.2.2 _ (hin _ (u_in_lay hj))
  unfold u_lay at hlay
  have hst := (u_facts hfc hkC (u_lays hX.1.2.2.2.2 hin hj) hi).1
  rcases hfin with hfin | ⟨hfin, hini, hdecl⟩
  · rw [if_neg (by rw [hfin]; decide)] at hlay
    have h6 := u_store hfc hkC hkind hlay hi hd hn hfit
    refine W.putK hX.1.1 hX.1.2.1 (f := f) ⟨hX.1.2.2.2.1, s_w hX hlk, ⟨_, _, _, hi⟩, hst⟩ (by rw [q2]; exact h6) q1 q3 (by rw [hsl]; exact k2_hasslot (q4 j hj)) rfl rfl hdg fun H' e1 e2 e3 => ?_
    rw [hsl] at e1 ⊢
    exact kk H' _ (hV.set e2 e3 ⟨_, hc, t_OB.to (V := updV (vp_V fs) j v) ⟨_, e1, q2, q3, t_set q4 hap hj v⟩ (fun i _ => vp_updV_set hl v i)⟩)
  · rw [if_pos hfin] at hlay
    have hcf : m.cls = cf := by
      obtain ⟨_, _, c', _, _, _, -, -, hf', -, -, -, hown2, -⟩ := Cond.laysFinal_spec hlay
      have e1 : c' = cf := by have := hi.symm.trans hf'; simp at this; exact this.1.symm
      rw [hdecl] at hown2
      rw [← e1]; exact Option.some.inj (hX.1.2.2.2.1.symm.trans hown2)
    have h6 := u_fits hfc hkC hkind (Or.inr hlay) hi hd hn hfit
    refine W.putFinK hX.1.1 hX.1.2.1 hX.1.2.2.2.1 (s_w hX hlk) hi hst hcf hini (by rw [q2]; exact h6) q1 q3 (by rw [hsl]; exact k2_hasslot (q4 j hj)) rfl rfl hdg fun H' e1 e2 e3 => ?_
    rw [hsl] at e1 ⊢
    exact kk H' _ (hV.set e2 e3 ⟨_, hc, t_OB.to (V := updV (vp_V fs) j v) ⟨_, e1, q2, q3, t_set q4 hap hj v⟩ (fun i _ => vp_updV_set hl v i)⟩)
theorem g_iast (hX : sr_X p s m args meth c cc nL ret own D aC) (hV : sr_H D a N E H0 H locs) (hk : k < N) {n : Nat} {f : Nat → Int32} (he : E k = .inl (aC 0, n, .inl f)) {i x : Int32} (hin : vp_in i n) (hdg : decode cc pc = .ok (.iastore, 1))
    (kk : ∀ (H1 : Heap) (locs1 : List Loc), sr_H D a N (upE E k (.inl (aC 0, n, .inl (upd f i.toNatClampNeg x)))) H0 H1 locs1 → W p l e R s m args below meth c H1 locs1 cells slots Q (F0 m (pc + 1) ls rest)) : W p l e R s m args below meth c H locs cells slots Q (F0 m pc ls (.int x :: .int i :: .ref (a + k) :: rest)) := by
  have hat := hV.2.2.2 k hk
  rw [he] at hat
  refine W.iast hX.1.1 hX.1.2.1 hat ((hX.2.1.1.2 0 _ rfl).1 n (fun j => .int (f j))) (fun q => by cases q) (by show ¬ (i < 0 ∨ (arrV _ _ _).slots.size ≤ _); rw [arrV_size]; exact hin) rfl rfl hdg fun H1 e z oq => ?_
  refine kk H1 _ (hV.set z oq ?_)
  show H1[a + k]? = some (vp_cell _ _)
  rw [e, vp_cell_i, vp_cell_i, arrV_store]
  congr 2
  funext y
  by_cases hy : y = i.toNatClampNeg <;> simp [updV, upd, hy]
theorem g_aast {ci t0 k2 : Nat} {r : vw_C} {vs : List Value} {f : Nat → Option Nat} (hX : sr_X p s m args meth c cc nL ret own D aC) (hV : sr_H D a N E H0 H locs) (hk : k < N) (hk2 : k2 < N) {n : Nat} (he : E k = .inl (aC t0, n, .inr (.inr (.inr (.inr f))))) (ht : (sr_tys aC)[t0]? = some (aC t0, .object r.1)) (he2 : E k2 = .inr (ci, vs)) (hc : sr_cls[ci]? = some r) {i : Int32} (hin : vp_in i n) (hdg : decode cc pc = .ok (.aastore, 1))
    (kk : ∀ (H1 : Heap) (locs1 : List Loc), sr_H D a N (upE E k (.inl (aC t0, n, .inr (.inr (.inr (.inr (va_up f i.toNatClampNeg (some (a + k2))))))))) H0 H1 locs1 → W p l e R s m args below meth c H1 locs1 cells slots Q (F0 m (pc + 1) ls rest)) : W p l e R s m args below meth c H locs cells slots Q (F0 m pc ls (.ref (a + k2) :: .int i :: .ref (a + k) :: rest)) := by
  have hlt : i.toNatClampNeg < n := Nat.not_le.mp fun q => hin (Or.inr q)
  have h0 : ¬ i < 0 := fun q => hin (Or.inl q)
  have hat := hV.2.2.2 k hk
  have hat2 := hV.2.2.2 k2 hk2
  rw [he] at hat
  rw [he2] at hat2
  obtain ⟨r', hr', cellV, g1, g2, g3, -⟩ := hat2
  have hcls := (hX.2.1.1.1 ci r hc).2
  obtain ⟨kA, comp, k1, k2', k3, -⟩ := (hX.2.1.1.2 t0 _ ht).2
  have hcomp : comp = D.1 ci := Option.some.inj (k3.symm.trans hcls.1)
  subst hcomp
  obtain ⟨kC, hkC, -⟩ := hcls.2
  refine W.aast hX.1.1 hX.1.2.1 hat (fun q h => by cases h) (fun h => by cases h) k1 k2' rfl hkC ⟨h0, by show _ < (arrV _ _ _).slots.size; rw [arrV_size]; exact hlt⟩ g1 (fun q h => by rw [g3] at h; cases h) (by rw [g2]; exact hkC) (by rw [g2]; exact va_assign hcls) rfl rfl hdg fun H1 e z oq => ?_
  refine kk H1 _ (hV.set z oq ?_)
  show H1[a + k]? = some (vp_cell _ _)
  rw [e]
  rw [vp_cell_q, vp_cell_q, arrV_store]
  congr 2
  funext y
  by_cases hy : y = i.toNatClampNeg
  · subst hy
    simp [updV, va_up, va_rf]
  · simp [updV, va_up, hy]
/-- a constructor of the cell that was made last -/
theorem g_call {y : MethodName} {bytes : ByteArray} {maxL nn ci sz : Nat} {rm : Room} {As fs : List Value} {E1 : Nat → va_E} (hX : sr_X p s m args meth c cc nL ret own D aC) (hV : sr_H D a (k + 1) E H0 H locs) (hls : ls.size = nL) (he : E k = .inr (ci, fs)) (hM : sr_MetI l D aC y bytes maxL rm As (a + k) ci fs sz E1) (hcode : Cond.code y bytes maxL none ∈ sr_G) (hinst : Cond.instanceMethod y ∈ sr_G) (hini : Cond.initialized y.cls ∈ sr_G) (hy : y.name = "<init>") (hd : y.cls ≠ "java/lang/invoke/MethodHandle" ∧ y.cls ≠ "java/lang/invoke/VarHandle" ∧ (parseMethodDescriptor y.desc).map (fun d => d.parameters.length) = some nn) (hlink : Cond.methodLink own index y ∈ sr_G) (hR : rm.frames + 1 ≤ R.frames ∧ 8 + (maxL + 11) + rm.locals ≤ R.locals) (hn : As.length = nn) {st0 : List Value} (hst : st0 = As.reverse ++ .ref (a + k) :: rest) (hsum : (rest.map fun v => v.category).sum ≤ 8) (hdg : decode cc pc = .ok (.invokespecial index, 3)) (hf : cells + rm.cells ≤ R.cells ∧ slots + rm.slots ≤ R.slots)
    (kk : ∀ (H1 : Heap) (locs1 : List Loc), sr_H D a (k + sz) (fun j => if j < k then E j else E1 (j - k)) H0 H1 locs1 → W p l e R s m args below meth c H1 locs1 (cells + rm.cells) (slots + rm.slots) Q (F0 m (pc + 3) ls rest)) : W p l e R s m args below meth c H locs cells slots Q (F0 m pc ls st0) := by
  obtain ⟨hx, hb, hml, hown, hts⟩ := hX.1
  have hr := va_runI (l := l) (e := e) (R := R) (below := below) (meth := meth) (locs := locs) (cells := cells) (slots := slots) (H := H) (g := F0 m pc ls st0) (As := As) (rest := rest) (b := a + k) (n := nn) ⟨hx, hb, hml, hown, hts⟩ hM ⟨callB_of nn hts (sr_good (sr_cons hcode)) rfl rfl rfl (hts _ hini) (hts _ hlink) hd hR, hy, hts _ hinst⟩ ⟨fun _ _ _ _ h => ⟨h.1, sr_K.same rfl h.2.1, h.2.2⟩, fun U hU hW => ⟨rfl, hX.2.1.warm hW, by rw [hU, hV.1, Nat.add_assoc], by rw [hU, ← he]; exact hV.2.2.2 k (Nat.lt_succ_self k)⟩⟩ rfl hn hls hst (lv_room hsum) hdg hf
  intro T hT X
  obtain ⟨v, st₀, t, T', L, h0, X', hL, e1, e2, ⟨hv, hq⟩, st⟩ := hr T hT X
  cases hv
  rw [h0] at hq
  obtain ⟨t2, a1, b1⟩ := kk T'.heap (locs ++ L) ⟨by rw [e1, hq.1]; omega, fun x hx => by rw [e1, hq.2.1 x (by omega)]; exact hV.2.1 x hx, fun x hx => by
      rcases List.mem_append.mp hx with h | h
      · exact hV.2.2.1 x h
      · exact Nat.le_trans (Nat.le_add_right _ _) (hL x h), fun j hj => by
      by_cases hjk : j < k
      · simp only [if_pos hjk]
        exact (hV.2.2.2 j (by omega)).kept (by rw [e1]; exact hq.2.1 _ (by show a + j < a + k; omega))
      · simp only [if_neg hjk]
        have := hq.2.2.2 (j - k) (by omega)
        rw [show a + k + (j - k) = a + j by omega] at this
        rw [e1]
        exact this⟩ T' rfl X'
  exact ⟨t2, st t2 a1, b1⟩
theorem g_ret {E' : Nat → va_E} (hX : sr_X p s m args meth c cc nL none own D aC) (hV : sr_H D a N E s.heap H locs) (hE : ∀ k, k < N → sr_eq (E k) (E' k)) (hdg : decode cc pc = .ok (.return_, 1)) : W p l e R s m args below meth c H locs cells slots (MQ below (sr_QcI D a N E') args s cells slots (fun q => a ≤ q)) (F0 m pc ls []) :=
  W.vret hX.1.1 hX.1.2.1 hX.2.2.1 (fun t ht _ => ⟨rfl, by rw [ht]; exact ⟨hV.1, hV.2.1, fun _ h => (by cases h), fun k hk => (hE k hk).at (hV.2.2.2 k hk)⟩⟩) hV.2.2.1 hdg hX.2.2.2
theorem g_met {y : MethodName} {maxL ci sz : Nat} {rm : Room} {av fs : List Value} (hy : plainName y.cls = true) (hlen : (lg_sl (.ref a :: av)).length ≤ maxL) (hown : y.cls = own) (hnm : y.name = "<init>")
    (body : ∀ (p : Program) (e : Env) (s : State) (m : MethodId) (below : List Frame) (meth : Method) (c : Code) (ls : Array Slot), sr_X p s m (.ref a :: av).toArray meth c cc maxL none own D aC → meth.name = "<init>" → sr_H D a 1 (fun _ => .inr (ci, fs)) s.heap s.heap [] → lv_has ls maxL (lv_args 0 (.ref a :: av)) →
      W p l e rm s m (.ref a :: av).toArray below meth c s.heap [] 0 0 (MQ below (sr_QcI D a sz E) (.ref a :: av).toArray s rm.cells rm.slots (fun q => a ≤ q)) (F0 m 0 ls [])) : sr_MetI l D aC y cc maxL rm av a ci fs sz E := by
  refine Met.ofW (cc := cc) (maxL := maxL) (ret := none) hy rfl ?_
  intro p e s m args below meth c s₁ B hml hv
  obtain ⟨rfl, hK, hz, hP⟩ := hv
  have hts := atoms_spec (ws := Cond.code y cc maxL none :: sr_G) B.pre
  have hl := lv_entry (.ref a :: av) (n := maxL) hlen
  rw [lg_entry_eq]
  refine body p e s m below meth c _ ⟨⟨B.exec, B.bytes, hml, by rw [← hown]; exact findClass_of_methodNamed B.named, fun w hw => hts w (List.mem_cons_of_mem _ hw)⟩, hK, B.returns, B.notSynchronized⟩ ((name_of_methodNamed B.named B.method).1.trans hnm) ⟨hz, fun _ _ => rfl, fun _ h => (by cases h), fun k hk => ?_⟩ hl
  rw [show k = 0 by omega]
  exact hP
/-- the array classes are those of the context -/
theorem g_ar {t0 : Nat} {ty : FieldType} (hX : sr_X p s m args meth c cc nL ret own D aC) (ht : (sr_tys aC)[t0]? = some (aC t0, ty)) (hn : ∀ C, ty ≠ .object C) : ∀ cA, s.vm.findClass ("[" ++ ty.toString) = some cA → cA = aC t0 := by
  intro cA h
  have h2 := (hX.2.1.1.2 t0 _ ht).2
  have h3 : s.vm.findClass ("[" ++ ty.toString) = some (aC t0) := by
    cases ty with
    | object C => exact absurd rfl (hn C)
    | _ => exact h2
  exact Option.some.inj (h.symm.trans h3)
theorem g_arO {t0 : Nat} {C : String} (hX : sr_X p s m args meth c cc nL ret own D aC) (ht : (sr_tys aC)[t0]? = some (aC t0, .object C)) : ∀ cA, s.vm.findClass ("[" ++ (FieldType.object C).toString) = some cA → cA = aC t0 := by
  intro cA h
  obtain ⟨kA, comp, -, -, -, h4⟩ := (hX.2.1.1.2 t0 _ ht).2
  exact Option.some.inj (h.symm.trans h4)
end
