/-! the checksum -/
theorem mix_eq (a b : Int64) : f_X7_mix a b = f_X8_more a b := by unfold f_X7_mix f_X8_more; rfl
theorem in_sz {sz i : Nat} (hi : i < sz) (hsz : sz ≤ 5) : f_X8_in (nI i) 0 (nI sz - 1) = true := by
  rcases in_0 (nI i) (n := sz) (by omega) with ⟨h, -⟩ | ⟨-, h⟩
  · exact h
  · rcases h with h | h
    · exact absurd h (nI_pos (by omega))
    · exact absurd h (nleN hi (by omega))
theorem tells_eq {σ τ : St} (hR : Rel σ τ) {sz i j : Nat} (z1 : τ.1 (0 + 1) 10 = nI sz) (hsz : sz ≤ 5) (hi : i < sz) (hj : j ≤ 6) : ∃ r, f_X7_change 0 (nI i) (nI j) σ = some r ∧ f_X8_tells 0 (nI i) (nI j) τ = some r := by
  obtain ⟨r, r1, r2, -⟩ := op_change hR (nI i) (nI j)
  refine ⟨r, r1, ?_⟩
  unfold f_X8_change at r2
  rw [bnd_e, isChange_eq, z1, in_sz hi hsz, if_pos rfl, bnd_e, if_pos (show f_X8_in (nI j) 0 6 = true from (in_nI (a := 0) (b := 6) (by omega) (by omega) (by omega)).mpr ⟨by omega, hj⟩)] at r2
  generalize f_X8_tells 0 (nI i) (nI j) τ = t at r2
  cases t with
  | none => exact absurd r2 (by intro z; cases z)
  | some t => exact r2
theorem prb_eq {σ τ : St} (hR : Rel σ τ) {sz i j : Nat} (z1 : τ.1 (0 + 1) 10 = nI sz) (hsz : sz ≤ 5) (hi : i < sz) (hj : j ≤ 3) : f_X7_probes 0 (nI i) (nI j) σ = some (gI τ (0 + 1) (92 + 33 * i + (5 + j))) := by
  obtain ⟨r, r1, r2, -⟩ := op_probes hR (nI i) (nI j)
  rw [r1, ← r2]
  unfold f_X8_probes
  rw [bnd_e, isChange_eq, z1, in_sz hi hsz, if_pos rfl, bnd_e, if_pos (show f_X8_in (nI j) 0 3 = true from (in_nI (a := 0) (b := 3) (by omega) (by omega) (by omega)).mpr ⟨by omega, hj⟩), show (5 : Int32) + nI j = nI (5 + j) from nI_add 5 j, at_nI, bnd_e, if_pos (inb_nI (by omega) (by omega)), cl_nI (by omega)]
theorem ckA_L {σ τ : St} (hR : Rel σ τ) {sz i : Nat} {w1 : Int64} {rec : Int64 → Int32 → St → Option (Int64 × St)} (z1 : τ.1 (0 + 1) 10 = nI sz) (hsz : sz ≤ 5) (hi : i < sz) : ∀ (m k F G : Nat) (w : Int64), k + m = 7 → m < F → m < G → ∃ w', it2 (f_X7_mixChange_L6 σ 0 w1 (nI i)) F w (nI k) = it2 (f_X7_mixChange_L37 σ 0 w1 (nI i)) sr_fuel w' 0 ∧ it4 (f_X8_checksum_L41 0 rec) G w (nI i) (nI k) τ = it4 (f_X8_checksum_L70 0 rec) sr_fuel w' (nI i) 0 τ := by
  intro m
  induction m with
  | zero =>
    intro k F G w hkm hF hG
    obtain ⟨F, rfl⟩ : ∃ n', F = n' + 1 := ⟨F - 1, by omega⟩
    obtain ⟨G, rfl⟩ : ∃ n', G = n' + 1 := ⟨G - 1, by omega⟩
    refine ⟨w, ?_, ?_⟩
    · show f_X7_mixChange_L6 σ 0 w1 (nI i) (it2 (f_X7_mixChange_L6 σ 0 w1 (nI i)) F) w (nI k) = _
      generalize it2 (f_X7_mixChange_L6 σ 0 w1 (nI i)) F = g
      unfold f_X7_mixChange_L6
      rw [show (7 : Int32) = nI 7 from rfl, if_pos (leN (by omega) (by omega))]
    · show f_X8_checksum_L41 0 rec (it4 (f_X8_checksum_L41 0 rec) G) w (nI i) (nI k) τ = _
      generalize it4 (f_X8_checksum_L41 0 rec) G = g
      unfold f_X8_checksum_L41
      rw [show (7 : Int32) = nI 7 from rfl, if_pos (leN (by omega) (by omega))]
  | succ m ih =>
    intro k F G w hkm hF hG
    obtain ⟨F, rfl⟩ : ∃ n', F = n' + 1 := ⟨F - 1, by omega⟩
    obtain ⟨G, rfl⟩ : ∃ n', G = n' + 1 := ⟨G - 1, by omega⟩
    obtain ⟨r, r1, r2⟩ := tells_eq hR z1 hsz hi (show k ≤ 6 by omega)
    obtain ⟨w', a1, a2⟩ := ih (k + 1) F G (f_X8_more w r.toInt64) (by omega) (by omega) (by omega)
    refine ⟨w', ?_, ?_⟩
    · show f_X7_mixChange_L6 σ 0 w1 (nI i) (it2 (f_X7_mixChange_L6 σ 0 w1 (nI i)) F) w (nI k) = _
      rw [← a1]
      generalize it2 (f_X7_mixChange_L6 σ 0 w1 (nI i)) F = g
      unfold f_X7_mixChange_L6
      rw [show (7 : Int32) = nI 7 from rfl, if_neg (nleN (by omega) (by omega)), r1, obd_s, bnd_e, bnd_e, mix_eq, nI_1]
    · show f_X8_checksum_L41 0 rec (it4 (f_X8_checksum_L41 0 rec) G) w (nI i) (nI k) τ = _
      rw [← a2]
      generalize it4 (f_X8_checksum_L41 0 rec) G = g
      unfold f_X8_checksum_L41
      rw [show (7 : Int32) = nI 7 from rfl, if_neg (nleN (by omega) (by omega)), r2, obd_s, bnd_e, bnd_e, nI_1]
theorem ckB_L {σ τ : St} (hR : Rel σ τ) {sz i : Nat} {w1 : Int64} {rec : Int64 → Int32 → St → Option (Int64 × St)} (z1 : τ.1 (0 + 1) 10 = nI sz) (hsz : sz ≤ 5) (hi : i < sz) : ∀ (m k F G : Nat) (w : Int64), k + m = 4 → m < F → m < G → ∃ w' τ', it2 (f_X7_mixChange_L37 σ 0 w1 (nI i)) F w (nI k) = some w' ∧ it4 (f_X8_checksum_L70 0 rec) G w (nI i) (nI k) τ = rec w' (nI (i + 1)) τ' ∧ Rel σ τ' := by
  intro m
  induction m with
  | zero =>
    intro k F G w hkm hF hG
    obtain ⟨F, rfl⟩ : ∃ n', F = n' + 1 := ⟨F - 1, by omega⟩
    obtain ⟨G, rfl⟩ : ∃ n', G = n' + 1 := ⟨G - 1, by omega⟩
    obtain ⟨r1, τ1, a1, a2, a3⟩ := op_chance hR (nI i) false
    obtain ⟨r2, τ2, b1, b2, b3⟩ := op_chance a3 (nI i) true
    refine ⟨f_X8_more (f_X8_more w r1) r2, τ2, ?_, ?_, b3⟩
    · show f_X7_mixChange_L37 σ 0 w1 (nI i) (it2 (f_X7_mixChange_L37 σ 0 w1 (nI i)) F) w (nI k) = _
      generalize it2 (f_X7_mixChange_L37 σ 0 w1 (nI i)) F = g
      unfold f_X7_mixChange_L37
      rw [show (4 : Int32) = nI 4 from rfl, if_pos (leN (by omega) (by omega)), a1, obd_s, b1, bnd_e, obd_s, bnd_e, mix_eq, mix_eq]
    · show f_X8_checksum_L70 0 rec (it4 (f_X8_checksum_L70 0 rec) G) w (nI i) (nI k) τ = _
      generalize it4 (f_X8_checksum_L70 0 rec) G = g
      unfold f_X8_checksum_L70
      rw [show (4 : Int32) = nI 4 from rfl, if_pos (leN (by omega) (by omega)), a2, ob2_s, bnd_e, b2, ob2_s, bnd_e, bnd_e, nI_1]
  | succ m ih =>
    intro k F G w hkm hF hG
    obtain ⟨F, rfl⟩ : ∃ n', F = n' + 1 := ⟨F - 1, by omega⟩
    obtain ⟨G, rfl⟩ : ∃ n', G = n' + 1 := ⟨G - 1, by omega⟩
    obtain ⟨w', τ', a1, a2, a3⟩ := ih (k + 1) F G (f_X8_more w (gI τ (0 + 1) (92 + 33 * i + (5 + k))).toInt64) (by omega) (by omega) (by omega)
    refine ⟨w', τ', ?_, ?_, a3⟩
    · show f_X7_mixChange_L37 σ 0 w1 (nI i) (it2 (f_X7_mixChange_L37 σ 0 w1 (nI i)) F) w (nI k) = _
      rw [← a1]
      generalize it2 (f_X7_mixChange_L37 σ 0 w1 (nI i)) F = g
      unfold f_X7_mixChange_L37
      rw [show (4 : Int32) = nI 4 from rfl, if_neg (nleN (by omega) (by omega)), prb_eq hR z1 hsz hi (by omega), obd_s, bnd_e, bnd_e, mix_eq, nI_1]
    · show f_X8_checksum_L70 0 rec (it4 (f_X8_checksum_L70 0 rec) G) w (nI i) (nI k) τ = _
      rw [← a2]
      generalize it4 (f_X8_checksum_L70 0 rec) G = g
      unfold f_X8_checksum_L70
      rw [show (4 : Int32) = nI 4 from rfl, if_neg (nleN (by omega) (by omega)), show (5 : Int32) + nI k = nI (5 + k) from nI_add 5 k, at_nI, bnd_e, if_pos (inb_nI (by omega) (by omega)), bnd_e, bnd_e, cl_nI (by omega), nI_1]
theorem ckC_L {σ : St} {sz : Nat} (hsz : sz ≤ 5) (e4 : gI σ (0 + 1) 4 = nI sz) : ∀ (m k F G : Nat) (w : Int64) (τ : St), k + m = sz → m < F → m < G → Rel σ τ → ∃ w' τ', it2 (f_X7_checksum_L32 σ 0) F w (nI k) = it2 (f_X7_checksum_L58 σ 0) sr_fuel w' 0 ∧ it3 (f_X8_checksum_L27 0) G w (nI k) τ = it3 (f_X8_checksum_L129 0) sr_fuel w' 0 τ' ∧ Rel σ τ' := by
  obtain ⟨H, hH, eH⟩ := fuel_ex
  intro m
  induction m with
  | zero =>
    intro k F G w τ hkm hF hG hR
    obtain ⟨F, rfl⟩ : ∃ n', F = n' + 1 := ⟨F - 1, by omega⟩
    obtain ⟨G, rfl⟩ : ∃ n', G = n' + 1 := ⟨G - 1, by omega⟩
    refine ⟨w, τ, ?_, ?_, hR⟩
    · show f_X7_checksum_L32 σ 0 (it2 (f_X7_checksum_L32 σ 0) F) w (nI k) = _
      generalize it2 (f_X7_checksum_L32 σ 0) F = g
      unfold f_X7_checksum_L32
      rw [e4, if_pos (leN (by omega) (by omega))]
    · show f_X8_checksum_L27 0 (it3 (f_X8_checksum_L27 0) G) w (nI k) τ = _
      generalize it3 (f_X8_checksum_L27 0) G = g
      unfold f_X8_checksum_L27
      rw [show (10 : Int32).toNatClampNeg = 10 from rfl, show gI τ (0 + 1) 10 = nI sz from hR.1.1.2.2.2.2.2.symm.trans e4, if_pos (leN (by omega) (by omega))]
  | succ m ih =>
    intro k F G w τ hkm hF hG hR
    obtain ⟨F, rfl⟩ : ∃ n', F = n' + 1 := ⟨F - 1, by omega⟩
    obtain ⟨G, rfl⟩ : ∃ n', G = n' + 1 := ⟨G - 1, by omega⟩
    have z1 : τ.1 (0 + 1) 10 = nI sz := hR.1.1.2.2.2.2.2.symm.trans e4
    obtain ⟨wa, a1, a2⟩ := ckA_L hR (w1 := w) (rec := it3 (f_X8_checksum_L27 0) G) z1 hsz (show k < sz by omega) 7 0 H H w (by omega) (by omega) (by omega)
    obtain ⟨wb, τb, b1, b2, b3⟩ := ckB_L hR (w1 := w) (rec := it3 (f_X8_checksum_L27 0) G) z1 hsz (show k < sz by omega) 4 0 H H wa (by omega) (by omega) (by omega)
    obtain ⟨w', τ', c1, c2, c3⟩ := ih (k + 1) F G wb τb (by omega) (by omega) (by omega) b3
    refine ⟨w', τ', ?_, ?_, c3⟩
    · show f_X7_checksum_L32 σ 0 (it2 (f_X7_checksum_L32 σ 0) F) w (nI k) = _
      rw [← c1]
      generalize it2 (f_X7_checksum_L32 σ 0) F = g
      unfold f_X7_checksum_L32 f_X7_mixChange
      rw [eH, show (0 : Int32) = nI 0 from rfl, a1, eH, show (0 : Int32) = nI 0 from rfl, b1, e4, if_neg (nleN (by omega) (by omega)), obd_s, bnd_e, nI_1]
    · show f_X8_checksum_L27 0 (it3 (f_X8_checksum_L27 0) G) w (nI k) τ = _
      rw [← c2, ← b2]
      rw [eH] at a2
      rw [show it4 (f_X8_checksum_L70 0 (it3 (f_X8_checksum_L27 0) G)) H wa (nI k) (nI 0) τ = it4 (f_X8_checksum_L41 0 (it3 (f_X8_checksum_L27 0) G)) H w (nI k) (nI 0) τ from a2.symm]
      generalize it3 (f_X8_checksum_L27 0) G = g
      unfold f_X8_checksum_L27
      rw [eH, show (10 : Int32).toNatClampNeg = 10 from rfl, show gI τ (0 + 1) 10 = nI sz from z1, if_neg (nleN (by omega) (by omega))]
      rfl
theorem ckD_L {σ τ : St} (hR : Rel σ τ) {n : Nat} (hn : n ≤ 8) (e5 : τ.1 (0 + 1) 0 = nI n) {lg : Nat} (el : τ.1 (0 + 1) 11 = nI lg) : ∀ (m k F G : Nat) (w : Int64), k + m = n → m < F → m < G → ∃ w', it2 (f_X7_checksum_L58 σ 0) F w (nI k) = it2 (f_X7_checksum_L107 σ 0) sr_fuel w' 0 ∧ it3 (f_X8_checksum_L129 0) G w (nI k) τ = it3 (f_X8_checksum_L172 0) sr_fuel w' 12 τ := by
  have hF := hR.1
  have e2 : gI σ (0 + 1 + 30) 2 = nI lg := by
    obtain ⟨lg', od, h1, h2, h3, h4, h5, h6⟩ := hF.2.2.1
    exact h5.trans el
  intro m
  induction m with
  | zero =>
    intro k F G w hkm hF1 hG
    obtain ⟨F, rfl⟩ : ∃ n', F = n' + 1 := ⟨F - 1, by omega⟩
    obtain ⟨G, rfl⟩ : ∃ n', G = n' + 1 := ⟨G - 1, by omega⟩
    refine ⟨f_X8_more w (nI lg).toInt64, ?_, ?_⟩
    · show f_X7_checksum_L58 σ 0 (it2 (f_X7_checksum_L58 σ 0) F) w (nI k) = _
      generalize it2 (f_X7_checksum_L58 σ 0) F = g
      unfold f_X7_checksum_L58
      rw [show gI σ (0 + 1) 5 = nI n from hF.1.2.2.1.trans e5, if_pos (leN (by omega) (by omega)), bnd_e, e2, mix_eq]
    · show f_X8_checksum_L129 0 (it3 (f_X8_checksum_L129 0) G) w (nI k) τ = _
      generalize it3 (f_X8_checksum_L129 0) G = g
      unfold f_X8_checksum_L129
      rw [show (0 : Int32).toNatClampNeg = 0 from rfl, show gI τ (0 + 1) 0 = nI n from e5, if_pos (leN (by omega) (by omega)), bnd_e, show (11 : Int32).toNatClampNeg = 11 from rfl, show gI τ (0 + 1) 11 = nI lg from el]
  | succ m ih =>
    intro k F G w hkm hF1 hG
    obtain ⟨F, rfl⟩ : ∃ n', F = n' + 1 := ⟨F - 1, by omega⟩
    obtain ⟨G, rfl⟩ : ∃ n', G = n' + 1 := ⟨G - 1, by omega⟩
    obtain ⟨w', a1, a2⟩ := ih (k + 1) F G (f_X8_more w (hvf (τ.1 (0 + 1)) (nI k) 0 (τ.1 (0 + 1) 10).toNatClampNeg 0).toInt64) (by omega) (by omega) (by omega)
    refine ⟨w', ?_, ?_⟩
    · show f_X7_checksum_L58 σ 0 (it2 (f_X7_checksum_L58 σ 0) F) w (nI k) = _
      rw [← a1]
      generalize it2 (f_X7_checksum_L58 σ 0) F = g
      unfold f_X7_checksum_L58
      rw [show gI σ (0 + 1) 5 = nI n from hF.1.2.2.1.trans e5, if_neg (nleN (by omega) (by omega)), changesOf_eq hF, obd_s, bnd_e, bnd_e, mix_eq, nI_1]
    · show f_X8_checksum_L129 0 (it3 (f_X8_checksum_L129 0) G) w (nI k) τ = _
      rw [← a2]
      generalize it3 (f_X8_checksum_L129 0) G = g
      unfold f_X8_checksum_L129
      rw [show (0 : Int32).toNatClampNeg = 0 from rfl, show gI τ (0 + 1) 0 = nI n from e5, if_neg (nleN (by omega) (by omega)), having_eq hF, obd_s, bnd_e, bnd_e, nI_1]
noncomputable def mxf (v : Nat → Int32) : Nat → Nat → Int64 → Int64
  | _, 0, w => w
  | p, m + 1, w => mxf v (p + 1) m (f_X8_more w (v p).toInt64)
theorem mxf_add (v : Nat → Int32) : ∀ (a b p : Nat) (w : Int64), mxf v p (a + b) w = mxf v (p + a) b (mxf v p a w) := by
  intro a
  induction a with
  | zero => intro b p w; rw [Nat.zero_add]; rfl
  | succ a ih =>
    intro b p w
    rw [show a + 1 + b = (a + b) + 1 by omega]
    show mxf v (p + 1) (a + b) _ = mxf v (p + (a + 1)) b (mxf v (p + 1) a _)
    rw [ih, show p + 1 + a = p + (a + 1) by omega]
theorem ckE_L {σ : St} {v : Nat → Int32} {lg k : Nat} {rec : Int64 → Int32 → Option Int64} (h : LgW (σ.1 (0 + 1 + 30)) (σ.1 (0 + 1 + 30 + 1)) v) (e : v 11 = nI lg) (hl : lg ≤ 20) (hk : k < lg) : ∀ (m j F : Nat) (w : Int64), j + m = 4 → m < F → it3 (f_X7_checksum_L124 σ 0 rec) F w (nI k) (nI j) = rec (mxf v (12 + 4 * k + j) m w) (nI (k + 1)) := by
  intro m
  induction m with
  | zero =>
    intro j F w hjm hF
    obtain ⟨F, rfl⟩ : ∃ n', F = n' + 1 := ⟨F - 1, by omega⟩
    show f_X7_checksum_L124 σ 0 rec (it3 (f_X7_checksum_L124 σ 0 rec) F) w (nI k) (nI j) = _
    generalize it3 (f_X7_checksum_L124 σ 0 rec) F = g
    unfold f_X7_checksum_L124
    rw [show (4 : Int32) = nI 4 from rfl, if_pos (leN (by omega) (by omega)), bnd_e, nI_1]
    rfl
  | succ m ih =>
    intro j F w hjm hF
    obtain ⟨F, rfl⟩ : ∃ n', F = n' + 1 := ⟨F - 1, by omega⟩
    show f_X7_checksum_L124 σ 0 rec (it3 (f_X7_checksum_L124 σ 0 rec) F) w (nI k) (nI j) = _
    have ih' := fun w => ih (j + 1) F w (by omega) (by omega)
    generalize it3 (f_X7_checksum_L124 σ 0 rec) F = g at ih' ⊢
    unfold f_X7_checksum_L124
    rw [show (4 : Int32) = nI 4 from rfl, if_neg (nleN (by omega) (by omega)), lgN_eq h e hl hk (by omega), obd_s, bnd_e, bnd_e, mix_eq, nI_1, ih']
    rfl
theorem ckF_L {σ : St} {v : Nat → Int32} {lg : Nat} (h : LgW (σ.1 (0 + 1 + 30)) (σ.1 (0 + 1 + 30 + 1)) v) (e : v 11 = nI lg) (hl : lg ≤ 20) (e2 : gI σ (0 + 1 + 30) 2 = nI lg) : ∀ (m k F : Nat) (w : Int64), k + m = lg → m < F → it2 (f_X7_checksum_L107 σ 0) F w (nI k) = some (mxf v (12 + 4 * k) (4 * m) w) := by
  obtain ⟨H, hH, eH⟩ := fuel_ex
  intro m
  induction m with
  | zero =>
    intro k F w hkm hF
    obtain ⟨F, rfl⟩ : ∃ n', F = n' + 1 := ⟨F - 1, by omega⟩
    show f_X7_checksum_L107 σ 0 (it2 (f_X7_checksum_L107 σ 0) F) w (nI k) = _
    generalize it2 (f_X7_checksum_L107 σ 0) F = g
    unfold f_X7_checksum_L107
    rw [e2, if_pos (leN (by omega) (by omega))]
    rfl
  | succ m ih =>
    intro k F w hkm hF
    obtain ⟨F, rfl⟩ : ∃ n', F = n' + 1 := ⟨F - 1, by omega⟩
    show f_X7_checksum_L107 σ 0 (it2 (f_X7_checksum_L107 σ 0) F) w (nI k) = _
    have ih' := fun w => ih (k + 1) F w (by omega) (by omega)
    generalize it2 (f_X7_checksum_L107 σ 0) F = g at ih' ⊢
    unfold f_X7_checksum_L107
    rw [e2, if_neg (nleN (by omega) (by omega)), eH, show (0 : Int32) = nI 0 from rfl, ckE_L h e hl (by omega) 4 0 H w (by omega) (by omega), ih', show 4 * (m + 1) = 4 + 4 * m by omega, mxf_add]
    rfl
theorem ckG_L {τ : St} {v : Nat → Int32} {lg : Nat} (ev : v = τ.1 (0 + 1)) (e : v 11 = nI lg) (hl : lg ≤ 20) : ∀ (m p F : Nat) (w : Int64), p + m = 12 + 4 * lg → m < F → it3 (f_X8_checksum_L172 0) F w (nI p) τ = some (mxf v p m w, τ) := by
  have er : ∀ j, gI τ (0 + 1) j = v j := fun j => by rw [ev]; rfl
  have i0 : (12 : Int32) + 4 * nI lg = nI (12 + 4 * lg) := by show nI 12 + nI 4 * nI lg = _; rw [pk_mul, nI_add]
  intro m
  induction m with
  | zero =>
    intro p F w hpm hF
    obtain ⟨F, rfl⟩ : ∃ n', F = n' + 1 := ⟨F - 1, by omega⟩
    show f_X8_checksum_L172 0 (it3 (f_X8_checksum_L172 0) F) w (nI p) τ = _
    generalize it3 (f_X8_checksum_L172 0) F = g
    unfold f_X8_checksum_L172
    rw [show (11 : Int32).toNatClampNeg = 11 from rfl, er, e, i0, if_pos (leN (by omega) (by omega))]
    rfl
  | succ m ih =>
    intro p F w hpm hF
    obtain ⟨F, rfl⟩ : ∃ n', F = n' + 1 := ⟨F - 1, by omega⟩
    show f_X8_checksum_L172 0 (it3 (f_X8_checksum_L172 0) F) w (nI p) τ = _
    have ih' := fun w => ih (p + 1) F w (by omega) (by omega)
    generalize it3 (f_X8_checksum_L172 0) F = g at ih' ⊢
    unfold f_X8_checksum_L172
    rw [show (11 : Int32).toNatClampNeg = 11 from rfl, er, e, i0, if_neg (nleN (by omega) (by omega)), if_pos (inb_nI (by omega) (by omega)), bnd_e, bnd_e, cl_nI (by omega), er, nI_1, ih']
    rfl
theorem op_checksum {σ τ : St} (hR : Rel σ τ) : ∃ r τ', f_X7_checksum 0 σ = some r ∧ f_X8_checksum 0 τ = some (r, τ') ∧ Rel σ τ' := by
  obtain ⟨F, hFu, eF⟩ := fuel_ex
  have hF := hR.1
  obtain ⟨sz, z1, z2, z3, -⟩ := hF.sz
  unfold f_X7_checksum f_X8_checksum
  rw [eF]
  simp only [bnd_e]
  rw [show (1 : Int32).toNatClampNeg = 1 from rfl, show (10 : Int32).toNatClampNeg = 10 from rfl, show gI τ (0 + 1) 10 = nI sz from z1, z2, show gI τ (0 + 1) 1 = gI σ (0 + 1) 6 from hF.1.2.2.2.1.symm, mix_eq, mix_eq]
  generalize f_X8_more (f_X8_more 79 (gI σ (0 + 1) 6).toInt64) (nI sz).toInt64 = w0
  obtain ⟨w1, τ1, a1, a2, a3⟩ := ckC_L z3 z2 sz 0 F F w0 τ (by omega) (by omega) (by omega) hR
  obtain ⟨n, n1, n2, n3⟩ := a3.1.1.1
  obtain ⟨lg, l1, l2⟩ := a3.1.lg
  have e2 : gI σ (0 + 1 + 30) 2 = nI lg := by
    obtain ⟨lg', od, h1, h2, h3, h4, h5, h6⟩ := a3.1.2.2.1
    exact h5.trans l1
  obtain ⟨w2, b1, b2⟩ := ckD_L a3 n3 n1 l1 n 0 F F w1 (by omega) (by omega) (by omega)
  have c1 := ckF_L a3.1.2.2.1 l1 l2 e2 lg 0 F w2 (by omega) (by omega)
  have c2 := ckG_L (τ := τ1) rfl l1 l2 (4 * lg) 12 F w2 (by omega) (by omega)
  rw [eF] at a1 a2 b1 b2
  refine ⟨mxf (τ1.1 (0 + 1)) 12 (4 * lg) w2, τ1, ?_, ?_, a3⟩
  · rw [show (0 : Int32) = nI 0 from rfl, a1, show (0 : Int32) = nI 0 from rfl, b1]
    exact c1
  · rw [show (0 : Int32) = nI 0 from rfl, a2, show (0 : Int32) = nI 0 from rfl, b2]
    exact c2
