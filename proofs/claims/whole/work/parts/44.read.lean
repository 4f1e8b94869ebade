theorem textF_L {U : Int32} {G : Nat} {τ : St} : it3 (f_X8_isText_L14 0) (G + 1) U false τ = some (false, τ) := by
  show f_X8_isText_L14 0 (it3 (f_X8_isText_L14 0) G) U false τ = _
  generalize it3 (f_X8_isText_L14 0) G = g
  unfold f_X8_isText_L14
  rw [if_neg (by decide)]
theorem text_L {n len : Nat} {t : Nat → Nat} (hn : n ≤ 8) : ∀ (m k F G p : Nat) (σ τ : St), k + m = 6 → m < F → m + 1 < G → TS σ τ p len t → PL σ τ k → gI τ (0 + 1) 0 = nI n → ∃ ok σ' τ' p', it2 (f_X5_parse_L15 (0 + 131) (nI n)) F (nI k) σ = some (ok, σ') ∧ it3 (f_X8_isText_L14 0) G (msk τ k) true τ = some (ok, τ') ∧ TS σ' τ' p' len t ∧ frQ σ σ' τ τ' ∧ (ok = true → ∃ k', PL σ' τ' k') := by
  intro m
  induction m with
  | zero =>
    intro k F G p σ τ hm hF hG h hP en
    obtain ⟨F, rfl⟩ : ∃ n', F = n' + 1 := ⟨F - 1, by omega⟩
    obtain ⟨G, rfl⟩ : ∃ n', G = n' + 1 + 1 := ⟨G - 2, by omega⟩
    have hl := h.2.2.1
    have hpl := h.2.2.2.2.2.2
    have eC : it2 (f_X5_parse_L15 (0 + 131) (nI n)) (F + 1) (nI k) σ = some (!decide (p < len), σ) := by
      show f_X5_parse_L15 (0 + 131) (nI n) (it2 (f_X5_parse_L15 (0 + 131) (nI n)) F) (nI k) σ = _
      generalize it2 (f_X5_parse_L15 (0 + 131) (nI n)) F = g
      unfold f_X5_parse_L15 f_X5_parse_B48
      rw [show (6 : Int32) = nI 6 from rfl, if_pos (leN (by omega) (by omega)), h.2.2.2.2.1, h.1]
      by_cases c : p < len
      · rw [if_pos (ltN c (by omega)), decide_eq_true c]; rfl
      · rw [if_neg (nltN (by omega) (by omega)), decide_eq_false c]; rfl
    have e10 : gI τ 0 10 = 6 := by rw [hP.2.1, show k = 6 by omega]; rfl
    have eM : it3 (f_X8_isText_L14 0) (G + 1 + 1) (msk τ k) true τ = some (!decide (p < len), τ) := by
      show f_X8_isText_L14 0 (it3 (f_X8_isText_L14 0) (G + 1)) (msk τ k) true τ = _
      have hh := fun U => textF_L (U := U) (G := G) (τ := τ)
      generalize it3 (f_X8_isText_L14 0) (G + 1) = g at hh
      unfold f_X8_isText_L14 f_X8_isStage
      rw [if_pos rfl, h.2.1, h.2.2.2.2.2.1, e10, bnd_e, if_pos (show (6 : Int32) = 6 from rfl), ob2_s, if_neg (show ¬ false = true by decide), bnd_e, hh]
      by_cases c : p < len
      · rw [if_neg (nleN c (by omega)), decide_eq_true c]; rfl
      · rw [if_pos (leN (by omega) (by omega)), decide_eq_false c]; rfl
    exact ⟨_, σ, τ, p, eC, eM, h, frQ.rf, fun _ => ⟨k, hP⟩⟩
  | succ m ih =>
    intro k F G p σ τ hm hF hG h hP en
    obtain ⟨F, rfl⟩ : ∃ n', F = n' + 1 := ⟨F - 1, by omega⟩
    obtain ⟨G, rfl⟩ : ∃ n', G = n' + 1 := ⟨G - 1, by omega⟩
    have hl := h.2.2.1
    have hpl := h.2.2.2.2.2.2
    have eC : it2 (f_X5_parse_L15 (0 + 131) (nI n)) (F + 1) (nI k) σ = f_X5_parse_L15 (0 + 131) (nI n) (it2 (f_X5_parse_L15 (0 + 131) (nI n)) F) (nI k) σ := rfl
    have eM : it3 (f_X8_isText_L14 0) (G + 1) (msk τ k) true τ = f_X8_isText_L14 0 (it3 (f_X8_isText_L14 0) G) (msk τ k) true τ := rfl
    obtain ⟨G', rfl⟩ : ∃ n', G = n' + 1 := ⟨G - 1, by omega⟩
    have ihx := fun p σ τ => ih (k + 1) F (G' + 1) p σ τ (by omega) (by omega) (by omega)
    have hh := fun U τ => textF_L (U := U) (G := G') (τ := τ)
    rw [eC, eM]
    generalize it3 (f_X8_isText_L14 0) (G' + 1) = g at ihx hh ⊢
    generalize it2 (f_X5_parse_L15 (0 + 131) (nI n)) F = g2 at ihx ⊢
    unfold f_X8_isText_L14 f_X5_parse_L15 f_X5_parse_B48
    rw [show (6 : Int32) = nI 6 from rfl, if_neg (nleN (by omega) (by omega)), h.1, h.2.2.2.2.1, h.2.1, h.2.2.2.2.2.1, if_pos (show true = true from rfl)]
    by_cases c : p < len
    · rw [if_neg (nleN c (by omega)), if_neg (nleN c (by omega))]
      obtain ⟨ok, σ1, τ1, p1, a1, a2, T1, Q1, hP1, hj⟩ := stage_eq h hP (by omega) hn en
      rw [a1, a2, ob2_s, ob2_s]
      cases ok with
      | false =>
        rw [if_neg (by decide), if_neg (by decide), bnd_e, hh]
        exact ⟨false, σ1, τ1, p1, rfl, rfl, T1, Q1, fun z => absurd z (by decide)⟩
      | true =>
        have hP2 := hP1 rfl
        have i0 : (3 : Int32) * nI (k + 1) - 3 = nI (3 * k) := by
          show nI 3 * nI (k + 1) - nI 3 = _
          rw [pk_mul, pk_sub (by omega)]
          congr 1
        have eU : msk τ k ||| gI τ1 (0 + 6) (3 * k) = msk τ1 (k + 1) := by
          unfold msk
          rw [orf_snoc, show orf (fun j => gI τ (0 + 6) (3 * j)) 0 k 0 = orf (fun j => gI τ1 (0 + 6) (3 * j)) 0 k 0 from orf_congr _ _ _ (fun j h1 h2 => (hj (3 * j) (by omega)).symm)]
          show _ = _ ||| gI τ1 (0 + 6) (3 * (0 + k))
          rw [Nat.zero_add k]
        simp only [bnd_e, if_true]
        rw [hP2.2.1, i0, if_pos (inb_nI (by omega) (by omega)), cl_nI (by omega), eU, nI_1]
        obtain ⟨ok', σ', τ', p', b1, b2, T2, Q2, hP3⟩ := ihx p1 σ1 τ1 T1 hP2 (by unfold gI; rw [Q1.2.2.2.1 _ (by omega) (by omega)]; exact en)
        exact ⟨ok', σ', τ', p', b1, b2, T2, Q1.tr Q2, hP3⟩
    · rw [if_pos (leN (by omega) (by omega)), if_pos (leN (by omega) (by omega)), if_neg (nltN (by omega) (by omega))]
      exact ⟨true, σ, τ, p, rfl, rfl, h, frQ.rf, fun _ => ⟨k, hP⟩⟩
theorem Rel.fq {σ τ σ' τ' : St} (hR : Rel σ τ) (fr : frQ σ σ' τ τ') : Rel σ' τ' := by
  obtain ⟨hF, ht, hk, hs, hS, hi⟩ := hR
  obtain ⟨q1, q2, q3, q4, q5, q6⟩ := fr
  have rr : ∀ q, q < 131 → σ'.1 q = σ.1 q ∧ σ'.2.1 q = σ.2.1 q ∧ σ'.2.2 q = σ.2.2 q := fun q hq => ⟨q1 q (by omega) (by omega) (by omega), by rw [q3], by rw [q3]⟩
  refine ⟨?_, ht.same (q2 2 (by omega)) (q1 _ (by omega) (by omega) (by omega)) (q5 5 (by omega) (by omega) (by omega)) (q4 _ (by omega) (by omega)), fun j hj => ⟨?_, fun hx => ?_⟩, ⟨?_, ?_, fun i hi => ?_, fun j hj i hi => ?_⟩, hS.same (by rw [q6]), ?_⟩
  · rw [q4 _ (by omega) (by omega)]
    exact hF.same (fun q h1 h2 => rr q (by omega))
  · unfold gB
    rw [q3, q6]
    exact (hk j hj).1
  · have hx' : gB τ (0 + 4) j = true := by unfold gB at hx ⊢; rw [q6] at hx; exact hx
    have e : (fun k => gI τ' (0 + 3) (257 * j + k)) = fun k => gI τ (0 + 3) (257 * j + k) := by
      funext k
      unfold gI
      rw [q4 _ (by omega) (by omega)]
    rw [e]
    exact ((hk j hj).2 hx').same (fun q h1 h2 => rr q (by omega))
  · unfold gB; rw [q3]; exact hs.1
  · unfold gB; rw [q3]; exact hs.2.1
  · unfold gI; rw [(rr _ (by omega)).1]; exact hs.2.2.1 i hi
  · unfold gI; rw [(rr _ (by omega)).1]; exact hs.2.2.2 j hj i hi
  · unfold gB; rw [q6]; exact hi
theorem parse_eq {σ τ : St} (hR : Rel σ τ) : ∃ ok σ' τ' p', f_X5_parse (0 + 131) (gI σ (0 + 1) 5) σ = some (ok, σ') ∧ f_X8_isText 0 τ = some (ok, τ') ∧ gI σ' (0 + 131) 3 = nI p' ∧ gI τ' 0 8 = nI p' ∧ frQ σ σ' τ τ' ∧ (ok = true → ∃ k', PL σ' τ' k') := by
  obtain ⟨F, hFu, eF⟩ := fuel_ex
  obtain ⟨len, t1, t2, t3, t4⟩ := hR.2.1
  obtain ⟨n, n1, n2, n3⟩ := hR.1.1.1
  have hch : ∃ t : Nat → Nat, ∀ k, k < len → t k ≤ 127 ∧ gI σ (0 + 131 + 1) k = nI (t k) ∧ gI τ (0 + 5) k = nI (t k) := by
    refine ⟨fun k => (gI τ (0 + 5) k).toNatClampNeg, fun k hk => ?_⟩
    obtain ⟨ch, c1, c2, c3⟩ := t4 k hk
    show (gI τ (0 + 5) k).toNatClampNeg ≤ 127 ∧ gI σ (0 + 131 + 1) k = nI (gI τ (0 + 5) k).toNatClampNeg ∧ gI τ (0 + 5) k = nI (gI τ (0 + 5) k).toNatClampNeg
    rw [c3, cl_nI (by omega)]
    exact ⟨c1, c2, rfl⟩
  obtain ⟨t, ht⟩ := hch
  have Q0 : frQ σ (sI (sI σ (0 + 131) 3 0) (0 + 131 + 2) 1 0) τ (sI (sI τ 0 8 0) 0 10 0) := by
    refine ⟨fun k a b c => by rw [rI_n b, rI_n a], fun j hj => by rw [gI_n (Or.inl (by omega)), gI_n (Or.inr hj)], rfl, fun k a b => by rw [rI_n a, rI_n a], fun j a b c => by rw [gI_n (Or.inr b), gI_n (Or.inr a)], rfl⟩
  have T0 : TS (sI (sI σ (0 + 131) 3 0) (0 + 131 + 2) 1 0) (sI (sI τ 0 8 0) 0 10 0) 0 len t := by
    refine ⟨(Q0.2.1 2 (by omega)).trans t3, (Q0.2.2.2.2.1 5 (by omega) (by omega) (by omega)).trans t1, t2, fun k hk => ?_, ?_, ?_, by omega⟩
    · obtain ⟨a1, a2, a3⟩ := ht k hk
      refine ⟨a1, ?_, ?_⟩
      · unfold gI; rw [Q0.1 _ (by omega) (by omega) (by omega)]; exact a2
      · unfold gI; rw [Q0.2.2.2.1 _ (by omega) (by omega)]; exact a3
    · rw [gI_n (Or.inl (by omega)), gI_s]; rfl
    · rw [gI_n (Or.inr (by omega)), gI_s]; rfl
  have P0 : PL (sI (sI σ (0 + 131) 3 0) (0 + 131 + 2) 1 0) (sI (sI τ 0 8 0) 0 10 0) 0 := ⟨gI_s _ _ _ _, gI_s _ _ _ _, by omega, fun k hk => absurd hk (by omega)⟩
  obtain ⟨ok, σ', τ', p', a1, a2, T1, Q1, hP⟩ := text_L n3 6 0 F F 0 _ _ (by omega) (by omega) (by omega) T0 P0 (by rw [gI_n (Or.inl (by omega)), gI_n (Or.inl (by omega))]; exact n1)
  refine ⟨ok, σ', τ', p', ?_, ?_, T1.2.2.2.2.1, T1.2.2.2.2.2.1, Q0.tr Q1, hP⟩
  · unfold f_X5_parse
    rw [bnd_e, bnd_e, eF, show gI σ (0 + 1) 5 = nI n from hR.1.1.2.2.1.trans n1]
    exact a1
  · unfold f_X8_isText
    rw [bnd_e, bnd_e, eF]
    exact a2
theorem op_faultPosition {σ τ : St} (hR : Rel σ τ) : ∃ r σ' τ', f_X7_faultPosition 0 σ = some (r, σ') ∧ f_X8_faultPosition 0 τ = some (r, τ') ∧ Rel σ' τ' := by
  obtain ⟨ok, σ', τ', p', a1, a2, a3, a4, Q, -⟩ := parse_eq hR
  unfold f_X7_faultPosition f_X8_faultPosition
  rw [a1, a2, ob2_s, ob2_s, a3, a4]
  cases ok with
  | false => exact ⟨_, _, _, rfl, rfl, hR.fq Q⟩
  | true => exact ⟨_, _, _, rfl, rfl, hR.fq Q⟩
theorem read_L {i n : Nat} (hi : i < 5) (hn : n ≤ 6) : ∀ (m k F : Nat) (τ : St), k + m = n → m < F → gI τ (0 + 1) (92 + 33 * i + 2) = nI k → gI τ 0 10 = nI n → ∃ τ', it2 (f_X8_read_L47 0 (nI i)) F (nI k) τ = some (nI n, τ') ∧ frM τ τ' ∧ τ'.2 = τ.2 ∧ gI τ' (0 + 1) (92 + 33 * i + 2) = nI n ∧ (∀ x, k ≤ x → x < n → ∀ j, j < 3 → τ'.1 (0 + 1) (92 + 33 * i + (9 + 4 * x + j)) = gI τ (0 + 6) (3 * x + j)) ∧ ∀ y, y ≠ 92 + 33 * i + 2 → (y < 92 + 33 * i + (9 + 4 * k) ∨ 92 + 33 * i + 33 ≤ y) → τ'.1 (0 + 1) y = τ.1 (0 + 1) y := by
  intro m
  induction m with
  | zero =>
    intro k F τ hm hF e2 e10
    obtain ⟨F, rfl⟩ : ∃ n', F = n' + 1 := ⟨F - 1, by omega⟩
    refine ⟨τ, ?_, frM.rf, rfl, by rw [e2, show k = n by omega], fun x h1 h2 => absurd h1 (by omega), fun _ _ _ => rfl⟩
    show f_X8_read_L47 0 (nI i) (it2 (f_X8_read_L47 0 (nI i)) F) (nI k) τ = _
    generalize it2 (f_X8_read_L47 0 (nI i)) F = g
    unfold f_X8_read_L47
    rw [e10, if_pos (leN (by omega) (by omega))]
  | succ m ih =>
    intro k F τ hm hF e2 e10
    obtain ⟨F, rfl⟩ : ∃ n', F = n' + 1 := ⟨F - 1, by omega⟩
    have ha := adds_eq (τ := τ) (x2 := gI τ (0 + 6) (3 * k)) (x3 := gI τ (0 + 6) (3 * k + 1)) (x4 := gI τ (0 + 6) (3 * k + 2)) hi (show k < 6 by omega) e2
    generalize hτ1 : sI (sI (sI (sI (sI τ (0 + 1) (92 + 33 * i + (9 + 4 * k)) (gI τ (0 + 6) (3 * k))) (0 + 1) (92 + 33 * i + (9 + 4 * k + 1)) (gI τ (0 + 6) (3 * k + 1))) (0 + 1) (92 + 33 * i + (9 + 4 * k + 2)) (gI τ (0 + 6) (3 * k + 2))) (0 + 1) (92 + 33 * i + (9 + 4 * k + 3)) 0) (0 + 1) (92 + 33 * i + 2) (nI (k + 1)) = τ1 at ha
    have fm1 : frM τ τ1 := by rw [← hτ1]; exact (((frM.row.tr frM.row).tr frM.row).tr frM.row).tr frM.row
    have s1 : τ1.2 = τ.2 := by rw [← hτ1]; rfl
    have r1 : τ1.1 (0 + 1) = upd (upd (upd (upd (upd (τ.1 (0 + 1)) (92 + 33 * i + (9 + 4 * k)) (gI τ (0 + 6) (3 * k))) (92 + 33 * i + (9 + 4 * k + 1)) (gI τ (0 + 6) (3 * k + 1))) (92 + 33 * i + (9 + 4 * k + 2)) (gI τ (0 + 6) (3 * k + 2))) (92 + 33 * i + (9 + 4 * k + 3)) 0) (92 + 33 * i + 2) (nI (k + 1)) := by rw [← hτ1, rI_s, rI_s, rI_s, rI_s, rI_s]
    clear hτ1
    have g6 : ∀ j, gI τ1 (0 + 6) j = gI τ (0 + 6) j := fun j => by unfold gI; rw [fm1.1 _ (by omega)]
    obtain ⟨τ', a1, a2, a3, a4, a5, a6⟩ := ih (k + 1) F τ1 (by omega) (by omega) (by unfold gI; rw [r1, upd_s]) (by rw [fm1.2.1 10 (by omega)]; exact e10)
    refine ⟨τ', ?_, fm1.tr a2, a3.trans s1, a4, fun x h1 h2 j hj => ?_, fun y h1 h2 => ?_⟩
    · show f_X8_read_L47 0 (nI i) (it2 (f_X8_read_L47 0 (nI i)) F) (nI k) τ = _
      rw [← a1]
      generalize it2 (f_X8_read_L47 0 (nI i)) F = g
      unfold f_X8_read_L47
      rw [e10, if_neg (nleN (by omega) (by omega)), show (3 : Int32) * nI k = nI (3 * k) from pk_mul 3 k, bnd_e, if_pos (inb_nI (by omega) (by omega)), bnd_e, nI_1, if_pos (inb_nI (by omega) (by omega)), bnd_e, show nI (3 * k) + 2 = nI (3 * k + 2) from nI_add _ 2, if_pos (inb_nI (by omega) (by omega)), cl_nI (by omega), cl_nI (by omega), cl_nI (by omega), ha, obd_s, bnd_e, nI_1]
    · by_cases hx : x = k
      · subst hx
        rw [a6 _ (by omega) (by omega), r1, upd_n (by omega), upd_n (by omega)]
        have hj3 : j = 0 ∨ j = 1 ∨ j = 2 := by omega
        rcases hj3 with rfl | rfl | rfl
        · rw [upd_n (by omega), upd_n (by omega)]; exact upd_s _ _ _
        · rw [upd_n (by omega), upd_s]
        · rw [upd_s]
      · rw [a5 x (by omega) h2 j hj, g6]
    · rw [a6 y h1 (by omega), r1, upd_n h1, upd_n (by omega), upd_n (by omega), upd_n (by omega), upd_n (by omega)]
theorem op_read {σ τ : St} (hR : Rel σ τ) (x1 : Int32) : ∃ r σ' τ', f_X7_read 0 x1 σ = some (r, σ') ∧ f_X8_read 0 x1 τ = some (r, τ') ∧ Rel σ' τ' := by
  obtain ⟨F, hFu, eF⟩ := fuel_ex
  have hF := hR.1
  unfold f_X7_read f_X8_read
  rw [bnd_e, isChange_eq]
  rcases find_or hF x1 with ⟨i, sz, z1, z2, hi, rfl, ef, ei⟩ | ⟨ef, ei⟩
  · obtain ⟨ok, σ1, τ1, p1, a1, a2, -, -, Q, hP⟩ := parse_eq hR
    have hR1 : Rel σ1 τ1 := hR.fq Q
    have hRm : Rel σ τ1 := hR.fq (σ' := σ) ⟨fun _ _ _ _ => rfl, fun _ _ => rfl, rfl, Q.2.2.2.1, Q.2.2.2.2.1, Q.2.2.2.2.2⟩
    have hF1 := hR1.1
    have z1' : τ1.1 (0 + 1) 10 = nI sz := by rw [Q.2.2.2.1 _ (by omega) (by omega)]; exact z1
    obtain ⟨st, pl, bg, m, a, b, c, d, ⟨h1, h2, h3, h4, h5, h6, h7, h8, h9⟩, ⟨g1, g2, g3, g4, g5, g6⟩, e0, ⟨f1, f2, f3, f4⟩, k1, k2, m1, m2, m3, m4, m5, m6⟩ := (hF1.row z1' hi z2).use
    have f2' : gI σ (0 + 1 + 1 + 1 + 5 * i) 5 = nI st := by
      rw [← f2]; unfold gI; rw [Q.1 _ (by omega) (by omega) (by omega)]
    rw [ef, ei, obd_s, opt_s, if_pos (shF i (by omega)), if_pos rfl, f2', a1, a2, ob2_s, ob2_s]
    cases ok with
    | false =>
      rw [if_neg (show ¬ false = true by decide), if_neg (show ¬ false = true by decide)]
      by_cases hs : st = 0
      · rw [if_pos (show nI st = 0 by rw [hs]; rfl)]
        exact ⟨_, _, _, rfl, rfl, hR1⟩
      · rw [if_neg (show ¬ nI st = 0 from neN (b := 0) hs (by omega) (by omega))]
        exact ⟨_, _, _, rfl, rfl, hRm⟩
    | true =>
      rw [if_pos (show true = true from rfl), if_pos (show true = true from rfl), bnd_e, bnd_e, show f_X8_at (nI i) 1 = nI (92 + 33 * i + 1) from at_nI i 1, if_pos (inb_nI (by omega) (by omega)), cl_nI (by omega), show gI τ1 (0 + 1) (92 + 33 * i + 1) = nI st from h1]
      by_cases hs : st = 0
      · rw [if_pos (show nI st = 0 by rw [hs]; rfl), if_pos (show nI st = 0 by rw [hs]; rfl), show f_X8_at (nI i) 2 = nI (92 + 33 * i + 2) from at_nI i 2, bnd_e, if_pos (inb_nI (by omega) (by omega)), bnd_e, cl_nI (by omega), eF]
        obtain ⟨n, P1, P2, P3, P4⟩ := hP rfl
        obtain ⟨τ2, b1, b2, b3, b4, b5, b6⟩ := read_L (i := i) (n := n) (by omega) P3 n 0 F (sI τ1 (0 + 1) (92 + 33 * i + 2) 0) (by omega) (by omega) (gI_s _ _ _ _) (by rw [gI_n (Or.inl (by omega))]; exact P2)
        rw [show (0 : Int32) = nI 0 from rfl] at b1
        rw [show (0 : Int32) = nI 0 from rfl, b1]
        unfold f_X4_copyFrom
        rw [bnd_e, bnd_e, gI_cn (by omega), gI_s, P1]
        refine ⟨_, _, _, rfl, rfl, ?_⟩
        have v0 : ∀ y, y ≠ 92 + 33 * i + 2 → (y < 92 + 33 * i + 9 ∨ 92 + 33 * i + 33 ≤ y) → τ2.1 (0 + 1) y = τ1.1 (0 + 1) y := by
          intro y q1 q2
          rw [b6 y q1 (by omega), rI_s, upd_n q1]
        have hbg : bg = 0 := h7 hs
        have gc : ∀ q j, q ≠ 0 + 1 + 1 + 1 + 5 * i + 1 → q ≠ 0 + 1 + 1 + 1 + 5 * i + 1 + 1 → gI (cpI (sI σ1 (0 + 1 + 1 + 1 + 5 * i + 1) 1 (nI n)) (0 + 131 + 2 + 1) (0 + 1 + 1 + 1 + 5 * i + 1 + 1) 18) q j = gI σ1 q j := fun q j q1 q2 => by rw [gI_cn q2, gI_n (Or.inl q1)]
        refine hR1.step ?_ ((frC.I (by omega)).tr (frC.C (by omega))) (frM.row.tr b2) (hR1.2.2.2.2.1.same (by rw [b3]; rfl)) rfl
        refine hF1.chg (i := i) (by omega) ?_ ?_ ?_ ?_ ?_
        · intro q q1 q2 q3
          exact ⟨by rw [rC_n (by omega), rI_n (by omega)], rfl, rfl⟩
        · intro k q1 q2
          exact v0 k (by omega) (by omega)
        · rw [rC_n (by omega), rC_n (by omega), rI_n (by omega), rI_n (by omega)]
          exact hF1.2.2.1.congr (fun k q1 q2 => v0 k (by omega) (by omega))
        · refine CR.of st n bg m a b c d ⟨?_, h2, b4, P3, ?_, by omega, h7, ?_, h9⟩ ⟨?_, ?_, ?_, ?_, g5, g6⟩ ?_ ⟨?_, ?_, ?_, ?_⟩ ?_ (fun k hk => absurd hk (by omega)) ⟨?_, ?_, ?_, ?_, m5, m6⟩
          · rw [v0 _ (by omega) (by omega)]; exact h1
          · rw [v0 _ (by omega) (by omega)]; exact h5
          · rw [v0 _ (by omega) (by omega)]; exact h8
          · rw [v0 _ (by omega) (by omega)]; exact g1
          · rw [v0 _ (by omega) (by omega)]; exact g2
          · rw [v0 _ (by omega) (by omega)]; exact g3
          · rw [v0 _ (by omega) (by omega)]; exact g4
          · rw [v0 _ (by omega) (by omega)]; exact e0
          · rw [gc _ _ (by omega) (by omega)]; exact f1
          · rw [gc _ _ (by omega) (by omega)]; exact f2
          · rw [gc _ _ (by omega) (by omega)]; exact f3
          · rw [gI_cn (by omega), gI_s]
          · intro k hk
            have e6 : ∀ j, gI (sI τ1 (0 + 1) (92 + 33 * i + 2) 0) (0 + 6) j = gI τ1 (0 + 6) j := fun j => gI_n (Or.inl (by omega))
            rw [gI_cs (by omega), gI_cs (by omega), gI_cs (by omega), gI_n (Or.inl (by omega)), gI_n (Or.inl (by omega)), gI_n (Or.inl (by omega))]
            refine ⟨?_, ?_, ?_⟩
            · have := b5 k (by omega) hk 0 (by omega)
              rw [e6] at this
              exact (P4 k hk 0 (by omega)).trans this.symm
            · have := b5 k (by omega) hk 1 (by omega)
              rw [e6] at this
              rw [show 92 + 33 * i + (10 + 4 * k) = 92 + 33 * i + (9 + 4 * k + 1) by omega]
              exact (P4 k hk 1 (by omega)).trans this.symm
            · have := b5 k (by omega) hk 2 (by omega)
              rw [e6] at this
              rw [show 92 + 33 * i + (11 + 4 * k) = 92 + 33 * i + (9 + 4 * k + 2) by omega]
              exact (P4 k hk 2 (by omega)).trans this.symm
          · rw [gc _ _ (by omega) (by omega)]; exact m1
          · rw [gc _ _ (by omega) (by omega)]; exact m2
          · rw [gc _ _ (by omega) (by omega)]; exact m3
          · rw [gc _ _ (by omega) (by omega)]; exact m4
        · exact gc _ _ (by omega) (by omega)
      · rw [if_neg (show ¬ nI st = 0 from neN (b := 0) hs (by omega) (by omega)), if_neg (show ¬ nI st = 0 from neN (b := 0) hs (by omega) (by omega))]
        exact ⟨_, _, _, rfl, rfl, hRm⟩
  · rw [ef, ei, obd_s, opt_n, if_neg (by decide)]
    exact ⟨_, _, _, rfl, rfl, hR⟩
