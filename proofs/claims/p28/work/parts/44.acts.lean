/-! ACTS on one row: adjust, setTrap, announce, teach, train. -/
theorem R3.setI {a b c i : Nat} {rt rp rq : Int32} {ct cp cq f ct' f' : Nat → Int32} (h : R3 a b c rt rp rq ct cp cq f) (hi : i < a)
    (g1 : ∀ k, k < 8 → ct' (i * 11 + k) = f' (4 + 8 * i + k)) (g2 : ∀ k, 8 ≤ k → k < 11 → ct' (i * 11 + k) = ct (i * 11 + k)) (g3 : ∀ j, (j < i * 11 ∨ i * 11 + 11 ≤ j) → ct' j = ct j)
    (g4 : ∀ j, (j < 4 + 8 * i ∨ 4 + 8 * i + 8 ≤ j) → f' j = f j) (g5 : ∀ k, k < 4 → f' (4 + 8 * i + k) = f (4 + 8 * i + k)) (g6 : insV f' i) : R3 a b c rt rp rq ct' cp cq f' := by
  obtain ⟨⟨ha, hb, hc⟩, hr, ⟨f0, f1, f2⟩, t1, t2, t3, v1, v2, v3, v4, v5, v6⟩ := h
  have eI : ∀ k, cntI f' c k = cntI f c k := fun k => cntB_congr c fun q hq => by rw [g4 _ (by omega)]
  have eP : ∀ k, cntP f' c k = cntP f c k := fun k => cntB_congr c fun q hq => by rw [g4 _ (by omega)]
  have eA : cntA f' c = cntA f c := cntB_congr c fun q hq => by rw [g4 _ (by omega)]
  have eM : ∀ v, sumI (mks f' v) c = sumI (mks f v) c := fun v => sumI_congr c fun q hq => by unfold mks; rw [g4 _ (by omega), g4 _ (by omega)]
  refine ⟨⟨ha, hb, hc⟩, hr, ⟨by rw [g4 _ (by omega)]; exact f0, by rw [g4 _ (by omega)]; exact f1, by rw [g4 _ (by omega)]; exact f2⟩, fun j hj => ?_, fun p hp => ?_, fun q hq => ?_, fun j hj => ?_, fun p hp => ?_, fun q hq => ?_, fun j hj hj2 k hk hk2 => ?_, fun p hp hp2 k hk hk2 => ?_, by rw [eA]; exact v6⟩
  · obtain ⟨q1, q2, q3, q4⟩ := t1 j hj
    by_cases e : j = i
    · subst e
      have g50 : f' (4 + 8 * j) = f (4 + 8 * j) := g5 0 (by omega)
      refine ⟨fun k hk => g1 k hk, ?_, ?_, ?_⟩
      · rw [g2 8 (by omega) (by omega), q2, g50, g5 1 (by omega), g5 2 (by omega)]
      · rw [g2 9 (by omega) (by omega), q3, g50, g5 1 (by omega), g5 3 (by omega)]
      · rw [g2 10 (by omega) (by omega), q4, eI]
    · refine ⟨fun k hk => ?_, ?_, ?_, ?_⟩
      · rw [g3 _ (by omega), g4 _ (by omega)]; exact q1 k hk
      · rw [g3 _ (by omega), g4 _ (by omega), g4 _ (by omega), g4 _ (by omega)]; exact q2
      · rw [g3 _ (by omega), g4 _ (by omega), g4 _ (by omega), g4 _ (by omega)]; exact q3
      · rw [g3 _ (by omega), eI]; exact q4
  · obtain ⟨q1, q2, q3, q4, q5⟩ := t2 p hp
    exact ⟨fun k hk => by rw [g4 _ (by omega)]; exact q1 k hk, by rw [eP]; exact q2, by rw [eM]; exact q3, by rw [g4 _ (by omega)]; exact q4, by rw [g4 _ (by omega)]; exact q5⟩
  · obtain ⟨q1, q2⟩ := t3 q hq
    exact ⟨fun k hk => by rw [g4 _ (by omega)]; exact q1 k hk, fun k hk => by rw [g4 _ (by omega), g4 _ (by omega)]; exact q2 k hk⟩
  · by_cases e : j = i
    · subst e; exact g6
    · obtain ⟨⟨N, U, Ln, z, g, tr, q1, q2, q3, q4, q5, q6, q7⟩, q8, q9⟩ := v1 j hj
      refine ⟨⟨N, U, Ln, z, g, tr, ?_, ?_, ?_, ?_, ?_, ?_, q7⟩, ?_, ?_⟩ <;> rw [g4 _ (by omega)] <;> assumption
  · obtain ⟨e, hh, k, q1, q2, q3, q4, q5, q6⟩ := v2 p hp
    exact ⟨e, hh, k, by rw [g4 _ (by omega)]; exact q1, q2, by rw [g4 _ (by omega)]; exact q3, q4, by rw [g4 _ (by omega)]; exact q5, q6⟩
  · obtain ⟨p, i, x, k, s, q1, q2, q3, q4, q5, q6, q7, q8, q9, q10, q11⟩ := v3 q hq
    refine ⟨p, i, x, k, s, by rw [g4 _ (by omega)]; exact q1, q2, by rw [g4 _ (by omega)]; exact q3, q4, by rw [g4 _ (by omega)]; exact q5, q6, by rw [g4 _ (by omega)]; exact q7, q8, by rw [g4 _ (by omega)]; exact q9, q10, fun hs => ?_⟩
    obtain ⟨cs, hp, r1, r2, r3, r4⟩ := q11 hs
    exact ⟨cs, hp, by rw [g4 _ (by omega)]; exact r1, r2, by rw [g4 _ (by omega)]; exact r3, r4⟩
  · rw [g4 _ (by omega)]; exact v4 j hj hj2 k hk hk2
  · rw [g4 _ (by omega)]; exact v5 p hp hp2 k hk hk2
theorem R3.setP {a b c p : Nat} {rt rp rq : Int32} {ct cp cq f cp' f' : Nat → Int32} (h : R3 a b c rt rp rq ct cp cq f) (hp : p < b)
    (g1 : ∀ k, k < 3 → cp' (p * 9 + k) = f' (84 + 5 * p + k)) (g2 : ∀ k, 3 ≤ k → k < 9 → cp' (p * 9 + k) = cp (p * 9 + k)) (g3 : ∀ j, (j < p * 9 ∨ p * 9 + 9 ≤ j) → cp' j = cp j)
    (g4 : ∀ j, (j < 84 + 5 * p ∨ 84 + 5 * p + 3 ≤ j) → f' j = f j) (g6 : pupV f' p) : R3 a b c rt rp rq ct cp' cq f' := by
  obtain ⟨⟨ha, hb, hc⟩, hr, ⟨f0, f1, f2⟩, t1, t2, t3, v1, v2, v3, v4, v5, v6⟩ := h
  have eI : ∀ k, cntI f' c k = cntI f c k := fun k => cntB_congr c fun q hq => by rw [g4 _ (by omega)]
  have eP : ∀ k, cntP f' c k = cntP f c k := fun k => cntB_congr c fun q hq => by rw [g4 _ (by omega)]
  have eA : cntA f' c = cntA f c := cntB_congr c fun q hq => by rw [g4 _ (by omega)]
  have eM : ∀ v, sumI (mks f' v) c = sumI (mks f v) c := fun v => sumI_congr c fun q hq => by unfold mks; rw [g4 _ (by omega), g4 _ (by omega)]
  refine ⟨⟨ha, hb, hc⟩, hr, ⟨by rw [g4 _ (by omega)]; exact f0, by rw [g4 _ (by omega)]; exact f1, by rw [g4 _ (by omega)]; exact f2⟩, fun j hj => ?_, fun j hj => ?_, fun q hq => ?_, fun j hj => ?_, fun j hj => ?_, fun q hq => ?_, fun j hj hj2 k hk hk2 => ?_, fun j hj hj2 k hk hk2 => ?_, by rw [eA]; exact v6⟩
  · obtain ⟨q1, q2, q3, q4⟩ := t1 j hj
    refine ⟨fun k hk => ?_, ?_, ?_, ?_⟩
    · rw [g4 _ (by omega)]; exact q1 k hk
    · rw [g4 _ (by omega), g4 _ (by omega), g4 _ (by omega)]; exact q2
    · rw [g4 _ (by omega), g4 _ (by omega), g4 _ (by omega)]; exact q3
    · rw [eI]; exact q4
  · obtain ⟨q1, q2, q3, q4, q5⟩ := t2 j hj
    by_cases e : j = p
    · subst e
      exact ⟨fun k hk => g1 k hk, by rw [g2 3 (by omega) (by omega), eP]; exact q2, by rw [g2 4 (by omega) (by omega), eM]; exact q3, by rw [g2 6 (by omega) (by omega), g4 _ (by omega)]; exact q4, by rw [g2 7 (by omega) (by omega), g4 _ (by omega)]; exact q5⟩
    · exact ⟨fun k hk => by rw [g3 _ (by omega), g4 _ (by omega)]; exact q1 k hk, by rw [g3 _ (by omega), eP]; exact q2, by rw [g3 _ (by omega), eM]; exact q3, by rw [g3 _ (by omega), g4 _ (by omega)]; exact q4, by rw [g3 _ (by omega), g4 _ (by omega)]; exact q5⟩
  · obtain ⟨q1, q2⟩ := t3 q hq
    exact ⟨fun k hk => by rw [g4 _ (by omega)]; exact q1 k hk, fun k hk => by rw [g4 _ (by omega), g4 _ (by omega)]; exact q2 k hk⟩
  · obtain ⟨⟨N, U, Ln, z, g, tr, q1, q2, q3, q4, q5, q6, q7⟩, q8, q9⟩ := v1 j hj
    refine ⟨⟨N, U, Ln, z, g, tr, ?_, ?_, ?_, ?_, ?_, ?_, q7⟩, ?_, ?_⟩ <;> rw [g4 _ (by omega)] <;> assumption
  · by_cases e : j = p
    · subst e; exact g6
    · obtain ⟨e, hh, k, q1, q2, q3, q4, q5, q6⟩ := v2 j hj
      exact ⟨e, hh, k, by rw [g4 _ (by omega)]; exact q1, q2, by rw [g4 _ (by omega)]; exact q3, q4, by rw [g4 _ (by omega)]; exact q5, q6⟩
  · obtain ⟨p, i, x, k, s, q1, q2, q3, q4, q5, q6, q7, q8, q9, q10, q11⟩ := v3 q hq
    refine ⟨p, i, x, k, s, by rw [g4 _ (by omega)]; exact q1, q2, by rw [g4 _ (by omega)]; exact q3, q4, by rw [g4 _ (by omega)]; exact q5, q6, by rw [g4 _ (by omega)]; exact q7, q8, by rw [g4 _ (by omega)]; exact q9, q10, fun hs => ?_⟩
    obtain ⟨cs, hp, r1, r2, r3, r4⟩ := q11 hs
    exact ⟨cs, hp, by rw [g4 _ (by omega)]; exact r1, r2, by rw [g4 _ (by omega)]; exact r3, r4⟩
  · rw [g4 _ (by omega)]; exact v4 j hj hj2 k hk hk2
  · rw [g4 _ (by omega)]; exact v5 j hj hj2 k hk hk2
theorem iNow.mk {σ τ : Sg} {a b c : Nat} {rt rp rq : Int32} {ct cp cq f : Nat → Int32} (h : R3 a b c rt rp rq ct cp cq f) (e0 : σ.1 0 = rt) (e1 : σ.1 1 = rp) (e2 : σ.1 2 = rq) (g0 : σ.2 0 = ct) (g1 : σ.2 1 = cp) (g2 : σ.2 2 = cq) (g : τ.2 0 = f) : iNow σ τ := by
  subst e0 e1 e2 g0 g1 g2 g
  exact ⟨a, b, c, h⟩
/-- an act begins -/
theorem rec2 {σ τ : Sg} {a b c : Nat} (hI : Inv σ τ) (h : R3 a b c (σ.1 0) (σ.1 1) (σ.1 2) (σ.2 0) (σ.2 1) (σ.2 2) (τ.2 0)) : ∃ σ' τ', f_X0_push σ = some σ' ∧ f_X5_record τ = some τ' ∧ Inv σ' τ' ∧ R3 a b c (σ'.1 0) (σ'.1 1) (σ'.1 2) (σ'.2 0) (σ'.2 1) (σ'.2 2) (τ'.2 0) ∧ τ'.2 0 = τ.2 0 ∧ (∀ k, k ≠ 0 → τ'.1 k = τ.1 k) ∧ (∀ k, k ≠ 1 → τ'.2 k = τ.2 k) ∧ (σ'.1 18 = σ.1 18 ∧ σ'.2 18 = σ.2 18 ∧ σ'.1 23 = σ.1 23) := by
  obtain ⟨σ', τ', e1, e2, e3, e4, e5, e6, e7, e8⟩ := rec_ok hI
  refine ⟨σ', τ', e1, e2, e3, ?_, e8 0 (by omega), e7, e8, e6⟩
  rw [e4 0 (by omega), e4 1 (by omega), e4 2 (by omega), e5 0 (by omega), e5 1 (by omega), e5 2 (by omega), e8 0 (by omega)]
  exact h
theorem nat_of {p : Int32} (h0 : 0 ≤ p.toInt) : ∃ k : Nat, (k : Int) = p.toInt ∧ p = nI k := ⟨p.toInt.toNat, by omega, by rw [nI_iI, show ((p.toInt.toNat : Nat) : Int) = p.toInt by omega, iI_of]⟩
theorem upd_cong {f g : Nat → Int32} {x y x0 y0 : Nat} {v : Int32} (h : x = x0 ↔ y = y0) (h2 : f x = g y) : upd f x0 v x = upd g y0 v y := by
  unfold upd
  by_cases hx : x = x0
  · rw [if_pos hx, if_pos (h.mp hx)]
  · rw [if_neg hx, if_neg (fun q => hx (h.mpr q))]; exact h2
section ACTS
variable {σ τ : Sg} {a b c t i k p q : Nat} {g : Nat → Int32}
theorem put0 {v : Int32} (h : σ.1 0 = nI a) (hi : i < a) (ha : a ≤ 10) (hk : k < 11) : f_X3_put σ 0 (nI i) (nI k) v = some (s2 σ 0 (upd (σ.2 0) (i * 11 + k) v)) := put_in (t := 0) h hi ha hk
theorem put1 {v : Int32} (h : σ.1 1 = nI a) (hi : i < a) (ha : a ≤ 12) (hk : k < 9) : f_X3_put σ 1 (nI i) (nI k) v = some (s2 σ 1 (upd (σ.2 1) (i * 9 + k) v)) := put_in (t := 1) h hi ha hk
theorem put2 {v : Int32} (h : σ.1 2 = nI a) (hi : i < a) (ha : a ≤ 60) (hk : k < 8) : f_X3_put σ 2 (nI i) (nI k) v = some (s2 σ 2 (upd (σ.2 2) (i * 8 + k) v)) := put_in (t := 2) h hi ha hk
theorem put0' {v : Int32} (h : σ.1 0 = nI a) (hi : i < a) (ha : a ≤ 10) (hk : k < 11) : f_X3_put (s2 σ 0 g) 0 (nI i) (nI k) v = some (s2 σ 0 (upd g (i * 11 + k) v)) := by
  rw [put0 (σ := s2 σ 0 g) h hi ha hk, s2_self, s2_s2]
theorem put1' {v : Int32} (h : σ.1 1 = nI a) (hi : i < a) (ha : a ≤ 12) (hk : k < 9) : f_X3_put (s2 σ 1 g) 1 (nI i) (nI k) v = some (s2 σ 1 (upd g (i * 9 + k) v)) := by
  rw [put1 (σ := s2 σ 1 g) h hi ha hk, s2_self, s2_s2]
theorem put2' {v : Int32} (h : σ.1 2 = nI a) (hi : i < a) (ha : a ≤ 60) (hk : k < 8) : f_X3_put (s2 σ 2 g) 2 (nI i) (nI k) v = some (s2 σ 2 (upd g (i * 8 + k) v)) := by
  rw [put2 (σ := s2 σ 2 g) h hi ha hk, s2_self, s2_s2]
theorem sim_adjust (hI : Inv σ τ) (p w v : Int32) : Sim (f_X4_adjust σ p w v) (f_X5_adjust τ p w v) := by
  obtain ⟨a, b, c, h⟩ := hI.1.get
  have h' := h
  obtain ⟨⟨ha, hb, hc⟩, ⟨r0, r1, r2⟩, ⟨f0, f1, f2⟩, t1, t2, t3, v1, -⟩ := h
  unfold f_X4_adjust f_X5_adjust
  rcases in_ix p a (by omega) with hp | hp | ⟨i, hi, rfl⟩
  · rw [lacks_neg hp, noTool_neg hp, Option.bind_some, Option.bind_some, if_neg (by decide), if_neg (by decide)]
    exact ⟨_, _, _, rfl, rfl, hI⟩
  · rw [lacks_big r0 hp, noTool_big f0 (by omega) hp, Option.bind_some, Option.bind_some, if_neg (by decide), if_neg (by decide)]
    exact ⟨_, _, _, rfl, rfl, hI⟩
  rw [lacks_in r0 hi (by omega), noTool_in f0 hi (by omega), Option.bind_some, Option.bind_some, if_pos rfl, if_pos rfl]
  obtain ⟨⟨N, U, Ln, z, g, tr, i0_, i1_, i2_, i4_, i5_, i6_, hN, hU, hL, hz, hg, htr⟩, hb3, hb7⟩ := v1 i hi
  have w2 := pu_bd hU.2 hN.2
  have w0 := pu_nn U N
  have c0 : f_X3_cell σ 0 (nI i) (0 : Int32) = some (nI N) := (h'.ins hi 0 (by omega)).trans (by rw [Nat.add_zero, i0_])
  have c1 : f_X3_cell σ 0 (nI i) (1 : Int32) = some (nI U) := (h'.ins hi 1 (by omega)).trans (by rw [i1_])
  have c4 : f_X3_cell σ 0 (nI i) (4 : Int32) = some (τ.2 0 (4 + 8 * i + 4)) := h'.ins hi 4 (by omega)
  have c5 : f_X3_cell σ 0 (nI i) (5 : Int32) = some (τ.2 0 (4 + 8 * i + 5)) := h'.ins hi 5 (by omega)
  unfold f_X2_mainDivision
  rw [c0, c1, wide_in (show i < 10 by omega), i0_, i1_, c4, c5, tool_4 (show i < 10 by omega), tool_5 (show i < 10 by omega)]
  simp only [Option.bind_some]
  rw [nI_pu, iI_neg]
  rcases range_eq σ τ w (iI (-(pu U N))) (iI (pu U N)) with ⟨g1, g2, g3, g4⟩ | ⟨g1, g2⟩
  rotate_left
  · rw [g1, g2, Option.bind_some, Option.bind_some, if_neg (by decide), if_pos rfl]
    exact ⟨_, _, _, rfl, rfl, hI⟩
  rw [iI_toInt (by omega) (by omega)] at g3 g4
  rw [g1, g2, Option.bind_some, Option.bind_some, if_pos rfl, if_neg (show ¬ (1 : Int32) = 0 by decide)]
  rcases range_eq σ τ v (0 : Int32) (20 : Int32) with ⟨k1, k2, k3, k4⟩ | ⟨k1, k2⟩
  rotate_left
  · rw [k1, k2, Option.bind_some, Option.bind_some, if_neg (by decide), if_pos rfl]
    exact ⟨_, _, _, rfl, rfl, hI⟩
  rw [k1, k2, Option.bind_some, Option.bind_some, if_pos rfl, if_neg (show ¬ (1 : Int32) = 0 by decide)]
  have z0 : (0 : Int32).toInt = 0 := rfl
  have z20 : (20 : Int32).toInt = 20 := rfl
  obtain ⟨y, hy, rfl⟩ := nat_of (p := v) (by omega)
  have hy20 : y ≤ 20 := by omega
  obtain ⟨x, hx, rfl⟩ : ∃ x : Int, (-(pu U N) ≤ x ∧ x ≤ pu U N) ∧ w = iI x := ⟨w.toInt, ⟨g3, g4⟩, (iI_of w).symm⟩
  have act : Sim (f_X4_adjust_b85 σ (nI i) (iI x) (nI y) (τ.2 0 (4 + 8 * i + 4))) (f_X5_adjust_b69 τ (nI i) (iI x) (nI y) (τ.2 0 (4 + 8 * i + 4))) := by
    obtain ⟨σ1, τ1, p1, p2, hI1, hR, q0, -⟩ := rec2 hI h'
    have q00 := hR
    obtain ⟨-, ⟨s0, s1_, s2_⟩, -, u1, -⟩ := q00
    unfold f_X4_adjust_b85 f_X5_adjust_b69
    rw [p1, p2, Option.bind_some, Option.bind_some, show f_X3_put σ1 0 (nI i) (4 : Int32) (iI x) = _ from put0 (k := 4) s0 hi ha (by omega), Option.bind_some, show f_X3_put (s2 σ1 0 _) 0 (nI i) (5 : Int32) (nI y) = _ from put0' (k := 5) s0 hi ha (by omega), Option.bind_some]
    rw [show ((4 : Int32) + ((8 : Int32) * nI i)) + (4 : Int32) = nI (4 + 8 * i + 4) from tix i 4, show ((4 : Int32) + ((8 : Int32) * nI i)) + (5 : Int32) = nI (4 + 8 * i + 5) from tix i 5, gd_of (inb_n (by omega) (by omega)), ix_n (by omega)]
    simp only [lts]
    rw [gd_of (inb_n (by omega) (by omega)), ix_n (by omega)]
    rw [s2_self, s2_s2]
    refine ⟨_, s2 σ1 0 _, s2 τ1 0 _, rfl, rfl, hI1.act (sxn_s2 (by omega)) (smn_s2 (by omega)) (iNow.mk (hR.setI hi ?_ ?_ ?_ ?_ ?_ ?_) rfl rfl rfl s2_self (s2_ne (by omega)) (s2_ne (by omega)) s2_self)⟩
    · intro k hk
      exact upd_cong (by omega) (upd_cong (by omega) ((u1 i hi).1 k hk))
    · intro k hk hk2
      unfold upd
      rw [if_neg (by omega), if_neg (by omega)]
    · intro j hj
      unfold upd
      rw [if_neg (by omega), if_neg (by omega)]
    · intro j hj
      unfold upd
      rw [if_neg (by omega), if_neg (by omega)]
    · intro k hk
      unfold upd
      rw [if_neg (by omega), if_neg (by omega)]
    · refine ⟨⟨N, U, Ln, x, y, tr, ?_, ?_, ?_, ?_, ?_, ?_, hN, hU, hL, hx, hy20, htr⟩, ?_, ?_⟩
      · unfold upd; rw [if_neg (by omega), if_neg (by omega), q0]; exact i0_
      · unfold upd; rw [if_neg (by omega), if_neg (by omega), q0]; exact i1_
      · unfold upd; rw [if_neg (by omega), if_neg (by omega), q0]; exact i2_
      · unfold upd; rw [if_neg (by omega), if_pos (by omega)]
      · unfold upd; rw [if_pos (by omega)]
      · unfold upd; rw [if_neg (by omega), if_neg (by omega), q0]; exact i6_
      · unfold upd; rw [if_neg (by omega), if_neg (by omega), q0]; exact hb3
      · unfold upd; rw [if_neg (by omega), if_neg (by omega), q0]; exact hb7
  by_cases e4 : τ.2 0 (4 + 8 * i + 4) = iI x
  · rw [if_pos e4, if_pos e4]
    by_cases e5 : τ.2 0 (4 + 8 * i + 5) = nI y
    · rw [if_pos e5, if_pos e5]; exact ⟨_, _, _, rfl, rfl, hI⟩
    · rw [if_neg e5, if_neg e5]; exact act
  · rw [if_neg e4, if_neg e4]; exact act
theorem sim_setTrap (hI : Inv σ τ) (p w : Int32) : Sim (f_X4_setTrap σ p w) (f_X5_setTrap τ p w) := by
  obtain ⟨a, b, c, h⟩ := hI.1.get
  have h' := h
  obtain ⟨⟨ha, hb, hc⟩, ⟨r0, r1, r2⟩, ⟨f0, f1, f2⟩, t1, t2, t3, v1, -⟩ := h
  unfold f_X4_setTrap f_X5_setTrap
  rcases in_ix p a (by omega) with hp | hp | ⟨i, hi, rfl⟩
  · rw [lacks_neg hp, noTool_neg hp, Option.bind_some, Option.bind_some, if_neg (by decide), if_neg (by decide)]
    exact ⟨_, _, _, rfl, rfl, hI⟩
  · rw [lacks_big r0 hp, noTool_big f0 (by omega) hp, Option.bind_some, Option.bind_some, if_neg (by decide), if_neg (by decide)]
    exact ⟨_, _, _, rfl, rfl, hI⟩
  rw [lacks_in r0 hi (by omega), noTool_in f0 hi (by omega), Option.bind_some, Option.bind_some, if_pos rfl, if_pos rfl]
  obtain ⟨⟨N, U, Ln, z, g, tr, i0_, i1_, i2_, i4_, i5_, i6_, hN, hU, hL, hz, hg, htr⟩, hb3, hb7⟩ := v1 i hi
  have c6 : f_X3_cell σ 0 (nI i) (6 : Int32) = some (τ.2 0 (4 + 8 * i + 6)) := h'.ins hi 6 (by omega)
  rcases range_eq σ τ w (0 : Int32) (3 : Int32) with ⟨k1, k2, k3, k4⟩ | ⟨k1, k2⟩
  rotate_left
  · rw [k1, k2, Option.bind_some, Option.bind_some, if_neg (by decide), if_pos rfl]
    exact ⟨_, _, _, rfl, rfl, hI⟩
  rw [k1, k2, Option.bind_some, Option.bind_some, if_pos rfl, if_neg (show ¬ (1 : Int32) = 0 by decide), c6, tool_6 (by omega), Option.bind_some, Option.bind_some]
  have z0 : (0 : Int32).toInt = 0 := rfl
  have z3 : (3 : Int32).toInt = 3 := rfl
  obtain ⟨y, hy, rfl⟩ := nat_of (p := w) (by omega)
  by_cases e6 : τ.2 0 (4 + 8 * i + 6) = nI y
  · rw [if_pos e6, if_pos e6]; exact ⟨_, _, _, rfl, rfl, hI⟩
  rw [if_neg e6, if_neg e6]
  obtain ⟨σ1, τ1, p1, p2, hI1, hR, q0, -⟩ := rec2 hI h'
  have q00 := hR
  obtain ⟨-, ⟨s0, s1_, s2_⟩, -, u1, -⟩ := q00
  rw [p1, p2, Option.bind_some, Option.bind_some, show f_X3_put σ1 0 (nI i) (6 : Int32) (nI y) = _ from put0 (k := 6) s0 hi ha (by omega), Option.bind_some, show f_X3_put (s2 σ1 0 _) 0 (nI i) (7 : Int32) (0 : Int32) = _ from put0' (k := 7) s0 hi ha (by omega), Option.bind_some]
  rw [show ((4 : Int32) + ((8 : Int32) * nI i)) + (6 : Int32) = nI (4 + 8 * i + 6) from tix i 6, show ((4 : Int32) + ((8 : Int32) * nI i)) + (7 : Int32) = nI (4 + 8 * i + 7) from tix i 7, gd_of (inb_n (by omega) (by omega)), ix_n (by omega)]
  simp only [lts]
  rw [gd_of (inb_n (by omega) (by omega)), ix_n (by omega)]
  rw [s2_self, s2_s2]
  refine ⟨_, s2 σ1 0 _, s2 τ1 0 _, rfl, rfl, hI1.act (sxn_s2 (by omega)) (smn_s2 (by omega)) (iNow.mk (hR.setI hi ?_ ?_ ?_ ?_ ?_ ?_) rfl rfl rfl s2_self (s2_ne (by omega)) (s2_ne (by omega)) s2_self)⟩
  · intro k hk
    exact upd_cong (by omega) (upd_cong (by omega) ((u1 i hi).1 k hk))
  · intro k hk hk2
    unfold upd
    rw [if_neg (by omega), if_neg (by omega)]
  · intro j hj
    unfold upd
    rw [if_neg (by omega), if_neg (by omega)]
  · intro j hj
    unfold upd
    rw [if_neg (by omega), if_neg (by omega)]
  · intro k hk
    unfold upd
    rw [if_neg (by omega), if_neg (by omega)]
  · refine ⟨⟨N, U, Ln, z, g, y, ?_, ?_, ?_, ?_, ?_, ?_, hN, hU, hL, hz, hg, by omega⟩, ?_, ?_⟩
    · unfold upd; rw [if_neg (by omega), if_neg (by omega), q0]; exact i0_
    · unfold upd; rw [if_neg (by omega), if_neg (by omega), q0]; exact i1_
    · unfold upd; rw [if_neg (by omega), if_neg (by omega), q0]; exact i2_
    · unfold upd; rw [if_neg (by omega), if_neg (by omega), q0]; exact i4_
    · unfold upd; rw [if_neg (by omega), if_neg (by omega), q0]; exact i5_
    · unfold upd; rw [if_neg (by omega), if_pos (by omega)]
    · unfold upd; rw [if_neg (by omega), if_neg (by omega), q0]; exact hb3
    · unfold upd; rw [if_pos (by omega)]; exact Or.inl rfl
/-- a trap told -/
def orN (kn tr : Nat) : Nat := kn ||| 2 ^ (tr - 1)
theorem or_bits : ∀ kn, kn < 8 → ∀ tr, tr < 4 → 0 < tr → (nI kn ||| ((1 : Int32) <<< ((nI tr - 1) &&& 31)) = nI (orN kn tr) ∧ orN kn tr < 8) ∧ (nI kn &&& ((1 : Int32) <<< ((nI tr - 1) &&& 31)) = 0 ↔ ¬ orN kn tr = kn) := by decide +kernel
theorem one_put {v : Int32} (h : R3 a b c (σ.1 0) (σ.1 1) (σ.1 2) (σ.2 0) (σ.2 1) (σ.2 2) (τ.2 0)) (hp : p < b) {kn : Nat} (hk : kn < 8) (hv : v = nI kn) :
    R3 a b c (σ.1 0) (σ.1 1) (σ.1 2) (σ.2 0) (upd (σ.2 1) (p * 9 + 2) v) (σ.2 2) (upd (τ.2 0) (84 + 5 * p + 2) v) := by
  have h' := h
  obtain ⟨-, -, -, -, t2, -, -, v2, -⟩ := h
  obtain ⟨e, hh, k0, k1, k2, k3, k4, k5, k6⟩ := v2 p hp
  refine h'.setP hp ?_ ?_ ?_ ?_ ?_
  · intro k hk
    unfold upd
    by_cases e5 : k = 2
    · rw [if_pos (by omega), if_pos (by omega)]
    · rw [if_neg (by omega), if_neg (by omega)]
      exact (t2 p hp).1 k hk
  · intro k hk hk2
    unfold upd
    rw [if_neg (by omega)]
  · intro j hj
    unfold upd
    rw [if_neg (by omega)]
  · intro j hj
    unfold upd
    rw [if_neg (by omega)]
  · refine ⟨e, hh, kn, ?_, k2, ?_, k4, ?_, hk⟩
    · unfold upd; rw [if_neg (by omega)]; exact k1
    · unfold upd; rw [if_neg (by omega)]; exact k3
    · unfold upd; rw [if_pos (by omega)]; exact hv
theorem upd_id {f : Nat → Int32} {k : Nat} : upd f k (f k) = f := by
  funext j; unfold upd; split
  · rename_i h; rw [h]
  · rfl
theorem tell_loop {tr : Nat} (ht : tr < 4) (ht0 : 0 < tr) : ∀ (m n i : Nat) (v : Int32) (σ τ : Sg), R3 a b c (σ.1 0) (σ.1 1) (σ.1 2) (σ.2 0) (σ.2 1) (σ.2 2) (τ.2 0) → m + i = b → m < n →
    ∃ r σ' τ', f_X2_tellAll_b4 n σ (nI tr) v (nI i) = some (r, σ') ∧ f_X5_announce_b74 n τ ((1 : Int32) <<< ((nI tr - 1) &&& 31)) v (nI i) = some (r, τ') ∧ R3 a b c (σ'.1 0) (σ'.1 1) (σ'.1 2) (σ'.2 0) (σ'.2 1) (σ'.2 2) (τ'.2 0) ∧ sxn σ σ' ∧ smn τ τ' := by
  have idl : ∀ x : Option (Int32 × Sg), id x = x := fun _ => rfl
  intro m
  induction m with
  | zero =>
    intro n i v σ τ h hm hn
    have h' := h
    obtain ⟨⟨ha, hb, hc⟩, ⟨r0, r1, r2⟩, ⟨f0, f1, f2⟩, -⟩ := h
    obtain ⟨n, rfl⟩ : ∃ z, n = z + 1 := ⟨n - 1, by omega⟩
    have hk : i = b := by omega
    subst hk
    rw [f_X2_tellAll_b4.eq_2, f_X5_announce_b74.eq_2, i1, x1, f1, idl]
    unfold f_X3_size
    rw [Option.bind_some, r1, if_pos (Int32.le_refl _), if_pos (Int32.le_refl _)]
    exact ⟨_, _, _, rfl, rfl, h', sxn_rf, smn_rf⟩
  | succ m ih =>
    intro n i v σ τ h hm hn
    have h' := h
    obtain ⟨⟨ha, hb, hc⟩, ⟨r0, r1, r2⟩, ⟨f0, f1, f2⟩, t1, t2, t3, v1, v2, -⟩ := h
    obtain ⟨n, rfl⟩ : ∃ z, n = z + 1 := ⟨n - 1, by omega⟩
    have nle : ¬ nI b ≤ nI i := by rw [nI_leN (by omega) (by omega)]; omega
    obtain ⟨e, hh, kn, k1, k2, k3, k4, k5, k6⟩ := v2 i (by omega)
    have c2 : f_X3_cell σ 1 (nI i) (2 : Int32) = some (nI kn) := (h'.pup (k := 2) (by omega) (by omega)).trans (by rw [k5])
    obtain ⟨⟨b1, b2⟩, b3⟩ := or_bits kn k6 tr ht ht0
    rw [f_X2_tellAll_b4.eq_2, f_X5_announce_b74.eq_2, i1, x1, f1, idl, c2, scholar_2 (by omega), k5]
    unfold f_X3_size f_X2_tellAll_b57 f_X5_announce_b103 f_X4_has
    simp only [Option.bind_some, lt, lts]
    rw [r1, if_neg nle, if_neg nle, nI_1, show ((84 : Int32) + ((5 : Int32) * nI i)) + (2 : Int32) = nI (84 + 5 * i + 2) from six i 2, ix_n (by omega), k5]
    simp only [show ∀ o : Option (Int32 × Sg), gd (inb (nI (84 + 5 * i + 2)) 624) o = o from fun o => gd_of (inb_n (by omega) (by omega))]
    rw [trapBit_in ht ht0]
    simp only [Option.bind_some]
    by_cases hb0 : nI kn &&& ((1 : Int32) <<< ((nI tr - 1) &&& 31)) = 0
    · rw [if_pos hb0, if_pos hb0, Option.bind_some, if_pos rfl, b1, show f_X3_put σ 1 (nI i) (2 : Int32) (nI (orN kn tr)) = _ from put1 (k := 2) r1 (by omega) hb (by omega), Option.bind_some]
      obtain ⟨r, σ', τ', g1, g2, g3, g4, g5⟩ := ih n (i + 1) (v + 1) (s2 σ 1 (upd (σ.2 1) (i * 9 + 2) (nI (orN kn tr)))) (s2 τ 0 (upd (τ.2 0) (84 + 5 * i + 2) (nI (orN kn tr)))) (by
        rw [s2_self, s2_self, s2_ne (by omega), s2_ne (by omega)]
        exact one_put h' (by omega) b2 rfl) (by omega) (by omega)
      exact ⟨r, σ', τ', g1, g2, g3, sxn_tr (sxn_s2 (by omega)) g4, smn_tr (smn_s2 (by omega)) g5⟩
    · rw [if_neg hb0, if_neg hb0, Option.bind_some, if_neg (show ¬ (1 : Int32) = 0 by decide), b1, Int32.add_zero]
      have e5 : nI (orN kn tr) = τ.2 0 (84 + 5 * i + 2) := by
        rw [k5]; congr 1
        exact Decidable.not_not.mp (fun q => hb0 (b3.mpr q))
      rw [e5, upd_id, s2_id]
      obtain ⟨r, σ', τ', g1, g2, g3, g4, g5⟩ := ih n (i + 1) v σ τ h' (by omega) (by omega)
      exact ⟨r, σ', τ', g1, g2, g3, g4, g5⟩
theorem sim_announce (hI : Inv σ τ) (p : Int32) : Sim (f_X4_announce σ p) (f_X5_announce τ p) := by
  obtain ⟨a, b, c, h⟩ := hI.1.get
  have h' := h
  obtain ⟨⟨ha, hb, hc⟩, ⟨r0, r1, r2⟩, ⟨f0, f1, f2⟩, t1, t2, t3, v1, -⟩ := h
  unfold f_X4_announce f_X5_announce
  rcases in_ix p a (by omega) with hp | hp | ⟨i, hi, rfl⟩
  · rw [lacks_neg hp, noTool_neg hp, Option.bind_some, Option.bind_some, if_neg (by decide), if_neg (by decide)]
    exact ⟨_, _, _, rfl, rfl, hI⟩
  · rw [lacks_big r0 hp, noTool_big f0 (by omega) hp, Option.bind_some, Option.bind_some, if_neg (by decide), if_neg (by decide)]
    exact ⟨_, _, _, rfl, rfl, hI⟩
  rw [lacks_in r0 hi (by omega), noTool_in f0 hi (by omega), Option.bind_some, Option.bind_some, if_pos rfl, if_pos rfl]
  obtain ⟨⟨N, U, Ln, z, g, tr, i0_, i1_, i2_, i4_, i5_, i6_, hN, hU, hL, hz, hg, htr⟩, hb3, hb7⟩ := v1 i hi
  have c6 : f_X3_cell σ 0 (nI i) (6 : Int32) = some (τ.2 0 (4 + 8 * i + 6)) := h'.ins hi 6 (by omega)
  have c7 : f_X3_cell σ 0 (nI i) (7 : Int32) = some (τ.2 0 (4 + 8 * i + 7)) := h'.ins hi 7 (by omega)
  rw [c6, c7, tool_6 (by omega), tool_7 (by omega), i6_]
  simp only [Option.bind_some]
  by_cases ht0 : tr = 0
  · subst ht0
    rw [if_pos (by decide), if_pos (by decide)]; exact ⟨_, _, _, rfl, rfl, hI⟩
  rw [if_neg (nI_ne0 (by omega) (by omega)), if_neg (nI_ne0 (by omega) (by omega))]
  rcases hb7 with hb7 | hb7
  rotate_left
  · rw [hb7, if_neg (by decide), if_pos rfl]; exact ⟨_, _, _, rfl, rfl, hI⟩
  rw [hb7, if_pos rfl, if_neg (by decide)]
  obtain ⟨σ1, τ1, p1, p2, hI1, hR, q0, -⟩ := rec2 hI h'
  have q00 := hR
  obtain ⟨-, ⟨s0, s1_, s2_⟩, -, u1, -⟩ := q00
  rw [p1, p2, Option.bind_some, Option.bind_some, show f_X3_put σ1 0 (nI i) (7 : Int32) (1 : Int32) = _ from put0 (k := 7) s0 hi ha (by omega), Option.bind_some]
  rw [show ((4 : Int32) + ((8 : Int32) * nI i)) + (7 : Int32) = nI (4 + 8 * i + 7) from tix i 7, gd_of (inb_n (by omega) (by omega)), ix_n (by omega)]
  simp only [lts, lt]
  have hR2 : R3 a b c (σ1.1 0) (σ1.1 1) (σ1.1 2) (upd (σ1.2 0) (i * 11 + 7) 1) (σ1.2 1) (σ1.2 2) (upd (τ1.2 0) (4 + 8 * i + 7) 1) := by
    refine hR.setI hi ?_ ?_ ?_ ?_ ?_ ?_
    · intro k hk
      unfold upd
      by_cases e5 : k = 7
      · rw [if_pos (by omega), if_pos (by omega)]
      · rw [if_neg (by omega), if_neg (by omega)]
        exact (u1 i hi).1 k hk
    · intro k hk hk2
      unfold upd
      rw [if_neg (by omega)]
    · intro j hj
      unfold upd
      rw [if_neg (by omega)]
    · intro j hj
      unfold upd
      rw [if_neg (by omega)]
    · intro k hk
      unfold upd
      rw [if_neg (by omega)]
    · refine ⟨⟨N, U, Ln, z, g, tr, ?_, ?_, ?_, ?_, ?_, ?_, hN, hU, hL, hz, hg, by omega⟩, ?_, ?_⟩
      · unfold upd; rw [if_neg (by omega), q0]; exact i0_
      · unfold upd; rw [if_neg (by omega), q0]; exact i1_
      · unfold upd; rw [if_neg (by omega), q0]; exact i2_
      · unfold upd; rw [if_neg (by omega), q0]; exact i4_
      · unfold upd; rw [if_neg (by omega), q0]; exact i5_
      · unfold upd; rw [if_neg (by omega), q0]; exact i6_
      · unfold upd; rw [if_neg (by omega), q0]; exact hb3
      · unfold upd; rw [if_pos (by omega)]; exact Or.inr rfl
  rw [tool_6 (by omega), s2_self, show upd (τ1.2 0) (4 + 8 * i + 7) 1 (4 + 8 * i + 6) = nI tr by unfold upd; rw [if_neg (by omega), q0]; exact i6_, Option.bind_some]
  obtain ⟨r, σ', τ', g1, g2, g3, g4, g5⟩ := tell_loop (a := a) (b := b) (c := c) htr (by omega) b fuel 0 0 (s2 σ1 0 (upd (σ1.2 0) (i * 11 + 7) 1)) (s2 τ1 0 (upd (τ1.2 0) (4 + 8 * i + 7) 1)) (by
    rw [s2_self, s2_self, s2_ne (by omega), s2_ne (by omega)]; exact hR2) (by omega) (by unfold fuel; omega)
  unfold f_X2_tellAll
  rw [show f_X2_tellAll_b4 fuel (s2 σ1 0 (upd (σ1.2 0) (i * 11 + 7) 1)) (nI tr) (0 : Int32) (0 : Int32) = _ from g1, Option.bind_some]
  exact ⟨r, σ', τ', rfl, g2, hI1.act (sxn_tr (sxn_s2 (by omega)) g4) (smn_tr (smn_s2 (by omega)) g5) ⟨a, b, c, g3⟩⟩
theorem sim_teach (hI : Inv σ τ) (p w : Int32) : Sim (f_X4_teach σ p w) (f_X5_teach τ p w) := by
  obtain ⟨a, b, c, h⟩ := hI.1.get
  have h' := h
  obtain ⟨⟨ha, hb, hc⟩, ⟨r0, r1, r2⟩, ⟨f0, f1, f2⟩, t1, t2, t3, v1, v2, -⟩ := h
  unfold f_X4_teach f_X5_teach
  rcases in_ix p b (by omega) with hp | hp | ⟨j, hj, rfl⟩
  · rw [lacks_neg hp, noScholar_neg hp, Option.bind_some, Option.bind_some, if_neg (by decide), if_neg (by decide)]
    exact ⟨_, _, _, rfl, rfl, hI⟩
  · rw [lacks_big r1 hp, noScholar_big f1 (by omega) hp, Option.bind_some, Option.bind_some, if_neg (by decide), if_neg (by decide)]
    exact ⟨_, _, _, rfl, rfl, hI⟩
  rw [lacks_in r1 hj (by omega), noScholar_in f1 hj (by omega), Option.bind_some, Option.bind_some, if_pos rfl, if_pos rfl]
  rcases range_eq σ τ w (1 : Int32) (3 : Int32) with ⟨k1, k2, k3, k4⟩ | ⟨k1, k2⟩
  rotate_left
  · rw [k1, k2, Option.bind_some, Option.bind_some, if_neg (by decide), if_pos rfl]
    exact ⟨_, _, _, rfl, rfl, hI⟩
  have z1 : (1 : Int32).toInt = 1 := rfl
  have z3 : (3 : Int32).toInt = 3 := rfl
  obtain ⟨tr, hy, rfl⟩ := nat_of (p := w) (by omega)
  obtain ⟨e, hh, kn, l1, l2, l3, l4, l5, l6⟩ := v2 j hj
  have c2 : f_X3_cell σ 1 (nI j) (2 : Int32) = some (nI kn) := (h'.pup (k := 2) hj (by omega)).trans (by rw [l5])
  obtain ⟨⟨b1, b2⟩, b3⟩ := or_bits kn l6 tr (by omega) (by omega)
  unfold f_X4_has
  rw [k1, k2, Option.bind_some, Option.bind_some, if_pos rfl, if_neg (show ¬ (1 : Int32) = 0 by decide), c2, scholar_2 (by omega), l5, Option.bind_some, Option.bind_some, trapBit_in (by omega) (by omega), Option.bind_some]
  simp only [lt, Option.bind_some]
  by_cases hb0 : nI kn &&& ((1 : Int32) <<< ((nI tr - 1) &&& 31)) = 0
  · rw [if_pos hb0, Option.bind_some, if_pos rfl, b1, if_neg (by rw [nI_eq (by omega) (by omega)]; exact b3.mp hb0)]
    obtain ⟨σ1, τ1, p1, p2, hI1, hR, q0, -⟩ := rec2 hI h'
    have q00 := hR
    obtain ⟨-, ⟨s0, s1_, s2_⟩, -, u1, -⟩ := q00
    rw [p1, p2, Option.bind_some, Option.bind_some, trapBit_in (by omega) (by omega), Option.bind_some, b1, show f_X3_put σ1 1 (nI j) (2 : Int32) (nI (orN kn tr)) = _ from put1 (k := 2) s1_ hj hb (by omega), Option.bind_some]
    rw [show f_X3_cell (s2 σ1 1 (upd (σ1.2 1) (j * 9 + 2) (nI (orN kn tr)))) 1 (nI j) (2 : Int32) = some (nI (orN kn tr)) from (cell1 (σ := s2 σ1 1 _) (k := 2) s1_ hj hb (by omega)).trans (by rw [s2_self, upd_self]), Option.bind_some]
    rw [show ((84 : Int32) + ((5 : Int32) * nI j)) + (2 : Int32) = nI (84 + 5 * j + 2) from six j 2, gd_of (inb_n (by omega) (by omega)), ix_n (by omega)]
    refine ⟨_, s2 σ1 1 (upd (σ1.2 1) (j * 9 + 2) (nI (orN kn tr))), s2 τ1 0 (upd (τ1.2 0) (84 + 5 * j + 2) (nI (orN kn tr))), rfl, rfl, hI1.act (sxn_s2 (by omega)) (smn_s2 (by omega)) (iNow.mk (one_put hR hj b2 rfl) rfl rfl rfl (s2_ne (by omega)) s2_self (s2_ne (by omega)) s2_self)⟩
  · rw [if_neg hb0, Option.bind_some, if_neg (show ¬ (1 : Int32) = 0 by decide), b1, if_pos (by rw [nI_eq (by omega) (by omega)]; exact Decidable.not_not.mp (fun q => hb0 (b3.mpr q)))]
    exact ⟨_, _, _, rfl, rfl, hI⟩
theorem xor_bits : ∀ h, h < 16 → ∀ g, g < 16 → nI h ^^^ nI g = nI (h ^^^ g) ∧ (h ^^^ g) < 16 ∧ (nI (h ^^^ g) = 0 ↔ h = g) := by decide +kernel
def pop (x : Nat) : Nat := x % 2 + x / 2 % 2 + x / 4 % 2 + x / 8 % 2
theorem pop_x : ∀ x, x < 16 → f_J6_bitCount_0f7a4 (fun _ => 0, fun _ _ => 0) (nI x) = some (nI (pop x)) := by decide +kernel
theorem pop_X {x : Nat} (hx : x < 16) : f_J6_bitCount_0f7a4 σ (nI x) = some (nI (pop x)) := pop_x x hx
theorem pop_m : ∀ x, x < 16 → ((((0 : Int32) + ((nI x >>> ((0 : Int32) &&& 31)) &&& 1)) + ((nI x >>> (((0 : Int32) + 1) &&& 31)) &&& 1)) + ((nI x >>> ((((0 : Int32) + 1) + 1) &&& 31)) &&& 1)) + ((nI x >>> (((((0 : Int32) + 1) + 1) + 1) &&& 31)) &&& 1) = nI (pop x) := by decide +kernel
theorem pop_M {x : Nat} (hx : x < 16) : f_X5_train_b88 fuel τ (nI x) (0 : Int32) (0 : Int32) = some (nI (pop x), τ) := by
  obtain ⟨n, hn⟩ : ∃ n, fuel = n + 1 + 1 + 1 + 1 + 1 := ⟨4091, rfl⟩
  rw [hn]
  rw [f_X5_train_b88.eq_2, if_neg (by decide)]
  simp only [lt]
  rw [f_X5_train_b88.eq_2, if_neg (by decide)]
  simp only [lt]
  rw [f_X5_train_b88.eq_2, if_neg (by decide)]
  simp only [lt]
  rw [f_X5_train_b88.eq_2, if_neg (by decide)]
  simp only [lt]
  rw [f_X5_train_b88.eq_2, if_pos (by decide), pop_m x hx]
theorem scholar_ok (σ τ : Sg) (p w : Int32) : (f_X4_outside σ p (-50 : Int32) (50 : Int32) = some 0 ∧ f_X4_outside σ w (0 : Int32) (15 : Int32) = some 0 ∧ f_X5_isScholar τ p w = some 1 ∧ ∃ (e : Int) (h : Nat), p = iI e ∧ (-50 ≤ e ∧ e ≤ 50) ∧ w = nI h ∧ h < 16) ∨ (f_X5_isScholar τ p w = some 0 ∧ (f_X4_outside σ p (-50 : Int32) (50 : Int32) = some 1 ∨ (f_X4_outside σ p (-50 : Int32) (50 : Int32) = some 0 ∧ f_X4_outside σ w (0 : Int32) (15 : Int32) = some 1))) := by
  unfold f_X5_isScholar
  rcases range_eq σ τ p (-50 : Int32) (50 : Int32) with ⟨g1, g2, g3, g4⟩ | ⟨g1, g2⟩
  · rcases range_eq σ τ w (0 : Int32) (15 : Int32) with ⟨k1, k2, k3, k4⟩ | ⟨k1, k2⟩
    · left
      have z0 : (0 : Int32).toInt = 0 := rfl
      have z15 : (15 : Int32).toInt = 15 := rfl
      have zm : (-50 : Int32).toInt = -50 := rfl
      have z50 : (50 : Int32).toInt = 50 := rfl
      obtain ⟨y, hy, e⟩ := nat_of (p := w) (by omega)
      exact ⟨g1, k1, by rw [g2, k2]; rfl, p.toInt, y, (iI_of p).symm, ⟨by omega, by omega⟩, e, by omega⟩
    · exact Or.inr ⟨by rw [g2, k2]; rfl, Or.inr ⟨g1, k1⟩⟩
  · exact Or.inr ⟨by rw [g2]; rfl, Or.inl g1⟩
theorem sim_train (hI : Inv σ τ) (p w v : Int32) : Sim (f_X4_train σ p w v) (f_X5_train τ p w v) := by
  obtain ⟨a, b, c, h⟩ := hI.1.get
  have h' := h
  obtain ⟨⟨ha, hb, hc⟩, ⟨r0, r1, r2⟩, ⟨f0, f1, f2⟩, t1, t2, t3, v1, v2, -⟩ := h
  unfold f_X4_train f_X5_train
  rcases in_ix p b (by omega) with hp | hp | ⟨j, hj, rfl⟩
  · rw [lacks_neg hp, noScholar_neg hp, Option.bind_some, Option.bind_some, if_neg (by decide), if_neg (by decide)]
    exact ⟨_, _, _, rfl, rfl, hI⟩
  · rw [lacks_big r1 hp, noScholar_big f1 (by omega) hp, Option.bind_some, Option.bind_some, if_neg (by decide), if_neg (by decide)]
    exact ⟨_, _, _, rfl, rfl, hI⟩
  rw [lacks_in r1 hj (by omega), noScholar_in f1 hj (by omega), Option.bind_some, Option.bind_some, if_pos rfl, if_pos rfl]
  rcases scholar_ok σ τ w v with ⟨k1, k2, k3, x, y, rfl, hx, rfl, hy⟩ | ⟨k1, k2 | ⟨k2, k3⟩⟩
  rotate_left
  · rw [k1, k2, Option.bind_some, Option.bind_some, if_neg (by decide), if_pos rfl]
    exact ⟨_, _, _, rfl, rfl, hI⟩
  · rw [k1, k2, Option.bind_some, Option.bind_some, if_pos rfl, k3, Option.bind_some, if_neg (by decide), if_pos rfl]
    exact ⟨_, _, _, rfl, rfl, hI⟩
  obtain ⟨e, hh, kn, l1, l2, l3, l4, l5, l6⟩ := v2 j hj
  have c0 : f_X3_cell σ 1 (nI j) (0 : Int32) = some (iI e) := (h'.pup (k := 0) hj (by omega)).trans (by rw [Nat.add_zero, l1])
  have c1 : f_X3_cell σ 1 (nI j) (1 : Int32) = some (nI hh) := (h'.pup (k := 1) hj (by omega)).trans (by rw [l3])
  obtain ⟨b1, b2, b3⟩ := xor_bits hh l4 y hy
  rw [k1, k2, k3, Option.bind_some, Option.bind_some, Option.bind_some, if_pos rfl, if_pos rfl, if_neg (show ¬ (1 : Int32) = 0 by decide), c0, c1, scholar_0 (by omega), scholar_1 (by omega), l1, l3]
  simp only [Option.bind_some, lt]
  rw [b1]
  have act : Sim (f_X4_train_b81 σ (nI j) (iI x) (nI y) (nI (hh ^^^ y))) (f_X5_train_b50 τ (nI j) (iI x) (nI y) (nI (hh ^^^ y))) := by
    obtain ⟨σ1, τ1, p1, p2, hI1, hR, q0, -⟩ := rec2 hI h'
    have q00 := hR
    obtain ⟨-, ⟨s0, s1_, s2_⟩, -, u1, u2, -⟩ := q00
    unfold f_X4_train_b81 f_X5_train_b50
    rw [p1, p2, Option.bind_some, Option.bind_some, show f_X3_put σ1 1 (nI j) (0 : Int32) (iI x) = _ from put1 (k := 0) s1_ hj hb (by omega), Option.bind_some, show f_X3_put (s2 σ1 1 _) 1 (nI j) (1 : Int32) (nI y) = _ from put1' (k := 1) s1_ hj hb (by omega), Option.bind_some, pop_X b2, Option.bind_some]
    rw [show ((84 : Int32) + ((5 : Int32) * nI j)) + (0 : Int32) = nI (84 + 5 * j + 0) from six j 0, show ((84 : Int32) + ((5 : Int32) * nI j)) + (1 : Int32) = nI (84 + 5 * j + 1) from six j 1, gd_of (inb_n (by omega) (by omega)), ix_n (by omega)]
    simp only [lts]
    rw [gd_of (inb_n (by omega) (by omega)), ix_n (by omega)]
    rw [s2_self, s2_s2, pop_M b2]
    refine ⟨_, s2 σ1 1 _, s2 τ1 0 _, rfl, rfl, hI1.act (sxn_s2 (by omega)) (smn_s2 (by omega)) (iNow.mk (hR.setP hj ?_ ?_ ?_ ?_ ?_) rfl rfl rfl (s2_ne (by omega)) s2_self (s2_ne (by omega)) s2_self)⟩
    · intro k hk
      exact upd_cong (by omega) (upd_cong (by omega) ((u2 j hj).1 k hk))
    · intro k hk hk2
      unfold upd
      rw [if_neg (by omega), if_neg (by omega)]
    · intro j hj
      unfold upd
      rw [if_neg (by omega), if_neg (by omega)]
    · intro j hj
      unfold upd
      rw [if_neg (by omega), if_neg (by omega)]
    · refine ⟨x, y, kn, ?_, hx, ?_, hy, ?_, l6⟩
      · unfold upd; rw [if_neg (by omega), if_pos (by omega)]
      · unfold upd; rw [if_pos (by omega)]
      · unfold upd; rw [if_neg (by omega), if_neg (by omega), q0]; exact l5
  by_cases e4 : nI (hh ^^^ y) = 0
  · rw [if_pos e4, if_pos e4]
    by_cases e5 : iI e = iI x
    · rw [if_pos e5, if_pos e5]; exact ⟨_, _, _, rfl, rfl, hI⟩
    · rw [if_neg e5, if_neg e5]; exact act
  · rw [if_neg e4, if_neg e4]; exact act
end ACTS
