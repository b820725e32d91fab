/-! NEW ROWS: addInstrument, addPupil. -/
theorem cntB_0 {p : Nat → Bool} : ∀ c, (∀ q, q < c → p q = false) → cntB p c = 0 := by
  intro c
  induction c with
  | zero => intro _; rfl
  | succ c ih => intro h; rw [cntB_s, ih (fun q hq => h q (by omega)), h c (by omega)]; rfl
theorem sumI_0 {g : Nat → Int32} : ∀ c, (∀ q, q < c → g q = 0) → sumI g c = 0 := by
  intro c
  induction c with
  | zero => intro _; rfl
  | succ c ih => intro h; rw [show sumI g (c + 1) = sumI g c + g c from rfl, ih (fun q hq => h q (by omega)), h c (by omega)]; rfl
theorem cntI_new {f : Nat → Int32} {a b c : Nat} (ha : a ≤ 10) (h : ∀ q, q < c → papV f a b q) : cntI f c a = 0 := cntB_0 c fun q hq => by
  obtain ⟨p, i, x, k, s, q1, q2, q3, q4, -⟩ := h q hq
  rw [decide_eq_false_iff_not, q3, nI_eq (by omega) (by omega)]
  omega
theorem cntP_new {f : Nat → Int32} {a b c : Nat} (hb : b ≤ 12) (h : ∀ q, q < c → papV f a b q) : cntP f c b = 0 := cntB_0 c fun q hq => by
  obtain ⟨p, i, x, k, s, q1, q2, q3, q4, -⟩ := h q hq
  rw [decide_eq_false_iff_not, q1, nI_eq (by omega) (by omega)]
  omega
theorem sumM_new {f : Nat → Int32} {a b c : Nat} (hb : b ≤ 12) (h : ∀ q, q < c → papV f a b q) : sumI (mks f (nI b)) c = 0 := sumI_0 c fun q hq => by
  obtain ⟨p, i, x, k, s, q1, q2, q3, q4, -⟩ := h q hq
  unfold mks
  rw [q1, if_neg (by rw [nI_eq (by omega) (by omega)]; omega)]
theorem papV.more {f : Nat → Int32} {a b a' b' q : Nat} (h : papV f a b q) (ha : a ≤ a') (hb : b ≤ b') : papV f a' b' q := by
  obtain ⟨p, i, x, k, s, q1, q2, q3, q4, q5⟩ := h
  exact ⟨p, i, x, k, s, q1, by omega, q3, by omega, q5⟩
theorem papV.congr {f f' : Nat → Int32} {a b q : Nat} (h : papV f a b q) (g4 : ∀ k, k < 8 → f' (144 + 8 * q + k) = f (144 + 8 * q + k)) : papV f' a b q := by
  obtain ⟨p, i, x, k, s, q1, q2, q3, q4, q5, q6, q7, q8, q9, q10, q11⟩ := h
  refine ⟨p, i, x, k, s, by rw [show f' (144 + 8 * q) = f (144 + 8 * q) from g4 0 (by omega)]; exact q1, q2, by rw [g4 _ (by omega)]; exact q3, q4, by rw [g4 _ (by omega)]; exact q5, q6, by rw [g4 _ (by omega)]; exact q7, q8, by rw [g4 _ (by omega)]; exact q9, q10, fun hs => ?_⟩
  obtain ⟨cs, hp, r1, r2, r3, r4⟩ := q11 hs
  exact ⟨cs, hp, by rw [g4 _ (by omega)]; exact r1, r2, by rw [g4 _ (by omega)]; exact r3, r4⟩
theorem R3.addI {a b c N U Ln : Nat} {bb rt rp rq : Int32} {ct cp cq f ct' f' : Nat → Int32} (h : R3 a b c rt rp rq ct cp cq f) (ha : a < 10) (hN : 2 ≤ N ∧ N ≤ 50) (hU : 1 ≤ U ∧ U ≤ 50) (hL : 2 ≤ Ln ∧ Ln ≤ 200) (hbb : bb = 0 ∨ bb = 1)
    (x0 : ct' (a * 11) = nI N) (x1 : ct' (a * 11 + 1) = nI U) (x2 : ct' (a * 11 + 2) = nI Ln) (x3 : ct' (a * 11 + 3) = bb) (x4 : ∀ k, 4 ≤ k → k < 8 → ct' (a * 11 + k) = 0) (x8 : ct' (a * 11 + 8) = nI Ln * (nI N * nI U)) (x9 : ct' (a * 11 + 9) = (nI N + (if bb = 1 then 1 else -1)) * nI U) (x10 : ct' (a * 11 + 10) = 0) (xo : ∀ j, (j < a * 11 ∨ a * 11 + 11 ≤ j) → ct' j = ct j)
    (m0 : f' (4 + 8 * a) = nI N) (m1 : f' (4 + 8 * a + 1) = nI U) (m2 : f' (4 + 8 * a + 2) = nI Ln) (m3 : f' (4 + 8 * a + 3) = bb) (mc : f' 0 = nI (a + 1)) (mo : ∀ j, j ≠ 0 → (j < 4 + 8 * a ∨ 4 + 8 * a + 4 ≤ j) → f' j = f j) : R3 (a + 1) b c (nI (a + 1)) rp rq ct' cp cq f' := by
  obtain ⟨⟨ha', hb, hc⟩, ⟨-, rp_, rq_⟩, ⟨f0, f1, f2⟩, t1, t2, t3, v1, v2, v3, v4, v5, v6⟩ := h
  have eI : ∀ k, cntI f' c k = cntI f c k := fun k => cntB_congr c fun q hq => by rw [mo _ (by omega) (by omega)]
  have eP : ∀ k, cntP f' c k = cntP f c k := fun k => cntB_congr c fun q hq => by rw [mo _ (by omega) (by omega)]
  have eA : cntA f' c = cntA f c := cntB_congr c fun q hq => by rw [mo _ (by omega) (by omega)]
  have eM : ∀ v, sumI (mks f' v) c = sumI (mks f v) c := fun v => sumI_congr c fun q hq => by unfold mks; rw [mo _ (by omega) (by omega), mo _ (by omega) (by omega)]
  have z4 : ∀ k, 4 ≤ k → k < 8 → f' (4 + 8 * a + k) = 0 := fun k hk hk2 => by rw [mo _ (by omega) (by omega)]; exact v4 a (by omega) ha k hk hk2
  refine ⟨⟨by omega, hb, hc⟩, ⟨rfl, rp_, rq_⟩, ⟨mc, by rw [mo _ (by omega) (by omega)]; exact f1, by rw [mo _ (by omega) (by omega)]; exact f2⟩, fun j hj => ?_, fun p hp => ?_, fun q hq => ?_, fun j hj => ?_, fun p hp => ?_, fun q hq => ?_, fun j hj hj2 k hk hk2 => ?_, fun p hp hp2 k hk hk2 => ?_, by rw [eA]; exact v6⟩
  · by_cases e : j = a
    · subst e
      refine ⟨fun k hk => ?_, by rw [x8, m0, m1, m2], by rw [x9, m0, m1, m3], by rw [x10, eI, cntI_new ha' v3]; rfl⟩
      rcases Nat.lt_or_ge k 4 with hk4 | hk4
      · have : k = 0 ∨ k = 1 ∨ k = 2 ∨ k = 3 := by omega
        rcases this with rfl | rfl | rfl | rfl
        · exact x0.trans m0.symm
        · exact x1.trans m1.symm
        · exact x2.trans m2.symm
        · exact x3.trans m3.symm
      · rw [x4 k hk4 hk, z4 k hk4 hk]
    · obtain ⟨q1, q2, q3, q4⟩ := t1 j (by omega)
      refine ⟨fun k hk => ?_, ?_, ?_, ?_⟩
      · rw [xo _ (by omega), mo _ (by omega) (by omega)]; exact q1 k hk
      · rw [xo _ (by omega), mo _ (by omega) (by omega), mo _ (by omega) (by omega), mo _ (by omega) (by omega)]; exact q2
      · rw [xo _ (by omega), mo _ (by omega) (by omega), mo _ (by omega) (by omega), mo _ (by omega) (by omega)]; exact q3
      · rw [xo _ (by omega), eI]; exact q4
  · obtain ⟨q1, q2, q3, q4, q5⟩ := t2 p hp
    exact ⟨fun k hk => by rw [mo _ (by omega) (by omega)]; exact q1 k hk, by rw [eP]; exact q2, by rw [eM]; exact q3, by rw [mo _ (by omega) (by omega)]; exact q4, by rw [mo _ (by omega) (by omega)]; exact q5⟩
  · obtain ⟨q1, q2⟩ := t3 q hq
    exact ⟨fun k hk => by rw [mo _ (by omega) (by omega)]; exact q1 k hk, fun k hk => by rw [mo _ (by omega) (by omega), mo _ (by omega) (by omega)]; exact q2 k hk⟩
  · by_cases e : j = a
    · subst e
      have w0 := pu_nn U N
      exact ⟨⟨N, U, Ln, 0, 0, 0, m0, m1, m2, z4 4 (by omega) (by omega), z4 5 (by omega) (by omega), z4 6 (by omega) (by omega), hN, hU, hL, by omega, by omega, by omega⟩, by rw [m3]; exact hbb, Or.inl (z4 7 (by omega) (by omega))⟩
    · obtain ⟨⟨N, U, Ln, z, g, tr, q1, q2, q3, q4, q5, q6, q7⟩, q8, q9⟩ := v1 j (by omega)
      refine ⟨⟨N, U, Ln, z, g, tr, ?_, ?_, ?_, ?_, ?_, ?_, q7⟩, ?_, ?_⟩ <;> rw [mo _ (by omega) (by omega)] <;> assumption
  · obtain ⟨e, hh, k, q1, q2, q3, q4, q5, q6⟩ := v2 p hp
    exact ⟨e, hh, k, by rw [mo _ (by omega) (by omega)]; exact q1, q2, by rw [mo _ (by omega) (by omega)]; exact q3, q4, by rw [mo _ (by omega) (by omega)]; exact q5, q6⟩
  · exact ((v3 q hq).more (by omega) (by omega)).congr fun k hk => mo _ (by omega) (by omega)
  · rw [mo _ (by omega) (by omega)]; exact v4 j (by omega) hj2 k hk hk2
  · rw [mo _ (by omega) (by omega)]; exact v5 p hp hp2 k hk hk2
theorem R3.addP {a b c h' : Nat} {e' : Int} {rt rp rq : Int32} {ct cp cq f cp' f' : Nat → Int32} (h : R3 a b c rt rp rq ct cp cq f) (hb12 : b < 12) (he : -50 ≤ e' ∧ e' ≤ 50) (hh : h' < 16)
    (x0 : cp' (b * 9) = iI e') (x1 : cp' (b * 9 + 1) = nI h') (x2 : ∀ k, 2 ≤ k → k < 9 → cp' (b * 9 + k) = 0) (xo : ∀ j, (j < b * 9 ∨ b * 9 + 9 ≤ j) → cp' j = cp j)
    (m0 : f' (84 + 5 * b) = iI e') (m1 : f' (84 + 5 * b + 1) = nI h') (mc : f' 1 = nI (b + 1)) (mo : ∀ j, j ≠ 1 → (j < 84 + 5 * b ∨ 84 + 5 * b + 2 ≤ j) → f' j = f j) : R3 a (b + 1) c rt (nI (b + 1)) rq ct cp' cq f' := by
  obtain ⟨⟨ha, hb, hc⟩, ⟨rt_, -, rq_⟩, ⟨f0, f1, f2⟩, t1, t2, t3, v1, v2, v3, v4, v5, v6⟩ := h
  have eI : ∀ k, cntI f' c k = cntI f c k := fun k => cntB_congr c fun q hq => by rw [mo _ (by omega) (by omega)]
  have eP : ∀ k, cntP f' c k = cntP f c k := fun k => cntB_congr c fun q hq => by rw [mo _ (by omega) (by omega)]
  have eA : cntA f' c = cntA f c := cntB_congr c fun q hq => by rw [mo _ (by omega) (by omega)]
  have eM : ∀ v, sumI (mks f' v) c = sumI (mks f v) c := fun v => sumI_congr c fun q hq => by unfold mks; rw [mo _ (by omega) (by omega), mo _ (by omega) (by omega)]
  have z2 : ∀ k, 2 ≤ k → k < 5 → f' (84 + 5 * b + k) = 0 := fun k hk hk2 => by rw [mo _ (by omega) (by omega)]; exact v5 b (by omega) hb12 k hk hk2
  refine ⟨⟨ha, by omega, hc⟩, ⟨rt_, rfl, rq_⟩, ⟨by rw [mo _ (by omega) (by omega)]; exact f0, mc, by rw [mo _ (by omega) (by omega)]; exact f2⟩, fun j hj => ?_, fun p hp => ?_, fun q hq => ?_, fun j hj => ?_, fun p hp => ?_, fun q hq => ?_, fun j hj hj2 k hk hk2 => ?_, fun p hp hp2 k hk hk2 => ?_, by rw [eA]; exact v6⟩
  · obtain ⟨q1, q2, q3, q4⟩ := t1 j hj
    refine ⟨fun k hk => ?_, ?_, ?_, ?_⟩
    · rw [mo _ (by omega) (by omega)]; exact q1 k hk
    · rw [mo _ (by omega) (by omega), mo _ (by omega) (by omega), mo _ (by omega) (by omega)]; exact q2
    · rw [mo _ (by omega) (by omega), mo _ (by omega) (by omega), mo _ (by omega) (by omega)]; exact q3
    · rw [eI]; exact q4
  · by_cases e : p = b
    · subst e
      refine ⟨fun k hk => ?_, by rw [x2 3 (by omega) (by omega), eP, cntP_new hb v3]; rfl, by rw [x2 4 (by omega) (by omega), eM, sumM_new hb v3], by rw [x2 6 (by omega) (by omega), z2 3 (by omega) (by omega)], by rw [x2 7 (by omega) (by omega), z2 4 (by omega) (by omega)]⟩
      have : k = 0 ∨ k = 1 ∨ k = 2 := by omega
      rcases this with rfl | rfl | rfl
      · exact x0.trans m0.symm
      · exact x1.trans m1.symm
      · rw [x2 2 (by omega) (by omega), z2 2 (by omega) (by omega)]
    · obtain ⟨q1, q2, q3, q4, q5⟩ := t2 p (by omega)
      exact ⟨fun k hk => by rw [xo _ (by omega), mo _ (by omega) (by omega)]; exact q1 k hk, by rw [xo _ (by omega), eP]; exact q2, by rw [xo _ (by omega), eM]; exact q3, by rw [xo _ (by omega), mo _ (by omega) (by omega)]; exact q4, by rw [xo _ (by omega), mo _ (by omega) (by omega)]; exact q5⟩
  · obtain ⟨q1, q2⟩ := t3 q hq
    exact ⟨fun k hk => by rw [mo _ (by omega) (by omega)]; exact q1 k hk, fun k hk => by rw [mo _ (by omega) (by omega), mo _ (by omega) (by omega)]; exact q2 k hk⟩
  · obtain ⟨⟨N, U, Ln, z, g, tr, q1, q2, q3, q4, q5, q6, q7⟩, q8, q9⟩ := v1 j (by omega)
    refine ⟨⟨N, U, Ln, z, g, tr, ?_, ?_, ?_, ?_, ?_, ?_, q7⟩, ?_, ?_⟩ <;> rw [mo _ (by omega) (by omega)] <;> assumption
  · by_cases e : p = b
    · subst e
      exact ⟨e', h', 0, m0, he, m1, hh, z2 2 (by omega) (by omega), by omega⟩
    · obtain ⟨e, hh, k, q1, q2, q3, q4, q5, q6⟩ := v2 p (by omega)
      exact ⟨e, hh, k, by rw [mo _ (by omega) (by omega)]; exact q1, q2, by rw [mo _ (by omega) (by omega)]; exact q3, q4, by rw [mo _ (by omega) (by omega)]; exact q5, q6⟩
  · exact ((v3 q hq).more (by omega) (by omega)).congr fun k hk => mo _ (by omega) (by omega)
  · rw [mo _ (by omega) (by omega)]; exact v4 j hj hj2 k hk hk2
  · rw [mo _ (by omega) (by omega)]; exact v5 p (by omega) hp2 k hk hk2
section ADDS
variable {σ τ : Sg} {a b c t i k p q : Nat} {g : Nat → Int32}
theorem newRow0 (h : σ.1 0 = nI a) (ha : a < 10) : f_X3_newRow σ 0 = some (nI a, s2 (s1 σ 0 (nI (a + 1))) 0 (zr (σ.2 0) (a * 11) 11)) := newRow_in (t := 0) h ha
theorem newRow1 (h : σ.1 1 = nI a) (ha : a < 12) : f_X3_newRow σ 1 = some (nI a, s2 (s1 σ 1 (nI (a + 1))) 1 (zr (σ.2 1) (a * 9) 9)) := newRow_in (t := 1) h ha
theorem newRow2 (h : σ.1 2 = nI a) (ha : a < 60) : f_X3_newRow σ 2 = some (nI a, s2 (s1 σ 2 (nI (a + 1))) 2 (zr (σ.2 2) (a * 8) 8)) := newRow_in (t := 2) h ha
theorem range_nat (σ τ : Sg) {lo hi : Int32} (x : Int32) {l h : Nat} (hl : lo = nI l) (hh : hi = nI h) (hl2 : l < 2 ^ 31) (hh2 : h < 2 ^ 31) : (∃ n : Nat, (l ≤ n ∧ n ≤ h) ∧ x = nI n ∧ f_X4_outside σ x lo hi = some 0 ∧ f_X5_in τ x lo hi = some 1) ∨ (f_X4_outside σ x lo hi = some 1 ∧ f_X5_in τ x lo hi = some 0) := by
  rcases range_eq σ τ x lo hi with ⟨g1, g2, g3, g4⟩ | g
  · left
    rw [hl, nI_iI, iI_toInt (by omega) (by omega)] at g3
    rw [hh, nI_iI, iI_toInt (by omega) (by omega)] at g4
    obtain ⟨n, hn, e⟩ := nat_of (p := x) (by omega)
    exact ⟨n, by omega, e, g1, g2⟩
  · exact Or.inr g
theorem sim_addInstrument (hI : Inv σ τ) (p w v u : Int32) (hu : u = 0 ∨ u = 1) : Sim (f_X4_addInstrument σ p w v u) (f_X5_addInstrument τ p w v u) := by
  obtain ⟨a, b, c, h⟩ := hI.1.get
  have h' := h
  obtain ⟨⟨ha, hb, hc⟩, ⟨r0, r1, r2⟩, ⟨f0, f1, f2⟩, -⟩ := h
  unfold f_X4_addInstrument f_X5_addInstrument
  rcases range_nat σ τ p (lo := (2 : Int32)) (hi := (50 : Int32)) (l := 2) (h := 50) rfl rfl (by omega) (by omega) with ⟨N, hN, rfl, g1, g2⟩ | ⟨g1, g2⟩
  rotate_left
  · rw [g1, g2, Option.bind_some, Option.bind_some, if_neg (by decide), if_pos rfl]
    exact ⟨_, _, _, rfl, rfl, hI⟩
  rw [g1, g2, Option.bind_some, Option.bind_some, if_pos rfl, if_neg (show ¬ (1 : Int32) = 0 by decide)]
  rcases range_nat σ τ w (lo := (1 : Int32)) (hi := (50 : Int32)) (l := 1) (h := 50) rfl rfl (by omega) (by omega) with ⟨U, hU, rfl, g1, g2⟩ | ⟨g1, g2⟩
  rotate_left
  · rw [g1, g2, Option.bind_some, Option.bind_some, if_neg (by decide), if_pos rfl]
    exact ⟨_, _, _, rfl, rfl, hI⟩
  rw [g1, g2, Option.bind_some, Option.bind_some, if_pos rfl, if_neg (show ¬ (1 : Int32) = 0 by decide)]
  rcases range_nat σ τ v (lo := (2 : Int32)) (hi := (200 : Int32)) (l := 2) (h := 200) rfl rfl (by omega) (by omega) with ⟨Ln, hL, rfl, g1, g2⟩ | ⟨g1, g2⟩
  rotate_left
  · rw [g1, g2, Option.bind_some, Option.bind_some, if_neg (by decide), if_pos rfl]
    exact ⟨_, _, _, rfl, rfl, hI⟩
  rw [g1, g2, Option.bind_some, Option.bind_some, if_pos rfl, if_neg (show ¬ (1 : Int32) = 0 by decide), i0, x0, f0]
  simp only [id_eq]
  rcases Nat.lt_or_ge a 10 with ha10 | ha10
  rotate_left
  · have : a = 10 := by omega
    subst this
    rw [full_yes (t := 0) r0, Option.bind_some, if_neg (by decide), if_pos (by decide)]
    exact ⟨_, _, _, rfl, rfl, hI⟩
  rw [full_no (t := 0) r0 ha10, Option.bind_some, if_pos rfl, if_neg (show ¬ nI a = (10 : Int32) by rw [show (10 : Int32) = nI 10 from rfl, nI_eq (by omega) (by omega)]; omega)]
  obtain ⟨σ1, τ1, p1, p2, hI1, hR, q0, -⟩ := rec2 hI h'
  have q00 := hR
  obtain ⟨-, ⟨s0, s1_, s2_⟩, ⟨k0, -, -⟩, -⟩ := q00
  rw [p1, p2, Option.bind_some, Option.bind_some, k0]
  unfold f_X2_newInstrument f_X2_newInstrument_b59 f_X2_newInstrument_b100
  rw [newRow0 s0 ha10]
  simp only [Option.bind_some, lt, lts]
  have P : ∀ {g : Nat → Int32} {k : Nat} {x : Int32}, k < 11 → f_X3_put (s2 (s1 σ1 0 (nI (a + 1))) 0 g) 0 (nI a) (nI k) x = some (s2 (s1 σ1 0 (nI (a + 1))) 0 (upd g (a * 11 + k) x)) := fun hk => put0' (a := a + 1) s1_self (by omega) (by omega) hk
  have M : ∀ k : Nat, ((4 : Int32) + ((8 : Int32) * nI a)) + nI k = nI (4 + 8 * a + k) := fun k => tix a k
  rw [show f_X3_put (s2 (s1 σ1 0 (nI (a + 1))) 0 _) 0 (nI a) (0 : Int32) (nI N) = _ from P (k := 0) (by omega), Option.bind_some, show f_X3_put (s2 (s1 σ1 0 (nI (a + 1))) 0 _) 0 (nI a) (1 : Int32) (nI U) = _ from P (k := 1) (by omega), Option.bind_some, show f_X3_put (s2 (s1 σ1 0 (nI (a + 1))) 0 _) 0 (nI a) (2 : Int32) (nI Ln) = _ from P (k := 2) (by omega), Option.bind_some]
  rw [show f_X3_put (s2 (s1 σ1 0 (nI (a + 1))) 0 _) 0 (nI a) (3 : Int32) (0 : Int32) = _ from P (k := 3) (by omega), show f_X3_put (s2 (s1 σ1 0 (nI (a + 1))) 0 _) 0 (nI a) (3 : Int32) (1 : Int32) = _ from P (k := 3) (by omega), Option.bind_some, Option.bind_some]
  have act : ∀ (bb y : Int32), (bb = 0 ∨ bb = 1) → y = nI N + (if bb = 1 then 1 else -1) → Sim (((f_X3_put (s2 (s1 σ1 0 (nI (a + 1))) 0 (upd (upd (upd (upd (zr (σ1.2 0) (a * 11) 11) (a * 11 + 0) (nI N)) (a * 11 + 1) (nI U)) (a * 11 + 2) (nI Ln)) (a * 11 + 3) bb)) 0 (nI a) (8 : Int32) (nI Ln * nI N * nI U)).bind fun σ8 => (f_X3_put σ8 0 (nI a) (9 : Int32) (y * nI U)).bind fun σ10 => some (nI a, σ10)).bind fun q12 => some (q12.1, q12.2))
      (gd (inb (((4 : Int32) + (8 : Int32) * nI a) + (0 : Int32)) 624) (gd (inb (((4 : Int32) + (8 : Int32) * nI a) + (1 : Int32)) 624) (gd (inb (((4 : Int32) + (8 : Int32) * nI a) + (2 : Int32)) 624) (f_X5_addInstrument_b113 (s2 τ1 0 (upd (upd (upd (τ1.2 0) (4 + 8 * a + 0) (nI N)) (4 + 8 * a + 1) (nI U)) (4 + 8 * a + 2) (nI Ln))) bb (((4 : Int32) + (8 : Int32) * nI a) + (3 : Int32)))))) := by
    intro bb y hbb hy
    rw [show f_X3_put (s2 (s1 σ1 0 (nI (a + 1))) 0 _) 0 (nI a) (8 : Int32) _ = _ from P (k := 8) (by omega), Option.bind_some, show f_X3_put (s2 (s1 σ1 0 (nI (a + 1))) 0 _) 0 (nI a) (9 : Int32) _ = _ from P (k := 9) (by omega), Option.bind_some, Option.bind_some]
    rw [show ((4 : Int32) + (8 : Int32) * nI a) + (0 : Int32) = nI (4 + 8 * a + 0) from M 0, show ((4 : Int32) + (8 : Int32) * nI a) + (1 : Int32) = nI (4 + 8 * a + 1) from M 1, show ((4 : Int32) + (8 : Int32) * nI a) + (2 : Int32) = nI (4 + 8 * a + 2) from M 2, show ((4 : Int32) + (8 : Int32) * nI a) + (3 : Int32) = nI (4 + 8 * a + 3) from M 3]
    rw [gd_of (inb_n (by omega) (by omega)), gd_of (inb_n (by omega) (by omega)), gd_of (inb_n (by omega) (by omega))]
    unfold f_X5_addInstrument_b113
    rw [gd_of (inb_n (by omega) (by omega)), ix_n (by omega), s2_self, s2_s2]
    simp only [lts, i0, id_eq, x0, s2_self, s2_s2]
    have e0 : upd (upd (upd (upd (τ1.2 0) (4 + 8 * a + 0) (nI N)) (4 + 8 * a + 1) (nI U)) (4 + 8 * a + 2) (nI Ln)) (4 + 8 * a + 3) bb 0 = nI a := by
      unfold upd
      rw [if_neg (by omega), if_neg (by omega), if_neg (by omega), if_neg (by omega)]; exact k0
    rw [e0, nI_1, upd_self, nI_pred]
    refine ⟨_, s2 (s1 σ1 0 (nI (a + 1))) 0 _, s2 τ1 0 _, rfl, rfl, hI1.act (sxn_tr (sxn_s1 (by omega)) (sxn_s2 (by omega))) (smn_s2 (by omega)) (iNow.mk (hR.addI ha10 hN hU hL hbb ?_ ?_ ?_ ?_ ?_ ?_ ?_ ?_ ?_ ?_ ?_ ?_ ?_ ?_ ?_) (show (s1 σ1 0 (nI (a + 1))).1 0 = nI (a + 1) from s1_self) rfl rfl s2_self (s2_ne (by omega)) (s2_ne (by omega)) s2_self)⟩
    · unfold upd; rw [if_neg (by omega), if_neg (by omega), if_neg (by omega), if_neg (by omega), if_neg (by omega), if_pos (by omega)]
    · unfold upd; rw [if_neg (by omega), if_neg (by omega), if_neg (by omega), if_neg (by omega), if_pos (by omega)]
    · unfold upd; rw [if_neg (by omega), if_neg (by omega), if_neg (by omega), if_pos (by omega)]
    · unfold upd; rw [if_neg (by omega), if_neg (by omega), if_pos (by omega)]
    · intro k hk hk2
      unfold upd zr; rw [if_neg (by omega), if_neg (by omega), if_neg (by omega), if_neg (by omega), if_neg (by omega), if_neg (by omega), if_pos (by omega)]
    · unfold upd; rw [if_neg (by omega), if_pos (by omega), Int32.mul_assoc]
    · unfold upd; rw [if_pos (by omega), hy]
    · unfold upd zr; rw [if_neg (by omega), if_neg (by omega), if_neg (by omega), if_neg (by omega), if_neg (by omega), if_neg (by omega), if_pos (by omega)]
    · intro j hj
      unfold upd zr; rw [if_neg (by omega), if_neg (by omega), if_neg (by omega), if_neg (by omega), if_neg (by omega), if_neg (by omega), if_neg (by omega)]
    · unfold upd; rw [if_neg (by omega), if_neg (by omega), if_neg (by omega), if_neg (by omega), if_pos (by omega)]
    · unfold upd; rw [if_neg (by omega), if_neg (by omega), if_neg (by omega), if_pos (by omega)]
    · unfold upd; rw [if_neg (by omega), if_neg (by omega), if_pos (by omega)]
    · unfold upd; rw [if_neg (by omega), if_pos (by omega)]
    · unfold upd; rw [if_pos rfl]
    · intro j hj0 hj
      unfold upd; rw [if_neg (by omega), if_neg (by omega), if_neg (by omega), if_neg (by omega), if_neg (by omega)]
  have zz : ∀ k : Nat, k < 3 → ix (((4 : Int32) + (8 : Int32) * nI a) + nI k) = 4 + 8 * a + k := fun k hk => by rw [M k, ix_n (by omega)]
  rw [show ix (((4 : Int32) + (8 : Int32) * nI a) + (0 : Int32)) = 4 + 8 * a + 0 from zz 0 (by omega), show ix (((4 : Int32) + (8 : Int32) * nI a) + (1 : Int32)) = 4 + 8 * a + 1 from zz 1 (by omega), show ix (((4 : Int32) + (8 : Int32) * nI a) + (2 : Int32)) = 4 + 8 * a + 2 from zz 2 (by omega)]
  simp only [s2_self, s2_s2]
  rcases hu with rfl | rfl
  · simp only [if_true]
    exact act 0 (nI N - 1) (Or.inl rfl) (by rw [if_neg (by decide), Int32.sub_eq_add_neg])
  · simp only [show ¬ (1 : Int32) = 0 by decide, if_false]
    exact act 1 (nI N + 1) (Or.inr rfl) (by rw [if_pos rfl])
theorem sim_addPupil (hI : Inv σ τ) (p w : Int32) : Sim (f_X4_addPupil σ p w) (f_X5_addPupil τ p w) := by
  obtain ⟨a, b, c, h⟩ := hI.1.get
  have h' := h
  obtain ⟨⟨ha, hb, hc⟩, ⟨r0, r1, r2⟩, ⟨f0, f1, f2⟩, -⟩ := h
  unfold f_X4_addPupil f_X5_addPupil
  rcases scholar_ok σ τ p w with ⟨k1, k2, k3, x, y, rfl, hx, rfl, hy⟩ | ⟨k1, k2 | ⟨k2, k3⟩⟩
  rotate_left
  · rw [k1, k2, Option.bind_some, Option.bind_some, if_neg (by decide), if_pos rfl]
    exact ⟨_, _, _, rfl, rfl, hI⟩
  · rw [k1, k2, Option.bind_some, Option.bind_some, if_pos rfl, k3, Option.bind_some, if_neg (by decide), if_pos rfl]
    exact ⟨_, _, _, rfl, rfl, hI⟩
  rw [k1, k2, k3, Option.bind_some, Option.bind_some, Option.bind_some, if_pos rfl, if_pos rfl, if_neg (show ¬ (1 : Int32) = 0 by decide), i1, x1, f1]
  simp only [id_eq]
  rcases Nat.lt_or_ge b 12 with hb12 | hb12
  rotate_left
  · have : b = 12 := by omega
    subst this
    rw [full_yes (t := 1) r1, Option.bind_some, if_neg (by decide), if_pos (by decide)]
    exact ⟨_, _, _, rfl, rfl, hI⟩
  rw [full_no (t := 1) r1 hb12, Option.bind_some, if_pos rfl, if_neg (show ¬ nI b = (12 : Int32) by rw [show (12 : Int32) = nI 12 from rfl, nI_eq (by omega) (by omega)]; omega)]
  obtain ⟨σ1, τ1, p1, p2, hI1, hR, q0, -⟩ := rec2 hI h'
  have q00 := hR
  obtain ⟨-, ⟨s0, s1_, s2_⟩, ⟨-, k0, -⟩, -⟩ := q00
  rw [p1, p2, Option.bind_some, Option.bind_some, k0, newRow1 s1_ hb12]
  simp only [Option.bind_some, lt, lts]
  have P : ∀ {g : Nat → Int32} {k : Nat} {x : Int32}, k < 9 → f_X3_put (s2 (s1 σ1 1 (nI (b + 1))) 1 g) 1 (nI b) (nI k) x = some (s2 (s1 σ1 1 (nI (b + 1))) 1 (upd g (b * 9 + k) x)) := fun hk => put1' (a := b + 1) s1_self (by omega) (by omega) hk
  rw [show f_X3_put (s2 (s1 σ1 1 (nI (b + 1))) 1 _) 1 (nI b) (0 : Int32) (iI x) = _ from P (k := 0) (by omega), Option.bind_some, show f_X3_put (s2 (s1 σ1 1 (nI (b + 1))) 1 _) 1 (nI b) (1 : Int32) (nI y) = _ from P (k := 1) (by omega), Option.bind_some]
  rw [show ((84 : Int32) + ((5 : Int32) * nI b)) + (0 : Int32) = nI (84 + 5 * b + 0) from six b 0, gd_of (inb_n (by omega) (by omega)), ix_n (by omega), s2_self, s2_s2]
  rw [show upd (τ1.2 0) (84 + 5 * b + 0) (iI x) 1 = nI b by unfold upd; rw [if_neg (by omega)]; exact k0]
  rw [show ((84 : Int32) + ((5 : Int32) * nI b)) + (1 : Int32) = nI (84 + 5 * b + 1) from six b 1, gd_of (inb_n (by omega) (by omega)), ix_n (by omega), s2_self, s2_s2]
  simp only [s2_self, s2_s2]
  rw [show upd (upd (τ1.2 0) (84 + 5 * b + 0) (iI x)) (84 + 5 * b + 1) (nI y) 1 = nI b by unfold upd; rw [if_neg (by omega), if_neg (by omega)]; exact k0]
  rw [nI_1, upd_self, nI_pred]
  refine ⟨_, s2 (s1 σ1 1 (nI (b + 1))) 1 _, s2 τ1 0 _, rfl, rfl, hI1.act (sxn_tr (sxn_s1 (by omega)) (sxn_s2 (by omega))) (smn_s2 (by omega)) (iNow.mk (hR.addP hb12 hx hy ?_ ?_ ?_ ?_ ?_ ?_ ?_ ?_) rfl (show (s1 σ1 1 (nI (b + 1))).1 1 = nI (b + 1) from s1_self) rfl (s2_ne (by omega)) s2_self (s2_ne (by omega)) s2_self)⟩
  · unfold upd; rw [if_neg (by omega), if_pos (by omega)]
  · unfold upd; rw [if_pos (by omega)]
  · intro k hk hk2
    unfold upd zr; rw [if_neg (by omega), if_neg (by omega), if_pos (by omega)]
  · intro j hj
    unfold upd zr; rw [if_neg (by omega), if_neg (by omega), if_neg (by omega)]
  · unfold upd; rw [if_neg (by omega), if_neg (by omega), if_pos (by omega)]
  · unfold upd; rw [if_neg (by omega), if_pos (by omega)]
  · unfold upd; rw [if_pos rfl]
  · intro j hj0 hj
    unfold upd; rw [if_neg (by omega), if_neg (by omega), if_neg (by omega)]
end ADDS
