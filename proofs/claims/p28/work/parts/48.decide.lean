/-! decide. -/
section DECIDE
variable {σ τ : Sg} {a b c t i k p q : Nat} {g : Nat → Int32}
/-- a paper's appeal is settled, with d more points, the state z, and one more at the pupil's place 3 + y -/
theorem settle_ok (h : R3 a b c (σ.1 0) (σ.1 1) (σ.1 2) (σ.2 0) (σ.2 1) (σ.2 2) (τ.2 0)) (hq : q < c) (hp : τ.2 0 (144 + 8 * q) = nI p) (hpb : p < b) (hw : waitsQ (τ.2 0) q) {d : Int32} {z y : Nat} (hz : z = 2 ∨ z = 3) (hy : y < 2) {k' : Nat} (hk : k' ≤ 10) (hd : τ.2 0 (144 + 8 * q + 4) + d = nI k') {r : Int32} :
    ∃ σ', ((f_X3_put σ 2 (nI q) (5 : Int32) (nI z)).bind fun σ6 => (f_X3_increase σ6 2 (nI q) (4 : Int32) d).bind fun σ7 => (f_X3_increase σ7 1 (nI p) (4 : Int32) d).bind fun σ8 => (f_X3_increase σ8 1 (nI p) (nI (6 + y)) (1 : Int32)).bind fun σ10 => some σ10) = some σ' ∧ sxn σ σ' ∧
      R3 a b c (σ'.1 0) (σ'.1 1) (σ'.1 2) (σ'.2 0) (σ'.2 1) (σ'.2 2) (upd (upd (upd (τ.2 0) (144 + 8 * q + 5) (nI z)) (144 + 8 * q + 4) (nI k')) (84 + 5 * p + (3 + y)) (τ.2 0 (84 + 5 * p + (3 + y)) + 1)) := by
  have h' := h
  obtain ⟨⟨ha, hb, hc⟩, ⟨r0, r1, r2⟩, ⟨f0, f1, f2⟩, t1, t2, t3, v1, v2, v3, v4, v5, v6⟩ := h
  have hz3 : z ≤ 3 := by rcases hz with rfl | rfl <;> decide
  have hz1 : ¬ z = 1 := by rcases hz with rfl | rfl <;> decide
  have hz0 : 0 < z := by rcases hz with rfl | rfl <;> decide
  clear hz
  obtain ⟨p', i, x, k, s, q1, q2, q3, q4, q5, q6, q7, q8, q9, q10, q11⟩ := v3 q hq
  have hpp : p' = p := by rw [q1, nI_eq (by omega) (by omega)] at hp; exact hp
  subst hpp
  have hs : s = 1 := by
    unfold waitsQ at hw
    rw [q9] at hw
    exact (nI_eq (b := 1) (by omega) (by omega)).mp hw
  subst hs
  obtain ⟨cs, hpz, w1, w2, w3, w4, -⟩ := q11 (by omega)
  have u4 : σ.2 2 (q * 8 + 4) = τ.2 0 (144 + 8 * q + 4) := (t3 q hq).1 4 (by omega)
  rw [show f_X3_put σ 2 (nI q) (5 : Int32) (nI z) = _ from put2 (k := 5) r2 hq hc (by omega), Option.bind_some, show f_X3_increase (s2 σ 2 _) 2 (nI q) (4 : Int32) d = _ from inc2 (σ := s2 σ 2 _) (k := 4) r2 hq hc (by omega), Option.bind_some, s2_self, s2_s2, upd_ne (by omega), u4, hd]
  generalize hS : s2 σ 2 (upd (upd (σ.2 2) (q * 8 + 5) (nI z)) (q * 8 + 4) (nI k')) = S
  have S1 : S.1 1 = nI b := by rw [← hS]; exact r1
  have S21 : S.2 1 = σ.2 1 := by rw [← hS, s2_ne (by omega)]
  have S20 : S.2 0 = σ.2 0 := by rw [← hS, s2_ne (by omega)]
  have S22 : S.2 2 = upd (upd (σ.2 2) (q * 8 + 5) (nI z)) (q * 8 + 4) (nI k') := by rw [← hS, s2_self]
  have S11 : S.1 = σ.1 := by rw [← hS]; rfl
  rw [show f_X3_increase S 1 (nI p') (4 : Int32) d = _ from inc1 (k := 4) S1 hpb hb (by omega), Option.bind_some, inc1 (σ := s2 S 1 _) (k := 6 + y) S1 hpb hb (by omega), Option.bind_some, s2_self, s2_s2, S21, upd_ne (by omega)]
  refine ⟨_, rfl, ?_, ?_⟩
  · rw [← hS]
    exact sxn_tr (sxn_s2 (by omega)) (sxn_s2 (by omega))
  · rw [s2_1, S11, s2_ne (by omega), S20, s2_self, s2_ne (by omega), S22]
    refine h'.setQ (p := p') (q := q) (d := d) hq q1 hpb ?_ ?_ ?_ ?_ ?_ ?_ ?_ ?_ ?_ ?_ ?_
    · intro k hk hk2
      have : k = 4 ∨ k = 5 ∨ k = 6 ∨ k = 7 := by omega
      rcases this with rfl | rfl | rfl | rfl
      · rw [upd_self, upd_ne (by omega), upd_self]
      · rw [upd_ne (by omega), upd_self, upd_ne (by omega), upd_ne (by omega), upd_self]
      · rw [upd_ne (by omega), upd_ne (by omega), upd_ne (by omega), upd_ne (by omega), upd_ne (by omega), (t3 q hq).2 6 (by omega), q9, if_neg (by decide)]
      · rw [upd_ne (by omega), upd_ne (by omega), upd_ne (by omega), upd_ne (by omega), upd_ne (by omega), (t3 q hq).2 7 (by omega), q9, if_neg (by decide)]
    · rw [upd_ne (by omega), upd_ne (by omega), upd_self]
      exact nI_ne0 (by omega) (by omega)
    · intro j hj
      rw [upd_ne (by omega), upd_ne (by omega)]
    · rw [upd_ne (by omega), upd_self, hd]
    · rw [upd_ne (by omega), upd_self]
    · obtain ⟨-, -, -, n6, n7⟩ := t2 p' hpb
      by_cases e : y = 0
      · subst e
        rw [show 6 + 0 = 6 from rfl, show 3 + 0 = 3 from rfl, upd_self, upd_self, n6]
      · rw [upd_ne (by omega), upd_ne (by omega), upd_ne (by omega), upd_ne (by omega), upd_ne (by omega), n6]
    · obtain ⟨-, -, -, n6, n7⟩ := t2 p' hpb
      by_cases e : y = 1
      · subst e
        rw [show 6 + 1 = 7 from rfl, show 3 + 1 = 4 from rfl, upd_self, upd_self, n7]
      · rw [upd_ne (by omega), upd_ne (by omega), upd_ne (by omega), upd_ne (by omega), upd_ne (by omega), n7]
    · intro j hj1 hj2 hj3
      rw [upd_ne (by omega), upd_ne (by omega)]
    · intro j hj hj2 hj3
      rw [upd_ne (by omega), upd_ne (by omega), upd_ne (by omega)]
    · refine ⟨p', i, x, k', z, ?_, hpb, ?_, q4, ?_, q6, ?_, hk, ?_, hz3, fun _ => ⟨cs, hpz, ?_, w2, ?_, w4, fun h => absurd h hz1⟩⟩
      · rw [upd_ne (by omega), upd_ne (by omega), upd_ne (by omega)]; exact q1
      · rw [upd_ne (by omega), upd_ne (by omega), upd_ne (by omega)]; exact q3
      · rw [upd_ne (by omega), upd_ne (by omega), upd_ne (by omega)]; exact q5
      · rw [upd_ne (by omega), upd_self]
      · rw [upd_ne (by omega), upd_ne (by omega), upd_self]
      · rw [upd_ne (by omega), upd_ne (by omega), upd_ne (by omega)]; exact w1
      · rw [upd_ne (by omega), upd_ne (by omega), upd_ne (by omega)]; exact w3
    · refine Nat.le_trans (cntB_mono c fun j hj hm => ?_) v6
      rw [decide_eq_true_eq] at hm ⊢
      by_cases e : j = q
      · subst e; exact hw
      · rw [upd_ne (by omega), upd_ne (by omega), upd_ne (by omega)] at hm; exact hm
theorem sim_decide (hI : Inv σ τ) : Sim (f_X4_decide σ) (f_X5_decide τ) := by
  obtain ⟨a, b, c, h⟩ := hI.1.get
  have h' := h
  obtain ⟨⟨ha, hb, hc⟩, ⟨r0, r1, r2⟩, ⟨f0, f1, f2⟩, t1, t2, t3, v1, v2, v3, v4, v5, v6⟩ := h
  obtain ⟨r, e1, e2, e3⟩ := waiting_loop h' c fuel 0 (w := 0) (by omega) (by unfold fuel; omega)
  unfold f_X4_decide f_X5_decide f_X2_waitingAt f_X5_waiting
  rw [show f_X2_waitingAt_b2 σ fuel (0 : Int32) (0 : Int32) = _ from e1, if_pos (by decide), show f_X5_waiting_b9 τ fuel (0 : Int32) (0 : Int32) = _ from e2, Option.bind_some, Option.bind_some]
  by_cases hr : r = (-10000005 : Int32)
  · rw [if_pos hr, if_pos hr]; exact ⟨_, _, _, rfl, rfl, hI⟩
  rw [if_neg hr, if_neg hr]
  rcases e3 with e3 | ⟨q, hq, rfl, hw⟩
  · exact absurd e3 hr
  obtain ⟨σ1, τ1, p1, p2, hI1, hR, q0, -⟩ := rec2 hI h'
  rw [p1, p2, Option.bind_some, Option.bind_some]
  obtain ⟨p, i, x, k, s, q1, q2, q3, q4, q5, q6, q7, q8, q9, q10, q11⟩ := v3 q hq
  have hs : s = 1 := by
    have hw' := hw
    unfold waitsQ at hw'
    rw [q9] at hw'
    exact (nI_eq (b := 1) (by omega) (by omega)).mp hw'
  subst hs
  obtain ⟨cs, hp, w1, w2, w3, w4, w5⟩ := q11 (by omega)
  have w6 := w5 rfl
  have q00 := hR
  obtain ⟨-, ⟨s0, s1_, s2_⟩, -, u1, u2, u3, -⟩ := q00
  obtain ⟨rr, g1, g2, g3⟩ := just_eq hR hq (by rw [q0]; exact hw)
  rw [g1, g2, Option.bind_some, Option.bind_some]
  unfold f_X2_settle f_X2_settle_b17 f_X2_settle_b33 f_X2_settle_b59 f_X2_settle_b100 f_X5_decide_b50 f_X5_decide_b88 f_X5_decide_b114
  have d0 : f_X3_cell σ1 2 (nI q) (0 : Int32) = some (nI p) := (hR.pap (k := 0) hq (by omega)).trans (by rw [q0, Nat.add_zero, q1])
  have d4 : f_X3_cell σ1 2 (nI q) (4 : Int32) = some (nI k) := (hR.pap (k := 4) hq (by omega)).trans (by rw [q0, q7])
  have d7 : f_X3_cell σ1 2 (nI q) (7 : Int32) = some (iI hp) := (hR.pap6 (k := 7) hq (by omega)).trans (by rw [q0, q9, if_neg (by decide), w3])
  rw [d0, d4, d7]
  have M : ∀ k : Nat, ((144 : Int32) + ((8 : Int32) * nI q)) + nI k = nI (144 + 8 * q + k) := fun k => pix q k
  have G : ∀ (j : Nat), j < 624 → ∀ o : Option (Int32 × Sg), gd (inb (nI j) 624) o = o := fun j hj o => gd_of (inb_n hj (by omega))
  simp only [Option.bind_some, lt, lts]
  rw [show ((144 : Int32) + (8 : Int32) * nI q) + (5 : Int32) = nI (144 + 8 * q + 5) from M 5, show ((144 : Int32) + (8 : Int32) * nI q) + (4 : Int32) = nI (144 + 8 * q + 4) from M 4]
  simp only [G (144 + 8 * q + 5) (by omega), G (144 + 8 * q + 4) (by omega), ix_n (show 144 + 8 * q + 5 < 2 ^ 31 by omega), ix_n (show 144 + 8 * q + 4 < 2 ^ 31 by omega), s2_self, s2_s2]
  simp only [sheet_0 (show q < 60 by omega), sheet_4 (show q < 60 by omega), sheet_7 (show q < 60 by omega), s2_self, s2_s2, Option.bind_some]
  have a4 : ∀ z : Int32, upd (τ1.2 0) (144 + 8 * q + 5) z (144 + 8 * q + 4) = nI k := fun z => by rw [upd_ne (by omega), q0, q7]
  have a7 : ∀ z : Int32, upd (τ1.2 0) (144 + 8 * q + 5) z (144 + 8 * q + 7) = iI hp := fun z => by rw [upd_ne (by omega), q0, w3]
  have a0 : ∀ z y : Int32, upd (upd (τ1.2 0) (144 + 8 * q + 5) z) (144 + 8 * q + 4) y (144 + 8 * q) = nI p := fun z y => by rw [upd_ne (by omega), upd_ne (by omega), q0, q1]
  simp only [a4, a7, a0]
  have P : ∀ k : Nat, ((84 : Int32) + ((5 : Int32) * nI p)) + nI k = nI (84 + 5 * p + k) := fun k => six p k
  rw [show ((84 : Int32) + (5 : Int32) * nI p) + (3 : Int32) = nI (84 + 5 * p + (3 + 0)) from P 3, show ((84 : Int32) + (5 : Int32) * nI p) + (4 : Int32) = nI (84 + 5 * p + (3 + 1)) from P 4]
  simp only [G (84 + 5 * p + (3 + 0)) (by omega), G (84 + 5 * p + (3 + 1)) (by omega), ix_n (show 84 + 5 * p + (3 + 0) < 2 ^ 31 by omega), ix_n (show 84 + 5 * p + (3 + 1) < 2 ^ 31 by omega)]
  have aP : ∀ (z y : Int32) (j : Nat), j < 2 → upd (upd (τ1.2 0) (144 + 8 * q + 5) z) (144 + 8 * q + 4) y (84 + 5 * p + (3 + j)) = τ1.2 0 (84 + 5 * p + (3 + j)) := fun z y j hj => by rw [upd_ne (by omega), upd_ne (by omega)]
  simp only [aP _ _ 0 (by omega), aP _ _ 1 (by omega)]
  have hw1 : waitsQ (τ1.2 0) q := by rw [q0]; exact hw
  rcases g3 with rfl | ⟨rfl, hpos⟩
  · simp only [if_true]
    have fin : ∀ (d : Int32) (k' : Nat), k' ≤ 10 → nI k + d = nI k' → Sim (((f_X3_put σ1 2 (nI q) (5 : Int32) (3 : Int32)).bind fun σ6 => (f_X3_increase σ6 2 (nI q) (4 : Int32) d).bind fun σ7 => (f_X3_increase σ7 1 (nI p) (4 : Int32) d).bind fun σ8 => (f_X3_increase σ8 1 (nI p) (7 : Int32) (1 : Int32)).bind fun σ10 => some σ10).bind fun σ5 => some ((2 : Int32) * nI q + 0, σ5)) (some ((2 : Int32) * nI q + 0, s2 τ1 0 (upd (upd (upd (τ1.2 0) (144 + 8 * q + 5) (3 : Int32)) (144 + 8 * q + 4) (nI k + d)) (84 + 5 * p + (3 + 1)) (τ1.2 0 (84 + 5 * p + (3 + 1)) + 1)))) := by
      intro d k' hk' hd
      obtain ⟨σ', z1, z2, z3⟩ := settle_ok (z := 3) (y := 1) (d := d) (r := 0) hR hq (by rw [q0]; exact q1) q2 hw1 (Or.inr rfl) (by omega) hk' (by rw [q0, q7]; exact hd)
      rw [show f_X3_put σ1 2 (nI q) (5 : Int32) (3 : Int32) = f_X3_put σ1 2 (nI q) (5 : Int32) (nI 3) from rfl]
      rw [show (((f_X3_put σ1 2 (nI q) (5 : Int32) (nI 3)).bind fun σ6 => (f_X3_increase σ6 2 (nI q) (4 : Int32) d).bind fun σ7 => (f_X3_increase σ7 1 (nI p) (4 : Int32) d).bind fun σ8 => (f_X3_increase σ8 1 (nI p) (7 : Int32) (1 : Int32)).bind fun σ10 => some σ10)) = some σ' from z1, Option.bind_some, hd]
      exact ⟨_, σ', s2 τ1 0 _, rfl, rfl, hI1.act z2 (smn_s2 (by omega)) ⟨a, b, c, by rw [s2_self]; exact z3⟩⟩
    by_cases hk0 : nI k ≤ 0
    · have : k = 0 := by
        rw [show (0 : Int32) = nI 0 from rfl, nI_leN (by omega) (by omega)] at hk0; omega
      simp only [hk0, if_true]
      exact fin 0 k q8 (Int32.add_zero _)
    · have : 0 < k := by
        rw [show (0 : Int32) = nI 0 from rfl, nI_leN (by omega) (by omega)] at hk0; omega
      simp only [hk0, if_false]
      exact fin (-1) (k - 1) (by omega) (by rw [nI_iI, show (-1 : Int32) = iI (-1) from rfl, iI_add, nI_iI]; congr 1; omega)
  · have hpos' : 0 < hp := by
      rw [q0, w3, show (0 : Int32) = iI 0 from rfl, iI_lt ⟨by omega, by omega⟩ ⟨by omega, by omega⟩] at hpos
      exact hpos
    simp only [show ¬ (1 : Int32) = 0 by decide, if_false, ite_self]
    obtain ⟨k', hk'⟩ : ∃ k' : Nat, (k' : Int) = (k : Int) + hp := ⟨((k : Int) + hp).toNat, by omega⟩
    have hd : nI k + iI hp = nI k' := by rw [nI_iI, iI_add, nI_iI, hk']
    obtain ⟨σ', z1, z2, z3⟩ := settle_ok (z := 2) (y := 0) (d := iI hp) (k' := k') (r := 0) hR hq (by rw [q0]; exact q1) q2 hw1 (Or.inl rfl) (by omega) (by omega) (by rw [q0, q7]; exact hd)
    rw [show f_X3_put σ1 2 (nI q) (5 : Int32) (2 : Int32) = f_X3_put σ1 2 (nI q) (5 : Int32) (nI 2) from rfl]
    rw [show (((f_X3_put σ1 2 (nI q) (5 : Int32) (nI 2)).bind fun σ6 => (f_X3_increase σ6 2 (nI q) (4 : Int32) (iI hp)).bind fun σ7 => (f_X3_increase σ7 1 (nI p) (4 : Int32) (iI hp)).bind fun σ8 => (f_X3_increase σ8 1 (nI p) (6 : Int32) (1 : Int32)).bind fun σ10 => some σ10)) = some σ' from z1, Option.bind_some, hd]
    exact ⟨_, σ', s2 τ1 0 _, rfl, rfl, hI1.act z2 (smn_s2 (by omega)) ⟨a, b, c, by rw [s2_self]; exact z3⟩⟩
end DECIDE
