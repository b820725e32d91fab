/-! THE LAW'S APPEALS. -/
section AP
variable {σ τ σ' τ' : Sg} {a b c i p q : Nat}
theorem bad_appeal {f : Nat → Int32} (h : SI σ a b c f) (hq : q < c) : f_X4_appeal σ (nI q) (4 : Int32) = some ((-10000002 : Int32), σ) := by
  obtain ⟨⟨ha, hb, hc⟩, ⟨r0, r1, r2⟩, -⟩ := h
  unfold f_X4_appeal
  rw [lacks_in r2 hq (by omega), Option.bind_some, if_pos rfl, outside_hi (by decide), Option.bind_some, if_neg (by decide)]
theorem appeal_none {f : Nat → Int32} (h : SI σ a b c f) (h0 : c = 0) : f_X4_appeal σ (0 : Int32) (1 : Int32) = some ((-10000001 : Int32), σ) := by
  obtain ⟨⟨ha, hb, hc⟩, ⟨r0, r1, r2⟩, -⟩ := h
  unfold f_X4_appeal
  rw [lacks_big r2 (by rw [h0]; decide), Option.bind_some, if_neg (by decide)]
/-- an act on one paper -/
theorem GS.onPaper (h : GS σ τ a b c) (h' : Inv σ' τ') (hq : q < c) (hQ : papJ (τ'.2 0) a q) (fr : ∀ x, (x < 84 ∨ 144 ≤ x) → (x < 144 + 8 * q ∨ 144 + 8 * q + 8 ≤ x) → τ'.2 0 x = τ.2 0 x) : GS σ' τ' a b c := by
  obtain ⟨a', b', c', s⟩ := h'.si
  obtain ⟨⟨ha, hb, hc⟩, -⟩ := id h.2.1
  obtain ⟨e0, e1, e2⟩ := h.2.1.c0
  obtain ⟨rfl, rfl, rfl⟩ := s.counts2 (f := τ.2 0) (by rw [fr 0 (by omega) (by omega)]; exact e0) (by rw [fr 1 (by omega) (by omega)]; exact e1) (by rw [fr 2 (by omega) (by omega)]; exact e2) (by omega) (by omega) (by omega)
  refine ⟨h', s, fun j hj => ?_⟩
  by_cases e : j = q
  · subst e; exact hQ
  · exact (h.2.2 j hj).keep (fun k hk => fr _ (by omega) (by omega)) (fun i hi k hk => fr _ (by omega) (by omega)) (Nat.le_refl _)
theorem low_same {x n : Int32} : f_L_low σ' x n = f_L_low σ x n := rfl
theorem appeals_in (h : GS σ τ a b c) (hq : q < c) {t : Nat} (ht : t < 3) {p3 : Int32} (et : f_L_low σ p3 (3 : Int32) = some (nI t)) : EvO τ ((f_X4_appeal σ (nI q) ((1 : Int32) + nI t)).bind fun q53 => lts q53.2 fun σ37 => lt q53.1 fun r36 => if τ.2 0 (144 + 8 * q + 5) ≤ 0 then (if nI (cntS (τ.2 0) 1 c) = (20 : Int32) then (if r36 = (-10000003 : Int32) then (some ((1 : Int32), σ37)) else none) else ((f_X4_paper σ37 (nI q) (5 : Int32)).bind fun r40 => if r40 = (1 : Int32) then ((f_X4_paper σ37 (nI q) (7 : Int32)).bind fun r42 => if r42 = r36 then ((f_X4_paper σ37 (nI q) (6 : Int32)).bind fun r44 => (f_L_low σ37 p3 (3 : Int32)).bind fun r45 => if r44 = ((1 : Int32) + r45) then ((f_X4_appeal σ37 (nI q) (4 : Int32)).bind fun q50 => lts q50.2 fun σ48 => lt q50.1 fun r47 => if r47 = (-10000002 : Int32) then (some ((1 : Int32), σ48)) else none) else none) else none) else none)) else (if r36 = (-10000004 : Int32) then (some ((1 : Int32), σ37)) else none)) := by
  obtain ⟨⟨ha, hb, hc⟩, -⟩ := id h.2.1
  have hcs : cntS (τ.2 0) 1 c ≤ c := cntB_le _ _
  rw [show (1 : Int32) + nI t = nI (1 + t) by rw [show (1 : Int32) = nI 1 from rfl, nI_add]]
  rcases a_appeal h.1 h.2.1 hq (w := 1 + t) ⟨by omega, by omega⟩ with ⟨z, σ1, e1, hI⟩ | ⟨z0, z, σ1, e1, hI⟩ | ⟨z0, z, zz, σ1, τ1, e1, hI, hr, hF⟩
  · rw [e1, Option.bind_some]
    simp only [lts, lt]
    rw [if_neg (Int32.not_le.mpr z), if_pos (by trivial)]
    exact ⟨σ1, τ, a, b, c, rfl, h.stay hI, Or.inl Same.rf⟩
  · rw [e1, Option.bind_some]
    simp only [lts, lt]
    rw [if_pos (by rw [z0]; decide), if_pos (by rw [z]; rfl), if_pos (by trivial)]
    exact ⟨σ1, τ, a, b, c, rfl, h.stay hI, Or.inl Same.rf⟩
  · rw [e1, Option.bind_some]
    simp only [lts, lt]
    have hF2 : τ1.2 0 = upd (upd (upd (τ.2 0) (144 + 8 * q + 7) (iI zz)) (144 + 8 * q + 6) (nI (1 + t))) (144 + 8 * q + 5) 1 := hF
    have fr : ∀ x, x ≠ 144 + 8 * q + 7 → x ≠ 144 + 8 * q + 6 → x ≠ 144 + 8 * q + 5 → τ1.2 0 x = τ.2 0 x := fun x h1 h2 h3 => by rw [hF2, upd_ne h3, upd_ne h2, upd_ne h1]
    have g5 : τ1.2 0 (144 + 8 * q + 5) = 1 := by rw [hF2, upd_self]
    have g6 : τ1.2 0 (144 + 8 * q + 6) = nI (1 + t) := by rw [hF2, upd_ne (by omega), upd_self]
    have g7 : τ1.2 0 (144 + 8 * q + 7) = iI zz := by rw [hF2, upd_ne (by omega), upd_ne (by omega), upd_self]
    have hQ : papJ (τ1.2 0) a q := by
      obtain ⟨i, U, x, v, k, s, e1, hi, eU, hU, e2, hx, hxs, e3, hv, e4, hk, e5, hs, d1, d2, d3⟩ := h.2.2 q hq
      have s0 : s = 0 := by rw [e5] at z0; exact (nI_eq (b := 0) (by omega) (by omega)).mp z0
      refine ⟨i, U, x, v, k, 1, by rw [fr _ (by omega) (by omega) (by omega)]; exact e1, hi, by rw [fr _ (by omega) (by omega) (by omega)]; exact eU, hU, by rw [fr _ (by omega) (by omega) (by omega)]; exact e2, hx, ?_, by rw [fr _ (by omega) (by omega) (by omega)]; exact e3, hv, by rw [fr _ (by omega) (by omega) (by omega)]; exact e4, hk, g5, by omega, fun _ => d1 (by omega), fun z => absurd z (by omega), fun z => absurd z (by omega)⟩
      rw [fr _ (by omega) (by omega) (by omega), fr _ (by omega) (by omega) (by omega), fr _ (by omega) (by omega) (by omega)]; exact hxs
    have g := h.onPaper hI hq hQ (fun x h1 h2 => fr x (by omega) (by omega) (by omega))
    have n5 : ¬ τ1.2 0 (144 + 8 * q + 5) = 0 := by rw [g5]; decide
    rw [if_pos (by rw [z0]; decide), if_neg (show ¬ nI (cntS (τ.2 0) 1 c) = (20 : Int32) by rw [show (20 : Int32) = nI 20 from rfl, nI_eq (by omega) (by omega)]; omega), show f_X4_paper σ1 (nI q) (5 : Int32) = _ from r_pap6 (k := 5) g.2.1 hq (by omega), Option.bind_some, if_pos g5, show f_X4_paper σ1 (nI q) (7 : Int32) = _ from r_pap67 (k := 7) g.2.1 hq (by omega), if_neg n5, Option.bind_some, if_pos g7, show f_X4_paper σ1 (nI q) (6 : Int32) = _ from r_pap67 (k := 6) g.2.1 hq (by omega), if_neg n5, Option.bind_some, show f_L_low σ1 p3 (3 : Int32) = some (nI t) from et, Option.bind_some, show (1 : Int32) + nI t = nI (1 + t) by rw [show (1 : Int32) = nI 1 from rfl, nI_add], if_pos g6, bad_appeal g.2.1 hq, Option.bind_some]
    simp only []
    rw [if_pos (by trivial)]
    exact ⟨σ1, τ1, a, b, c, rfl, g, Or.inr hr⟩
theorem appeals_decide (h : GS σ τ a b c) {v5 : Int32} (hv : f_X4_waiting σ (0 : Int32) = some v5) (hq : q < c) (hq2 : v5 = nI q) (hia : i < a) (e1 : τ.2 0 (144 + 8 * q + 1) = nI i) : EvO τ (f_L_appeals_b301 σ (nI q) (gB (τ.2 0) i q)) := by
  obtain ⟨⟨ha, hb, hc⟩, -⟩ := id h.2.1
  unfold f_L_appeals_b301 f_L_appeals_b321 f_L_appeals_b342
  rcases a_decide h.1 h.2.1 hv with ⟨z, -⟩ | ⟨q', p, i', hq', z, z5, z1, hi, hp, hh⟩
  · rw [hq2, show (-10000005 : Int32) = iI (-10000005) from rfl, nI_iI, iI_eq ⟨by omega, by omega⟩ ⟨by omega, by omega⟩] at z
    omega
  have hqq : q' = q := by rw [hq2, nI_eq (by omega) (by omega)] at z; exact z.symm
  subst hqq
  have hii : i' = i := by rw [e1, nI_eq (by omega) (by omega)] at z1; exact z1.symm
  subst hii
  obtain ⟨i2, U, x, v, k2, s, f1, hi2, eU, hU, f2, hx, hxs, f3, hv2, f4, hk2, f5, hs, d1, d2, d3⟩ := h.2.2 q' hq
  have s1 : s = 1 := by rw [f5] at z5; exact (nI_eq (b := 1) (by omega) (by omega)).mp z5
  rcases hh with ⟨g0, k, hk, ek, w, σ1, τ1, e, hI, hr, hF⟩ | ⟨g0, k, k', hpz, hk, hk', ek, e7, hb7, ekk, w, σ1, τ1, e, hI, hr, hF⟩
  · have kk : k = k2 := by rw [f4, nI_eq (by omega) (by omega)] at ek; exact ek.symm
    subst kk
    have hF2 : τ1.2 0 = upd (upd (upd (τ.2 0) (144 + 8 * q' + 5) 3) (144 + 8 * q' + 4) (nI (k - 1))) (84 + 5 * p + 4) w := hF
    have fr : ∀ x, x ≠ 84 + 5 * p + 4 → x ≠ 144 + 8 * q' + 4 → x ≠ 144 + 8 * q' + 5 → τ1.2 0 x = τ.2 0 x := fun x h1 h2 h3 => by rw [hF2, upd_ne h1, upd_ne h2, upd_ne h3]
    have g5 : τ1.2 0 (144 + 8 * q' + 5) = 3 := by rw [hF2, upd_ne (by omega), upd_ne (by omega), upd_self]
    have g4 : τ1.2 0 (144 + 8 * q' + 4) = nI (k - 1) := by rw [hF2, upd_ne (by omega), upd_self]
    have hQ : papJ (τ1.2 0) a q' := by
      refine ⟨i2, U, x, v, k - 1, 3, by rw [fr _ (by omega) (by omega) (by omega)]; exact f1, hi2, by rw [fr _ (by omega) (by omega) (by omega)]; exact eU, hU, by rw [fr _ (by omega) (by omega) (by omega)]; exact f2, hx, ?_, by rw [fr _ (by omega) (by omega) (by omega)]; exact f3, hv2, g4, by omega, g5, by omega, fun z => absurd z (by omega), fun z => absurd z (by omega), fun _ => by rw [d1 (by omega)]⟩
      rw [fr _ (by omega) (by omega) (by omega), fr _ (by omega) (by omega) (by omega), fr _ (by omega) (by omega) (by omega)]; exact hxs
    have g := h.onPaper hI hq hQ (fun x h1 h2 => fr x (by omega) (by omega) (by omega))
    rw [g0, e, Option.bind_some]
    simp only [lts, lt]
    rw [if_pos (by trivial), if_pos (by trivial), show f_X4_paper σ1 (nI q') (5 : Int32) = _ from r_pap6 (k := 5) g.2.1 hq (by omega), Option.bind_some, if_pos (by trivial), if_pos g5]
    exact ⟨σ1, τ1, a, b, c, rfl, g, Or.inr hr⟩
  · have kk : k = k2 := by rw [f4, nI_eq (by omega) (by omega)] at ek; exact ek.symm
    subst kk
    have hF2 : τ1.2 0 = upd (upd (upd (τ.2 0) (144 + 8 * q' + 5) 2) (144 + 8 * q' + 4) (nI k')) (84 + 5 * p + 3) w := hF
    have fr : ∀ x, x ≠ 84 + 5 * p + 3 → x ≠ 144 + 8 * q' + 4 → x ≠ 144 + 8 * q' + 5 → τ1.2 0 x = τ.2 0 x := fun x h1 h2 h3 => by rw [hF2, upd_ne h1, upd_ne h2, upd_ne h3]
    have g5 : τ1.2 0 (144 + 8 * q' + 5) = 2 := by rw [hF2, upd_ne (by omega), upd_ne (by omega), upd_self]
    have g4 : τ1.2 0 (144 + 8 * q' + 4) = nI k' := by rw [hF2, upd_ne (by omega), upd_self]
    have hQ : papJ (τ1.2 0) a q' := by
      refine ⟨i2, U, x, v, k', 2, by rw [fr _ (by omega) (by omega) (by omega)]; exact f1, hi2, by rw [fr _ (by omega) (by omega) (by omega)]; exact eU, hU, by rw [fr _ (by omega) (by omega) (by omega)]; exact f2, hx, ?_, by rw [fr _ (by omega) (by omega) (by omega)]; exact f3, hv2, g4, hk', g5, by omega, fun z => absurd z (by omega), fun _ => ⟨hpz, by rw [fr _ (by omega) (by omega) (by omega)]; exact e7, hb7, by rw [ekk, d1 (by omega)]⟩, fun z => absurd z (by omega)⟩
      rw [fr _ (by omega) (by omega) (by omega), fr _ (by omega) (by omega) (by omega), fr _ (by omega) (by omega) (by omega)]; exact hxs
    have g := h.onPaper hI hq hQ (fun x h1 h2 => fr x (by omega) (by omega) (by omega))
    rw [g0, e, Option.bind_some]
    simp only [lts, lt]
    rw [if_neg (by decide), if_pos (by trivial), show f_X4_paper σ1 (nI q') (5 : Int32) = _ from r_pap6 (k := 5) g.2.1 hq (by omega), Option.bind_some, if_neg (by decide), if_pos g5]
    exact ⟨σ1, τ1, a, b, c, rfl, g, Or.inr hr⟩
theorem lt_iff {x y : Int32} : x < y ↔ x.toInt < y.toInt := Int32.lt_iff_toInt_lt
theorem le_iff {x y : Int32} : x ≤ y ↔ x.toInt ≤ y.toInt := Int32.le_iff_toInt_le
theorem appeals_ok (h : GS σ τ a b c) (p1 p2 p3 : Int32) : EvO τ (f_L_appeals σ p1 p2 p3) := by
  obtain ⟨⟨ha, hb, hc⟩, -⟩ := id h.2.1
  unfold f_L_appeals
  rw [r_cnt2 h.2.1, Option.bind_some]
  by_cases s13 : (13 : Int32) ≤ p1
  · rw [if_pos s13]
    rcases waiting_s h.2.1 (k := 0) (by omega) with ⟨q, hq, wq', -, hv⟩ | ⟨-, hv⟩
    · have w5 : τ.2 0 (144 + 8 * q + 5) = 1 := of_decide_eq_true wq'
      have n5 : ¬ τ.2 0 (144 + 8 * q + 5) = 0 := by rw [w5]; decide
      obtain ⟨i, U, x, v, k2, s, f1, hi, eU, hU, -⟩ := h.2.2 q hq
      rw [show f_X4_waiting σ (0 : Int32) = some (nI q) from hv, Option.bind_some, if_pos (Int32.not_lt.mp (nI_lt0 (by omega))), show f_X4_paper σ (nI q) (1 : Int32) = some (nI i) from (r_pap6 (k := 1) h.2.1 hq (by omega)).trans (by rw [f1]), Option.bind_some, show f_X4_paper σ (nI q) (6 : Int32) = _ from r_pap67 (k := 6) h.2.1 hq (by omega), if_neg n5, Option.bind_some, show f_X4_paper σ (nI q) (7 : Int32) = _ from r_pap67 (k := 7) h.2.1 hq (by omega), if_neg n5, Option.bind_some, show f_X4_instrument σ (nI i) (6 : Int32) = _ from r_ins8 (k := 6) h.2.1 hi (by omega), Option.bind_some, show f_X4_instrument σ (nI i) (7 : Int32) = _ from r_ins8 (k := 7) h.2.1 hi (by omega), Option.bind_some, show f_X4_instrument σ (nI i) (5 : Int32) = _ from r_ins8 (k := 5) h.2.1 hi (by omega), Option.bind_some, show f_X4_instrument σ (nI i) (1 : Int32) = _ from r_ins8 (k := 1) h.2.1 hi (by omega), Option.bind_some]
      have D := appeals_decide h (v5 := nI q) hv hq rfl hi f1
      unfold f_L_appeals_b300 f_L_appeals_b296
      have z5 : (5 : Int32).toInt = 5 := rfl
      have z4 : (4 : Int32).toInt = 4 := rfl
      have z10 : (10 : Int32).toInt = 10 := rfl
      have z11 : (11 : Int32).toInt = 11 := rfl
      unfold gB at D
      by_cases h7 : τ.2 0 (144 + 8 * q + 7) ≤ 0
      · rw [if_neg (Int32.not_lt.mpr h7)] at D
        rw [if_pos h7]; exact D
      rw [if_pos (Int32.not_le.mp h7)] at D
      rw [if_neg h7]
      by_cases c1 : τ.2 0 (144 + 8 * q + 6) = 1
      · rw [if_pos c1] at D ⊢
        by_cases t6 : τ.2 0 (4 + 8 * i + 6) ≤ 0
        · rw [if_pos t6] at D ⊢; exact D
        · rw [if_neg t6] at D ⊢
          by_cases t7 : τ.2 0 (4 + 8 * i + 7) = 0
          · rw [if_pos t7] at D ⊢; exact D
          · rw [if_neg t7] at D ⊢; exact D
      · rw [if_neg c1] at D ⊢
        by_cases c2 : τ.2 0 (144 + 8 * q + 6) = 2
        · rw [if_pos c2] at D ⊢
          by_cases t5 : τ.2 0 (4 + 8 * i + 5) ≤ (4 : Int32)
          · rw [if_pos (by rw [lt_iff]; rw [le_iff] at t5; omega)] at D
            rw [if_pos t5]; exact D
          · rw [if_neg (by rw [lt_iff]; rw [le_iff] at t5; omega)] at D
            rw [if_neg t5]; exact D
        · rw [if_neg c2] at D ⊢
          by_cases t1 : (11 : Int32) ≤ τ.2 0 (4 + 8 * i + 1)
          · rw [if_pos (by rw [lt_iff]; rw [le_iff] at t1; omega)] at D
            rw [if_pos t1]; exact D
          · rw [if_neg (by rw [lt_iff]; rw [le_iff] at t1; omega)] at D
            rw [if_neg t1]; exact D
    · have hv' : f_X4_waiting σ (0 : Int32) = some (-10000005) := hv
      rw [hv', Option.bind_some, if_neg (by decide)]
      rcases a_decide h.1 h.2.1 hv' with ⟨-, σ1, e, hI⟩ | ⟨q', p, i', hq', z, -⟩
      · rw [e, Option.bind_some]
        simp only [lts, lt]
        rw [if_pos (by trivial)]
        exact ⟨σ1, τ, a, b, c, rfl, h.stay hI, Or.inl Same.rf⟩
      · rw [show (-10000005 : Int32) = iI (-10000005) from rfl, nI_iI, iI_eq ⟨by omega, by omega⟩ ⟨by omega, by omega⟩] at z
        omega
  · rw [if_neg s13]
    rcases Nat.eq_zero_or_pos c with c0 | c0
    · rw [if_pos (by rw [c0]; rfl), appeal_none h.2.1 c0, Option.bind_some]
      simp only [lts, lt]
      rw [if_pos (by trivial)]
      exact ⟨σ, τ, a, b, c, rfl, h, Or.inl Same.rf⟩
    · obtain ⟨q, hq, eq⟩ := low_in (σ := σ) (n := c) (x := p2) c0 (by omega)
      obtain ⟨t, ht, et⟩ := low_in (σ := σ) (n := 3) (x := p3) (by omega) (by omega)
      rw [if_neg (nI_ne0 c0 (by omega)), eq, Option.bind_some, show f_X4_paper σ (nI q) (5 : Int32) = _ from r_pap6 (k := 5) h.2.1 hq (by omega), Option.bind_some, r_cnt3 h.2.1, Option.bind_some, show f_L_low σ p3 (3 : Int32) = _ from et, Option.bind_some]
      exact appeals_in h hq ht et
end AP
