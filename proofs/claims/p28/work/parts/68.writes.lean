/-! THE LAW'S PAPERS AND APPEALS. -/
theorem papJ.keep {f f' : Nat → Int32} {a a' q : Nat} (h : papJ f a q) (h1 : ∀ k, k < 8 → f' (144 + 8 * q + k) = f (144 + 8 * q + k)) (h2 : ∀ i, i < a → ∀ k, k < 3 → f' (4 + 8 * i + k) = f (4 + 8 * i + k)) (ha : a ≤ a') : papJ f' a' q := by
  obtain ⟨i, U, x, v, k, s, e1, hi, eU, hU, e2, hx, hxs, e3, hv, e4, hk, e5, hs, d1, d2, d3⟩ := h
  refine ⟨i, U, x, v, k, s, by rw [h1 _ (by omega)]; exact e1, by omega, by rw [h2 i hi 1 (by omega)]; exact eU, hU, by rw [h1 _ (by omega)]; exact e2, hx, ?_, by rw [h1 _ (by omega)]; exact e3, hv, by rw [h1 _ (by omega)]; exact e4, hk, by rw [h1 _ (by omega)]; exact e5, hs, d1, fun z => ?_, d3⟩
  · rw [h2 i hi 2 (by omega), h2 i hi 1 (by omega), show f' (4 + 8 * i) = f (4 + 8 * i) from h2 i hi 0 (by omega)]; exact hxs
  · obtain ⟨hp, g1, g2⟩ := d2 z
    exact ⟨hp, by rw [h1 _ (by omega)]; exact g1, g2⟩
section WR
variable {σ τ σ' τ' : Sg} {a b c i p q : Nat}
/-- the counts of a new state -/
theorem SI.counts2 {f g : Nat → Int32} {a' b' c' n0 n1 n2 : Nat} (s : SI σ' a' b' c' g) (h0 : g 0 = nI n0) (h1 : g 1 = nI n1) (h2 : g 2 = nI n2) (k0 : n0 < 1000) (k1 : n1 < 1000) (k2 : n2 < 1000) : a' = n0 ∧ b' = n1 ∧ c' = n2 := by
  obtain ⟨⟨ha', hb', hc'⟩, -⟩ := id s
  obtain ⟨f0, f1, f2⟩ := s.c0
  rw [h0, nI_eq (by omega) (by omega)] at f0
  rw [h1, nI_eq (by omega) (by omega)] at f1
  rw [h2, nI_eq (by omega) (by omega)] at f2
  exact ⟨f0.symm, f1.symm, f2.symm⟩
theorem ins_8v {f : Nat → Int32} (h : SI σ a b c f) (hi : i < a) : ∃ L : Nat, L ≤ 500000 ∧ f (4 + 8 * i + 2) * (f (4 + 8 * i) * f (4 + 8 * i + 1)) = nI L := by
  obtain ⟨N, U, Ln, z, g, tr, ⟨i0_, i1_, i2_, -, -, -, hN, hU, hL, -⟩, -, -⟩ := ins_v h hi
  have w2 := pu_bd hU.2 hN.2
  have w0 := pu_nn U N
  have w3 : ((Ln : Int) * pu U N).natAbs ≤ 200 * 2500 := by
    rw [Int.natAbs_mul]
    exact Nat.mul_le_mul (by omega) (by omega)
  have w4 : 0 ≤ (Ln : Int) * pu U N := Int.mul_nonneg (by omega) (by omega)
  refine ⟨((Ln : Int) * pu U N).toNat, by omega, ?_⟩
  rw [i0_, i1_, i2_, nI_pu, nI_iI, iI_mul, nI_iI, show ((((Ln : Int) * pu U N).toNat : Nat) : Int) = (Ln : Int) * pu U N by omega]
theorem bad_write {f : Nat → Int32} (h : SI σ a b c f) (hp : p < b) (hi : i < a) : f_X4_write σ (nI p) (nI i) (f (4 + 8 * i + 2) * (f (4 + 8 * i) * f (4 + 8 * i + 1)) + 1) = some ((-10000002 : Int32), σ) := by
  obtain ⟨L, hL, eL⟩ := ins_8v h hi
  obtain ⟨⟨ha, hb, hc⟩, ⟨r0, r1, r2⟩, -, t1, -⟩ := h
  unfold f_X4_write f_X2_isNoSetting
  rw [lacks_in r1 hp (by omega), Option.bind_some, if_pos rfl, lacks_in r0 hi (by omega), Option.bind_some, if_pos rfl, show f_X3_cell σ 0 (nI i) (8 : Int32) = some (σ.2 0 (i * 11 + 8)) from cell0 (k := 8) r0 hi ha (by omega), (t1 i hi).2.1, eL, Option.bind_some, nI_1, outside_hi (by rw [nI_leN (by omega) (by omega)]; omega), Option.bind_some, gd_of (by decide), Option.bind_some, if_neg (by decide)]
theorem write_none {f : Nat → Int32} (h : SI σ a b c f) (h0 : a = 0 ∨ b = 0) : f_X4_write σ (0 : Int32) (0 : Int32) (0 : Int32) = some ((-10000001 : Int32), σ) := by
  obtain ⟨⟨ha, hb, hc⟩, ⟨r0, r1, r2⟩, -⟩ := h
  unfold f_X4_write
  rcases Nat.eq_zero_or_pos b with z | z
  · rw [lacks_big r1 (by rw [z]; decide), Option.bind_some, if_neg (by decide)]
  · rw [show f_X3_lacks σ 1 (0 : Int32) = some 0 from lacks_in (i := 0) r1 z (by omega), Option.bind_some, if_pos rfl, lacks_big r0 (by rw [show a = 0 by omega]; decide), Option.bind_some, if_neg (by decide)]
theorem GS.paper (h : GS σ τ a b c) (h' : Inv σ' τ') (hc60 : c < 60) {U : Nat} {x y : Int} (hp : p < b) (hi : i < a) (hU : τ.2 0 (4 + 8 * i + 1) = nI U) (hU2 : 1 ≤ U ∧ U ≤ 50) (hx : 0 ≤ x ∧ x ≤ 500000) (hxs : iI x ≤ τ.2 0 (4 + 8 * i + 2) * (τ.2 0 (4 + 8 * i) * τ.2 0 (4 + 8 * i + 1))) (hy : -1000000 ≤ y ∧ y ≤ 2000000) (hQ : newQ (τ.2 0) (τ'.2 0) c p i x y (mkZ U x y)) : GS σ' τ' a b (c + 1) := by
  obtain ⟨a', b', c', s⟩ := h'.si
  obtain ⟨⟨ha, hb, hc⟩, -⟩ := id h.2.1
  obtain ⟨e0, e1, e2⟩ := h.2.1.c0
  obtain ⟨n0, n1, n2, n3, n4, n5, n6, n7⟩ := hQ
  obtain ⟨rfl, rfl, rfl⟩ := s.counts2 (f := τ.2 0) (by rw [n7 0 (by omega) (by omega)]; exact e0) (by rw [n7 1 (by omega) (by omega)]; exact e1) n6 (by omega) (by omega) (by omega)
  have hins : ∀ i, i < a' → ∀ k, k < 3 → τ'.2 0 (4 + 8 * i + k) = τ.2 0 (4 + 8 * i + k) := fun i hi k hk => n7 _ (by omega) (by omega)
  refine ⟨h', s, fun q hq => ?_⟩
  by_cases e : q = c
  · subst e
    refine ⟨i, U, x, y, mkZ U x y, 0, n1, hi, by rw [hins i hi 1 (by omega)]; exact hU, hU2, n2, hx, ?_, n3, hy, n4, mkZ_le, n5, by omega, fun _ => rfl, fun z => absurd z (by omega), fun z => absurd z (by omega)⟩
    rw [hins i hi 2 (by omega), hins i hi 1 (by omega), show τ'.2 0 (4 + 8 * i) = τ.2 0 (4 + 8 * i) from hins i hi 0 (by omega)]; exact hxs
  · exact (h.2.2 q (by omega)).keep (fun k hk => n7 _ (by omega) (by omega)) hins (Nat.le_refl _)
theorem writes_ok (h : GS σ τ a b c) (p1 p2 : Int32) : EvO τ (f_L_writes σ p1 p2) := by
  obtain ⟨⟨ha, hb, hc⟩, -⟩ := id h.2.1
  have none : (a = 0 ∨ b = 0) → EvO τ (f_L_writes_b16 σ) := fun z => by
    unfold f_L_writes_b16
    rw [write_none h.2.1 z, Option.bind_some]
    simp only [lts, lt]
    rw [if_pos (by trivial)]
    exact ⟨σ, τ, a, b, c, rfl, h, Or.inl Same.rf⟩
  unfold f_L_writes
  rw [r_cnt0 h.2.1, Option.bind_some]
  rcases Nat.eq_zero_or_pos a with a0 | a0
  · rw [if_pos (by rw [a0]; rfl)]; exact none (Or.inl a0)
  rw [if_neg (nI_ne0 a0 (by omega)), r_cnt1 h.2.1, Option.bind_some]
  rcases Nat.eq_zero_or_pos b with b0 | b0
  · rw [if_pos (by rw [b0]; rfl)]; exact none (Or.inr b0)
  rw [if_neg (nI_ne0 b0 (by omega)), Option.bind_some]
  obtain ⟨p, hp, ep⟩ := low_in (σ := σ) (n := b) (x := p1) b0 (by omega)
  obtain ⟨i, hi, ei⟩ := low_in (σ := σ) (n := a) (x := p1 >>> ((5 : Int32) &&& 31)) a0 (by omega)
  obtain ⟨L, hL, eL⟩ := ins_8v h.2.1 hi
  obtain ⟨m, hm, em⟩ := low_in (σ := σ) (n := L + 1) (x := p2) (by omega) (by omega)
  obtain ⟨e, hh, kn, he, hh16, hk, k1, k2, k3, c0, c1, c2⟩ := pup_cells h.2.1 hp
  obtain ⟨N, U, Ln, z, g, tr, ⟨i0_, i1_, -, -, -, -, hN, hU, -⟩, -, -⟩ := ins_v h.2.1 hi
  have hx : (0 : Int) ≤ (m : Int) ∧ (m : Int) ≤ 500000 := ⟨by omega, by omega⟩
  have hxs : iI (m : Int) ≤ τ.2 0 (4 + 8 * i + 2) * (τ.2 0 (4 + 8 * i) * τ.2 0 (4 + 8 * i + 1)) := by
    rw [eL, ← nI_iI, nI_leN (by omega) (by omega)]; omega
  obtain ⟨y, hy, ey⟩ := ans_x h.2.1 hi hx he hh16 hk
  rw [ep, Option.bind_some, Option.bind_some, ei, Option.bind_some, r_ins_8 h.2.1 hi, Option.bind_some, eL, nI_1, em, Option.bind_some, nI_iI m, answer_v h.2.1 hp hi hx hxs c0 c1 c2 ey, Option.bind_some, r_cnt2 h.2.1, Option.bind_some]
  rcases a_write h.1 h.2.1 hp hi hx hxs he hh16 hk k1 k2 k3 i1_ hU hy ey with ⟨z, σ1, e1, hI⟩ | ⟨z, σ1, τ1, e1, hI, hr, hQ⟩
  · have g := h.stay hI
    rw [e1, Option.bind_some]
    simp only [lts, lt]
    rw [r_ins_8 g.2.1 hi, Option.bind_some, bad_write g.2.1 hp hi, Option.bind_some]
    simp only []
    rw [if_pos (by trivial), if_pos (by rw [z]; rfl), if_pos (by trivial)]
    exact ⟨σ1, τ, a, b, c, rfl, g, Or.inl Same.rf⟩
  · have g := h.paper hI z hp hi i1_ hU hx hxs hy hQ
    obtain ⟨n0, n1, n2, n3, n4, n5, n6, n7⟩ := hQ
    have hU' : τ1.2 0 (4 + 8 * i + 1) = nI U := by rw [n7 _ (by omega) (by omega)]; exact i1_
    rw [e1, Option.bind_some]
    simp only [lts, lt]
    rw [r_ins_8 g.2.1 hi, Option.bind_some, bad_write g.2.1 hp hi, Option.bind_some]
    simp only []
    rw [if_pos (by trivial), if_neg (by rw [show (60 : Int32) = nI 60 from rfl, nI_eq (by omega) (by omega)]; omega), mark_l g.2.1 hi hU' hU hx hy, Option.bind_some, if_pos (by trivial), show f_X4_paper σ1 (nI c) (3 : Int32) = _ from r_pap6 (k := 3) g.2.1 (by omega) (by omega), Option.bind_some, if_pos n3, show f_X4_paper σ1 (nI c) (2 : Int32) = _ from r_pap6 (k := 2) g.2.1 (by omega) (by omega), Option.bind_some, if_pos n2, show f_X4_paper σ1 (nI c) (4 : Int32) = _ from r_pap6 (k := 4) g.2.1 (by omega) (by omega), Option.bind_some, if_pos n4]
    exact ⟨σ1, τ1, a, b, c + 1, rfl, g, Or.inr hr⟩
end WR
