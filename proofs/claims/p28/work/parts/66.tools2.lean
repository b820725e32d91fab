/-! THE LAW'S TOOLS: announce; the whole. -/
section TO2
variable {σ τ σ' τ' : Sg} {a b c i p q : Nat}
theorem tell_l (h : SI σ a b c (τ.2 0)) {tr : Nat} (ht : tr < 4) (h0 : 0 < tr) {v5 v7 : Int32} : ∀ (m n j : Nat), m + j = b → m < n → f_L_tools_b383 n σ v5 (nI tr) v7 (nI (cntK (τ.2 0) ((1 : Int32) <<< ((nI tr - (1 : Int32)) &&& 31)) j)) (nI j) = f_L_tools_b431 σ v5 (nI tr) v7 (nI (cntK (τ.2 0) ((1 : Int32) <<< ((nI tr - (1 : Int32)) &&& 31)) b)) := by
  have hb := h.1.2.1
  intro m
  induction m with
  | zero =>
    intro n j hm hn
    obtain ⟨n, rfl⟩ : ∃ z, n = z + 1 := ⟨n - 1, by omega⟩
    have hj : j = b := by omega
    subst hj
    rw [f_L_tools_b383.eq_2, r_cnt1 h, Option.bind_some, if_pos (Int32.le_refl _)]
  | succ m ih =>
    intro n j hm hn
    obtain ⟨n, rfl⟩ : ∃ z, n = z + 1 := ⟨n - 1, by omega⟩
    obtain ⟨e, hh, kn, -, -, hk, -, -, k3, -, -, -⟩ := pup_cells h (p := j) (by omega)
    have kb := know_bits kn hk tr ht h0
    have es : cntK (τ.2 0) ((1 : Int32) <<< ((nI tr - (1 : Int32)) &&& 31)) (j + 1) = cntK (τ.2 0) ((1 : Int32) <<< ((nI tr - (1 : Int32)) &&& 31)) j + (if decide (τ.2 0 (84 + 5 * j + 2) &&& ((1 : Int32) <<< ((nI tr - (1 : Int32)) &&& 31)) = 0) = true then 1 else 0) := rfl
    have go := ih n (j + 1) (by omega) (by omega)
    rw [es, k3] at go
    rw [f_L_tools_b383.eq_2, r_cnt1 h, Option.bind_some, if_neg (by rw [nI_leN (by omega) (by omega)]; omega), if_neg (by rw [show (0 : Int32) = nI 0 from rfl, nI_leN (by omega) (by omega)]; omega), show f_X4_pupil σ (nI j) (2 : Int32) = some (nI kn) from (r_pup3 (k := 2) h (by omega) (by omega)).trans (by rw [k3]), Option.bind_some]
    unfold f_L_tools_b422
    simp only [lt]
    rw [nI_1 j]
    by_cases hc : eff kn tr = tr
    · rw [if_pos (kb.2.mpr hc), nI_1]
      rw [if_pos (decide_eq_true (kb.1.mpr hc))] at go
      exact go
    · rw [if_neg (fun z => hc (kb.2.mp z)), Int32.add_zero]
      rw [if_neg (by rw [decide_eq_true_eq]; exact fun z => hc (kb.1.mp z)), Nat.add_zero] at go
      exact go
theorem tools_announce (h : GS σ τ a b c) (hi : i < a) {w : Int32} (hw : (w = 1 ∧ τ.2 0 (4 + 8 * i + 7) = 1) ∨ (w = 0 ∧ ¬ τ.2 0 (4 + 8 * i + 7) = 1)) : EvO τ (f_L_tools_b375 σ (nI i) (τ.2 0 (4 + 8 * i + 6)) w) := by
  have ha := h.2.1.1.1
  have hb := h.2.1.1.2.1
  obtain ⟨N, U, Ln, z, g, tr, ⟨-, -, -, -, -, i6_, -, -, -, -, -, htr⟩, -, -⟩ := ins_v h.2.1 hi
  unfold f_L_tools_b375
  rcases Nat.eq_zero_or_pos tr with t0 | t0
  · subst t0
    have e6 : τ.2 0 (4 + 8 * i + 6) = 0 := i6_
    have e1 : f_L_tools_b383 fuel σ (nI i) (τ.2 0 (4 + 8 * i + 6)) w (0 : Int32) (0 : Int32) = f_L_tools_b431 σ (nI i) 0 w 0 := by
      obtain ⟨n, hn⟩ : ∃ n, fuel = n + 1 := ⟨4095, rfl⟩
      rw [hn, f_L_tools_b383.eq_2, r_cnt1 h.2.1, Option.bind_some, e6, if_pos (show (0 : Int32) ≤ 0 by decide), ite_self]
    rw [e1]
    unfold f_L_tools_b431 f_L_tools_b459 f_L_tools_b479
    rcases a_announce h.1 h.2.1 hi with ⟨-, σ1, e, hI⟩ | ⟨q1, -⟩ | ⟨q1, -⟩
    · rw [e, Option.bind_some]
      simp only [lts, lt]
      rw [if_pos (by trivial), if_pos (by trivial), if_pos (by trivial)]
      exact ⟨σ1, τ, a, b, c, rfl, h.stay hI, Or.inl Same.rf⟩
    · exact absurd e6 q1
    · exact absurd e6 q1
  · have ne : ¬ nI tr = 0 := nI_ne0 t0 (by omega)
    have e1 := tell_l (τ := τ) (v5 := nI i) (v7 := w) h.2.1 htr t0 b fuel 0 (by omega) (by unfold fuel; omega)
    rw [i6_, show f_L_tools_b383 fuel σ (nI i) (nI tr) w (0 : Int32) (0 : Int32) = _ from e1]
    unfold f_L_tools_b431 f_L_tools_b459 f_L_tools_b479
    rcases a_announce h.1 h.2.1 hi with ⟨q1, -⟩ | ⟨-, q2, σ1, e, hI⟩ | ⟨-, q2, σ1, τ1, e, hI, hr, hF7, hF⟩
    · rw [i6_] at q1; exact absurd q1 ne
    · have hw1 : w = 1 := by
        rcases hw with ⟨z, -⟩ | ⟨-, z⟩
        · exact z
        · exact absurd q2 z
      have g := h.stay hI
      rw [e, Option.bind_some]
      simp only [lts, lt]
      rw [if_neg ne, hw1, if_neg (by decide), if_pos (by trivial), if_neg ne, show f_X4_instrument σ1 (nI i) (7 : Int32) = _ from r_ins8 (k := 7) g.2.1 hi (by omega), Option.bind_some, if_pos q2]
      exact ⟨σ1, τ, a, b, c, rfl, g, Or.inl Same.rf⟩
    · have hw0 : w = 0 := by
        rcases hw with ⟨-, z⟩ | ⟨z, -⟩
        · exact absurd z q2
        · exact z
      obtain ⟨a', b', g, hle, haa, -⟩ := h.act hI (hF 2 (by omega) (by omega)) (Or.inl (hF 0 (by omega) (by omega))) (fun x hx _ => hF x (by omega) (by omega)) (fun i hi k hk => hF _ (by omega) (by omega))
      have := haa (hF 0 (by omega) (by omega))
      subst this
      rw [e, Option.bind_some]
      simp only [lts, lt]
      rw [if_neg ne, hw0, if_pos (by trivial), i6_, if_pos (by trivial), if_neg ne, show f_X4_instrument σ1 (nI i) (7 : Int32) = _ from r_ins8 (k := 7) g.2.1 hi (by omega), Option.bind_some, if_pos hF7]
      exact ⟨σ1, τ1, a', b', c, rfl, g, Or.inr hr⟩
theorem tools_ok (h : GS σ τ a b c) (p1 p2 p3 : Int32) : EvO τ (f_L_tools σ p1 p2 p3) := by
  have ha := h.2.1.1.1
  unfold f_L_tools
  rw [r_cnt0 h.2.1, Option.bind_some]
  rcases Nat.eq_zero_or_pos a with a0 | a0
  · rw [if_pos (by rw [a0]; rfl)]; exact tools_add h p3
  rw [if_neg (nI_ne0 a0 (by omega))]
  by_cases s0 : p1 = 0
  · rw [if_pos s0]; exact tools_add h p3
  obtain ⟨i, hi, ei⟩ := low_in (σ := σ) (n := a) (x := p2) a0 (by omega)
  rw [if_neg s0, ei, Option.bind_some]
  obtain ⟨N, U, Ln, z, g, tr, ⟨i0_, i1_, i2_, i4_, i5_, i6_, hN, hU, hL, hz, hg, htr⟩, -, hb7⟩ := ins_v h.2.1 hi
  have w2 := pu_bd hU.2 hN.2
  have w0 := pu_nn U N
  by_cases s1 : p1 = (1 : Int32)
  · rw [if_pos s1, show f_X4_instrument σ (nI i) (0 : Int32) = some (nI N) from (r_ins8 (k := 0) h.2.1 hi (by omega)).trans (by rw [Nat.add_zero, i0_]), Option.bind_some, show f_X4_instrument σ (nI i) (1 : Int32) = some (nI U) from (r_ins8 (k := 1) h.2.1 hi (by omega)).trans (by rw [i1_]), Option.bind_some]
    simp only [lt]
    obtain ⟨W, hW⟩ : ∃ W : Nat, (W : Int) = pu U N := ⟨(pu U N).toNat, by omega⟩
    obtain ⟨m, hm, em⟩ := low_in (σ := σ) (n := 2 * W + 1) (x := p3) (by omega) (by omega)
    obtain ⟨y, hy, ey⟩ := low_in (σ := σ) (n := 21) (x := p3 >>> ((7 : Int32) &&& 31)) (by omega) (by omega)
    have eW : (2 : Int32) * iI (pu U N) + (1 : Int32) = nI (2 * W + 1) := by
      rw [show (2 : Int32) = iI 2 from rfl, show (1 : Int32) = iI 1 from rfl, iI_mul, iI_add, nI_iI]; congr 1; omega
    rw [nI_pu, eW, em, Option.bind_some, show f_L_low σ (p3 >>> ((7 : Int32) &&& 31)) (21 : Int32) = _ from ey, Option.bind_some, show f_X4_instrument σ (nI i) (4 : Int32) = _ from r_ins8 (k := 4) h.2.1 hi (by omega), Option.bind_some, show f_X4_instrument σ (nI i) (5 : Int32) = _ from r_ins8 (k := 5) h.2.1 hi (by omega), Option.bind_some, show nI m - iI (pu U N) = iI ((m : Int) - pu U N) by rw [nI_iI, iI_sub]]
    unfold f_L_tools_b190
    have T : ∀ w : Int32, _ → _ := fun w hw => tools_adjust h hi i0_ i1_ hN.2 hU.2 (x := (m : Int) - pu U N) (y := y) ⟨by omega, by omega⟩ (by omega) (w := w) hw
    by_cases e4 : τ.2 0 (4 + 8 * i + 4) = iI ((m : Int) - pu U N)
    · rw [if_pos e4]
      by_cases e5 : τ.2 0 (4 + 8 * i + 5) = nI y
      · rw [if_pos e5]; exact T 1 (Or.inl ⟨rfl, e4, e5⟩)
      · rw [if_neg e5]; exact T 0 (Or.inr ⟨rfl, fun z => e5 z.2⟩)
    · rw [if_neg e4]; exact T 0 (Or.inr ⟨rfl, fun z => e4 z.1⟩)
  rw [if_neg s1]
  by_cases s2 : p1 = (2 : Int32)
  · obtain ⟨y, hy, ey⟩ := low_in (σ := σ) (n := 4) (x := p3) (by omega) (by omega)
    rw [if_pos s2, show f_X4_instrument σ (nI i) (6 : Int32) = _ from r_ins8 (k := 6) h.2.1 hi (by omega), Option.bind_some, show f_L_low σ p3 (4 : Int32) = _ from ey, Option.bind_some]
    exact tools_trap h hi (by omega)
  rw [if_neg s2, show f_X4_instrument σ (nI i) (6 : Int32) = _ from r_ins8 (k := 6) h.2.1 hi (by omega), Option.bind_some, show f_X4_instrument σ (nI i) (7 : Int32) = _ from r_ins8 (k := 7) h.2.1 hi (by omega), Option.bind_some]
  by_cases e7 : τ.2 0 (4 + 8 * i + 7) = 1
  · rw [if_pos e7]; exact tools_announce h hi (Or.inl ⟨rfl, e7⟩)
  · rw [if_neg e7]; exact tools_announce h hi (Or.inr ⟨rfl, e7⟩)
end TO2
