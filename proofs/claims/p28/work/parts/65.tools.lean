/-! THE LAW'S TOOLS. -/
def GS (σ τ : Sg) (a b c : Nat) : Prop := Inv σ τ ∧ SI σ a b c (τ.2 0) ∧ J (τ.2 0) a c
def EvO (τ : Sg) (o : Option (Int32 × Sg)) : Prop := ∃ σ' τ' a b c, o = some ((1 : Int32), σ') ∧ GS σ' τ' a b c ∧ (Same τ τ' ∨ Rec τ τ')
section TO
variable {σ τ σ' τ' : Sg} {a b c i p q : Nat}
theorem GS.stay (h : GS σ τ a b c) (h' : Inv σ' τ) : GS σ' τ a b c := by
  obtain ⟨a', b', c', s⟩ := h'.si
  obtain ⟨rfl, rfl, rfl⟩ := h.2.1.counts s
  exact ⟨h', s, h.2.2⟩
theorem SI.c0 {f : Nat → Int32} (h : SI σ a b c f) : f 0 = nI a ∧ f 1 = nI b ∧ f 2 = nI c := h.2.2.1
/-- an act that leaves the papers alone -/
theorem GS.act (h : GS σ τ a b c) (h' : Inv σ' τ') (g2 : τ'.2 0 2 = τ.2 0 2) (g0 : τ'.2 0 0 = τ.2 0 0 ∨ τ'.2 0 0 = nI (a + 1)) (h1 : ∀ x, 144 ≤ x → x < 624 → τ'.2 0 x = τ.2 0 x) (h2 : ∀ i, i < a → ∀ k, k < 3 → τ'.2 0 (4 + 8 * i + k) = τ.2 0 (4 + 8 * i + k)) : ∃ a' b', GS σ' τ' a' b' c ∧ a ≤ a' ∧ (τ'.2 0 0 = τ.2 0 0 → a' = a) ∧ (τ'.2 0 1 = τ.2 0 1 → b' = b) := by
  obtain ⟨a', b', c', s⟩ := h'.si
  obtain ⟨⟨ha, hb, hc⟩, -⟩ := id h.2.1
  obtain ⟨⟨ha', hb', hc'⟩, -⟩ := id s
  obtain ⟨e0, e1, e2⟩ := h.2.1.c0
  obtain ⟨f0, f1, f2⟩ := s.c0
  rw [g2, e2, nI_eq (by omega) (by omega)] at f2
  subst f2
  have haa : τ'.2 0 0 = τ.2 0 0 → a' = a := fun z => by rw [z, e0, nI_eq (by omega) (by omega)] at f0; exact f0.symm
  have hle : a ≤ a' := by
    rcases g0 with z | z
    · rw [haa z]; exact Nat.le_refl _
    · rw [z, nI_eq (by omega) (by omega)] at f0; omega
  exact ⟨a', b', ⟨h', s, h.2.2.keep h1 h2 hc hle⟩, hle, haa, fun z => by rw [z, e1, nI_eq (by omega) (by omega)] at f1; exact f1.symm⟩
theorem bad_add : f_X4_addInstrument σ (51 : Int32) (1 : Int32) (2 : Int32) (0 : Int32) = some ((-10000002 : Int32), σ) := by
  unfold f_X4_addInstrument
  rw [outside_hi (by decide), Option.bind_some, if_neg (by decide)]
theorem bad_adjust {f : Nat → Int32} (h : SI σ a b c f) (hi : i < a) {N U : Nat} (hN : f (4 + 8 * i) = nI N) (hU : f (4 + 8 * i + 1) = nI U) (hN2 : N ≤ 50) (hU2 : U ≤ 50) : f_X4_adjust σ (nI i) (iI (pu U N) + 1) (0 : Int32) = some ((-10000002 : Int32), σ) := by
  have h' := h
  have w2 := pu_bd hU2 hN2
  have w0 := pu_nn U N
  obtain ⟨⟨ha, hb, hc⟩, ⟨r0, r1, r2⟩, -⟩ := h
  unfold f_X4_adjust f_X2_mainDivision
  rw [lacks_in r0 hi (by omega), Option.bind_some, if_pos rfl, show f_X3_cell σ 0 (nI i) (0 : Int32) = some (nI N) from (R3.ins h' hi 0 (by omega)).trans (by rw [Nat.add_zero, hN]), show f_X3_cell σ 0 (nI i) (1 : Int32) = some (nI U) from (R3.ins h' hi 1 (by omega)).trans (by rw [hU])]
  simp only [Option.bind_some, lt]
  rw [nI_pu, show (1 : Int32) = iI 1 from rfl, iI_add, outside_hi (by rw [iI_le ⟨by omega, by omega⟩ ⟨by omega, by omega⟩]; omega), Option.bind_some, if_neg (by decide)]
theorem ins_v {f : Nat → Int32} (h : SI σ a b c f) (hi : i < a) : ∃ (N U Ln : Nat) (z : Int) (g tr : Nat), insOK f i N U Ln z g tr ∧ (f (4 + 8 * i + 3) = 0 ∨ f (4 + 8 * i + 3) = 1) ∧ (f (4 + 8 * i + 7) = 0 ∨ f (4 + 8 * i + 7) = 1) := by
  obtain ⟨⟨N, U, Ln, z, g, tr, hok⟩, h3, h7⟩ := h.2.2.2.2.2.2.1 i hi
  exact ⟨N, U, Ln, z, g, tr, hok, h3, h7⟩
theorem tools_add (h : GS σ τ a b c) (x : Int32) : EvO τ (f_L_tools_b16 σ x (nI a)) := by
  have ha := h.2.1.1.1
  obtain ⟨m3, l3, e3⟩ := low_in (σ := σ) (n := 30) (x := x) (by omega) (by omega)
  obtain ⟨m4, l4, e4⟩ := low_in (σ := σ) (n := 12) (x := x >>> ((5 : Int32) &&& 31)) (by omega) (by omega)
  obtain ⟨m5, l5, e5⟩ := low_in (σ := σ) (n := 12) (x := x >>> ((9 : Int32) &&& 31)) (by omega) (by omega)
  have go : ∀ u : Int32, (u = 0 ∨ u = 1) → EvO τ (f_L_tools_b58 σ (nI a) u ((2 : Int32) + nI m5) ((1 : Int32) + nI m4) ((2 : Int32) + nI m3)) := by
    intro u hu
    unfold f_L_tools_b58 f_L_tools_b79
    rw [show (2 : Int32) = nI 2 from rfl, show (1 : Int32) = nI 1 from rfl, nI_add, nI_add, nI_add]
    rcases a_addInstrument h.1 h.2.1 (N := 2 + m3) (U := 1 + m4) (Ln := 2 + m5) (u := u) ⟨by omega, by omega⟩ ⟨by omega, by omega⟩ ⟨by omega, by omega⟩ hu with ⟨z, σ1, e, hI⟩ | ⟨z, σ1, τ1, e, hI, hr, hF, hF0⟩
    · rw [e, Option.bind_some]
      simp only [lts, lt]
      rw [if_pos (by rw [z]; rfl), if_pos (by trivial), show f_X4_addInstrument σ1 (51 : Int32) (nI 1) (nI 2) (0 : Int32) = _ from bad_add, Option.bind_some, if_pos rfl]
      exact ⟨σ1, τ, a, b, c, rfl, h.stay hI, Or.inl Same.rf⟩
    · rw [e, Option.bind_some]
      simp only [lts, lt]
      rw [if_neg (by rw [show (10 : Int32) = nI 10 from rfl, nI_eq (by omega) (by omega)]; omega), if_pos (by trivial), show f_X4_addInstrument σ1 (51 : Int32) (nI 1) (nI 2) (0 : Int32) = _ from bad_add, Option.bind_some, if_pos rfl]
      obtain ⟨a', b', g, -⟩ := h.act hI (hF 2 (by omega) (by omega)) (Or.inr hF0) (fun x hx _ => hF x (by omega) (by omega)) (fun i hi k hk => hF _ (by omega) (by omega))
      exact ⟨σ1, τ1, a', b', c, rfl, g, Or.inr hr⟩
  unfold f_L_tools_b16
  rw [show f_L_low σ x (30 : Int32) = _ from e3, Option.bind_some, show f_L_low σ (x >>> ((5 : Int32) &&& 31)) (12 : Int32) = _ from e4, Option.bind_some, show f_L_low σ (x >>> ((9 : Int32) &&& 31)) (12 : Int32) = _ from e5, Option.bind_some]
  by_cases hx : x &&& (1 : Int32) = (1 : Int32)
  · rw [if_pos hx]; exact go 1 (Or.inr rfl)
  · rw [if_neg hx]; exact go 0 (Or.inl rfl)
theorem tools_adjust (h : GS σ τ a b c) (hi : i < a) {N U : Nat} (hN : τ.2 0 (4 + 8 * i) = nI N) (hU : τ.2 0 (4 + 8 * i + 1) = nI U) (hN2 : N ≤ 50) (hU2 : U ≤ 50) {x : Int} {y : Nat} (hx : -(pu U N) ≤ x ∧ x ≤ pu U N) (hy : y ≤ 20) {w : Int32}
    (hw : (w = 1 ∧ τ.2 0 (4 + 8 * i + 4) = iI x ∧ τ.2 0 (4 + 8 * i + 5) = nI y) ∨ (w = 0 ∧ ¬ (τ.2 0 (4 + 8 * i + 4) = iI x ∧ τ.2 0 (4 + 8 * i + 5) = nI y))) : EvO τ (f_L_tools_b191 σ (nI i) (iI (pu U N)) (iI x) (nI y) (τ.2 0 (4 + 8 * i + 4)) w) := by
  have ha := h.2.1.1.1
  unfold f_L_tools_b191 f_L_tools_b215
  rcases a_adjust h.1 h.2.1 hi hN hU hN2 hU2 hx hy with ⟨q1, q2, σ1, e, hI⟩ | ⟨q1, σ1, τ1, e, hI, hr, hF⟩
  · rw [e, Option.bind_some]
    simp only [lts, lt]
    have hw1 : w = 1 := by
      rcases hw with ⟨z, -⟩ | ⟨-, z⟩
      · exact z
      · exact absurd ⟨q1, q2⟩ z
    have g := h.stay hI
    rw [hw1, if_neg (show ¬ (1 : Int32) = 0 by decide), if_pos (by trivial), show f_X4_instrument σ1 (nI i) (4 : Int32) = _ from r_ins8 (k := 4) g.2.1 hi (by omega), Option.bind_some, if_pos q1, show f_X4_instrument σ1 (nI i) (5 : Int32) = _ from r_ins8 (k := 5) g.2.1 hi (by omega), Option.bind_some, if_pos q2, bad_adjust g.2.1 hi hN hU hN2 hU2, Option.bind_some, if_pos rfl]
    exact ⟨σ1, τ, a, b, c, rfl, g, Or.inl Same.rf⟩
  · rw [e, Option.bind_some]
    simp only [lts, lt]
    have hw0 : w = 0 := by
      rcases hw with ⟨-, z⟩ | ⟨z, -⟩
      · exact absurd z q1
      · exact z
    have hF2 : τ1.2 0 = upd (upd (τ.2 0) (4 + 8 * i + 4) (iI x)) (4 + 8 * i + 5) (nI y) := hF
    have fr : ∀ z, z ≠ 4 + 8 * i + 4 → z ≠ 4 + 8 * i + 5 → τ1.2 0 z = τ.2 0 z := fun z h1 h2 => by rw [hF2, upd_ne h2, upd_ne h1]
    obtain ⟨a', b', g, hle, haa, -⟩ := h.act hI (fr 2 (by omega) (by omega)) (Or.inl (fr 0 (by omega) (by omega))) (fun x hx _ => fr x (by omega) (by omega)) (fun i hi k hk => fr _ (by omega) (by omega))
    have := haa (fr 0 (by omega) (by omega))
    subst this
    rw [hw0, if_pos (by trivial), if_pos (by trivial), show f_X4_instrument σ1 (nI i) (4 : Int32) = _ from r_ins8 (k := 4) g.2.1 hi (by omega), Option.bind_some, if_pos (by rw [hF2, upd_ne (by omega), upd_self]), show f_X4_instrument σ1 (nI i) (5 : Int32) = _ from r_ins8 (k := 5) g.2.1 hi (by omega), Option.bind_some, if_pos (by rw [hF2, upd_self]), bad_adjust g.2.1 hi (by rw [fr _ (by omega) (by omega)]; exact hN) (by rw [fr _ (by omega) (by omega)]; exact hU) hN2 hU2, Option.bind_some, if_pos rfl]
    exact ⟨σ1, τ1, a', b', c, rfl, g, Or.inr hr⟩
theorem tools_trap (h : GS σ τ a b c) (hi : i < a) {y : Nat} (hy : y ≤ 3) : EvO τ ((f_X4_setTrap σ (nI i) (nI y)).bind fun q50 => lts q50.2 fun σ42 => lt q50.1 fun r41 => if τ.2 0 (4 + 8 * i + 6) = nI y then (f_L_tools_b308 σ42 (nI i) (τ.2 0 (4 + 8 * i + 6)) (nI y) (-10000005 : Int32) r41) else (f_L_tools_b308 σ42 (nI i) (τ.2 0 (4 + 8 * i + 6)) (nI y) (τ.2 0 (4 + 8 * i + 6)) r41)) := by
  have ha := h.2.1.1.1
  unfold f_L_tools_b308 f_L_tools_b342
  rcases a_setTrap h.1 h.2.1 hi hy with ⟨q1, σ1, e, hI⟩ | ⟨q1, σ1, τ1, e, hI, hr, hF⟩
  · rw [e, Option.bind_some]
    simp only [lts, lt]
    have g := h.stay hI
    rw [if_pos q1, if_pos (by trivial), show f_X4_instrument σ1 (nI i) (6 : Int32) = _ from r_ins8 (k := 6) g.2.1 hi (by omega), Option.bind_some, if_pos q1, if_pos q1]
    exact ⟨σ1, τ, a, b, c, rfl, g, Or.inl Same.rf⟩
  · rw [e, Option.bind_some]
    simp only [lts, lt]
    have hF2 : τ1.2 0 = upd (upd (τ.2 0) (4 + 8 * i + 6) (nI y)) (4 + 8 * i + 7) 0 := hF
    have fr : ∀ z, z ≠ 4 + 8 * i + 6 → z ≠ 4 + 8 * i + 7 → τ1.2 0 z = τ.2 0 z := fun z h1 h2 => by rw [hF2, upd_ne h2, upd_ne h1]
    obtain ⟨a', b', g, hle, haa, -⟩ := h.act hI (fr 2 (by omega) (by omega)) (Or.inl (fr 0 (by omega) (by omega))) (fun x hx _ => fr x (by omega) (by omega)) (fun i hi k hk => fr _ (by omega) (by omega))
    have := haa (fr 0 (by omega) (by omega))
    subst this
    rw [if_neg q1, if_pos (by trivial), show f_X4_instrument σ1 (nI i) (6 : Int32) = _ from r_ins8 (k := 6) g.2.1 hi (by omega), Option.bind_some, if_pos (by rw [hF2, upd_ne (by omega), upd_self]), if_neg q1, show f_X4_instrument σ1 (nI i) (7 : Int32) = _ from r_ins8 (k := 7) g.2.1 hi (by omega), Option.bind_some, if_pos (by rw [hF2, upd_self])]
    exact ⟨σ1, τ1, a', b', c, rfl, g, Or.inr hr⟩
end TO
