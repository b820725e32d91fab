/-! THE LAW'S PUPILS. -/
theorem pop_l : ∀ x, x < 16 → ((((nI x &&& (1 : Int32)) + ((nI x >>> ((1 : Int32) &&& 31)) &&& (1 : Int32))) + ((nI x >>> ((2 : Int32) &&& 31)) &&& (1 : Int32))) + (nI x >>> ((3 : Int32) &&& 31))) = nI (pop x) := by decide +kernel
section PU
variable {σ τ σ' τ' : Sg} {a b c i p q : Nat}
theorem bad_addP : f_X4_addPupil σ (51 : Int32) (0 : Int32) = some ((-10000002 : Int32), σ) := by
  unfold f_X4_addPupil
  rw [outside_hi (by decide), Option.bind_some, if_neg (by decide)]
theorem pupils_add (h : GS σ τ a b c) {e : Int} {y : Nat} (he : -50 ≤ e ∧ e ≤ 50) (hy : y < 16) : EvO τ (f_L_pupils_b39 σ (nI b) (iI e) (nI y)) := by
  have hb := h.2.1.1.2.1
  unfold f_L_pupils_b39 f_L_pupils_b65
  rcases a_addPupil h.1 h.2.1 he hy with ⟨z, σ1, e1, hI⟩ | ⟨z, σ1, τ1, e1, hI, hr, hF⟩
  · rw [e1, Option.bind_some]
    simp only [lts, lt]
    rw [if_pos (by rw [z]; rfl), if_pos (by trivial), bad_addP, Option.bind_some, if_pos rfl]
    exact ⟨σ1, τ, a, b, c, rfl, h.stay hI, Or.inl Same.rf⟩
  · rw [e1, Option.bind_some]
    simp only [lts, lt]
    rw [if_neg (by rw [show (12 : Int32) = nI 12 from rfl, nI_eq (by omega) (by omega)]; omega), if_pos (by trivial), bad_addP, Option.bind_some, if_pos rfl]
    have ha := h.2.1.1.1
    obtain ⟨a', b', g, -⟩ := h.act hI (hF 2 (by omega) (by omega)) (Or.inl (hF 0 (by omega) (by omega))) (fun x hx _ => hF x (by omega) (by omega)) (fun i hi k hk => hF _ (by omega) (by omega))
    exact ⟨σ1, τ1, a', b', c, rfl, g, Or.inr hr⟩
theorem pupils_teach (h : GS σ τ a b c) (hp : p < b) {t : Nat} (ht : t < 3) : EvO τ ((f_X4_teach σ (nI p) (nI (1 + t))).bind fun q43 => lts q43.2 fun σ38 => lt q43.1 fun r37 => if τ.2 0 (84 + 5 * p + 2) = τ.2 0 (84 + 5 * p + 2) ||| ((1 : Int32) <<< ((nI (1 + t) - (1 : Int32)) &&& 31)) then (f_L_pupils_b150 σ38 (nI p) (τ.2 0 (84 + 5 * p + 2) ||| ((1 : Int32) <<< ((nI (1 + t) - (1 : Int32)) &&& 31))) (-10000005 : Int32) r37) else (f_L_pupils_b150 σ38 (nI p) (τ.2 0 (84 + 5 * p + 2) ||| ((1 : Int32) <<< ((nI (1 + t) - (1 : Int32)) &&& 31))) (τ.2 0 (84 + 5 * p + 2) ||| ((1 : Int32) <<< ((nI (1 + t) - (1 : Int32)) &&& 31))) r37)) := by
  have ha := h.2.1.1.1
  have hb := h.2.1.1.2.1
  unfold f_L_pupils_b150
  rcases a_teach h.1 h.2.1 hp (tr := 1 + t) ⟨by omega, by omega⟩ with ⟨z, σ1, e1, hI⟩ | ⟨z, σ1, τ1, e1, hI, hr, hF⟩
  · rw [e1, Option.bind_some]
    simp only [lts, lt]
    have g := h.stay hI
    rw [if_pos z.symm, if_pos (by trivial), show f_X4_pupil σ1 (nI p) (2 : Int32) = _ from r_pup3 (k := 2) g.2.1 hp (by omega), Option.bind_some, if_pos z.symm]
    exact ⟨σ1, τ, a, b, c, rfl, g, Or.inl Same.rf⟩
  · rw [e1, Option.bind_some]
    simp only [lts, lt]
    have hF2 : τ1.2 0 = upd (τ.2 0) (84 + 5 * p + 2) (τ.2 0 (84 + 5 * p + 2) ||| ((1 : Int32) <<< ((nI (1 + t) - (1 : Int32)) &&& 31))) := hF
    have fr : ∀ z, z ≠ 84 + 5 * p + 2 → τ1.2 0 z = τ.2 0 z := fun z h1 => by rw [hF2, upd_ne h1]
    obtain ⟨a', b', g, hle, haa, hbb⟩ := h.act hI (fr 2 (by omega)) (Or.inl (fr 0 (by omega))) (fun x hx _ => fr x (by omega)) (fun i hi k hk => fr _ (by omega))
    have := hbb (fr 1 (by omega))
    subst this
    rw [if_neg (fun q => z q.symm), if_pos (by trivial), show f_X4_pupil σ1 (nI p) (2 : Int32) = _ from r_pup3 (k := 2) g.2.1 hp (by omega), Option.bind_some, if_pos (by rw [hF2, upd_self])]
    exact ⟨σ1, τ1, a', b', c, rfl, g, Or.inr hr⟩
theorem pupils_train (h : GS σ τ a b c) (hp : p < b) {e : Int} {y hh : Nat} (he : -50 ≤ e ∧ e ≤ 50) (hy : y < 16) (hh16 : hh < 16) (k1 : τ.2 0 (84 + 5 * p + 1) = nI hh) {w : Int32} (hw : (w = 1 ∧ nI (hh ^^^ y) = 0 ∧ τ.2 0 (84 + 5 * p) = iI e) ∨ (w = 0 ∧ ¬ (nI (hh ^^^ y) = 0 ∧ τ.2 0 (84 + 5 * p) = iI e))) : EvO τ (f_L_pupils_b205 σ (iI e) (nI y) (nI p) (nI (hh ^^^ y)) w) := by
  have ha := h.2.1.1.1
  have hb := h.2.1.1.2.1
  obtain ⟨b1, b2, b3⟩ := xor_bits hh hh16 y hy
  unfold f_L_pupils_b205 f_L_pupils_b254
  simp only [lt]
  rw [pop_l _ b2]
  rcases a_train h.1 h.2.1 hp he hy hh16 k1 with ⟨z1, z2, σ1, e1, hI⟩ | ⟨z, σ1, τ1, e1, hI, hr, hF⟩
  · rw [e1, Option.bind_some]
    simp only [lts]
    have g := h.stay hI
    have hw1 : w = 1 := by
      rcases hw with ⟨q, -⟩ | ⟨-, q⟩
      · exact q
      · exact absurd ⟨z1, z2⟩ q
    have hyy : hh = y := b3.mp z1
    rw [hw1, if_neg (by decide), if_pos (by trivial), show f_X4_pupil σ1 (nI p) (0 : Int32) = _ from r_pup3 (k := 0) g.2.1 hp (by omega), Option.bind_some, if_pos (by rw [Nat.add_zero]; exact z2), show f_X4_pupil σ1 (nI p) (1 : Int32) = _ from r_pup3 (k := 1) g.2.1 hp (by omega), Option.bind_some, if_pos (by rw [k1, hyy])]
    exact ⟨σ1, τ, a, b, c, rfl, g, Or.inl Same.rf⟩
  · rw [e1, Option.bind_some]
    simp only [lts]
    have hw0 : w = 0 := by
      rcases hw with ⟨-, q⟩ | ⟨q, -⟩
      · exact absurd q z
      · exact q
    have hF2 : τ1.2 0 = upd (upd (τ.2 0) (84 + 5 * p + 0) (iI e)) (84 + 5 * p + 1) (nI y) := hF
    have fr : ∀ z, z ≠ 84 + 5 * p + 0 → z ≠ 84 + 5 * p + 1 → τ1.2 0 z = τ.2 0 z := fun z h1 h2 => by rw [hF2, upd_ne h2, upd_ne h1]
    obtain ⟨a', b', g, hle, haa, hbb⟩ := h.act hI (fr 2 (by omega) (by omega)) (Or.inl (fr 0 (by omega) (by omega))) (fun x hx _ => fr x (by omega) (by omega)) (fun i hi k hk => fr _ (by omega) (by omega))
    have := hbb (fr 1 (by omega) (by omega))
    subst this
    rw [hw0, if_pos (by trivial), if_pos (by trivial), show f_X4_pupil σ1 (nI p) (0 : Int32) = _ from r_pup3 (k := 0) g.2.1 hp (by omega), Option.bind_some, if_pos (by rw [hF2, upd_ne (by omega), upd_self]), show f_X4_pupil σ1 (nI p) (1 : Int32) = _ from r_pup3 (k := 1) g.2.1 hp (by omega), Option.bind_some, if_pos (by rw [hF2, upd_self])]
    exact ⟨σ1, τ1, a', b', c, rfl, g, Or.inr hr⟩
theorem pupils_ok (h : GS σ τ a b c) (p1 p2 p3 : Int32) : EvO τ (f_L_pupils σ p1 p2 p3) := by
  have hb := h.2.1.1.2.1
  obtain ⟨m, hm, em⟩ := low_in (σ := σ) (n := 101) (x := p3) (by omega) (by omega)
  obtain ⟨y, hy, ey⟩ := low_in (σ := σ) (n := 16) (x := p3 >>> ((7 : Int32) &&& 31)) (by omega) (by omega)
  unfold f_L_pupils
  rw [r_cnt1 h.2.1, Option.bind_some, show f_L_low σ p3 (101 : Int32) = _ from em, Option.bind_some]
  simp only [lt]
  rw [show f_L_low σ (p3 >>> ((7 : Int32) &&& 31)) (16 : Int32) = _ from ey, Option.bind_some, show nI m - (50 : Int32) = iI ((m : Int) - 50) by rw [nI_iI, show (50 : Int32) = iI 50 from rfl, iI_sub]]
  rcases Nat.eq_zero_or_pos b with b0 | b0
  · rw [if_pos (by rw [b0]; rfl)]; exact pupils_add h ⟨by omega, by omega⟩ hy
  rw [if_neg (nI_ne0 b0 (by omega))]
  by_cases s4 : p1 = (4 : Int32)
  · rw [if_pos s4]; exact pupils_add h ⟨by omega, by omega⟩ hy
  obtain ⟨p, hp, ep⟩ := low_in (σ := σ) (n := b) (x := p2) b0 (by omega)
  rw [if_neg s4, ep, Option.bind_some]
  by_cases s5 : p1 = (5 : Int32)
  · obtain ⟨t, ht, et⟩ := low_in (σ := σ) (n := 3) (x := p3) (by omega) (by omega)
    rw [if_pos s5, show f_X4_pupil σ (nI p) (2 : Int32) = _ from r_pup3 (k := 2) h.2.1 hp (by omega), Option.bind_some, show f_L_low σ p3 (3 : Int32) = _ from et, Option.bind_some, show (1 : Int32) + nI t = nI (1 + t) by rw [show (1 : Int32) = nI 1 from rfl, nI_add]]
    exact pupils_teach h hp ht
  rw [if_neg s5]
  obtain ⟨e, hh, kn, -, hh16, -, k1, k2, -, -, -, -⟩ := pup_cells h.2.1 hp
  obtain ⟨b1, b2, b3⟩ := xor_bits hh hh16 y hy
  rw [show f_X4_pupil σ (nI p) (1 : Int32) = some (nI hh) from (r_pup3 (k := 1) h.2.1 hp (by omega)).trans (by rw [k2]), Option.bind_some, show f_X4_pupil σ (nI p) (0 : Int32) = _ from r_pup3 (k := 0) h.2.1 hp (by omega), Option.bind_some, b1]
  unfold f_L_pupils_b204
  have T : ∀ w : Int32, _ → _ := fun w hw => pupils_train h hp (e := (m : Int) - 50) (y := y) (hh := hh) ⟨by omega, by omega⟩ hy hh16 k2 (w := w) hw
  rw [Nat.add_zero]
  by_cases e4 : nI (hh ^^^ y) = 0
  · rw [if_pos e4]
    by_cases e5 : τ.2 0 (84 + 5 * p) = iI ((m : Int) - 50)
    · rw [if_pos e5]; exact T 1 (Or.inl ⟨rfl, e4, e5⟩)
    · rw [if_neg e5]; exact T 0 (Or.inr ⟨rfl, fun z => e5 z.2⟩)
  · rw [if_neg e4]; exact T 0 (Or.inr ⟨rfl, fun z => e4 z.1⟩)
end PU
