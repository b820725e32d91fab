/-! THE LAW, from the states alone. -/
theorem Inv.zero : Inv ((fun _ => 0), (fun _ _ => 0)) ((fun _ => 0), (fun _ _ => 0)) := by
  refine ⟨⟨0, 0, 0, ⟨by omega, by omega, by omega⟩, ⟨rfl, rfl, rfl⟩, ⟨rfl, rfl, rfl⟩, fun i hi => by omega, fun i hi => by omega, fun i hi => by omega, fun i hi => by omega, fun i hi => by omega, fun i hi => by omega, fun i _ _ k _ _ => rfl, fun i _ _ k _ _ => rfl, by decide⟩, ⟨0, 0, by omega, by omega, rfl, rfl, rfl, fun k hk => by omega⟩, Or.inl ⟨rfl, rfl⟩, 0, by omega, rfl, rfl, fun j hj => by omega⟩
theorem nI_5 (v : Nat) : nI v + (5 : Int32) = nI (v + 5) := by rw [show (5 : Int32) = nI 5 from rfl, nI_add]
theorem law_loop {L : Nat} (hL : L ≤ 2560) (xs : Nat → Int32) : ∀ (m n v : Nat) (σ τ : Sg), L < v + 5 + 5 * m → m < n → v ≤ 2600 → Inv σ τ → f_L_b18 xs L n (σ, τ) (nI v) = some 1 := by
  intro m
  induction m with
  | zero =>
    intro n v σ τ hm hn hv hI
    obtain ⟨n, rfl⟩ : ∃ z, n = z + 1 := ⟨n - 1, by omega⟩
    rw [f_L_b18.eq_2]
    exact if_pos (by rw [show Int32.ofNat L = nI L from rfl, show (5 : Int32) = nI 5 from rfl, nI_sub, nI_iI, iI_lt ⟨by omega, by omega⟩ ⟨by omega, by omega⟩]; omega)
  | succ m ih =>
    intro n v σ τ hm hn hv hI
    obtain ⟨n, rfl⟩ : ∃ z, n = z + 1 := ⟨n - 1, by omega⟩
    rw [f_L_b18.eq_2]
    by_cases hend : L < v + 5
    · exact if_pos (by rw [show Int32.ofNat L = nI L from rfl, show (5 : Int32) = nI 5 from rfl, nI_sub, nI_iI, iI_lt ⟨by omega, by omega⟩ ⟨by omega, by omega⟩]; omega)
    rw [if_neg (by rw [show Int32.ofNat L = nI L from rfl, show (5 : Int32) = nI 5 from rfl, nI_sub, nI_iI, iI_lt ⟨by omega, by omega⟩ ⟨by omega, by omega⟩]; omega)]
    have G : ∀ k : Nat, k < 5 → ∀ o : Option Int32, gd (inb (nI v + nI k) L) o = o := fun k hk o => by rw [nI_add]; exact gd_of (inb_n (by omega) (by omega))
    have G0 : ∀ o : Option Int32, gd (inb (nI v) L) o = o := fun o => gd_of (inb_n (by omega) (by omega))
    have G1 : ∀ o : Option Int32, gd (inb (nI v + (1 : Int32)) L) o = o := G 1 (by omega)
    have G2 : ∀ o : Option Int32, gd (inb (nI v + (2 : Int32)) L) o = o := G 2 (by omega)
    have G3 : ∀ o : Option Int32, gd (inb (nI v + (3 : Int32)) L) o = o := G 3 (by omega)
    have G4 : ∀ o : Option Int32, gd (inb (nI v + (4 : Int32)) L) o = o := G 4 (by omega)
    have fin : ∀ σ' τ' : Sg, Inv σ' τ' → f_L_b891 xs L (f_L_b18 xs L n) (σ', τ') (nI v) = some 1 := fun σ' τ' hI' => by
      unfold f_L_b891
      simp only [lt]
      rw [nI_5]
      exact ih n (v + 5) σ' τ' (by omega) (by omega) (by omega) hI'
    simp only [G0, G1, G2, G3, G4]
    have a0 : ∀ {u : Int32}, u = 0 ∨ u = 1 → ∀ A1 A2 A3 : Int32, (f_X4_addInstrument σ A1 A2 A3 u).bind (fun q4 => lts (q4.2, τ) fun σ5 => lt q4.1 fun r6 => f_L_b209 xs L (f_L_b18 xs L n) σ5 (nI v) u A3 A2 A1 r6) = some 1 := fun {u} hu A1 A2 A3 => by
      obtain ⟨r, σ', τ', e1, e2, hI'⟩ := sim_addInstrument hI A1 A2 A3 u hu
      rw [e1, Option.bind_some]
      simp only [lts, lt]
      unfold f_L_b209
      rw [e2, Option.bind_some]
      simp only [lts, lt, if_true]
      exact fin σ' τ' hI'
    generalize xs (ix (nI v)) &&& (31 : Int32) = op
    by_cases h0 : op = 0
    · rw [if_pos h0]
      unfold f_L_b177
      simp only [G1, G2, G3, G4]
      by_cases h4 : xs (ix (nI v + (4 : Int32))) = 0
      · simp only [if_pos h4]
        exact a0 (Or.inl rfl) _ _ _
      · simp only [if_neg h4]
        exact a0 (Or.inr rfl) _ _ _
    rw [if_neg h0]
    generalize xs (ix (nI v + (1 : Int32))) = A1
    generalize xs (ix (nI v + (2 : Int32))) = A2
    generalize xs (ix (nI v + (3 : Int32))) = A3
    by_cases h1 : op = 1
    · rw [if_pos h1]
      obtain ⟨r, σ', τ', e1, e2, hI'⟩ := sim_adjust hI A1 A2 A3
      rw [e1, Option.bind_some]
      simp only [lts, lt]
      rw [e2, Option.bind_some]
      simp only [lts, lt, if_true]
      exact fin σ' τ' hI'
    rw [if_neg h1]
    by_cases h2 : op = 2
    · rw [if_pos h2]
      obtain ⟨r, σ', τ', e1, e2, hI'⟩ := sim_setTrap hI A1 A2
      rw [e1, Option.bind_some]
      simp only [lts, lt]
      rw [e2, Option.bind_some]
      simp only [lts, lt, if_true]
      exact fin σ' τ' hI'
    rw [if_neg h2]
    by_cases h3 : op = 3
    · rw [if_pos h3]
      obtain ⟨r, σ', τ', e1, e2, hI'⟩ := sim_announce hI A1
      rw [e1, Option.bind_some]
      simp only [lts, lt]
      rw [e2, Option.bind_some]
      simp only [lts, lt, if_true]
      exact fin σ' τ' hI'
    rw [if_neg h3]
    by_cases h4 : op = 4
    · rw [if_pos h4]
      obtain ⟨r, σ', τ', e1, e2, hI'⟩ := sim_addPupil hI A1 A2
      rw [e1, Option.bind_some]
      simp only [lts, lt]
      rw [e2, Option.bind_some]
      simp only [lts, lt, if_true]
      exact fin σ' τ' hI'
    rw [if_neg h4]
    by_cases h5 : op = 5
    · rw [if_pos h5]
      obtain ⟨r, σ', τ', e1, e2, hI'⟩ := sim_teach hI A1 A2
      rw [e1, Option.bind_some]
      simp only [lts, lt]
      rw [e2, Option.bind_some]
      simp only [lts, lt, if_true]
      exact fin σ' τ' hI'
    rw [if_neg h5]
    by_cases h6 : op = 6
    · rw [if_pos h6]
      obtain ⟨r, σ', τ', e1, e2, hI'⟩ := sim_train hI A1 A2 A3
      rw [e1, Option.bind_some]
      simp only [lts, lt]
      rw [e2, Option.bind_some]
      simp only [lts, lt, if_true]
      exact fin σ' τ' hI'
    rw [if_neg h6]
    by_cases h7 : op = 7
    · rw [if_pos h7]
      obtain ⟨r, σ', τ', e1, e2, hI'⟩ := sim_write hI A1 A2 A3
      rw [e1, Option.bind_some]
      simp only [lts, lt]
      rw [e2, Option.bind_some]
      simp only [lts, lt, if_true]
      exact fin σ' τ' hI'
    rw [if_neg h7]
    by_cases h8 : op = 8
    · rw [if_pos h8]
      obtain ⟨r, σ', τ', e1, e2, hI'⟩ := sim_appeal hI A1 A2
      rw [e1, Option.bind_some]
      simp only [lts, lt]
      rw [e2, Option.bind_some]
      simp only [lts, lt, if_true]
      exact fin σ' τ' hI'
    rw [if_neg h8]
    by_cases h9 : op = 9
    · rw [if_pos h9]
      obtain ⟨r, σ', τ', e1, e2, hI'⟩ := sim_decide hI
      rw [e1, Option.bind_some]
      simp only [lts, lt]
      rw [e2, Option.bind_some]
      simp only [lts, lt, if_true]
      exact fin σ' τ' hI'
    rw [if_neg h9]
    by_cases h10 : op = 10
    · rw [if_pos h10]
      obtain ⟨r, σ', τ', e1, e2, hI'⟩ := sim_type hI ((A1.toUInt32 % 65536).toInt32)
      rw [e1, Option.bind_some]
      simp only [lts, lt]
      rw [e2, Option.bind_some]
      simp only [lts, lt, if_true]
      exact fin σ' τ' hI'
    rw [if_neg h10]
    by_cases h11 : op = 11
    · rw [if_pos h11]
      obtain ⟨r, σ', τ', e1, e2, hI'⟩ := sim_clear hI
      rw [e1, Option.bind_some]
      simp only [lts, lt]
      rw [e2, Option.bind_some]
      simp only [lts, lt, if_true]
      exact fin σ' τ' hI'
    rw [if_neg h11]
    by_cases h12 : op = 12
    · rw [if_pos h12]
      obtain ⟨r, σ', τ', e1, e2, hI'⟩ := sim_read hI
      rw [e1, Option.bind_some]
      simp only [lts, lt]
      rw [e2, Option.bind_some]
      simp only [lts, lt, if_true]
      exact fin σ' τ' hI'
    rw [if_neg h12]
    by_cases h13 : op = 13
    · rw [if_pos h13]
      obtain ⟨r, σ', τ', e1, e2, hI'⟩ := sim_undo hI
      rw [e1, Option.bind_some]
      simp only [lts, lt]
      rw [e2, Option.bind_some]
      simp only [lts, lt, if_true]
      exact fin σ' τ' hI'
    rw [if_neg h13]
    by_cases h14 : op = 14
    · rw [if_pos h14]
      obtain ⟨r, σ', τ', e1, e2, hI'⟩ := sim_keep hI
      rw [e1, Option.bind_some]
      simp only [lts, lt]
      rw [e2, Option.bind_some]
      simp only [lts, lt, if_true]
      exact fin σ' τ' hI'
    rw [if_neg h14]
    by_cases h15 : op = 15
    · rw [if_pos h15]
      obtain ⟨r, σ', τ', e1, e2, hI'⟩ := sim_restore hI
      rw [e1, Option.bind_some]
      simp only [lts, lt]
      rw [e2, Option.bind_some]
      simp only [lts, lt, if_true]
      exact fin σ' τ' hI'
    rw [if_neg h15]
    by_cases h16 : op = 16
    · rw [if_pos h16]
      obtain ⟨r, e1, e2⟩ := sim_instrument hI A1 A2
      rw [e1, Option.bind_some, e2, Option.bind_some, if_pos rfl]
      exact fin σ τ hI
    rw [if_neg h16]
    by_cases h17 : op = 17
    · rw [if_pos h17]
      obtain ⟨r, e1, e2⟩ := sim_pupil hI A1 A2
      rw [e1, Option.bind_some, e2, Option.bind_some, if_pos rfl]
      exact fin σ τ hI
    rw [if_neg h17]
    by_cases h18 : op = 18
    · rw [if_pos h18]
      obtain ⟨r, e1, e2⟩ := sim_paper hI A1 A2
      rw [e1, Option.bind_some, e2, Option.bind_some, if_pos rfl]
      exact fin σ τ hI
    rw [if_neg h18]
    by_cases h19 : op = 19
    · rw [if_pos h19]
      obtain ⟨r, τ', e1, e2, hI'⟩ := sim_coin hI A1 A2 A3
      rw [e1, Option.bind_some, e2, Option.bind_some]
      simp only [lts, lt, if_true]
      exact fin σ τ' hI'
    rw [if_neg h19]
    by_cases h20 : op = 20
    · rw [if_pos h20]
      obtain ⟨r, τ', e1, e2, hI'⟩ := sim_answer hI A1 A2 A3
      rw [e1, Option.bind_some, e2, Option.bind_some]
      simp only [lts, lt, if_true]
      exact fin σ τ' hI'
    rw [if_neg h20]
    by_cases h21 : op = 21
    · rw [if_pos h21]
      obtain ⟨r, τ', e1, e2, hI'⟩ := sim_would hI A1 A2
      rw [e1, Option.bind_some, e2, Option.bind_some]
      simp only [lts, lt, if_true]
      exact fin σ τ' hI'
    rw [if_neg h21]
    by_cases h22 : op = 22
    · rw [if_pos h22]
      obtain ⟨r, e1, e2⟩ := sim_ranked hI A1
      rw [e1, Option.bind_some, e2, Option.bind_some, if_pos rfl]
      exact fin σ τ hI
    rw [if_neg h22]
    by_cases h23 : op = 23
    · rw [if_pos h23]
      obtain ⟨r, e1, e2⟩ := sim_waiting hI A1
      rw [e1, Option.bind_some, e2, Option.bind_some, if_pos rfl]
      exact fin σ τ hI
    rw [if_neg h23]
    by_cases h24 : op = 24
    · rw [if_pos h24]
      obtain ⟨r, e1, e2⟩ := sim_count hI A1
      rw [e1, Option.bind_some, e2, Option.bind_some, if_pos rfl]
      exact fin σ τ hI
    rw [if_neg h24]
    exact fin σ τ hI
theorem law_pure {L : Nat} (hL : L ≤ 2560) (xs : Nat → Int32) : f_L xs L (((fun _ => 0), (fun _ _ => 0)), ((fun _ => 0), (fun _ _ => 0))) = some 1 := by
  unfold f_L
  exact law_loop hL xs 600 fuel 0 _ _ (by omega) (by unfold fuel; omega) (by omega) Inv.zero
