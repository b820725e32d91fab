/-! THE LAW answers true. -/
theorem S0_of {σ τ : Sg} (hI : Inv σ τ) (hf : ∀ x, τ.2 0 x = 0) : SI σ 0 0 0 (τ.2 0) := by
  obtain ⟨a, b, c, s⟩ := hI.si
  obtain ⟨rfl, rfl, rfl⟩ := s.counts2 (f := τ.2 0) (n0 := 0) (n1 := 0) (n2 := 0) (by rw [hf]; rfl) (by rw [hf]; rfl) (by rw [hf]; rfl) (by omega) (by omega) (by omega)
  exact s
theorem first_steps {z : Sg} (hI0 : Inv z z) (z1 : ∀ k, z.1 k = 0) (z2 : ∀ k x, z.2 k x = 0) : ∃ σ1 σ2 σ3 : Sg, f_X4_undo z = some ((-10000005 : Int32), σ1) ∧ f_X4_restore σ1 = some ((-10000005 : Int32), σ2) ∧ f_X4_decide σ2 = some ((-10000005 : Int32), σ3) ∧ Inv σ3 z := by
  have u : f_X5_undo z = some ((-10000005 : Int32), z) := by
    unfold f_X5_undo
    rw [if_pos (z1 0)]
  obtain ⟨σ1, e1, hI1⟩ : Stays z z (f_X4_undo z) (-10000005) := (sim_undo hI0).stays u
  have r : f_X5_restore z = some ((-10000005 : Int32), z) := by
    unfold f_X5_restore
    rw [if_pos (z1 1)]
  obtain ⟨σ2, e2, hI2⟩ : Stays z z (f_X4_restore σ1) (-10000005) := (sim_restore hI1).stays r
  have s2' := S0_of hI2 (z2 0)
  have d : Stays σ2 z (f_X4_decide σ2) (-10000005) := by
    rcases waiting_s s2' (k := 0) (by omega) with ⟨x, hx, -⟩ | ⟨-, hv⟩
    · exact absurd hx (by omega)
    · rcases a_decide hI2 s2' (r := -10000005) hv with ⟨-, h⟩ | ⟨q, p, i, hq, -⟩
      · exact h
      · exact absurd hq (by omega)
  obtain ⟨σ3, e3, hI3⟩ := d
  exact ⟨σ1, σ2, σ3, e1, e2, e3, hI3⟩
theorem then_read {σ3 z : Sg} (hI3 : Inv σ3 z) (z1 : ∀ k, z.1 k = 0) (z2 : ∀ k x, z.2 k x = 0) : ∃ σ4 τ4 : Sg, f_X4_readPapers σ3 = some ((-100 : Int32), σ4) ∧ GS σ4 τ4 0 0 0 := by
  obtain ⟨r4, σ4, τ4, e4, e4', hI4⟩ := sim_read hI3
  obtain ⟨τ5, m4, m5⟩ := read_empty (τ := z) (z1 8)
  rw [m4] at e4'
  have e5 := Option.some.inj e4'
  have r5 : r4 = -100 := (congrArg Prod.fst e5).symm
  have t5 : τ4 = τ5 := (congrArg Prod.snd e5).symm
  rw [r5] at e4
  rw [t5] at hI4
  exact ⟨σ4, τ5, e4, hI4, S0_of hI4 (fun x => by rw [m5]; exact z2 0 x), fun q hq => absurd hq (Nat.not_lt_zero q)⟩
theorem law_zero {z : Sg} {xs : Nat → Int32} {L : Nat} (hL : L ≤ 260) (hI0 : Inv z z) (z1 : ∀ k, z.1 k = 0) (z2 : ∀ k x, z.2 k x = 0) : g_L_law xs L (z, z) = some 1 := by
  obtain ⟨σ1, σ2, σ3, e1, e2, e3, hI3⟩ := first_steps hI0 z1 z2
  obtain ⟨σ4, τ4, e4, g4⟩ := then_read hI3 z1 z2
  have c5 : f_X4_coincidence σ4 (0 : Int32) (0 : Int32) (0 : Int32) = some (-10000001) := by
    unfold f_X4_coincidence
    rw [lacks_big g4.2.1.2.1.1 (show nI 0 ≤ (0 : Int32) by decide), Option.bind_some, if_neg (by decide)]
  have k5 : f_X4_ranked σ4 (0 : Int32) = some (-10000005) := ranked_n g4.2.1
  rw [law_chain e1 e2 e3 e4 k5 c5]
  exact law_loop (ρ := z) (xs := xs) hL 24 fuel 0 σ4 τ4 0 0 0 (by omega) (by unfold fuel; omega) g4
theorem law_pure {L : Nat} (hL : L ≤ 260) (xs : Nat → Int32) : g_L_law xs L (((fun _ => 0), (fun _ _ => 0)), ((fun _ => 0), (fun _ _ => 0))) = some 1 := law_zero hL Inv.zero (fun _ => rfl) (fun _ _ => rfl)
