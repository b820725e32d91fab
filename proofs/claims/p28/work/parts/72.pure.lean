/-! THE LAW, from its start. -/
theorem law_chain {xs : Nat → Int32} {L : Nat} {σ ρ σ1 σ2 σ3 σ4 : Sg} (e1 : f_X4_undo σ = some ((-10000005 : Int32), σ1)) (e2 : f_X4_restore σ1 = some ((-10000005 : Int32), σ2)) (e3 : f_X4_decide σ2 = some ((-10000005 : Int32), σ3)) (e4 : f_X4_readPapers σ3 = some ((-100 : Int32), σ4)) (e5 : f_X4_ranked σ4 (0 : Int32) = some (-10000005 : Int32)) (e6 : f_X4_coincidence σ4 (0 : Int32) (0 : Int32) (0 : Int32) = some (-10000001 : Int32)) :
    g_L_law xs L (σ, ρ) = f_L_law_b70 xs L fuel (σ4, ρ) (0 : Int32) := by
  unfold g_L_law lts lt
  dsimp only
  rw [e1, Option.bind_some]
  dsimp only
  rw [if_pos rfl, e2, Option.bind_some]
  dsimp only
  rw [if_pos rfl, e3, Option.bind_some]
  dsimp only
  rw [if_pos rfl, e4, Option.bind_some]
  dsimp only
  rw [if_pos rfl, e5, Option.bind_some, if_pos rfl, e6, Option.bind_some, if_pos rfl]
