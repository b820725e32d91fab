/-! THE EMPTY SCHOOL. -/
theorem Inv.zero : Inv ((fun _ => 0), (fun _ _ => 0)) ((fun _ => 0), (fun _ _ => 0)) := by
  refine ⟨⟨0, 0, 0, ⟨by omega, by omega, by omega⟩, ⟨rfl, rfl, rfl⟩, ⟨rfl, rfl, rfl⟩, fun i hi => by omega, fun i hi => by omega, fun i hi => by omega, fun i hi => by omega, fun i hi => by omega, fun i hi => by omega, fun i _ _ k _ _ => rfl, fun i _ _ k _ _ => rfl, by decide⟩, ⟨0, 0, by omega, by omega, rfl, rfl, rfl, fun k hk => by omega⟩, Or.inl ⟨rfl, rfl⟩, 0, by omega, rfl, rfl, fun j hj => by omega⟩
theorem read_empty {τ : Sg} (e8 : τ.1 8 = 0) : ∃ τ', f_X5_readPapers τ = some ((-100 : Int32), τ') ∧ τ'.2 0 = τ.2 0 := by
  unfold f_X5_readPapers
  simp only [lts]
  generalize hρ : s1 (s1 τ 9 0) 10 0 = ρ
  have r8 : ρ.1 8 = 0 := by rw [← hρ, s1_ne (by omega), s1_ne (by omega)]; exact e8
  have r9 : ρ.1 9 = 0 := by rw [← hρ, s1_ne (by omega), s1_self]
  have r10 : ρ.1 10 = 0 := by rw [← hρ, s1_self]
  have r2 : ρ.2 = τ.2 := by rw [← hρ]; rfl
  obtain ⟨n, hn⟩ : ∃ n, fuel = n + 1 := ⟨4095, rfl⟩
  have e : f_X5_readsPaper ρ = some ((0 : Int32), s2 ρ 4 (upd (ρ.2 4) 0 (-10000005))) := by
    unfold f_X5_readsPaper f_X5_number
    rw [r8, r9, r10, if_pos (by decide)]
    simp only [lt, Option.bind_some, lts]
    rw [show ((3 : Int32) * 0) = 0 by decide, gd_of (by decide), gd_of (by decide), show ix (0 : Int32) = 0 from rfl, s2_self, upd_self, if_pos rfl]
  rw [hn, f_X5_readPapers_b12.eq_2, if_neg (by decide), e, Option.bind_some]
  simp only [lts, lt]
  rw [if_pos (by trivial), s2_1, r9]
  exact ⟨_, rfl, by rw [s2_ne (by omega), r2]⟩
