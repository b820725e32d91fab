/-! undo, keep, restore; type, clearText. -/
def Sim (ox om : Option (Int32 × Sg)) : Prop := ∃ (r : Int32) (σ' τ' : Sg), ox = some (r, σ') ∧ om = some (r, τ') ∧ Inv σ' τ'
def rowA (src now : Nat → Int32) (j : Nat) : Nat → Int32 := fun x => if j ≤ x ∧ x < 624 then src x else now x
theorem rowA_end (src now : Nat → Int32) : rowA src now 624 = now := by funext x; unfold rowA; rw [if_neg (by omega)]
theorem rowA_s {src now : Nat → Int32} {j : Nat} (hj : j < 624) : rowA src (upd now j (src j)) (j + 1) = rowA src now j := by
  funext x
  unfold rowA upd
  by_cases hx : x = j
  · subst hx
    rw [if_neg (by omega), if_pos rfl, if_pos (by omega)]
  · rw [if_neg hx]
    by_cases h2 : j + 1 ≤ x ∧ x < 624
    · rw [if_pos h2, if_pos (by omega)]
    · rw [if_neg h2, if_neg (by omega)]
theorem rowA_at {src now : Nat → Int32} {x : Nat} (h : x < 624) : rowA src now 0 x = src x := by unfold rowA; rw [if_pos (by omega)]
theorem undo_loop {k : Nat} (hk : k ≤ 3) : ∀ (m n j : Nat) (τ : Sg), m + j = 624 → m < n → τ.1 0 = nI k → f_X5_undo_b22 n τ (nI j) = some (nI k, s2 τ 0 (rowA (fun x => τ.2 1 (624 * k + x)) (τ.2 0) j)) := by
  intro m
  induction m with
  | zero =>
    intro n j τ hm hn hr
    obtain ⟨n, rfl⟩ : ∃ z, n = z + 1 := ⟨n - 1, by omega⟩
    have : j = 624 := by omega
    subst this
    rw [f_X5_undo_b22.eq_2, if_pos (by decide), hr, rowA_end, s2_id]
  | succ m ih =>
    intro n j τ hm hn hr
    obtain ⟨n, rfl⟩ : ∃ z, n = z + 1 := ⟨n - 1, by omega⟩
    rw [f_X5_undo_b22.eq_2, if_neg (by rw [show (624 : Int32) = nI 624 from rfl, nI_leN (by omega) (by omega)]; omega), hr, show (624 : Int32) = nI 624 from rfl, pk_mul, nI_add, gd_of (inb_n (by omega) (by omega)), gd_of (inb_n (by omega) (by omega)), ix_n (by omega), ix_n (by omega)]
    simp only [lts, lt]
    rw [nI_1, ih n (j + 1) _ (by omega) (by omega) (by exact hr), s2_self, s2_s2, s2_ne (by omega)]
    rw [rowA_s (src := fun x => τ.2 1 (624 * k + x)) (by omega)]
theorem keep_loop : ∀ (m n j : Nat) (τ : Sg), m + j = 624 → m < n → f_X5_keep_b2 n τ (nI j) = some (τ.2 0 2, s1 (s2 τ 2 (rowA (τ.2 0) (τ.2 2) j)) 1 1) := by
  intro m
  induction m with
  | zero =>
    intro n j τ hm hn
    obtain ⟨n, rfl⟩ : ∃ z, n = z + 1 := ⟨n - 1, by omega⟩
    have : j = 624 := by omega
    subst this
    rw [f_X5_keep_b2.eq_2, if_pos (by decide), rowA_end, s2_id]
    simp only [lts]
    rw [i2, x2]; rfl
  | succ m ih =>
    intro n j τ hm hn
    obtain ⟨n, rfl⟩ : ∃ z, n = z + 1 := ⟨n - 1, by omega⟩
    rw [f_X5_keep_b2.eq_2, if_neg (by rw [show (624 : Int32) = nI 624 from rfl, nI_leN (by omega) (by omega)]; omega), gd_of (inb_n (by omega) (by omega)), gd_of (inb_n (by omega) (by omega)), ix_n (by omega)]
    simp only [lts, lt]
    rw [nI_1, ih n (j + 1) _ (by omega) (by omega), s2_self, s2_s2, s2_ne (by omega), rowA_s (src := τ.2 0) (by omega)]
theorem rest_loop : ∀ (m n j : Nat) (τ : Sg), m + j = 624 → m < n → f_X5_restore_b16 n τ (nI j) = some ((rowA (τ.2 2) (τ.2 0) j) 2, s2 τ 0 (rowA (τ.2 2) (τ.2 0) j)) := by
  intro m
  induction m with
  | zero =>
    intro n j τ hm hn
    obtain ⟨n, rfl⟩ : ∃ z, n = z + 1 := ⟨n - 1, by omega⟩
    have : j = 624 := by omega
    subst this
    rw [f_X5_restore_b16.eq_2, if_pos (by decide), rowA_end, s2_id, i2, x2]; rfl
  | succ m ih =>
    intro n j τ hm hn
    obtain ⟨n, rfl⟩ : ∃ z, n = z + 1 := ⟨n - 1, by omega⟩
    rw [f_X5_restore_b16.eq_2, if_neg (by rw [show (624 : Int32) = nI 624 from rfl, nI_leN (by omega) (by omega)]; omega), gd_of (inb_n (by omega) (by omega)), gd_of (inb_n (by omega) (by omega)), ix_n (by omega)]
    simp only [lts, lt]
    rw [nI_1, ih n (j + 1) _ (by omega) (by omega), s2_self, s2_s2, s2_ne (by omega), rowA_s (src := τ.2 2) (by omega)]
theorem RS.row {σ : Sg} {s : Nat} {f g : Nat → Int32} (h : RS σ s f) (hfg : ∀ j, j < 624 → g j = f j) : RS σ s g := by
  obtain ⟨a, b, c, h3⟩ := h
  exact ⟨a, b, c, h3.congr (fun _ _ => rfl) (fun _ _ => rfl) (fun _ _ => rfl) hfg⟩
theorem RS.cnt {σ : Sg} {s : Nat} {f : Nat → Int32} (h : RS σ s f) : σ.1 (3 * s + 2) = f 2 := by
  obtain ⟨a, b, c, _, ⟨_, _, r2⟩, ⟨_, _, f2⟩, _⟩ := h
  rw [r2, f2]
theorem sim_undo {σ τ : Sg} (hI : Inv σ τ) : Sim (f_X4_undo σ) (f_X5_undo τ) := by
  have hI0 := hI
  obtain ⟨hN, ⟨h, o, hh, ho, e20, e19, m0, hR⟩, hS, hT⟩ := hI
  unfold f_X4_undo f_X0_size f_X5_undo
  simp only [Option.bind_some]
  rw [e20, m0]
  rcases Nat.eq_zero_or_pos h with h0 | h0
  · subst h0
    rw [if_pos (by decide), if_pos (by decide)]
    exact ⟨_, _, _, rfl, rfl, hI0⟩
  · obtain ⟨h, rfl⟩ : ∃ z, h = z + 1 := ⟨h - 1, by omega⟩
    rw [if_neg (nI_ne0 h0 (by omega)), if_neg (nI_ne0 h0 (by omega)), nI_pred]
    unfold f_X0_pop
    rw [e20, if_neg (nI_ne0 h0 (by omega)), nI_pred]
    simp only [lts]
    have hm : (o + h) % 4 < 4 := Nat.mod_lt _ (by omega)
    generalize hσ2 : s1 σ 20 (nI h) = σ2
    have g20 : σ2.1 20 = nI h := by rw [← hσ2]; exact s1_self
    have g1 : ∀ k, k ≠ 20 → σ2.1 k = σ.1 k := fun k hk => by rw [← hσ2]; exact s1_ne hk
    have g2 : σ2.2 = σ.2 := by rw [← hσ2]; rfl
    have hr : RS σ2 (2 + (o + h) % 4) (fun x => τ.2 1 (624 * h + x)) := (hR h (by omega)).same (fun k hk => g1 _ (by omega)) (fun k hk => by rw [g2])
    obtain ⟨σ3, c1, c2, c3, c4⟩ := copyState (s := 0) (d := 2 + (o + h) % 4) (by omega) (by omega) hr
    rw [g20, stateAt_in ho (by omega) (by rw [g1 _ (by omega)]; exact e19), Option.bind_some, gd_of (by rw [decide_eq_true_eq]; omega), c1, Option.bind_some, Option.bind_some, c3 20 (by omega), g20]
    have e := undo_loop (k := h) (by omega) 624 fuel 0 (s1 τ 0 (nI h)) (by omega) (by unfold fuel; omega) s1_self
    refine ⟨nI h, σ3, _, rfl, e, ?_, ⟨h, o, by omega, ho, by rw [c3 20 (by omega)]; exact g20, by rw [c3 19 (by omega), g1 _ (by omega)]; exact e19, (show (s1 τ 0 (nI h)).1 0 = nI h from s1_self), fun k hk => ?_⟩, ?_, ?_⟩
    · unfold iNow
      rw [s2_self]
      exact c2.row (fun j hj => rowA_at hj)
    · have hm2 : (o + k) % 4 < 4 := Nat.mod_lt _ (by omega)
      rw [s2_ne (by omega)]
      exact (hR k (by omega)).same (fun j hj => by rw [c3 _ (by omega), g1 _ (by omega)]) (fun j hj => by rw [c4 _ (by omega), g2])
    · rcases hS with ⟨a, b⟩ | ⟨a, b, c⟩
      · left; exact ⟨by rw [c3 _ (by omega), g1 _ (by omega)]; exact a, by rw [s2_1, s1_ne (by omega)]; exact b⟩
      · right
        refine ⟨by rw [c3 _ (by omega), g1 _ (by omega)]; exact a, by rw [s2_1, s1_ne (by omega)]; exact b, ?_⟩
        rw [s2_ne (by omega)]
        exact c.same (fun j hj => by rw [c3 _ (by omega), g1 _ (by omega)]) (fun j hj => by rw [c4 _ (by omega), g2])
    · obtain ⟨n, n1, n2, n3, n4⟩ := hT
      refine ⟨n, n1, by rw [c3 _ (by omega), g1 _ (by omega)]; exact n2, by rw [s2_1, s1_ne (by omega)]; exact n3, fun j hj => ?_⟩
      rw [c4 _ (by omega), g2, s2_ne (by omega)]
      exact n4 j hj
theorem sim_restore {σ τ : Sg} (hI : Inv σ τ) : Sim (f_X4_restore σ) (f_X5_restore τ) := by
  have hI0 := hI
  obtain ⟨-, -, hS, -⟩ := hI
  unfold f_X4_restore f_X5_restore f_X3_size
  rcases hS with ⟨a, b⟩ | ⟨a, b, -⟩
  · rw [if_pos a, if_pos b]
    exact ⟨_, _, _, rfl, rfl, hI0⟩
  · rw [a, b, if_neg (by decide), if_neg (by decide)]
    obtain ⟨σ1, τ1, p1, p2, hI1, q1, q2, -, q3, q4⟩ := rec_ok hI0
    rw [p1, p2, Option.bind_some, Option.bind_some]
    obtain ⟨-, hH, hS1, hT⟩ := hI1
    have hs : RS σ1 1 (τ1.2 2) := by
      rcases hS1 with ⟨-, c⟩ | ⟨_, _, c⟩
      · rw [q3 1 (by omega), b] at c
        exact absurd c (by decide)
      · exact c
    obtain ⟨σ3, c1, c2, c3, c4⟩ := copyState (s := 0) (d := 1) (by omega) (by omega) hs
    rw [show f_X2_copyFrom σ1 19 20 = some σ3 from c1, Option.bind_some, Option.bind_some]
    have e := rest_loop 624 fuel 0 τ1 (by omega) (by unfold fuel; omega)
    refine ⟨_, σ3, s2 τ1 0 (rowA (τ1.2 2) (τ1.2 0) 0), rfl, e.trans ?_, ?_⟩
    · rw [show σ3.1 2 = τ1.2 2 2 from c2.cnt, rowA_at (by omega)]
    · obtain ⟨h, o, hh, ho, e20, e19, m0, hR⟩ := hH
      refine ⟨?_, ⟨h, o, hh, ho, by rw [c3 20 (by omega)]; exact e20, by rw [c3 19 (by omega)]; exact e19, m0, fun k hk => ?_⟩, ?_, ?_⟩
      · unfold iNow
        rw [s2_self]
        exact c2.row (fun j hj => rowA_at hj)
      · have hm2 : (o + k) % 4 < 4 := Nat.mod_lt _ (by omega)
        rw [s2_ne (by omega)]
        exact (hR k (by omega)).same (fun j hj => by rw [c3 _ (by omega)]) (fun j hj => by rw [c4 _ (by omega)])
      · rcases hS1 with ⟨a1, b1⟩ | ⟨a1, b1, c⟩
        · left; exact ⟨by rw [c3 _ (by omega)]; exact a1, b1⟩
        · right
          refine ⟨by rw [c3 _ (by omega)]; exact a1, b1, ?_⟩
          rw [s2_ne (by omega)]
          exact c.same (fun j hj => by rw [c3 _ (by omega)]) (fun j hj => by rw [c4 _ (by omega)])
      · obtain ⟨n, n1, n2, n3, n4⟩ := hT
        refine ⟨n, n1, by rw [c3 _ (by omega)]; exact n2, n3, fun j hj => ?_⟩
        rw [c4 _ (by omega), s2_ne (by omega)]
        exact n4 j hj
