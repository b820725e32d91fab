/-! READS: instrument, paper, count. -/
section READ
variable {σ τ : Sg} {a b c i k p q : Nat}
theorem cell0 (h : σ.1 0 = nI a) (hi : i < a) (ha : a ≤ 10) (hk : k < 11) : f_X3_cell σ 0 (nI i) (nI k) = some (σ.2 0 (i * 11 + k)) := cell_in (t := 0) h hi ha hk
theorem cell1 (h : σ.1 1 = nI a) (hi : i < a) (ha : a ≤ 12) (hk : k < 9) : f_X3_cell σ 1 (nI i) (nI k) = some (σ.2 1 (i * 9 + k)) := cell_in (t := 1) h hi ha hk
theorem cell2 (h : σ.1 2 = nI a) (hi : i < a) (ha : a ≤ 60) (hk : k < 8) : f_X3_cell σ 2 (nI i) (nI k) = some (σ.2 2 (i * 8 + k)) := cell_in (t := 2) h hi ha hk
theorem R3.ins {f : Nat → Int32} (h : R3 a b c (σ.1 0) (σ.1 1) (σ.1 2) (σ.2 0) (σ.2 1) (σ.2 2) f) (hi : i < a) : cellsI σ f i := by
  obtain ⟨⟨ha, hb, hc⟩, ⟨r0, r1, r2⟩, _, t1, _⟩ := h
  intro k hk
  rw [cell0 r0 hi ha (by omega), (t1 i hi).1 k hk]
theorem R3.pup {f : Nat → Int32} (h : R3 a b c (σ.1 0) (σ.1 1) (σ.1 2) (σ.2 0) (σ.2 1) (σ.2 2) f) (hi : p < b) (hk : k < 3) : f_X3_cell σ 1 (nI p) (nI k) = some (f (84 + 5 * p + k)) := by
  obtain ⟨⟨ha, hb, hc⟩, ⟨r0, r1, r2⟩, _, _, t2, _⟩ := h
  rw [cell1 r1 hi hb (by omega), (t2 p hi).1 k hk]
theorem R3.pap {f : Nat → Int32} (h : R3 a b c (σ.1 0) (σ.1 1) (σ.1 2) (σ.2 0) (σ.2 1) (σ.2 2) f) (hi : q < c) (hk : k < 6) : f_X3_cell σ 2 (nI q) (nI k) = some (f (144 + 8 * q + k)) := by
  obtain ⟨⟨ha, hb, hc⟩, ⟨r0, r1, r2⟩, _, _, _, t3, _⟩ := h
  rw [cell2 r2 hi hc (by omega), (t3 q hi).1 k hk]
theorem R3.pap6 {f : Nat → Int32} (h : R3 a b c (σ.1 0) (σ.1 1) (σ.1 2) (σ.2 0) (σ.2 1) (σ.2 2) f) (hi : q < c) (hk : k = 6 ∨ k = 7) : f_X3_cell σ 2 (nI q) (nI k) = some (if f (144 + 8 * q + 5) = 0 then -10000005 else f (144 + 8 * q + k)) := by
  obtain ⟨⟨ha, hb, hc⟩, ⟨r0, r1, r2⟩, _, _, _, t3, _⟩ := h
  rw [cell2 r2 hi hc (by omega), (t3 q hi).2 k hk]
theorem ne_neg {w : Int32} {k : Nat} (h : w < 0) (hk : k < 2 ^ 31) : ¬ w = nI k := fun e => by rw [e] at h; exact nI_lt0 hk h
theorem ne_big {w : Int32} {n k : Nat} (h : nI n ≤ w) (hk : k < n) (hn : n < 2 ^ 31) : ¬ w = nI k := fun e => by rw [e, nI_leN hn (by omega)] at h; omega
theorem big_le {w : Int32} {n k : Nat} (h : nI n ≤ w) (hk : k < n) (hn : n < 2 ^ 31) : ¬ w ≤ nI k := fun e => by
  have h1 := Int32.le_iff_toInt_le.mp h
  have h2 := Int32.le_iff_toInt_le.mp e
  rw [nI_iI, iI_toInt (by omega) (by omega)] at h1 h2
  omega
def SimP (ox om : Option Int32) : Prop := ∃ r, ox = some r ∧ om = some r
theorem sim_instrument (hI : Inv σ τ) (p w : Int32) : SimP (f_X4_instrument σ p w) (f_X5_instrument τ p w) := by
  obtain ⟨⟨a, b, c, h⟩, -⟩ := hI
  have h' := h
  obtain ⟨⟨ha, hb, hc⟩, ⟨r0, r1, r2⟩, ⟨f0, f1, f2⟩, t1, t2, t3, v1, -⟩ := h
  unfold f_X4_instrument f_X5_instrument
  rcases in_ix p a (by omega) with hp | hp | ⟨i, hi, rfl⟩
  · rw [lacks_neg hp, noTool_neg hp, Option.bind_some, Option.bind_some, if_neg (by decide), if_neg (by decide)]
    exact ⟨_, rfl, rfl⟩
  · rw [lacks_big r0 hp, noTool_big f0 (by omega) hp, Option.bind_some, Option.bind_some, if_neg (by decide), if_neg (by decide)]
    exact ⟨_, rfl, rfl⟩
  · rw [lacks_in r0 hi (by omega), noTool_in f0 hi (by omega), Option.bind_some, Option.bind_some, if_pos rfl, if_pos rfl]
    rcases in_ix w 11 (by omega) with hw | hw | ⟨k, hk, rfl⟩
    · rw [outside_lo hw, in_lo hw, Option.bind_some, Option.bind_some, if_neg (by decide), if_pos rfl, if_neg (show ¬ w = (8 : Int32) from ne_neg (k := 8) hw (by omega)), if_neg (show ¬ w = (9 : Int32) from ne_neg (k := 9) hw (by omega)), if_neg (show ¬ w = (10 : Int32) from ne_neg (k := 10) hw (by omega))]
      exact ⟨_, rfl, rfl⟩
    · rw [outside_hi (hi := (10 : Int32)) (big_le (k := 10) hw (by omega) (by omega)), in_hi (hi := (7 : Int32)) (big_le (k := 7) hw (by omega) (by omega)), Option.bind_some, Option.bind_some, if_neg (by decide), if_pos rfl, if_neg (show ¬ w = (8 : Int32) from ne_big (k := 8) hw (by omega) (by omega)), if_neg (show ¬ w = (9 : Int32) from ne_big (k := 9) hw (by omega) (by omega)), if_neg (show ¬ w = (10 : Int32) from ne_big (k := 10) hw (by omega) (by omega))]
      exact ⟨_, rfl, rfl⟩
    · rw [outside_in (hi := (10 : Int32)) (nI_lt0 (by omega)) ((nI_leN (b := 10) (by omega) (by omega)).mpr (by omega)), Option.bind_some, if_pos rfl, cell0 r0 hi ha hk, Option.bind_some]
      obtain ⟨q1, q2, q3, q4⟩ := t1 i hi
      rcases Nat.lt_or_ge k 8 with h8 | h8
      · rw [in_in (hi := (7 : Int32)) (nI_lt0 (by omega)) ((nI_leN (b := 7) (by omega) (by omega)).mpr (by omega)), Option.bind_some, if_neg (by decide), tool_in (by omega) h8, Option.bind_some, q1 k h8]
        exact ⟨_, rfl, rfl⟩
      · rw [in_hi (hi := (7 : Int32)) (by rw [show (7 : Int32) = nI 7 from rfl, nI_leN (by omega) (by omega)]; omega), Option.bind_some, if_pos rfl]
        have : k = 8 ∨ k = 9 ∨ k = 10 := by omega
        rcases this with rfl | rfl | rfl
        · rw [if_pos (show nI 8 = (8 : Int32) from rfl), tool_2 (by omega), Option.bind_some, wide_in (by omega), Option.bind_some, q2]
          exact ⟨_, rfl, rfl⟩
        · rw [if_neg (show ¬ nI 9 = (8 : Int32) by decide), if_pos (show nI 9 = (9 : Int32) from rfl), tool_0 (by omega), Option.bind_some, tool_3 (by omega), Option.bind_some]
          unfold f_X5_instrument_b90
          rw [tool_1 (by omega), q3]
          by_cases hr : τ.2 0 (4 + 8 * i + 3) = 1
          · rw [if_pos hr, if_pos hr]; exact ⟨_, rfl, rfl⟩
          · rw [if_neg hr, if_neg hr]; exact ⟨_, rfl, rfl⟩
        · rw [if_neg (show ¬ nI 10 = (8 : Int32) by decide), if_neg (show ¬ nI 10 = (9 : Int32) by decide), if_pos (show nI 10 = (10 : Int32) from rfl), show (1 : Int32) = nI 1 from rfl, writtenBy_in f2 hc (by omega), Option.bind_some, q4]
          exact ⟨_, rfl, rfl⟩
theorem sim_paper (hI : Inv σ τ) (p w : Int32) : SimP (f_X4_paper σ p w) (f_X5_paper τ p w) := by
  obtain ⟨⟨a, b, c, h⟩, -⟩ := hI
  have h' := h
  obtain ⟨⟨ha, hb, hc⟩, ⟨r0, r1, r2⟩, ⟨f0, f1, f2⟩, t1, t2, t3, v1, -⟩ := h
  unfold f_X4_paper f_X5_paper
  rcases in_ix p c (by omega) with hp | hp | ⟨i, hi, rfl⟩
  · rw [lacks_neg hp, noPaper_neg hp, Option.bind_some, Option.bind_some, if_neg (by decide), if_neg (by decide)]
    exact ⟨_, rfl, rfl⟩
  · rw [lacks_big r2 hp, noPaper_big f2 (by omega) hp, Option.bind_some, Option.bind_some, if_neg (by decide), if_neg (by decide)]
    exact ⟨_, rfl, rfl⟩
  · rw [lacks_in r2 hi (by omega), noPaper_in f2 hi (by omega), Option.bind_some, Option.bind_some, if_pos rfl, if_pos rfl]
    rcases in_ix w 8 (by omega) with hw | hw | ⟨k, hk, rfl⟩
    · have e6 : w < 6 := Int32.lt_iff_toInt_lt.mpr (by
        have h1 := Int32.lt_iff_toInt_lt.mp hw
        have e1 : (0 : Int32).toInt = 0 := rfl
        have e2 : (6 : Int32).toInt = 6 := rfl
        omega)
      rw [outside_lo hw, in_lo hw, Option.bind_some, Option.bind_some, if_neg (by decide), if_pos rfl, in_lo e6, Option.bind_some, if_pos rfl]
      exact ⟨_, rfl, rfl⟩
    · rw [outside_hi (hi := (7 : Int32)) (big_le (k := 7) hw (by omega) (by omega)), in_hi (hi := (5 : Int32)) (big_le (k := 5) hw (by omega) (by omega)), Option.bind_some, Option.bind_some, if_neg (by decide), if_pos rfl, in_hi (hi := (7 : Int32)) (big_le (k := 7) hw (by omega) (by omega)), Option.bind_some, if_pos rfl]
      exact ⟨_, rfl, rfl⟩
    · rw [outside_in (hi := (7 : Int32)) (nI_lt0 (by omega)) ((nI_leN (b := 7) (by omega) (by omega)).mpr (by omega)), Option.bind_some, if_pos rfl]
      rcases Nat.lt_or_ge k 6 with h6 | h6
      · rw [h'.pap hi h6, Option.bind_some, in_in (hi := (5 : Int32)) (nI_lt0 (by omega)) ((nI_leN (b := 5) (by omega) (by omega)).mpr (by omega)), Option.bind_some, if_neg (by decide), sheet_in (by omega) (by omega), Option.bind_some]
        exact ⟨_, rfl, rfl⟩
      · rw [h'.pap6 hi (by omega), Option.bind_some, in_hi (hi := (5 : Int32)) (by rw [show (5 : Int32) = nI 5 from rfl, nI_leN (by omega) (by omega)]; omega), Option.bind_some, if_pos rfl, in_in (hi := (7 : Int32)) (by rw [show (6 : Int32) = nI 6 from rfl, nI_ltN (by omega) (by omega)]; omega) ((nI_leN (b := 7) (by omega) (by omega)).mpr (by omega)), Option.bind_some, if_neg (show ¬ (1 : Int32) = 0 by decide), sheet_5 (by omega), Option.bind_some]
        by_cases hz : τ.2 0 (144 + 8 * i + 5) = 0
        · rw [if_pos hz, if_pos hz]; exact ⟨_, rfl, rfl⟩
        · rw [if_neg hz, if_neg hz, sheet_in (by omega) (by omega), Option.bind_some]; exact ⟨_, rfl, rfl⟩
theorem count_loop (h : τ.2 0 2 = nI c) (hc : c ≤ 60) {w : Int32} : ∀ (m n i : Nat), m + i = c → m < n → ∃ n', f_X5_count_b4 τ n w (sumI (fun q => τ.2 0 (144 + 8 * q + 4)) i) (nI i) = f_X5_count_b4 τ (n' + 1) w (sumI (fun q => τ.2 0 (144 + 8 * q + 4)) c) (nI c) := by
  intro m
  induction m with
  | zero =>
    intro n i hm hn
    obtain ⟨n, rfl⟩ : ∃ z, n = z + 1 := ⟨n - 1, by omega⟩
    have hk : i = c := by omega
    subst hk
    exact ⟨n, rfl⟩
  | succ m ih =>
    intro n i hm hn
    obtain ⟨n, rfl⟩ : ∃ z, n = z + 1 := ⟨n - 1, by omega⟩
    obtain ⟨n', e⟩ := ih n (i + 1) (by omega) (by omega)
    refine ⟨n', ?_⟩
    rw [f_X5_count_b4.eq_2, i2, x2, h]
    refine (if_neg (by rw [nI_leN (by omega) (by omega)]; omega)).trans ?_
    rw [sheet_4 (by omega), Option.bind_some]
    simp only [lt]
    rw [nI_1]
    exact e
theorem sim_count (hI : Inv σ τ) (w : Int32) : SimP (f_X4_count σ w) (f_X5_count τ w) := by
  obtain ⟨⟨a, b, c, h⟩, ⟨hh, o, _, _, e20, _, m0, _⟩, -, ⟨n, _, e22, e8, _⟩⟩ := hI
  obtain ⟨⟨ha, hb, hc⟩, ⟨r0, r1, r2⟩, ⟨f0, f1, f2⟩, t1, t2, t3, v1, -⟩ := h
  have rw5 : ∀ s : Int32, f_X3_rowsWith σ 2 5 s = some (nI (cntB (fun q => decide (τ.2 0 (144 + 8 * q + 5) = s)) c)) := by
    intro s
    rw [show (5 : Int32) = nI 5 from rfl, rowsWith_in (t := 2) r2 hc (show 5 < 8 by omega)]
    congr 2
    exact cntB_congr c fun q hq => by
      have e : σ.2 2 (q * tcolN 2 + 5) = τ.2 0 (144 + 8 * q + 5) := (t3 q hq).1 5 (by omega)
      rw [e]
  have sum4 : f_X3_sumOf σ 2 4 = some (sumI (fun q => τ.2 0 (144 + 8 * q + 4)) c) := by
    rw [show (4 : Int32) = nI 4 from rfl, sumOf_in (t := 2) r2 hc (show 4 < 8 by omega)]
    congr 1
    exact sumI_congr c fun q hq => (t3 q hq).1 4 (by omega)
  have hl : ∀ {o : Option Int32}, f_X5_count τ w = o ↔ (if w = 0 then (f_X5_count_b80 τ w) else if w = 1 then (f_X5_count_b80 τ w) else if w = 2 then (f_X5_count_b80 τ w) else if w = 3 then (f_X5_count_b87 τ w) else if w = 4 then (f_X5_count_b87 τ w) else if w = 5 then (f_X5_count_b87 τ w) else if w = 6 then (some (sumI (fun q => τ.2 0 (144 + 8 * q + 4)) c)) else if w = 7 then (some (τ.1 0)) else if w = 8 then (some (τ.1 8)) else (some (-10000002 : Int32))) = o := by
    intro o
    obtain ⟨n', e⟩ := count_loop (w := w) f2 hc c fuel 0 (by omega) (by unfold fuel; omega)
    have e2 : f_X5_count τ w = f_X5_count_b4 τ (n' + 1) w (sumI (fun q => τ.2 0 (144 + 8 * q + 4)) c) (nI c) := e
    rw [e2, f_X5_count_b4.eq_2, i2, x2, f2]
    have e3 : ∀ (x y : Option Int32), (if nI c ≤ nI c then x else y) = x := fun x y => if_pos (Int32.le_refl _)
    rw [e3]; rfl
  unfold SimP
  simp only [hl]
  unfold f_X4_count f_X3_size f_X0_size f_X1_length f_X5_count_b80 f_X5_count_b87
  simp only [Option.bind_some, rw5, sum4]
  by_cases h0 : w = 0
  · subst h0
    rw [if_pos rfl, if_pos rfl, i0, x0, r0, f0]; exact ⟨_, rfl, rfl⟩
  rw [if_neg h0, if_neg h0]
  by_cases h1 : w = 1
  · subst h1
    rw [if_pos rfl, if_pos rfl, i1, x1, r1, f1]; exact ⟨_, rfl, rfl⟩
  rw [if_neg h1, if_neg h1]
  by_cases h2 : w = 2
  · subst h2
    rw [if_pos rfl, if_pos rfl, i2, x2, r2, f2]; exact ⟨_, rfl, rfl⟩
  rw [if_neg h2, if_neg h2]
  by_cases h3 : w = 3
  · subst h3
    rw [if_pos rfl, if_pos rfl, show (3 : Int32) - 2 = 1 by decide, inAppeal_in f2 hc]; exact ⟨_, rfl, rfl⟩
  rw [if_neg h3, if_neg h3]
  by_cases h4 : w = 4
  · subst h4
    rw [if_pos rfl, if_pos rfl, show (4 : Int32) - 2 = 2 by decide, inAppeal_in f2 hc]; exact ⟨_, rfl, rfl⟩
  rw [if_neg h4, if_neg h4]
  by_cases h5 : w = 5
  · subst h5
    rw [if_pos rfl, if_pos rfl, show (5 : Int32) - 2 = 3 by decide, inAppeal_in f2 hc]; exact ⟨_, rfl, rfl⟩
  rw [if_neg h5, if_neg h5]
  by_cases h6 : w = 6
  · rw [if_pos h6, if_pos h6]; exact ⟨_, rfl, rfl⟩
  rw [if_neg h6, if_neg h6]
  by_cases h7 : w = 7
  · rw [if_pos h7, if_pos h7, e20, m0]; exact ⟨_, rfl, rfl⟩
  rw [if_neg h7, if_neg h7]
  by_cases h8 : w = 8
  · rw [if_pos h8, if_pos h8, e22, e8]; exact ⟨_, rfl, rfl⟩
  rw [if_neg h8, if_neg h8]
  exact ⟨_, rfl, rfl⟩
end READ
