/-! READS: pupil, ranked, waiting. -/
theorem iNow.get {σ τ : Sg} (h : iNow σ τ) : ∃ a b c, R3 a b c (σ.1 0) (σ.1 1) (σ.1 2) (σ.2 0) (σ.2 1) (σ.2 2) (τ.2 0) := h
theorem sum_bd {g : Nat → Int32} : ∀ c, (∀ q, q < c → ∃ k : Nat, k ≤ 10 ∧ g q = nI k) → ∃ s : Nat, s ≤ 10 * c ∧ sumI g c = nI s := by
  intro c
  induction c with
  | zero => intro _; exact ⟨0, by omega, rfl⟩
  | succ c ih =>
    intro h
    obtain ⟨s, hs, e⟩ := ih (fun q hq => h q (by omega))
    obtain ⟨k, hk, e2⟩ := h c (by omega)
    exact ⟨s + k, by omega, by rw [show sumI g (c + 1) = sumI g c + g c from rfl, e, e2, nI_add]⟩
theorem mks_bd {f : Nat → Int32} {a b c : Nat} (h : ∀ q, q < c → papV f a b q) (v : Int32) : ∃ s : Nat, s ≤ 10 * c ∧ sumI (mks f v) c = nI s := sum_bd c fun q hq => by
  obtain ⟨p, i, x, k, s, q1, q2, q3, q4, q5, q6, q7, q8, -⟩ := h q hq
  unfold mks
  split
  · exact ⟨k, q8, q7⟩
  · exact ⟨0, by omega, rfl⟩
theorem nI_sub {a b : Nat} : nI a - nI b = iI ((a : Int) - b) := by rw [nI_iI, nI_iI, iI_sub]
section RANK
variable {σ τ : Sg} {a b c p q : Nat}
theorem better_eq (h : R3 a b c (σ.1 0) (σ.1 1) (σ.1 2) (σ.2 0) (σ.2 1) (σ.2 2) (τ.2 0)) (hp : p < b) (hq : q < b) :
    ∃ r, f_X2_isBetter σ (nI p) (nI q) = some r ∧ f_X5_isBetter τ (nI p) (nI q) = some r ∧ (p = q → r = 0) := by
  obtain ⟨⟨ha, hb, hc⟩, ⟨r0, r1, r2⟩, ⟨f0, f1, f2⟩, t1, t2, t3, v1, v2, v3, -⟩ := h
  obtain ⟨-, p3, p4, -⟩ := t2 p hp
  obtain ⟨-, q3, q4, -⟩ := t2 q hq
  obtain ⟨s1_, b1, e1⟩ := mks_bd v3 (nI p)
  obtain ⟨s2_, b2, e2⟩ := mks_bd v3 (nI q)
  have c1 : cntP (τ.2 0) c p ≤ 60 := Nat.le_trans (cntB_le _ _) hc
  have c2 : cntP (τ.2 0) c q ≤ 60 := Nat.le_trans (cntB_le _ _) hc
  have w1 : f_X5_writtenBy τ (0 : Int32) (nI p) = some (nI (cntP (τ.2 0) c p)) := writtenBy_in (k := 0) f2 hc (by omega)
  have w2 : f_X5_writtenBy τ (0 : Int32) (nI q) = some (nI (cntP (τ.2 0) c q)) := writtenBy_in (k := 0) f2 hc (by omega)
  have x3 : f_X3_cell σ 1 (nI p) (3 : Int32) = some (nI (cntP (τ.2 0) c p)) := (cell1 (k := 3) r1 hp hb (by omega)).trans (by rw [p3])
  have y3 : f_X3_cell σ 1 (nI q) (3 : Int32) = some (nI (cntP (τ.2 0) c q)) := (cell1 (k := 3) r1 hq hb (by omega)).trans (by rw [q3])
  have x4 : f_X3_cell σ 1 (nI p) (4 : Int32) = some (nI s1_) := (cell1 (k := 4) r1 hp hb (by omega)).trans (by rw [p4, e1])
  have y4 : f_X3_cell σ 1 (nI q) (4 : Int32) = some (nI s2_) := (cell1 (k := 4) r1 hq hb (by omega)).trans (by rw [q4, e2])
  have same : p = q → cntP (τ.2 0) c p = cntP (τ.2 0) c q ∧ s1_ = s2_ := by
    intro e; subst e
    refine ⟨rfl, ?_⟩
    rw [e1, nI_eq (by omega) (by omega)] at e2
    exact e2
  generalize cntP (τ.2 0) c p = m at *
  generalize cntP (τ.2 0) c q = n at *
  unfold f_X2_isBetter f_X5_isBetter f_X2_isBetter_b77 f_X5_isBetter_b24
  rw [x3, y3, w1, w2]
  simp only [Option.bind_some]
  rw [x4, y4, marksOf_in f2 hc, marksOf_in f2 hc, e1, e2]
  simp only [Option.bind_some, lt]
  have z : (0 : Int32) = nI 0 := rfl
  have zle : nI m ≤ 0 ↔ m = 0 := by rw [z, nI_leN (by omega) (by omega)]; omega
  have zle2 : nI n ≤ 0 ↔ n = 0 := by rw [z, nI_leN (by omega) (by omega)]; omega
  have zeq : nI m = 0 ↔ m = 0 := by rw [z, nI_eq (by omega) (by omega)]
  have zeq2 : nI n = 0 ↔ n = 0 := by rw [z, nI_eq (by omega) (by omega)]
  have meq : nI m = nI n ↔ m = n := nI_eq (by omega) (by omega)
  have mle : nI m ≤ nI n ↔ m ≤ n := nI_leN (by omega) (by omega)
  have ple : nI q ≤ nI p ↔ q ≤ p := nI_leN (by omega) (by omega)
  have k1 : s1_ * n ≤ 600 * 60 := Nat.mul_le_mul (by omega) c2
  have k2 : s2_ * m ≤ 600 * 60 := Nat.mul_le_mul (by omega) c1
  rw [pk_mul, pk_mul]
  have same2 : p = q → s1_ * n = s2_ * m := by
    intro e; obtain ⟨e1, e2⟩ := same e; rw [e1, e2]
  generalize s1_ * n = u at *
  generalize s2_ * m = w at *
  have ueq : nI u = nI w ↔ u = w := nI_eq (by omega) (by omega)
  have ule : nI u ≤ nI w ↔ u ≤ w := nI_leN (by omega) (by omega)
  have dz : nI u - nI w = 0 ↔ u = w := by rw [nI_sub, show (0 : Int32) = iI 0 from rfl, iI_eq ⟨by omega, by omega⟩ ⟨by omega, by omega⟩]; omega
  have dle : nI u - nI w ≤ 0 ↔ u ≤ w := by rw [nI_sub, show (0 : Int32) = iI 0 from rfl, iI_le ⟨by omega, by omega⟩ ⟨by omega, by omega⟩]; omega
  simp only [zle, zle2, zeq, zeq2, meq, mle, ple, ueq, ule, dz, dle]
  by_cases hm : m = 0
  · by_cases hn : n = 0
    · subst hm hn
      simp only [if_true]
      by_cases hpq : q ≤ p
      · simp only [hpq, if_true]; exact ⟨_, rfl, rfl, fun _ => rfl⟩
      · simp only [hpq, if_false]; exact ⟨_, rfl, rfl, fun e => absurd (by omega) hpq⟩
    · simp only [hm, hn, if_true, if_false, show ¬ (0 = n) by omega, Nat.zero_le]
      exact ⟨_, rfl, rfl, fun _ => rfl⟩
  · by_cases hn : n = 0
    · simp only [hm, hn, if_true, if_false, Nat.le_zero]
      exact ⟨_, rfl, rfl, fun e => absurd ((same e).1.trans hn) hm⟩
    · simp only [hm, hn, if_false]
      by_cases hu : u = w
      · simp only [hu, if_true]
        by_cases hmn : m = n
        · simp only [hmn, if_true]
          by_cases hpq : q ≤ p
          · simp only [hpq, if_true]; exact ⟨_, rfl, rfl, fun _ => rfl⟩
          · simp only [hpq, if_false]; exact ⟨_, rfl, rfl, fun e => absurd (by omega) hpq⟩
        · simp only [hmn, if_false]
          by_cases hmn2 : m ≤ n
          · simp only [hmn2, if_true]; exact ⟨_, rfl, rfl, fun _ => rfl⟩
          · simp only [hmn2, if_false]; exact ⟨_, rfl, rfl, fun e => absurd (same e).1 hmn⟩
      · simp only [hu, if_false]
        by_cases hu2 : u ≤ w
        · simp only [hu2, if_true]; exact ⟨_, rfl, rfl, fun _ => rfl⟩
        · simp only [hu2, if_false]; exact ⟨_, rfl, rfl, fun e => absurd (same2 e) hu⟩
theorem rank_loop (h : R3 a b c (σ.1 0) (σ.1 1) (σ.1 2) (σ.2 0) (σ.2 1) (σ.2 2) (τ.2 0)) (hp : p < b) : ∀ (m n i : Nat) (v : Int32), m + i = b → m < n →
    SimP (f_X2_rankOf_b4 σ n (nI p) v (nI i)) (f_X5_rankOf_b4 τ n (nI p) v (nI i)) := by
  have h' := h
  obtain ⟨⟨ha, hb, hc⟩, ⟨r0, r1, r2⟩, ⟨f0, f1, f2⟩, -⟩ := h
  intro m
  induction m with
  | zero =>
    intro n i v hm hn
    obtain ⟨n, rfl⟩ : ∃ z, n = z + 1 := ⟨n - 1, by omega⟩
    have hk : i = b := by omega
    subst hk
    rw [f_X2_rankOf_b4.eq_2, f_X5_rankOf_b4.eq_2, i1, x1, f1]
    unfold f_X3_size
    rw [Option.bind_some, r1, if_pos (Int32.le_refl _)]
    exact ⟨v, rfl, if_pos (Int32.le_refl _)⟩
  | succ m ih =>
    intro n i v hm hn
    obtain ⟨n, rfl⟩ : ∃ z, n = z + 1 := ⟨n - 1, by omega⟩
    obtain ⟨r, e1, e2, e3⟩ := better_eq h' (p := i) (q := p) (by omega) hp
    have nle : ¬ nI b ≤ nI i := by rw [nI_leN (by omega) (by omega)]; omega
    have go := fun w => ih n (i + 1) w (by omega) (by omega)
    rw [f_X2_rankOf_b4.eq_2, f_X5_rankOf_b4.eq_2, i1, x1, f1, e1, e2]
    unfold f_X3_size f_X2_rankOf_b27 f_X5_rankOf_b33 f_X5_rankOf_b34
    simp only [Option.bind_some, lt]
    have idl : ∀ x : Option Int32, id x = x := fun _ => rfl
    rw [idl, r1, if_neg nle, if_neg nle, nI_1]
    by_cases hip : i = p
    · rw [if_pos (e3 hip), if_pos (by rw [hip])]
      have := go v
      rw [show v + (0 : Int32) = v by exact Int32.add_zero v]
      exact this
    · rw [if_neg (show ¬ nI i = nI p by rw [nI_eq (by omega) (by omega)]; exact hip)]
      by_cases hr : r = 0
      · rw [if_pos hr, if_pos hr, show v + (0 : Int32) = v by exact Int32.add_zero v]
        exact go v
      · rw [if_neg hr, if_neg hr]
        exact go (v + 1)
theorem rank_eq (h : R3 a b c (σ.1 0) (σ.1 1) (σ.1 2) (σ.2 0) (σ.2 1) (σ.2 2) (τ.2 0)) (hp : p < b) : SimP (f_X2_rankOf σ (nI p)) (f_X5_rankOf τ (nI p)) := by
  have hb := h.1.2.1
  exact rank_loop h hp b fuel 0 0 (by omega) (by unfold fuel; omega)
theorem ranked_loop (h : R3 a b c (σ.1 0) (σ.1 1) (σ.1 2) (σ.2 0) (σ.2 1) (σ.2 2) (τ.2 0)) {w : Int32} : ∀ (m n i : Nat), m + i = b → m < n →
    SimP (f_X4_ranked_b9 σ n w (nI i)) (f_X5_ranked_b9 τ n w (nI i)) := by
  have h' := h
  obtain ⟨⟨ha, hb, hc⟩, ⟨r0, r1, r2⟩, ⟨f0, f1, f2⟩, -⟩ := h
  have idl : ∀ x : Option Int32, id x = x := fun _ => rfl
  intro m
  induction m with
  | zero =>
    intro n i hm hn
    obtain ⟨n, rfl⟩ : ∃ z, n = z + 1 := ⟨n - 1, by omega⟩
    have hk : i = b := by omega
    subst hk
    rw [f_X4_ranked_b9.eq_2, f_X5_ranked_b9.eq_2, i1, x1, f1, idl]
    unfold f_X3_size
    rw [Option.bind_some, r1, if_pos (Int32.le_refl _), if_pos (Int32.le_refl _)]
    exact ⟨_, rfl, rfl⟩
  | succ m ih =>
    intro n i hm hn
    obtain ⟨n, rfl⟩ : ∃ z, n = z + 1 := ⟨n - 1, by omega⟩
    have nle : ¬ nI b ≤ nI i := by rw [nI_leN (by omega) (by omega)]; omega
    obtain ⟨r, e1, e2⟩ := rank_eq h' (p := i) (by omega)
    rw [f_X4_ranked_b9.eq_2, f_X5_ranked_b9.eq_2, i1, x1, f1, idl, e1, e2]
    unfold f_X3_size
    simp only [Option.bind_some, lt]
    rw [r1, if_neg nle, if_neg nle, nI_1]
    by_cases hr : r = w
    · rw [if_pos hr, if_pos hr]; exact ⟨_, rfl, rfl⟩
    · rw [if_neg hr, if_neg hr]; exact ih n (i + 1) (by omega) (by omega)
theorem sim_ranked (hI : Inv σ τ) (w : Int32) : SimP (f_X4_ranked σ w) (f_X5_ranked τ w) := by
  obtain ⟨a, b, c, h⟩ := hI.1.get
  have hb := h.1.2.1
  unfold f_X4_ranked f_X5_ranked
  by_cases hw : 0 ≤ w
  · rw [if_pos hw, if_pos hw]
    exact ranked_loop h b fuel 0 (by omega) (by unfold fuel; omega)
  · rw [if_neg hw, if_neg hw]; exact ⟨_, rfl, rfl⟩
theorem low_loop (h : R3 a b c (σ.1 0) (σ.1 1) (σ.1 2) (σ.2 0) (σ.2 1) (σ.2 2) (τ.2 0)) {w : Int32} : ∀ (m n i : Nat) (v : Int32), m + i = c → m < n →
    SimP (f_X2_lowestMark_b5 σ n w v (nI i)) (f_X5_lowestOf_b5 τ n w v (nI i)) := by
  have h' := h
  obtain ⟨⟨ha, hb, hc⟩, ⟨r0, r1, r2⟩, ⟨f0, f1, f2⟩, -⟩ := h
  have idl : ∀ x : Option Int32, id x = x := fun _ => rfl
  intro m
  induction m with
  | zero =>
    intro n i v hm hn
    obtain ⟨n, rfl⟩ : ∃ z, n = z + 1 := ⟨n - 1, by omega⟩
    have hk : i = c := by omega
    subst hk
    rw [f_X2_lowestMark_b5.eq_2, f_X5_lowestOf_b5.eq_2, i2, x2, f2, idl]
    unfold f_X3_size
    rw [Option.bind_some, r2, if_pos (Int32.le_refl _), if_pos (Int32.le_refl _)]
    exact ⟨_, rfl, rfl⟩
  | succ m ih =>
    intro n i v hm hn
    obtain ⟨n, rfl⟩ : ∃ z, n = z + 1 := ⟨n - 1, by omega⟩
    have nle : ¬ nI c ≤ nI i := by rw [nI_leN (by omega) (by omega)]; omega
    have go := fun w => ih n (i + 1) w (by omega) (by omega)
    have g0 : f_X3_cell σ 2 (nI i) (0 : Int32) = some (τ.2 0 (144 + 8 * i)) := h'.pap (k := 0) (by omega) (by omega)
    have g4 : f_X3_cell σ 2 (nI i) (4 : Int32) = some (τ.2 0 (144 + 8 * i + 4)) := h'.pap (k := 4) (by omega) (by omega)
    rw [f_X2_lowestMark_b5.eq_2, f_X5_lowestOf_b5.eq_2, i2, x2, f2, idl, g0, sheet_0 (by omega)]
    unfold f_X3_size f_X2_lowestMark_b58 f_X2_lowestMark_b57 f_X2_lowestMark_b58 f_X5_lowestOf_b48 f_X5_lowestOf_b41 f_X5_lowestOf_b48
    rw [g4, sheet_4 (by omega)]
    simp only [Option.bind_some, lt]
    rw [r2, if_neg nle, if_neg nle, nI_1]
    by_cases h0 : τ.2 0 (144 + 8 * i) = w
    · rw [if_pos h0, if_pos h0]
      by_cases hv : v = (-10000005 : Int32)
      · rw [if_pos hv, if_pos hv]; exact go _
      · rw [if_neg hv, if_neg hv]
        by_cases hl : v ≤ τ.2 0 (144 + 8 * i + 4)
        · rw [if_pos hl, if_neg (Int32.not_lt.mpr hl)]; exact go _
        · rw [if_neg hl, if_pos (Int32.not_le.mp hl)]; exact go _
    · rw [if_neg h0, if_neg h0]; exact go _
theorem low_eq (h : R3 a b c (σ.1 0) (σ.1 1) (σ.1 2) (σ.2 0) (σ.2 1) (σ.2 2) (τ.2 0)) (w : Int32) : SimP (f_X2_lowestMark σ w) (f_X5_lowestOf τ w) := by
  have hc := h.1.2.2
  exact low_loop h c fuel 0 _ (by omega) (by unfold fuel; omega)
theorem sim_pupil (hI : Inv σ τ) (p w : Int32) : SimP (f_X4_pupil σ p w) (f_X5_pupil τ p w) := by
  obtain ⟨a, b, c, h⟩ := hI.1.get
  have h' := h
  obtain ⟨⟨ha, hb, hc⟩, ⟨r0, r1, r2⟩, ⟨f0, f1, f2⟩, t1, t2, t3, v1, -⟩ := h
  unfold f_X4_pupil f_X5_pupil
  rcases in_ix p b (by omega) with hp | hp | ⟨i, hi, rfl⟩
  · rw [lacks_neg hp, noScholar_neg hp, Option.bind_some, Option.bind_some, if_neg (by decide), if_neg (by decide)]
    exact ⟨_, rfl, rfl⟩
  · rw [lacks_big r1 hp, noScholar_big f1 (by omega) hp, Option.bind_some, Option.bind_some, if_neg (by decide), if_neg (by decide)]
    exact ⟨_, rfl, rfl⟩
  · rw [lacks_in r1 hi (by omega), noScholar_in f1 hi (by omega), Option.bind_some, Option.bind_some, if_pos rfl, if_pos rfl]
    rcases in_ix w 9 (by omega) with hw | hw | ⟨k, hk, rfl⟩
    · have n : ∀ k : Nat, k < 9 → ¬ w = nI k := fun k hk => ne_neg hw (by omega)
      rw [outside_lo hw, Option.bind_some, if_neg (by decide), if_neg (show ¬ w = 0 from n 0 (by omega)), if_neg (show ¬ w = 1 from n 1 (by omega)), if_neg (show ¬ w = 2 from n 2 (by omega)), if_neg (show ¬ w = 3 from n 3 (by omega)), if_neg (show ¬ w = 4 from n 4 (by omega)), if_neg (show ¬ w = 5 from n 5 (by omega)), if_neg (show ¬ w = 6 from n 6 (by omega)), if_neg (show ¬ w = 7 from n 7 (by omega)), if_neg (show ¬ w = 8 from n 8 (by omega))]
      exact ⟨_, rfl, rfl⟩
    · have n : ∀ k : Nat, k < 9 → ¬ w = nI k := fun k hk => ne_big hw hk (by omega)
      rw [outside_hi (hi := (8 : Int32)) (big_le (k := 8) hw (by omega) (by omega)), Option.bind_some, if_neg (by decide), if_neg (show ¬ w = 0 from n 0 (by omega)), if_neg (show ¬ w = 1 from n 1 (by omega)), if_neg (show ¬ w = 2 from n 2 (by omega)), if_neg (show ¬ w = 3 from n 3 (by omega)), if_neg (show ¬ w = 4 from n 4 (by omega)), if_neg (show ¬ w = 5 from n 5 (by omega)), if_neg (show ¬ w = 6 from n 6 (by omega)), if_neg (show ¬ w = 7 from n 7 (by omega)), if_neg (show ¬ w = 8 from n 8 (by omega))]
      exact ⟨_, rfl, rfl⟩
    · rw [outside_in (hi := (8 : Int32)) (nI_lt0 (by omega)) ((nI_leN (b := 8) (by omega) (by omega)).mpr (by omega)), Option.bind_some, if_pos rfl]
      obtain ⟨q1, q2, q3, q4, q5⟩ := t2 i hi
      have cc : ∀ k, k < 9 → f_X3_cell σ 1 (nI i) (nI k) = some (σ.2 1 (i * 9 + k)) := fun k hk => cell1 r1 hi hb hk
      have eqn : ∀ j : Nat, j < 9 → (nI k = nI j ↔ k = j) := fun j hj => nI_eq (by omega) (by omega)
      have l0 : (nI k = (0 : Int32)) ↔ k = 0 := eqn 0 (by omega)
      have l1 : (nI k = (1 : Int32)) ↔ k = 1 := eqn 1 (by omega)
      have l2 : (nI k = (2 : Int32)) ↔ k = 2 := eqn 2 (by omega)
      have l3 : (nI k = (3 : Int32)) ↔ k = 3 := eqn 3 (by omega)
      have l4 : (nI k = (4 : Int32)) ↔ k = 4 := eqn 4 (by omega)
      have l5 : (nI k = (5 : Int32)) ↔ k = 5 := eqn 5 (by omega)
      have l6 : (nI k = (6 : Int32)) ↔ k = 6 := eqn 6 (by omega)
      have l7 : (nI k = (7 : Int32)) ↔ k = 7 := eqn 7 (by omega)
      have l8 : (nI k = (8 : Int32)) ↔ k = 8 := eqn 8 (by omega)
      simp only [l0, l1, l2, l3, l4, l5, l6, l7, l8]
      rw [cc k hk]
      unfold f_X5_pupil_b64
      rcases Nat.lt_or_ge k 3 with hk3 | hk3
      · rw [if_neg (show ¬ k = 5 by omega), if_neg (show ¬ k = 8 by omega), scholar_in (by omega) (by omega), Option.bind_some, Option.bind_some, q1 k hk3]
        refine ⟨_, rfl, ?_⟩
        by_cases e0 : k = 0
        · rw [if_pos e0]
        rw [if_neg e0]
        by_cases e1 : k = 1
        · rw [if_pos e1]
        rw [if_neg e1, if_pos (show k = 2 by omega)]
      rw [if_neg (show ¬ k = 0 by omega), if_neg (show ¬ k = 1 by omega), if_neg (show ¬ k = 2 by omega)]
      have : k = 3 ∨ k = 4 ∨ k = 5 ∨ k = 6 ∨ k = 7 ∨ k = 8 := by omega
      rcases this with rfl | rfl | rfl | rfl | rfl | rfl
      · rw [if_neg (by decide), if_neg (by decide), if_pos rfl, Option.bind_some, q2, show f_X5_writtenBy τ (0 : Int32) (nI i) = some (nI (cntP (τ.2 0) c i)) from writtenBy_in (k := 0) f2 hc (by omega)]
        exact ⟨_, rfl, rfl⟩
      · rw [if_neg (by decide), if_neg (by decide), if_neg (by decide), if_pos rfl, Option.bind_some, q3, marksOf_in f2 hc]
        exact ⟨_, rfl, rfl⟩
      · obtain ⟨r, e1, e2⟩ := rank_eq h' hi
        rw [if_pos rfl, if_neg (by decide), if_neg (by decide), if_pos rfl, e1, e2]
        exact ⟨_, rfl, rfl⟩
      · rw [if_neg (by decide), if_neg (by decide), if_neg (by decide), if_neg (by decide), if_neg (by decide), if_pos rfl, Option.bind_some, q4, scholar_3 (by omega)]
        exact ⟨_, rfl, rfl⟩
      · rw [if_neg (by decide), if_neg (by decide), if_neg (by decide), if_neg (by decide), if_neg (by decide), if_neg (by decide), if_pos rfl, Option.bind_some, q5, scholar_4 (by omega)]
        exact ⟨_, rfl, rfl⟩
      · obtain ⟨r, e1, e2⟩ := low_eq h' (nI i)
        rw [if_neg (by decide), if_pos rfl, if_neg (by decide), if_neg (by decide), if_neg (by decide), if_neg (by decide), if_neg (by decide), if_pos rfl, e1, e2]
        exact ⟨_, rfl, rfl⟩
/-- the queue -/
def waitsQ (f : Nat → Int32) (q : Nat) : Prop := f (144 + 8 * q + 5) = 1
theorem sooner_eq (h : R3 a b c (σ.1 0) (σ.1 1) (σ.1 2) (σ.2 0) (σ.2 1) (σ.2 2) (τ.2 0)) (hp : p < c) (hq : q < c) (wp : waitsQ (τ.2 0) p) (wq : waitsQ (τ.2 0) q) :
    ∃ r, f_X2_isSooner σ (nI p) (nI q) = some r ∧ f_X5_isAhead τ (nI p) (nI q) = some r ∧ (p = q → r = 0) := by
  have hc := h.1.2.2
  unfold waitsQ at wp wq
  have p7 : f_X3_cell σ 2 (nI p) (7 : Int32) = some (τ.2 0 (144 + 8 * p + 7)) := (h.pap6 (k := 7) hp (by omega)).trans (by rw [if_neg (by rw [wp]; decide)])
  have q7 : f_X3_cell σ 2 (nI q) (7 : Int32) = some (τ.2 0 (144 + 8 * q + 7)) := (h.pap6 (k := 7) hq (by omega)).trans (by rw [if_neg (by rw [wq]; decide)])
  have p4 : f_X3_cell σ 2 (nI p) (4 : Int32) = some (τ.2 0 (144 + 8 * p + 4)) := h.pap (k := 4) hp (by omega)
  have q4 : f_X3_cell σ 2 (nI q) (4 : Int32) = some (τ.2 0 (144 + 8 * q + 4)) := h.pap (k := 4) hq (by omega)
  unfold f_X2_isSooner f_X5_isAhead
  rw [p7, q7, p4, q4, sheet_7 (by omega), sheet_7 (by omega), sheet_4 (by omega), sheet_4 (by omega)]
  simp only [Option.bind_some]
  by_cases e7 : τ.2 0 (144 + 8 * p + 7) = τ.2 0 (144 + 8 * q + 7)
  · simp only [if_pos e7]
    by_cases e4 : τ.2 0 (144 + 8 * p + 4) = τ.2 0 (144 + 8 * q + 4)
    · simp only [if_pos e4]
      by_cases e : nI q ≤ nI p
      · simp only [if_pos e]; exact ⟨_, rfl, rfl, fun _ => rfl⟩
      · simp only [if_neg e]; exact ⟨_, rfl, rfl, fun h => absurd (by rw [h]; exact Int32.le_refl _) e⟩
    · simp only [if_neg e4]
      split
      · exact ⟨_, rfl, rfl, fun _ => rfl⟩
      · exact ⟨_, rfl, rfl, fun h => absurd (by rw [h]) e4⟩
  · simp only [if_neg e7]
    split
    · exact ⟨_, rfl, rfl, fun _ => rfl⟩
    · exact ⟨_, rfl, rfl, fun h => absurd (by rw [h]) e7⟩
theorem ahead_some (hc : c ≤ 60) (hp : p < c) (hq : q < c) : ∃ r, f_X5_isAhead τ (nI p) (nI q) = some r := by
  unfold f_X5_isAhead
  rw [sheet_7 (by omega), sheet_7 (by omega), sheet_4 (by omega), sheet_4 (by omega)]
  simp only [Option.bind_some]
  repeat' split
  all_goals exact ⟨_, rfl⟩
theorem waits_in (h : R3 a b c (σ.1 0) (σ.1 1) (σ.1 2) (σ.2 0) (σ.2 1) (σ.2 2) (τ.2 0)) (hp : p < c) : f_X2_waits σ (nI p) = some (if τ.2 0 (144 + 8 * p + 5) = 1 then 1 else 0) := by
  unfold f_X2_waits
  rw [show f_X3_cell σ 2 (nI p) (5 : Int32) = some (τ.2 0 (144 + 8 * p + 5)) from h.pap (k := 5) hp (by omega), Option.bind_some]
  split <;> rfl
theorem ahead_loop (h : R3 a b c (σ.1 0) (σ.1 1) (σ.1 2) (σ.2 0) (σ.2 1) (σ.2 2) (τ.2 0)) (hq : q < c) {w : Int32} {K : Int32 → Int32 → Option Int32} : ∀ (m n i : Nat) (v : Int32), m + i = c → m < n →
    ∃ r, f_X5_waiting_b24 τ K n w (nI q) v (nI i) = (if τ.2 0 (144 + 8 * q + 5) = 1 then (if r = w then some (nI q) else K w (nI (q + 1))) else K w (nI (q + 1))) ∧ (waitsQ (τ.2 0) q → f_X2_appealsAhead_b4 σ n (nI q) v (nI i) = some r) := by
  have h' := h
  obtain ⟨⟨ha, hb, hc⟩, ⟨r0, r1, r2⟩, ⟨f0, f1, f2⟩, -⟩ := h
  have idl : ∀ x : Option Int32, id x = x := fun _ => rfl
  intro m
  induction m with
  | zero =>
    intro n i v hm hn
    obtain ⟨n, rfl⟩ : ∃ z, n = z + 1 := ⟨n - 1, by omega⟩
    have hk : i = c := by omega
    subst hk
    refine ⟨v, ?_, fun _ => ?_⟩
    · rw [f_X5_waiting_b24.eq_2, i2, x2, f2, idl, if_pos (Int32.le_refl _), sheet_5 (by omega), Option.bind_some]
      unfold f_X5_waiting_b93
      simp only [lt]
      rw [nI_1]
    · rw [f_X2_appealsAhead_b4.eq_2]
      unfold f_X3_size
      rw [Option.bind_some, r2, if_pos (Int32.le_refl _)]
  | succ m ih =>
    intro n i v hm hn
    obtain ⟨n, rfl⟩ : ∃ z, n = z + 1 := ⟨n - 1, by omega⟩
    have nle : ¬ nI c ≤ nI i := by rw [nI_leN (by omega) (by omega)]; omega
    obtain ⟨r0_, g1, g2⟩ := ih n (i + 1) v (by omega) (by omega)
    obtain ⟨r1_, g3, g4⟩ := ih n (i + 1) (v + 1) (by omega) (by omega)
    have z0 : v + (0 : Int32) = v := Int32.add_zero v
    rw [f_X5_waiting_b24.eq_2, f_X2_appealsAhead_b4.eq_2, i2, x2, f2, idl, if_neg nle, waits_in h' (show i < c by omega), sheet_5 (show i < 60 by omega)]
    unfold f_X3_size f_X5_waiting_b67 f_X5_waiting_b68 f_X2_appealsAhead_b35
    simp only [Option.bind_some, lt]
    rw [nI_1, z0, r2, if_neg nle]
    by_cases hiq : i = q
    · rw [if_pos (show nI i = nI q by rw [hiq])]
      refine ⟨r0_, g1, fun hw => ?_⟩
      have hwi : τ.2 0 (144 + 8 * i + 5) = 1 := by rw [hiq]; exact hw
      obtain ⟨r, s1_, s2_, s3_⟩ := sooner_eq h' (show i < c by omega) hq hwi hw
      rw [if_pos hwi, if_neg (show ¬ (1 : Int32) = 0 by decide), s1_, Option.bind_some, if_pos (s3_ hiq)]
      exact g2 hw
    · rw [if_neg (show ¬ nI i = nI q by rw [nI_eq (by omega) (by omega)]; exact hiq)]
      by_cases hwi : τ.2 0 (144 + 8 * i + 5) = 1
      · rw [if_pos hwi, if_pos hwi, if_neg (show ¬ (1 : Int32) = 0 by decide)]
        obtain ⟨r, hr⟩ := ahead_some (τ := τ) hc (show i < c by omega) hq
        rw [hr, Option.bind_some]
        by_cases hz : r = 0
        · rw [if_pos hz]
          refine ⟨r0_, g1, fun hw => ?_⟩
          obtain ⟨r', s1_, s2_, s3_⟩ := sooner_eq h' (show i < c by omega) hq hwi hw
          rw [hr] at s2_
          cases s2_
          rw [s1_, Option.bind_some, if_pos hz]
          exact g2 hw
        · rw [if_neg hz]
          refine ⟨r1_, g3, fun hw => ?_⟩
          obtain ⟨r', s1_, s2_, s3_⟩ := sooner_eq h' (show i < c by omega) hq hwi hw
          rw [hr] at s2_
          cases s2_
          rw [s1_, Option.bind_some, if_neg hz]
          exact g4 hw
      · rw [if_neg hwi, if_neg hwi, if_pos (show (0 : Int32) = 0 from rfl)]
        exact ⟨r0_, g1, g2⟩
theorem waiting_loop (h : R3 a b c (σ.1 0) (σ.1 1) (σ.1 2) (σ.2 0) (σ.2 1) (σ.2 2) (τ.2 0)) {w : Int32} : ∀ (m n i : Nat), m + i = c → m < n →
    ∃ r, f_X2_waitingAt_b2 σ n w (nI i) = some r ∧ f_X5_waiting_b9 τ n w (nI i) = some r ∧ (r = -10000005 ∨ ∃ q, q < c ∧ r = nI q ∧ waitsQ (τ.2 0) q) := by
  have h' := h
  obtain ⟨⟨ha, hb, hc⟩, ⟨r0, r1, r2⟩, ⟨f0, f1, f2⟩, -⟩ := h
  have idl : ∀ x : Option Int32, id x = x := fun _ => rfl
  intro m
  induction m with
  | zero =>
    intro n i hm hn
    obtain ⟨n, rfl⟩ : ∃ z, n = z + 1 := ⟨n - 1, by omega⟩
    have hk : i = c := by omega
    subst hk
    rw [f_X2_waitingAt_b2.eq_2, f_X5_waiting_b9.eq_2, i2, x2, f2, idl]
    unfold f_X3_size
    rw [Option.bind_some, r2, if_pos (Int32.le_refl _), if_pos (Int32.le_refl _)]
    exact ⟨_, rfl, rfl, Or.inl rfl⟩
  | succ m ih =>
    intro n i hm hn
    obtain ⟨n, rfl⟩ : ∃ z, n = z + 1 := ⟨n - 1, by omega⟩
    have nle : ¬ nI c ≤ nI i := by rw [nI_leN (by omega) (by omega)]; omega
    obtain ⟨r, e1, e2⟩ := ahead_loop h' (q := i) (by omega) (w := w) (K := f_X5_waiting_b9 τ n) c fuel 0 0 (by omega) (by unfold fuel; omega)
    obtain ⟨r', g1, g2, g3⟩ := ih n (i + 1) (by omega) (by omega)
    rw [f_X2_waitingAt_b2.eq_2, f_X5_waiting_b9.eq_2, i2, x2, f2, idl, if_neg nle, waits_in h' (show i < c by omega)]
    unfold f_X3_size f_X2_waitingAt_b32 f_X2_appealsAhead
    simp only [Option.bind_some, lt]
    rw [r2, if_neg nle, nI_1, show f_X5_waiting_b24 τ (f_X5_waiting_b9 τ n) fuel w (nI i) 0 0 = _ from e1]
    by_cases hw : τ.2 0 (144 + 8 * i + 5) = 1
    · rw [if_pos hw, if_pos hw, if_neg (show ¬ (1 : Int32) = 0 by decide), show f_X2_appealsAhead_b4 σ fuel (nI i) 0 0 = _ from e2 hw, Option.bind_some]
      by_cases hr : r = w
      · rw [if_pos hr, if_pos hr]; exact ⟨_, rfl, rfl, Or.inr ⟨i, by omega, rfl, hw⟩⟩
      · rw [if_neg hr, if_neg hr]; exact ⟨r', g1, g2, g3⟩
    · rw [if_neg hw, if_neg hw, if_pos (show (0 : Int32) = 0 from rfl)]; exact ⟨r', g1, g2, g3⟩
theorem sim_waiting (hI : Inv σ τ) (w : Int32) : SimP (f_X4_waiting σ w) (f_X5_waiting τ w) := by
  obtain ⟨a, b, c, h⟩ := hI.1.get
  have hc := h.1.2.2
  unfold f_X4_waiting f_X5_waiting f_X2_waitingAt
  by_cases hw : 0 ≤ w
  · rw [if_pos hw, if_pos hw]
    obtain ⟨r, e1, e2, -⟩ := waiting_loop h c fuel 0 (w := w) (by omega) (by unfold fuel; omega)
    refine ⟨r, ?_, e2⟩
    rw [show f_X2_waitingAt_b2 σ fuel w 0 = _ from e1]; rfl
  · rw [if_neg hw, if_neg hw]; exact ⟨_, rfl, rfl⟩
end RANK
