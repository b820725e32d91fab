/-! READS: coincidence, answer, would. -/
def SimM (σ : Sg) (ox : Option Int32) (om : Option (Int32 × Sg)) : Prop := ∃ (r : Int32) (τ' : Sg), ox = some r ∧ om = some (r, τ') ∧ Inv σ τ'
theorem smn.inv {σ τ τ' : Sg} (hI : Inv σ τ) (h : smn τ τ') (h0 : τ'.2 0 = τ.2 0) : Inv σ τ' := hI.act sxn_rf h (by unfold iNow; rw [h0]; exact hI.1)
theorem scr.inv {σ τ τ' : Sg} (hI : Inv σ τ) (h : scr τ τ') : Inv σ τ' := smn.inv hI (smn_scr h) (by rw [h.1])
theorem toInt_sm (x : Int32) : sm x.toInt := by
  have := Int32.le_toInt x
  have := Int32.toInt_lt x
  exact ⟨by omega, by omega⟩
theorem range_eq (σ τ : Sg) (p lo hi : Int32) : (f_X4_outside σ p lo hi = some 0 ∧ f_X5_in τ p lo hi = some 1 ∧ lo.toInt ≤ p.toInt ∧ p.toInt ≤ hi.toInt) ∨ (f_X4_outside σ p lo hi = some 1 ∧ f_X5_in τ p lo hi = some 0) := by
  by_cases h1 : p < lo
  · exact Or.inr ⟨outside_lo h1, in_lo h1⟩
  · by_cases h2 : p ≤ hi
    · refine Or.inl ⟨outside_in h1 h2, in_in h1 h2, ?_, Int32.le_iff_toInt_le.mp h2⟩
      rw [Int32.lt_iff_toInt_lt] at h1
      omega
    · exact Or.inr ⟨outside_hi h2, in_hi h2⟩
section WOND
variable {σ τ : Sg} {a b c p q i : Nat}
theorem setting_eq (h : R3 a b c (σ.1 0) (σ.1 1) (σ.1 2) (σ.2 0) (σ.2 1) (σ.2 2) (τ.2 0)) (hi : i < a) (x : Int32) :
    (f_X2_isNoSetting σ (nI i) x = some 0 ∧ f_X5_isSetting τ (nI i) x = some 1 ∧ ∃ z : Int, x = iI z ∧ (0 ≤ z ∧ z ≤ 500000)) ∨ (f_X2_isNoSetting σ (nI i) x = some 1 ∧ f_X5_isSetting τ (nI i) x = some 0) := by
  obtain ⟨⟨ha, hb, hc⟩, ⟨r0, r1, r2⟩, ⟨f0, f1, f2⟩, t1, t2, t3, v1, -⟩ := h
  obtain ⟨⟨N, U, Ln, z, g, tr, i0_, i1_, i2_, -, -, -, hN, hU, hL, -⟩, -⟩ := v1 i hi
  have w2 := pu_bd hU.2 hN.2
  have w1 : (U : Int) ≤ pu U N := by
    have := pu_le (U := U) (show 1 ≤ N by omega)
    rw [pu_1] at this; exact this
  have w3 : ((Ln : Int) * pu U N).natAbs ≤ 200 * 2500 := by
    rw [Int.natAbs_mul]
    exact Nat.mul_le_mul (by omega) (by omega)
  have w4 : 0 ≤ (Ln : Int) * pu U N := Int.mul_nonneg (by omega) (by omega)
  have e8 : f_X3_cell σ 0 (nI i) (8 : Int32) = some (iI ((Ln : Int) * pu U N)) := by
    rw [show f_X3_cell σ 0 (nI i) (8 : Int32) = some (σ.2 0 (i * 11 + 8)) from cell0 (k := 8) r0 hi ha (by omega), (t1 i hi).2.1, i0_, i1_, i2_, nI_pu, nI_iI, iI_mul]
  have ew : f_X5_wide τ (nI i) = some (iI (pu U N)) := by rw [wide_in (by omega), i0_, i1_, nI_pu]
  unfold f_X2_isNoSetting f_X5_isSetting
  rw [e8, tool_2 (by omega), ew, i2_]
  simp only [Option.bind_some]
  rw [nI_iI, iI_mul]
  rcases range_eq σ τ x (0 : Int32) (iI ((Ln : Int) * pu U N)) with ⟨h1, h2, h3, h4⟩ | ⟨h1, h2⟩
  · left
    rw [iI_toInt (by omega) (by omega)] at h4
    have z0 : (0 : Int32).toInt = 0 := rfl
    exact ⟨by rw [h1]; rfl, by rw [h2]; rfl, x.toInt, (iI_of x).symm, by omega, by omega⟩
  · right
    exact ⟨by rw [h1]; rfl, by rw [h2]; rfl⟩
theorem sim_coin (hI : Inv σ τ) (p w v : Int32) : SimM σ (f_X4_coincidence σ p w v) (f_X5_coincidence τ p w v) := by
  obtain ⟨a, b, c, h⟩ := hI.1.get
  have h' := h
  obtain ⟨⟨ha, hb, hc⟩, ⟨r0, r1, r2⟩, ⟨f0, f1, f2⟩, t1, t2, t3, v1, -⟩ := h
  unfold f_X4_coincidence f_X5_coincidence
  rcases in_ix p a (by omega) with hp | hp | ⟨i, hi, rfl⟩
  · rw [lacks_neg hp, noTool_neg hp, Option.bind_some, Option.bind_some, if_neg (by decide), if_neg (by decide)]
    exact ⟨_, _, rfl, rfl, hI⟩
  · rw [lacks_big r0 hp, noTool_big f0 (by omega) hp, Option.bind_some, Option.bind_some, if_neg (by decide), if_neg (by decide)]
    exact ⟨_, _, rfl, rfl, hI⟩
  · rw [lacks_in r0 hi (by omega), noTool_in f0 hi (by omega), Option.bind_some, Option.bind_some, if_pos rfl, if_pos rfl]
    rcases range_eq σ τ w (-1000 : Int32) (1000000 : Int32) with ⟨h1, h2, h3, h4⟩ | ⟨h1, h2⟩
    rotate_left
    · rw [h1, h2, Option.bind_some, Option.bind_some, if_neg (by decide), if_pos rfl]
      exact ⟨_, _, rfl, rfl, hI⟩
    rw [h1, h2, Option.bind_some, Option.bind_some, if_pos rfl, if_neg (show ¬ (1 : Int32) = 0 by decide)]
    rcases range_eq σ τ v (0 : Int32) (6 : Int32) with ⟨g1, g2, -, -⟩ | ⟨g1, g2⟩
    rotate_left
    · rw [g1, g2, Option.bind_some, Option.bind_some, if_neg (by decide), if_pos rfl]
      exact ⟨_, _, rfl, rfl, hI⟩
    rw [g1, g2, Option.bind_some, Option.bind_some, if_pos rfl, if_neg (show ¬ (1 : Int32) = 0 by decide)]
    obtain ⟨⟨N, U, Ln, z, g, tr, i0_, i1_, i2_, -, -, -, hN, hU, hL, -⟩, hb3, -⟩ := v1 i hi
    have w2 := pu_bd hU.2 hN.2
    have w1 : (U : Int) ≤ pu U N := by
      have := pu_le (U := U) (show 1 ≤ N by omega)
      rw [pu_1] at this; exact this
    have c1000 : (-1000 : Int32).toInt = -1000 := rfl
    have c1m : (1000000 : Int32).toInt = 1000000 := rfl
    obtain ⟨y, rfl⟩ : ∃ y : Int, w = iI y := ⟨w.toInt, (iI_of w).symm⟩
    have hy : -1000 ≤ y ∧ y ≤ 1000000 ∨ True := Or.inr trivial
    clear hy
    have hsm : ∃ y' : Int, iI y = iI y' ∧ -1000 ≤ y' ∧ y' ≤ 1000000 := ⟨(iI y).toInt, (iI_of _).symm, by omega, by omega⟩
    obtain ⟨y', e', hy1, hy2⟩ := hsm
    rw [e']
    clear e' h3 h4 h1 h2
    have pmd : md y' := ⟨by omega, by omega⟩
    have wmd : md (pu U N) := ⟨by omega, by omega⟩
    obtain ⟨k, τ1, hkN, hks, hlook, s2', sz, sm_, sr, sk, sl, sf, sq⟩ := look_in (σ := τ) (p := y') (show i < 10 by omega) pmd i0_ i1_ hN hU
    obtain ⟨e1, e2, e3⟩ := div_parts (p := y') (w := pu U N) (by omega)
    have hm0 := div_md (w := pu U N) pmd
    have c0 : f_X3_cell σ 0 (nI i) (0 : Int32) = some (nI N) := (h'.ins hi 0 (by omega)).trans (by rw [Nat.add_zero, i0_])
    have c1 : f_X3_cell σ 0 (nI i) (1 : Int32) = some (nI U) := (h'.ins hi 1 (by omega)).trans (by rw [i1_])
    have c3 : f_X3_cell σ 0 (nI i) (3 : Int32) = some (τ.2 0 (4 + 8 * i + 3)) := h'.ins hi 3 (by omega)
    unfold f_X2_mainDivision
    rw [c0, c1]
    simp only [Option.bind_some]
    rw [nI_pu, quot_in pmd wmd (by omega)]
    simp only [Option.bind_some, lt]
    have hr : iI y' - iI (y' / pu U N) * iI (pu U N) = iI (y' % pu U N) := by
      rw [iI_mul, iI_sub]; congr 1; omega
    have rmd : md (y' % pu U N) := ⟨by omega, by omega⟩
    rw [hr, show nI U = iI (U : Int) from rfl, near_in rmd (by omega) (by omega), hks, Option.bind_some, hlook, Option.bind_some, c3]
    simp only [Option.bind_some]
    have hku := pu_bd hU.2 (show k ≤ 50 by omega)
    have hku0 := pu_nn U k
    have hkU : iI (k : Int) * iI (U : Int) = iI (pu U k) := iI_mul _ _
    have hmb := Int.natAbs_ediv_le_natAbs y' (pu U N)
    rw [hkU, iI_sub]
    have ew : f_X5_wide τ1 (nI i) = some (iI (pu U N)) := by rw [wide_in (by omega), s2', i0_, i1_, nI_pu]
    have hτ : Inv σ τ1 := scr.inv hI ⟨s2', sz⟩
    by_cases q0 : v = 0
    · rw [if_pos q0, if_pos q0, sm_]; exact ⟨_, _, rfl, rfl, hτ⟩
    rw [if_neg q0, if_neg q0]
    by_cases q1 : v = 1
    · rw [if_pos q1, if_pos q1, sr]; exact ⟨_, _, rfl, rfl, hτ⟩
    rw [if_neg q1, if_neg q1]
    by_cases q2 : v = 2
    · rw [if_pos q2, if_pos q2, sl]
      by_cases hb : τ.2 0 (4 + 8 * i + 3) = 0
      · rw [if_pos hb, if_pos hb]; exact ⟨_, _, rfl, rfl, hτ⟩
      · rw [if_neg hb, if_neg hb]
        refine ⟨_, _, rfl, ?_, hτ⟩
        congr 2
        rw [nI_iI, nI_iI, iI_sub]; congr 1; omega
    rw [if_neg q2, if_neg q2]
    by_cases q3 : v = 3
    · rw [if_pos q3, if_pos q3, sf]
      refine ⟨_, _, rfl, ?_, hτ⟩
      congr 2
      have := abs_if (z := y' % pu U N - pu U k) ⟨by omega, by omega⟩ (fun x => x)
      rw [← this]
      split
      · rfl
      · rw [Int32.zero_sub]
    rw [if_neg q3, if_neg q3]
    by_cases q4 : v = 4
    · rw [if_pos q4, if_pos q4, sk]; exact ⟨_, _, rfl, rfl, hτ⟩
    rw [if_neg q4, if_neg q4]
    by_cases q5 : v = 5
    · rw [if_pos q5, if_pos q5, sq]
      have h2 : (2 : Int32) * iI (y' % pu U N - pu U k) = iI (U : Int) ↔ 2 * (y' % pu U N - pu U k) = U := by
        rw [show (2 : Int32) = iI 2 from rfl, iI_mul, iI_eq ⟨by omega, by omega⟩ ⟨by omega, by omega⟩]
      by_cases ht : 2 * (y' % pu U N - pu U k) = U
      · rw [if_pos (h2.mpr ht), if_pos ht]; exact ⟨_, _, rfl, rfl, hτ⟩
      · rw [if_neg (fun e => ht (h2.mp e)), if_neg ht]; exact ⟨_, _, rfl, rfl, hτ⟩
    rw [if_neg q5, if_neg q5, ew, Option.bind_some, tool_1 (by omega), Option.bind_some, s2', i1_, sm_, sk, nI_pu]
    exact ⟨_, _, rfl, rfl, hτ⟩
theorem sim_answer (hI : Inv σ τ) (p w v : Int32) : SimM σ (f_X4_answer σ p w v) (f_X5_answer τ p w v) := by
  obtain ⟨a, b, c, h⟩ := hI.1.get
  have h' := h
  obtain ⟨⟨ha, hb, hc⟩, ⟨r0, r1, r2⟩, ⟨f0, f1, f2⟩, t1, t2, t3, v1, v2, -⟩ := h
  unfold f_X4_answer f_X5_answer
  rcases in_ix p b (by omega) with hp | hp | ⟨j, hj, rfl⟩
  · rw [lacks_neg hp, noScholar_neg hp, Option.bind_some, Option.bind_some, if_neg (by decide), if_neg (by decide)]
    exact ⟨_, _, rfl, rfl, hI⟩
  · rw [lacks_big r1 hp, noScholar_big f1 (by omega) hp, Option.bind_some, Option.bind_some, if_neg (by decide), if_neg (by decide)]
    exact ⟨_, _, rfl, rfl, hI⟩
  rw [lacks_in r1 hj (by omega), noScholar_in f1 hj (by omega), Option.bind_some, Option.bind_some, if_pos rfl, if_pos rfl]
  rcases in_ix w a (by omega) with hp | hp | ⟨i, hi, rfl⟩
  · rw [lacks_neg hp, noTool_neg hp, Option.bind_some, Option.bind_some, if_neg (by decide), if_neg (by decide)]
    exact ⟨_, _, rfl, rfl, hI⟩
  · rw [lacks_big r0 hp, noTool_big f0 (by omega) hp, Option.bind_some, Option.bind_some, if_neg (by decide), if_neg (by decide)]
    exact ⟨_, _, rfl, rfl, hI⟩
  rw [lacks_in r0 hi (by omega), noTool_in f0 hi (by omega), Option.bind_some, Option.bind_some, if_pos rfl, if_pos rfl]
  rcases setting_eq h' hi v with ⟨g1, g2, x, rfl, hx⟩ | ⟨g1, g2⟩
  rotate_left
  · rw [g1, g2, Option.bind_some, Option.bind_some, if_neg (by decide), if_pos rfl]
    exact ⟨_, _, rfl, rfl, hI⟩
  rw [g1, g2, Option.bind_some, Option.bind_some, if_pos rfl, if_neg (show ¬ (1 : Int32) = 0 by decide)]
  obtain ⟨e, hh, k, k1, k2, k3, k4, k5, k6⟩ := v2 j hj
  obtain ⟨⟨N, U, Ln, z, g, tr, hok⟩, -⟩ := v1 i hi
  have c0 : f_X3_cell σ 1 (nI j) (0 : Int32) = some (iI e) := (h'.pup (k := 0) hj (by omega)).trans (by rw [Nat.add_zero, k1])
  have c1 : f_X3_cell σ 1 (nI j) (1 : Int32) = some (nI hh) := (h'.pup (k := 1) hj (by omega)).trans (by rw [k3])
  have c2 : f_X3_cell σ 1 (nI j) (2 : Int32) = some (nI k) := (h'.pup (k := 2) hj (by omega)).trans (by rw [k5])
  obtain ⟨y, ρ, -, -, e1, e2, e3⟩ := ans_eq (σ := σ) (show i < 10 by omega) hok (h'.ins hi) hx k2 k4 k6
  unfold f_X2_answerNow
  rw [c0, c1, c2, scholar_0 (by omega), scholar_1 (by omega), scholar_2 (by omega), k1, k3, k5]
  simp only [Option.bind_some]
  rw [e1, e2]
  exact ⟨_, ρ, rfl, rfl, scr.inv hI e3⟩
/-- a paper as it would be with other numbers of its pupil -/
theorem ifw_eq {σ τ : Sg} (h : R3 a b c (σ.1 0) (σ.1 1) (σ.1 2) (σ.2 0) (σ.2 1) (σ.2 2) (τ.2 0)) (hq : q < c) {e : Int} {hh k : Nat} (he : -50 ≤ e ∧ e ≤ 50) (hh16 : hh < 16) (hk : k < 8) :
    ∃ (i : Nat) (x v : Int) (m : Nat) (ρ : Sg), m ≤ 10 ∧ i < a ∧ (0 ≤ x ∧ x ≤ 500000) ∧ τ.2 0 (144 + 8 * q + 1) = nI i ∧ τ.2 0 (144 + 8 * q + 2) = iI x ∧ f_X2_markIfWritten σ (nI q) (iI e) (nI hh) (nI k) = some (nI m) ∧
      f_X5_answerBy τ (nI i) (iI x) (iI e) (nI hh) (nI k) = some (iI v, ρ) ∧ scr τ ρ ∧ f_X5_markOf ρ (nI i) (iI x) (iI v) = some (nI m) ∧ f_X2_answerOf σ (nI i) (iI x) (iI e) (nI hh) (nI k) = some (iI v) := by
  have h' := h
  obtain ⟨⟨ha, hb, hc⟩, ⟨r0, r1, r2⟩, ⟨f0, f1, f2⟩, t1, t2, t3, v1, v2, v3, -⟩ := h
  obtain ⟨p, i, x, kk, s, q1, q2, q3, q4, q5, q6, -⟩ := v3 q hq
  obtain ⟨⟨N, U, Ln, z, g, tr, hok⟩, -⟩ := v1 i q4
  have hok' := hok
  obtain ⟨i0_, i1_, i2_, -, -, -, hN, hU, -⟩ := hok'
  obtain ⟨y, ρ, b1, b2, e1, e2, e3⟩ := ans_eq (σ := σ) (show i < 10 by omega) hok (h'.ins q4) q6 he hh16 hk
  obtain ⟨m, hm, m1, m2⟩ := mark_eq (σ := σ) (τ := ρ) (show i < 10 by omega) (by rw [e3.1]; exact i1_) hU (by rw [e3.1]; exact h'.ins q4) q6 (show -1000000 ≤ y ∧ y ≤ 2000000 from ⟨b1, b2⟩)
  refine ⟨i, x, y, m, ρ, hm, q4, q6, q3, q5, ?_, e2, e3, m2, e1⟩
  unfold f_X2_markIfWritten
  rw [show f_X3_cell σ 2 (nI q) (1 : Int32) = some (nI i) from (h'.pap (k := 1) hq (by omega)).trans (by rw [q3]), show f_X3_cell σ 2 (nI q) (2 : Int32) = some (iI x) from (h'.pap (k := 2) hq (by omega)).trans (by rw [q5])]
  simp only [Option.bind_some]
  rw [e1, Option.bind_some, m1]; rfl
theorem would_loop {e : Int} {hh k : Nat} (he : -50 ≤ e ∧ e ≤ 50) (hh16 : hh < 16) (hk : k < 8) {w : Int32} : ∀ (m n i : Nat) (v : Int32) (τ : Sg), R3 a b c (σ.1 0) (σ.1 1) (σ.1 2) (σ.2 0) (σ.2 1) (σ.2 2) (τ.2 0) → m + i = c → m < n →
    ∃ r τ', f_X2_sumIfWritten_b6 σ n w (iI e) (nI hh) (nI k) v (nI i) = some r ∧ f_X5_would_b95 n τ w (iI e) (nI hh) (nI k) v (nI i) = some (r, τ') ∧ scr τ τ' := by
  have idl : ∀ x : Option (Int32 × Sg), id x = x := fun _ => rfl
  intro m
  induction m with
  | zero =>
    intro n i v τ h hm hn
    obtain ⟨⟨ha, hb, hc⟩, ⟨r0, r1, r2⟩, ⟨f0, f1, f2⟩, -⟩ := h
    obtain ⟨n, rfl⟩ : ∃ z, n = z + 1 := ⟨n - 1, by omega⟩
    have hk : i = c := by omega
    subst hk
    rw [f_X2_sumIfWritten_b6.eq_2, f_X5_would_b95.eq_2, i2, x2, f2, idl]
    unfold f_X3_size
    rw [Option.bind_some, r2, if_pos (Int32.le_refl _), if_pos (Int32.le_refl _)]
    exact ⟨_, _, rfl, rfl, scr_rf⟩
  | succ m ih =>
    intro n i v τ h hm hn
    have h' := h
    obtain ⟨⟨ha, hb, hc⟩, ⟨r0, r1, r2⟩, ⟨f0, f1, f2⟩, -⟩ := h
    obtain ⟨n, rfl⟩ : ∃ z, n = z + 1 := ⟨n - 1, by omega⟩
    have nle : ¬ nI c ≤ nI i := by rw [nI_leN (by omega) (by omega)]; omega
    have g0 : f_X3_cell σ 2 (nI i) (0 : Int32) = some (τ.2 0 (144 + 8 * i)) := h'.pap (k := 0) (by omega) (by omega)
    rw [f_X2_sumIfWritten_b6.eq_2, f_X5_would_b95.eq_2, i2, x2, f2, idl, g0, sheet_0 (by omega)]
    unfold f_X3_size f_X2_sumIfWritten_b47 f_X5_would_b162
    simp only [Option.bind_some, lt, lts]
    rw [r2, if_neg nle, if_neg nle, nI_1]
    by_cases h0 : τ.2 0 (144 + 8 * i) = w
    · rw [if_pos h0, if_pos h0, sheet_1 (by omega), sheet_2 (by omega)]
      obtain ⟨j, x, y, mk, ρ, hmk, hj, hx, s1_, s2_, m1, m2, m3, m4, -⟩ := ifw_eq h' (q := i) (by omega) he hh16 hk
      simp only [Option.bind_some]
      rw [s1_, s2_, m1, m2, Option.bind_some, Option.bind_some, m4, Option.bind_some]
      obtain ⟨r, τ', g1, g2, g3⟩ := ih n (i + 1) (v + nI mk) ρ (by rw [m3.1]; exact h') (by omega) (by omega)
      exact ⟨r, τ', g1, g2, scr_tr m3 g3⟩
    · rw [if_neg h0, if_neg h0]
      exact ih n (i + 1) v τ h' (by omega) (by omega)
theorem sim_would (hI : Inv σ τ) (p w : Int32) : SimM σ (f_X4_would σ p w) (f_X5_would τ p w) := by
  obtain ⟨a, b, c, h⟩ := hI.1.get
  have h' := h
  obtain ⟨⟨ha, hb, hc⟩, ⟨r0, r1, r2⟩, ⟨f0, f1, f2⟩, t1, t2, t3, v1, v2, -⟩ := h
  unfold f_X4_would f_X5_would
  rcases in_ix p b (by omega) with hp | hp | ⟨j, hj, rfl⟩
  · rw [lacks_neg hp, noScholar_neg hp, Option.bind_some, Option.bind_some, if_neg (by decide), if_neg (by decide)]
    exact ⟨_, _, rfl, rfl, hI⟩
  · rw [lacks_big r1 hp, noScholar_big f1 (by omega) hp, Option.bind_some, Option.bind_some, if_neg (by decide), if_neg (by decide)]
    exact ⟨_, _, rfl, rfl, hI⟩
  rw [lacks_in r1 hj (by omega), noScholar_in f1 hj (by omega), Option.bind_some, Option.bind_some, if_pos rfl, if_pos rfl]
  have bad : (f_X4_outside σ w (0 : Int32) (4 : Int32) = some 1 ∧ f_X5_in τ w (0 : Int32) (4 : Int32) = some 0) ∨ ∃ k : Nat, k < 5 ∧ w = nI k := by
    rcases in_ix w 5 (by omega) with hw | hw | hw
    · exact Or.inl ⟨outside_lo hw, in_lo hw⟩
    · exact Or.inl ⟨outside_hi (hi := (4 : Int32)) (big_le (k := 4) hw (by omega) (by omega)), in_hi (hi := (4 : Int32)) (big_le (k := 4) hw (by omega) (by omega))⟩
    · exact Or.inr hw
  rcases bad with ⟨g1, g2⟩ | ⟨k, hk, rfl⟩
  · rw [g1, g2, Option.bind_some, Option.bind_some, if_neg (by decide), if_pos rfl]
    exact ⟨_, _, rfl, rfl, hI⟩
  rw [outside_in (hi := (4 : Int32)) (nI_lt0 (by omega)) ((nI_leN (b := 4) (by omega) (by omega)).mpr (by omega)), in_in (hi := (4 : Int32)) (nI_lt0 (by omega)) ((nI_leN (b := 4) (by omega) (by omega)).mpr (by omega)), Option.bind_some, Option.bind_some, if_pos rfl, if_neg (show ¬ (1 : Int32) = 0 by decide)]
  obtain ⟨e, hh, kn, k1, k2, k3, k4, k5, k6⟩ := v2 j hj
  have c0 : f_X3_cell σ 1 (nI j) (0 : Int32) = some (iI e) := (h'.pup (k := 0) hj (by omega)).trans (by rw [Nat.add_zero, k1])
  have c1 : f_X3_cell σ 1 (nI j) (1 : Int32) = some (nI hh) := (h'.pup (k := 1) hj (by omega)).trans (by rw [k3])
  have c2 : f_X3_cell σ 1 (nI j) (2 : Int32) = some (nI kn) := (h'.pup (k := 2) hj (by omega)).trans (by rw [k5])
  have fin : ∀ {e : Int} {hh k : Nat}, (-50 ≤ e ∧ e ≤ 50) → hh < 16 → k < 8 → SimM σ ((f_X2_sumIfWritten σ (nI j) (iI e) (nI hh) (nI k)).bind fun r9 => some r9) (f_X5_would_b87 τ (nI j) (iI e) (nI hh) (nI k)) := by
    intro e hh k he hh16 hk
    obtain ⟨r, τ', g1, g2, g3⟩ := would_loop (σ := σ) he hh16 hk c fuel 0 0 τ h' (by omega) (by unfold fuel; omega) (w := nI j)
    unfold f_X2_sumIfWritten f_X5_would_b87
    rw [show f_X2_sumIfWritten_b6 σ fuel (nI j) (iI e) (nI hh) (nI k) (0 : Int32) (0 : Int32) = _ from g1]
    exact ⟨r, τ', rfl, g2, scr.inv hI g3⟩
  unfold f_X4_would_b39 f_X4_would_b49 f_X4_would_b65 f_X4_would_b76 f_X4_would_b92 f_X4_would_b103 f_X4_would_b120 f_X5_would_b33 f_X5_would_b43 f_X5_would_b54 f_X5_would_b64 f_X5_would_b76
  simp only [c0, c1, c2, scholar_0 (show j < 12 by omega), scholar_1 (show j < 12 by omega), scholar_2 (show j < 12 by omega), k1, k3, k5, Option.bind_some]
  have l0 : ∀ j : Nat, j < 5 → (nI k = nI j ↔ k = j) := fun j hj => nI_eq (by omega) (by omega)
  have l1 : (nI k = (1 : Int32)) ↔ k = 1 := l0 1 (by omega)
  have l2 : (nI k = (2 : Int32)) ↔ k = 2 := l0 2 (by omega)
  have l3 : (nI k = (3 : Int32)) ↔ k = 3 := l0 3 (by omega)
  have l4 : (nI k = (4 : Int32)) ↔ k = 4 := l0 4 (by omega)
  simp only [l1, l2, l3, l4]
  have one0 : ¬ (1 : Int32) = 0 := by decide
  have : k = 0 ∨ k = 1 ∨ k = 2 ∨ k = 3 ∨ k = 4 := by omega
  rcases this with rfl | rfl | rfl | rfl | rfl
  · exact fin k2 k4 k6
  · exact fin (e := 0) ⟨by omega, by omega⟩ k4 k6
  · exact fin (hh := 0) k2 (by omega) k6
  · exact fin (k := 7) k2 k4 (by omega)
  · exact fin (e := 0) (hh := 0) (k := 7) ⟨by omega, by omega⟩ (by omega) (by omega)
end WOND
