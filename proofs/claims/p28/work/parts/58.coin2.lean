/-! THE COINCIDENCE by the law. -/
section CO
variable {σ : Sg} {a b c i : Nat} {f : Nat → Int32}
def DD (r : Int) (U t : Nat) : Int := ab (r - pu U t)
/-- what the class tells of a place -/
theorem coin_v (h : SI σ a b c f) (hi : i < a) {N U : Nat} (hN : f (4 + 8 * i) = nI N) (hU : f (4 + 8 * i + 1) = nI U) (hN2 : 2 ≤ N ∧ N ≤ 50) (hU2 : 1 ≤ U ∧ U ≤ 50) {y : Int} (hy : -1000 ≤ y ∧ y ≤ 1000000) :
    ∃ k : Nat, k ≤ N ∧ -(U : Int) < 2 * (y % pu U N - pu U k) ∧ 2 * (y % pu U N - pu U k) ≤ U ∧
      f_X4_coincidence σ (nI i) (iI y) (0 : Int32) = some (iI (y / pu U N)) ∧ f_X4_coincidence σ (nI i) (iI y) (1 : Int32) = some (iI (y % pu U N)) ∧
      f_X4_coincidence σ (nI i) (iI y) (2 : Int32) = some (if f (4 + 8 * i + 3) = 0 then nI k else nI (N - k)) ∧ f_X4_coincidence σ (nI i) (iI y) (3 : Int32) = some (iI (DD (y % pu U N) U k)) ∧
      f_X4_coincidence σ (nI i) (iI y) (4 : Int32) = some (nI k) ∧ f_X4_coincidence σ (nI i) (iI y) (5 : Int32) = some (nI (if 2 * (y % pu U N - pu U k) = U then 2 else 1)) ∧
      f_X4_coincidence σ (nI i) (iI y) (6 : Int32) = some (iI (y / pu U N) * iI (pu U N) + nI k * nI U) ∧ f_X4_coincidence σ (nI i) (iI y) (7 : Int32) = some (-10000002) := by
  have h' := h
  obtain ⟨⟨ha, hb, hc⟩, ⟨r0, r1, r2⟩, -⟩ := h
  have w2 := pu_bd hU2.2 hN2.2
  have w1 : (U : Int) ≤ pu U N := by
    have := pu_le (U := U) (show 1 ≤ N by omega)
    rw [pu_1] at this; exact this
  have pmd : md y := ⟨by omega, by omega⟩
  have wmd : md (pu U N) := ⟨by omega, by omega⟩
  obtain ⟨e1, e2, e3⟩ := div_parts (p := y) (w := pu U N) (by omega)
  obtain ⟨k, hk, hks, k1, k2⟩ := kst_nat (N := N) (U := U) e2 e3 (by omega)
  have c0 : f_X3_cell σ 0 (nI i) (0 : Int32) = some (nI N) := (R3.ins h' hi 0 (by omega)).trans (by rw [Nat.add_zero, hN])
  have c1 : f_X3_cell σ 0 (nI i) (1 : Int32) = some (nI U) := (R3.ins h' hi 1 (by omega)).trans (by rw [hU])
  have c3 : f_X3_cell σ 0 (nI i) (3 : Int32) = some (f (4 + 8 * i + 3)) := R3.ins h' hi 3 (by omega)
  have hr : iI y - iI (y / pu U N) * iI (pu U N) = iI (y % pu U N) := by
    rw [iI_mul, iI_sub]; congr 1; omega
  have rmd : md (y % pu U N) := ⟨by omega, by omega⟩
  have hku := pu_bd hU2.2 (show k ≤ 50 by omega)
  have hku0 := pu_nn U k
  have hkU : iI (k : Int) * iI (U : Int) = iI (pu U k) := iI_mul _ _
  have o1 : f_X4_outside σ (iI y) (-1000 : Int32) (1000000 : Int32) = some 0 := outside_in (by rw [show (-1000 : Int32) = iI (-1000) from rfl, iI_lt ⟨by omega, by omega⟩ ⟨by omega, by omega⟩]; omega) (by rw [show (1000000 : Int32) = iI 1000000 from rfl, iI_le ⟨by omega, by omega⟩ ⟨by omega, by omega⟩]; omega)
  have qq : f_X4_quotient σ (iI y) (iI (pu U N)) = some (iI (y / pu U N)) := quot_in pmd wmd (by omega)
  have nn : f_X4_nearestFraction σ (iI (y % pu U N)) (nI U) = some (nI k) := by
    rw [show nI U = iI (U : Int) from rfl, near_in rmd (by omega) (by omega), hks]; rfl
  have base : ∀ v : Int32, f_X4_outside σ v (0 : Int32) (6 : Int32) = some 0 → f_X4_coincidence σ (nI i) (iI y) v = (if v = 0 then some (iI (y / pu U N)) else if v = 1 then some (iI (y % pu U N)) else if v = 2 then (if f (4 + 8 * i + 3) = 0 then some (nI k) else some (nI N - nI k)) else if v = 3 then some (if 0 ≤ iI (y % pu U N - pu U k) then iI (y % pu U N - pu U k) else 0 - iI (y % pu U N - pu U k)) else if v = 4 then some (nI k) else if v = 5 then (if (2 : Int32) * iI (y % pu U N - pu U k) = nI U then some (2 : Int32) else some (1 : Int32)) else some (iI (y / pu U N) * iI (pu U N) + nI k * nI U)) := by
    intro v hv
    unfold f_X4_coincidence f_X2_mainDivision
    rw [lacks_in r0 hi (by omega), Option.bind_some, if_pos rfl, o1, Option.bind_some, if_pos rfl, hv, Option.bind_some, if_pos rfl, c0, c1, c3]
    simp only [Option.bind_some, lt]
    rw [nI_pu, qq]
    simp only [Option.bind_some]
    rw [hr, nn]
    simp only [Option.bind_some]
    rw [show nI k * nI U = iI (pu U k) from hkU, iI_sub]
  refine ⟨k, hk, k1, k2, ?_, ?_, ?_, ?_, ?_, ?_, ?_, ?_⟩
  · rw [base _ (outside_in (by decide) (by decide)), if_pos rfl]
  · rw [base _ (outside_in (by decide) (by decide)), if_neg (by decide), if_pos rfl]
  · rw [base _ (outside_in (by decide) (by decide)), if_neg (by decide), if_neg (by decide), if_pos rfl]
    by_cases hb : f (4 + 8 * i + 3) = 0
    · rw [if_pos hb, if_pos hb]
    · rw [if_neg hb, if_neg hb, nI_iI, nI_iI, nI_iI, iI_sub, show (((N - k : Nat) : Nat) : Int) = (N : Int) - k by omega]
  · rw [base _ (outside_in (by decide) (by decide)), if_neg (by decide), if_neg (by decide), if_neg (by decide), if_pos rfl]
    congr 1
    have := abs_if (z := y % pu U N - pu U k) ⟨by omega, by omega⟩ (fun x => x)
    unfold DD
    rw [← this]
    split
    · rfl
    · rw [Int32.zero_sub]
  · rw [base _ (outside_in (by decide) (by decide)), if_neg (by decide), if_neg (by decide), if_neg (by decide), if_neg (by decide), if_pos rfl]
  · rw [base _ (outside_in (by decide) (by decide)), if_neg (by decide), if_neg (by decide), if_neg (by decide), if_neg (by decide), if_neg (by decide), if_pos rfl]
    have h2 : (2 : Int32) * iI (y % pu U N - pu U k) = nI U ↔ 2 * (y % pu U N - pu U k) = U := by
      rw [show (2 : Int32) = iI 2 from rfl, nI_iI, iI_mul, iI_eq ⟨by omega, by omega⟩ ⟨by omega, by omega⟩]
    by_cases ht : 2 * (y % pu U N - pu U k) = U
    · rw [if_pos (h2.mpr ht), if_pos ht]; rfl
    · rw [if_neg (fun e => ht (h2.mp e)), if_neg ht]; rfl
  · rw [base _ (outside_in (by decide) (by decide)), if_neg (by decide), if_neg (by decide), if_neg (by decide), if_neg (by decide), if_neg (by decide), if_neg (by decide)]
  · unfold f_X4_coincidence
    rw [lacks_in r0 hi (by omega), Option.bind_some, if_pos rfl, o1, Option.bind_some, if_pos rfl, outside_hi (by decide), Option.bind_some, if_neg (by decide)]
/-- the lines' distances -/
theorem DD_cmp {r : Int} {U N k t : Nat} (hr : 0 ≤ r) (hr2 : r < pu U N) (hU : 1 ≤ U) (hk : k ≤ N) (ht : t ≤ N) (k1 : -(U : Int) < 2 * (r - pu U k)) (k2 : 2 * (r - pu U k) ≤ U) :
    DD r U k ≤ DD r U t ∧ (DD r U t = DD r U k ↔ t = k ∨ (2 * (r - pu U k) = U ∧ t = k + 1)) := by
  unfold DD
  rcases Nat.lt_trichotomy t k with h | h | h
  · obtain ⟨d, rfl⟩ : ∃ d, k = t + 1 + d := ⟨k - t - 1, by omega⟩
    have e := pu_add U (t + 1) d
    have e2 := pu_add U t 1
    rw [pu_1] at e2
    have p0 := pu_nn U d
    have hz : ¬ (t = t + 1 + d ∨ 2 * (r - pu U (t + 1 + d)) = U ∧ t = t + 1 + d + 1) := by omega
    unfold ab
    constructor
    · split <;> split <;> omega
    · constructor
      · intro q
        exfalso
        revert q
        split <;> split <;> intro q <;> omega
      · intro q; exact absurd q hz
  · subst h
    exact ⟨Int.le_refl _, fun _ => Or.inl rfl, fun _ => rfl⟩
  · obtain ⟨d, rfl⟩ : ∃ d, t = k + 1 + d := ⟨t - k - 1, by omega⟩
    have e := pu_add U (k + 1) d
    have e2 := pu_add U k 1
    rw [pu_1] at e2
    have p0 := pu_nn U d
    have p1 : d ≠ 0 → (U : Int) ≤ pu U d := fun hd => by
      have := pu_le (U := U) (show 1 ≤ d by omega)
      rw [pu_1] at this; exact this
    unfold ab
    by_cases hd : d = 0
    · subst hd
      rw [pu_0] at e
      constructor
      · split <;> split <;> omega
      · constructor
        · intro q
          right
          revert q
          split <;> split <;> intro q <;> exact ⟨by omega, by omega⟩
        · intro q
          split <;> split <;> omega
    · have p2 := p1 hd
      constructor
      · split <;> split <;> omega
      · constructor
        · intro q
          exfalso
          revert q
          split <;> split <;> intro q <;> omega
        · intro q; omega
theorem size_v {z : Int} (hz : -100000000 ≤ z ∧ z ≤ 100000000) : f_L_size σ (iI z) = some (iI (ab z)) := by
  unfold f_L_size
  have h0 : (0 ≤ iI z) ↔ 0 ≤ z := by rw [show (0 : Int32) = iI 0 from rfl, iI_le ⟨by omega, by omega⟩ ⟨by omega, by omega⟩]
  unfold ab
  by_cases h : 0 ≤ z
  · rw [if_pos (h0.mpr h), if_pos h]
  · rw [if_neg (fun q => h (h0.mp q)), if_neg h, iI_neg]
theorem DD_bd {r : Int} {U N t : Nat} (hr : 0 ≤ r) (hr2 : r < pu U N) (hw : pu U N ≤ 2500) (ht : t ≤ N) : 0 ≤ DD r U t ∧ DD r U t ≤ 2500 := by
  have h1 := pu_le (U := U) ht
  have h2 := pu_nn U t
  exact ⟨ab_nn _, ab_le (by omega) (by omega)⟩
/-- one line of the law's walk -/
theorem coin_step {K : Int32 → Int32 → Int32 → Int32 → Int32 → Int32 → Int32 → Int32 → Int32 → Int32 → Int32 → Int32 → Int32 → Option Int32} {v1 v2 v4 v5 v10 v11 v12 w0 w1 : Int32} {r z : Int} {U N k t j l x : Nat} (hr : 0 ≤ r) (hr2 : r < pu U N) (hU : 1 ≤ U) (hw : pu U N ≤ 2500) (hN : N ≤ 50) (hk : k ≤ N) (ht : t ≤ N) (hj : j ≤ N) (hl : l ≤ N) (k1 : -(U : Int) < 2 * (r - pu U k)) (k2 : 2 * (r - pu U k) ≤ U)
    (hz : w1 - w0 * v10 = iI z) (hzb : -100000 ≤ z ∧ z ≤ 100000) (hzt : ab z = DD r U t) (htell : (if v12 = 0 then nI j else nI N - nI j) = nI t) (hline : j = l → t = k) :
    f_L_coincides_b198 σ K v1 v2 (nI N) v4 v5 (nI l) (iI (DD r U k)) (nI k) v10 v11 v12 (nI x) (nI j) w0 w1 = K v1 v2 (nI N) v4 v5 (nI l) (iI (DD r U k)) (nI k) v10 v11 v12 (nI (x + (if t = k ∨ (2 * (r - pu U k) = U ∧ t = k + 1) then 1 else 0))) (nI (j + 1)) := by
  obtain ⟨q1, q2⟩ := DD_cmp hr hr2 hU hk ht k1 k2
  have b1 := DD_bd (U := U) (N := N) hr hr2 hw hk
  have b2 := DD_bd (U := U) (N := N) hr hr2 hw ht
  unfold f_L_coincides_b198 f_L_coincides_b221 f_L_coincides_b237 f_L_coincides_b261 f_L_coincides_b277
  rw [hz, size_v ⟨by omega, by omega⟩, Option.bind_some, hzt]
  simp only [lt]
  rw [show nI (j + 1) = nI j + 1 by rw [nI_1]]
  have eqd : iI (DD r U t) = iI (DD r U k) ↔ DD r U t = DD r U k := iI_eq ⟨by omega, by omega⟩ ⟨by omega, by omega⟩
  have ltd : iI (DD r U t) < iI (DD r U k) ↔ DD r U t < DD r U k := iI_lt ⟨by omega, by omega⟩ ⟨by omega, by omega⟩
  have jl : nI j = nI l ↔ j = l := nI_eq (by omega) (by omega)
  have tk : nI t < nI k ↔ t < k := nI_ltN (by omega) (by omega)
  have fin : (if iI (DD r U t) = iI (DD r U k) then
      (if iI (DD r U t) < iI (DD r U k) then none else if iI (DD r U t) = iI (DD r U k) then (if nI t < nI k then none else if nI j = nI l then (if iI (DD r U t) = iI (DD r U k) then K v1 v2 (nI N) v4 v5 (nI l) (iI (DD r U k)) (nI k) v10 v11 v12 (nI x + 1) (nI j + 1) else none) else K v1 v2 (nI N) v4 v5 (nI l) (iI (DD r U k)) (nI k) v10 v11 v12 (nI x + 1) (nI j + 1)) else (if nI j = nI l then (if iI (DD r U t) = iI (DD r U k) then K v1 v2 (nI N) v4 v5 (nI l) (iI (DD r U k)) (nI k) v10 v11 v12 (nI x + 1) (nI j + 1) else none) else K v1 v2 (nI N) v4 v5 (nI l) (iI (DD r U k)) (nI k) v10 v11 v12 (nI x + 1) (nI j + 1)))
      else (if iI (DD r U t) < iI (DD r U k) then none else if iI (DD r U t) = iI (DD r U k) then (if nI t < nI k then none else if nI j = nI l then (if iI (DD r U t) = iI (DD r U k) then K v1 v2 (nI N) v4 v5 (nI l) (iI (DD r U k)) (nI k) v10 v11 v12 (nI x + 0) (nI j + 1) else none) else K v1 v2 (nI N) v4 v5 (nI l) (iI (DD r U k)) (nI k) v10 v11 v12 (nI x + 0) (nI j + 1)) else (if nI j = nI l then (if iI (DD r U t) = iI (DD r U k) then K v1 v2 (nI N) v4 v5 (nI l) (iI (DD r U k)) (nI k) v10 v11 v12 (nI x + 0) (nI j + 1) else none) else K v1 v2 (nI N) v4 v5 (nI l) (iI (DD r U k)) (nI k) v10 v11 v12 (nI x + 0) (nI j + 1)))) = K v1 v2 (nI N) v4 v5 (nI l) (iI (DD r U k)) (nI k) v10 v11 v12 (nI (x + (if t = k ∨ (2 * (r - pu U k) = U ∧ t = k + 1) then 1 else 0))) (nI j + 1) := by
    simp only [eqd, ltd, jl, tk]
    rw [if_neg (show ¬ DD r U t < DD r U k by omega), if_neg (show ¬ DD r U t < DD r U k by omega)]
    by_cases e : DD r U t = DD r U k
    · have et := q2.mp e
      rw [if_pos e, if_pos e, if_neg (show ¬ t < k by omega), if_pos et, nI_1]
      by_cases ej : j = l
      · rw [if_pos ej, if_pos e]
      · rw [if_neg ej]
    · have et : ¬ (t = k ∨ (2 * (r - pu U k) = U ∧ t = k + 1)) := fun z => e (q2.mpr z)
      rw [if_neg e, if_neg e, if_neg et, Int32.add_zero, Nat.add_zero]
      by_cases ej : j = l
      · exact absurd (Or.inl (hline ej)) et
      · rw [if_neg ej]
  by_cases hv : v12 = 0
  · rw [if_pos hv] at htell ⊢
    have jt : j = t := (nI_eq (by omega) (by omega)).mp htell
    subst jt
    exact fin
  · rw [if_neg hv] at htell ⊢
    rw [htell]
    exact fin
end CO
