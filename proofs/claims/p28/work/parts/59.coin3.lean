/-! THE COINCIDENCE by the law: its walk over the lines. -/
section CL
variable {σ : Sg} {a b c i : Nat} {f : Nat → Int32}
/-- how many of the first j lines lie best: direct, and the other way -/
def lkD (tie : Prop) [Decidable tie] (k j : Nat) : Nat := (if k < j then 1 else 0) + (if tie ∧ k + 1 < j then 1 else 0)
def lkR (tie : Prop) [Decidable tie] (N k j : Nat) : Nat := (if N < k + j then 1 else 0) + (if tie ∧ N < k + 1 + j then 1 else 0)
theorem lkD_0 {tie : Prop} [Decidable tie] {k : Nat} : lkD tie k 0 = 0 := by
  unfold lkD
  rw [if_neg (by omega), if_neg (fun q => by have := q.2; omega)]
theorem lkR_0 {tie : Prop} [Decidable tie] {N k : Nat} (hk : k ≤ N) (ht : tie → k < N) : lkR tie N k 0 = 0 := by
  unfold lkR
  rw [if_neg (by omega), if_neg (fun q => by have := ht q.1; have := q.2; omega)]
theorem lkD_s {tie : Prop} [Decidable tie] {k j : Nat} : lkD tie k (j + 1) = lkD tie k j + (if j = k ∨ (tie ∧ j = k + 1) then 1 else 0) := by
  unfold lkD
  by_cases ht : tie
  · simp only [ht, true_and]
    split <;> split <;> split <;> split <;> split <;> omega
  · simp only [ht, false_and, or_false, if_false]
    split <;> split <;> split <;> omega
theorem lkR_s {tie : Prop} [Decidable tie] {N k j : Nat} (hj : j ≤ N) : lkR tie N k (j + 1) = lkR tie N k j + (if N - j = k ∨ (tie ∧ N - j = k + 1) then 1 else 0) := by
  unfold lkR
  by_cases ht : tie
  · simp only [ht, true_and]
    split <;> split <;> split <;> split <;> split <;> omega
  · simp only [ht, false_and, or_false, if_false]
    split <;> split <;> split <;> omega
theorem coin_loopD {v1 v2 v4 : Int32} {y m r : Int} {U N k X : Nat} (hr : 0 ≤ r) (hr2 : r < pu U N) (hU : 1 ≤ U) (hw : pu U N ≤ 2500) (hN : N ≤ 50) (hk : k ≤ N) (k1 : -(U : Int) < 2 * (r - pu U k)) (k2 : 2 * (r - pu U k) ≤ U) (hy : y = m * pu U N + r) (hv2 : v2 = iI y)
    (hX : X = lkD (2 * (r - pu U k) = U) k (N + 1)) (e5 : f_X4_coincidence σ v1 v2 (5 : Int32) = some (nI X)) (e6 : f_X4_coincidence σ v1 v2 (6 : Int32) = some (iI m * iI (pu U N) + nI k * v4)) (e7 : f_X4_coincidence σ v1 v2 (7 : Int32) = some (-10000002)) :
    ∀ (d n j : Nat), d + j = N + 1 → d < n → f_L_coincides_b165 σ n v1 v2 (nI N) v4 (iI m) (nI k) (iI (DD r U k)) (nI k) (iI (pu U N)) (iI (((N : Int) - 1) * U)) 0 (nI (lkD (2 * (r - pu U k) = U) k j)) (nI j) = some 1 := by
  intro d
  induction d with
  | zero =>
    intro n j hm hn
    obtain ⟨n, rfl⟩ : ∃ z, n = z + 1 := ⟨n - 1, by omega⟩
    have hj : j = N + 1 := by omega
    subst hj
    rw [f_L_coincides_b165.eq_2, if_pos ((nI_ltN (by omega) (by omega)).mpr (by omega)), e5, Option.bind_some, if_pos (by rw [hX]), e6, Option.bind_some, if_pos rfl, e7, Option.bind_some, if_pos rfl]
  | succ d ih =>
    intro n j hm hn
    obtain ⟨n, rfl⟩ : ∃ z, n = z + 1 := ⟨n - 1, by omega⟩
    have hj : j ≤ N := by omega
    have pj := pu_le (U := U) hj
    have pj0 := pu_nn U j
    have hz : v2 + nI j * iI (((N : Int) - 1) * U) - (iI m + nI j) * iI (pu U N) = iI (r - pu U j) := by
      rw [hv2, hy, nI_iI, iI_mul, iI_add, iI_add, iI_mul, iI_sub]
      congr 1
      have e1 : (j : Int) * (((N : Int) - 1) * U) = j * pu U N - pu U j := by
        unfold pu
        rw [Int.sub_mul, Int.mul_sub, Int.one_mul]
      rw [e1, Int.add_mul]
      omega
    rw [f_L_coincides_b165.eq_2, if_neg (by rw [nI_ltN (by omega) (by omega)]; omega), if_pos rfl, coin_step (t := j) hr hr2 hU hw hN hk hj hj hk k1 k2 hz ⟨by omega, by omega⟩ rfl (if_pos rfl) (fun e => e), ← lkD_s]
    exact ih n (j + 1) (by omega) (by omega)
theorem coin_loopR {v1 v2 v4 : Int32} {y m r : Int} {U N k X : Nat} (hr : 0 ≤ r) (hr2 : r < pu U N) (hU : 1 ≤ U) (hw : pu U N ≤ 2500) (hN : N ≤ 50) (hk : k ≤ N) (k1 : -(U : Int) < 2 * (r - pu U k)) (k2 : 2 * (r - pu U k) ≤ U) (hy : y = m * pu U N + r) (hv2 : v2 = iI y)
    (hX : X = lkR (2 * (r - pu U k) = U) N k (N + 1)) (e5 : f_X4_coincidence σ v1 v2 (5 : Int32) = some (nI X)) (e6 : f_X4_coincidence σ v1 v2 (6 : Int32) = some (iI m * iI (pu U N) + nI k * v4)) (e7 : f_X4_coincidence σ v1 v2 (7 : Int32) = some (-10000002)) :
    ∀ (d n j : Nat), d + j = N + 1 → d < n → f_L_coincides_b165 σ n v1 v2 (nI N) v4 (iI m) (nI (N - k)) (iI (DD r U k)) (nI k) (iI (pu U N)) (iI (((N : Int) + 1) * U)) 1 (nI (lkR (2 * (r - pu U k) = U) N k j)) (nI j) = some 1 := by
  intro d
  induction d with
  | zero =>
    intro n j hm hn
    obtain ⟨n, rfl⟩ : ∃ z, n = z + 1 := ⟨n - 1, by omega⟩
    have hj : j = N + 1 := by omega
    subst hj
    rw [f_L_coincides_b165.eq_2, if_pos ((nI_ltN (by omega) (by omega)).mpr (by omega)), e5, Option.bind_some, if_pos (by rw [hX]), e6, Option.bind_some, if_pos rfl, e7, Option.bind_some, if_pos rfl]
  | succ d ih =>
    intro n j hm hn
    obtain ⟨n, rfl⟩ : ∃ z, n = z + 1 := ⟨n - 1, by omega⟩
    have hj : j ≤ N := by omega
    have pj := pu_le (U := U) (show N - j ≤ N by omega)
    have pj0 := pu_nn U (N - j)
    have pe : pu U N = pu U (N - j) + pu U j := by rw [← pu_add, show N - j + j = N by omega]
    have hz : v2 + nI j * iI (((N : Int) + 1) * U) - ((iI m + nI j) + (1 : Int32)) * iI (pu U N) = iI (-(pu U (N - j) - r)) := by
      rw [hv2, hy, nI_iI, show (1 : Int32) = iI 1 from rfl, iI_mul, iI_add, iI_add, iI_add, iI_mul, iI_sub]
      congr 1
      have e1 : (j : Int) * (((N : Int) + 1) * U) = j * pu U N + pu U j := by
        unfold pu
        rw [Int.add_mul, Int.mul_add, Int.one_mul]
      rw [e1, Int.add_mul, Int.add_mul, Int.one_mul]
      omega
    have hzt : ab (-(pu U (N - j) - r)) = DD r U (N - j) := by
      unfold DD; congr 1; omega
    rw [f_L_coincides_b165.eq_2, if_neg (by rw [nI_ltN (by omega) (by omega)]; omega), if_neg (by decide), coin_step (t := N - j) hr hr2 hU hw hN hk (show N - j ≤ N by omega) hj (show N - k ≤ N by omega) k1 k2 hz ⟨by omega, by omega⟩ hzt (by
      rw [if_neg (by decide), nI_iI, nI_iI, nI_iI, iI_sub, show (((N - j : Nat) : Nat) : Int) = (N : Int) - j by omega]) (fun e => by omega), ← lkR_s hj]
    exact ih n (j + 1) (by omega) (by omega)
theorem coincides_ok (h : SI σ a b c f) (hi : i < a) {y : Int} (hy : -1000 ≤ y ∧ y ≤ 1000000) : f_L_coincides σ (nI i) (iI y) = some 1 := by
  have h' := h
  have v1 := h.2.2.2.2.2.2.1
  obtain ⟨⟨N, U, Ln, z, g, tr, i0_, i1_, i2_, -, -, -, hN, hU, hL, -⟩, hb3, -⟩ := v1 i hi
  have w2 := pu_bd hU.2 hN.2
  have w1 : (U : Int) ≤ pu U N := by
    have := pu_le (U := U) (show 1 ≤ N by omega)
    rw [pu_1] at this; exact this
  obtain ⟨e1, e2, e3⟩ := div_parts (p := y) (w := pu U N) (by omega)
  obtain ⟨k, hk, k1, k2, a0, a1, a2, a3, a4, a5, a6, a7⟩ := coin_v h hi i0_ i1_ hN hU hy
  have hmb := Int.natAbs_ediv_le_natAbs y (pu U N)
  have hkN : 2 * (y % pu U N - pu U k) = U → k < N := fun ht => by
    rcases Nat.lt_or_ge k N with h1 | h1
    · exact h1
    · have : k = N := by omega
      subst this; omega
  unfold f_L_coincides
  rw [show f_X4_instrument σ (nI i) (0 : Int32) = some (nI N) from (r_ins8 (k := 0) h hi (by omega)).trans (by rw [Nat.add_zero, i0_]), show f_X4_instrument σ (nI i) (1 : Int32) = some (nI U) from (r_ins8 (k := 1) h hi (by omega)).trans (by rw [i1_]), a0, a1, a2, a3, a4, r_ins_9 h hi, show f_X4_instrument σ (nI i) (3 : Int32) = _ from r_ins8 (k := 3) h hi (by omega), i0_, i1_]
  simp only [Option.bind_some, lt]
  rw [nI_pu]
  unfold f_L_coincides_b90 f_L_coincides_b135 f_L_coincides_b154
  have g1 : iI (y / pu U N) * iI (pu U N) + iI (y % pu U N) = iI y := by rw [iI_mul, iI_add]; congr 1; omega
  have g2 : ¬ iI (y % pu U N) < 0 := by rw [show (0 : Int32) = iI 0 from rfl, iI_lt ⟨by omega, by omega⟩ ⟨by omega, by omega⟩]; omega
  have g3 : ¬ iI (pu U N) ≤ iI (y % pu U N) := by rw [iI_le ⟨by omega, by omega⟩ ⟨by omega, by omega⟩]; omega
  have tie : ∀ {α : Type} {x z : α}, (if 2 * (y % pu U N - pu U k) = (U : Int) then x else z) = (if 2 * (y % pu U N - pu U k) = (U : Int) then x else z) := rfl
  rcases hb3 with hb | hb
  · have hD : (nI N + (if f (4 + 8 * i + 3) = 1 then 1 else -1)) * nI U = iI (((N : Int) - 1) * U) := by
      rw [hb, if_neg (by decide), nI_iI, nI_iI, show (-1 : Int32) = iI (-1) from rfl, iI_add, iI_mul]; rfl
    rw [hD, hb, if_neg (by decide), if_pos g1, if_neg g2, if_neg g3, if_pos rfl, if_pos rfl, if_pos rfl, if_pos rfl, if_pos (by
      rw [nI_iI, nI_iI, show (1 : Int32) = iI 1 from rfl, iI_sub, iI_mul])]
    have hX : (if 2 * (y % pu U N - pu U k) = (U : Int) then 2 else 1) = lkD (2 * (y % pu U N - pu U k) = U) k (N + 1) := by
      unfold lkD
      by_cases ht : 2 * (y % pu U N - pu U k) = (U : Int)
      · have := hkN ht
        rw [if_pos ht, if_pos (by omega), if_pos ⟨ht, by omega⟩]
      · rw [if_neg ht, if_pos (by omega), if_neg (fun q => ht q.1)]
    have L := coin_loopD (y := y) (m := y / pu U N) (X := if 2 * (y % pu U N - pu U k) = (U : Int) then 2 else 1) e2 e3 hU.1 w2 hN.2 hk k1 k2 (by omega) rfl hX a5 a6 a7 (N + 1) fuel 0 (by omega) (by unfold fuel; omega)
    rw [lkD_0] at L
    exact L
  · have hD : (nI N + (if f (4 + 8 * i + 3) = 1 then 1 else -1)) * nI U = iI (((N : Int) + 1) * U) := by
      rw [hb, if_pos rfl, nI_iI, nI_iI, show (1 : Int32) = iI 1 from rfl, iI_add, iI_mul]
    rw [hD, hb, if_neg (show ¬ (1 : Int32) = 0 by decide), if_pos rfl, if_pos g1, if_neg g2, if_neg g3, if_neg (show ¬ (1 : Int32) = 0 by decide), if_pos (by
      rw [nI_iI, nI_iI, nI_iI, iI_sub]; congr 1; omega), if_neg (show ¬ (1 : Int32) = 0 by decide), if_pos (by
      rw [nI_iI, nI_iI, show (1 : Int32) = iI 1 from rfl, iI_add, iI_mul])]
    have hX : (if 2 * (y % pu U N - pu U k) = (U : Int) then 2 else 1) = lkR (2 * (y % pu U N - pu U k) = U) N k (N + 1) := by
      unfold lkR
      by_cases ht : 2 * (y % pu U N - pu U k) = (U : Int)
      · rw [if_pos ht, if_pos (by omega), if_pos ⟨ht, by omega⟩]
      · rw [if_neg ht, if_pos (by omega), if_neg (fun q => ht q.1)]
    have L := coin_loopR (y := y) (m := y / pu U N) (X := if 2 * (y % pu U N - pu U k) = (U : Int) then 2 else 1) e2 e3 hU.1 w2 hN.2 hk k1 k2 (by omega) rfl hX a5 a6 a7 (N + 1) fuel 0 (by omega) (by unfold fuel; omega)
    rw [lkR_0 hk hkN] at L
    exact L
end CL
