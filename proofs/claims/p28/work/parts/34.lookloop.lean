/-! THE COINCIDENCE, line by line. -/
def pu (U z : Nat) : Int := (z : Int) * (U : Int)
theorem pu_add (U a b : Nat) : pu U (a + b) = pu U a + pu U b := by unfold pu; rw [Int.natCast_add, Int.add_mul]
theorem pu_0 (U : Nat) : pu U 0 = 0 := by unfold pu; simp
theorem pu_1 (U : Nat) : pu U 1 = U := by unfold pu; simp
theorem pu_nn (U a : Nat) : 0 ≤ pu U a := by unfold pu; exact Int.mul_nonneg (Int.natCast_nonneg _) (Int.natCast_nonneg _)
theorem pu_le {U a b : Nat} (h : a ≤ b) : pu U a ≤ pu U b := by
  obtain ⟨d, rfl⟩ := Nat.exists_eq_add_of_le h
  rw [pu_add]; have := pu_nn U d; omega
theorem pu_bd {U a : Nat} (hU : U ≤ 50) (ha : a ≤ 50) : pu U a ≤ 2500 := by
  have h1 := pu_le (U := U) ha
  have h2 : pu U 50 ≤ 2500 := by unfold pu; omega
  omega
theorem nI_pu (U a : Nat) : nI a * nI U = iI (pu U a) := by rw [nI_iI, nI_iI, iI_mul]; rfl
theorem ab_neg (z : Int) : ab (-z) = ab z := by unfold ab; split <;> split <;> omega
theorem ab_nn (z : Int) : 0 ≤ ab z := by unfold ab; split <;> omega
theorem ab_le {z b : Int} (h1 : -b ≤ z) (h2 : z ≤ b) : ab z ≤ b := by unfold ab; split <;> omega
section LOOK
variable {n i N U j k : Nat} {r : Int} {σ τ : Sg}
theorem b76_end (h : N < j) (hj : j ≤ 1000) {v1 v4 v5 : Int32} : f_X5_look_b76 (n + 1) τ v1 (nI N) v4 v5 (nI j) = some τ := by
  rw [f_X5_look_b76.eq_2, if_pos ((nI_ltN (by omega) (by omega)).mpr h)]
theorem b76_direct {v5 : Int32} (hi : i < 10) (hb : τ.2 0 (4 + 8 * i + 3) = 0) (h3 : τ.1 3 = iI r) (hr : 0 ≤ r) (hr2 : r ≤ 2500) (hU : U ≤ 50) (hN : N ≤ 50) (hj : j ≤ N) :
    f_X5_look_b76 (n + 1) τ (nI i) (nI N) (nI U) v5 (nI j) = f_X5_look_b146 (f_X5_look_b76 n) τ (nI i) (nI N) (nI U) v5 (nI j) (iI (ab (r - pu U j))) (nI j) := by
  have q1 := pu_nn U j
  have q2 := pu_bd hU (show j ≤ 50 by omega)
  rw [f_X5_look_b76.eq_2, if_neg (by rw [nI_ltN (by omega) (by omega)]; omega), show (3 : Int32) = nI 3 from rfl, tool_in hi (by omega), Option.bind_some, if_pos hb]
  unfold f_X5_look_b105
  simp only [lt]
  rw [h3, nI_pu, iI_sub, abs_if ⟨by omega, by omega⟩]
  unfold f_X5_look_b126
  rw [show (3 : Int32) = nI 3 from rfl, tool_in hi (by omega), Option.bind_some, if_pos hb]
theorem b76_retro (hi : i < 10) (hb : ¬ τ.2 0 (4 + 8 * i + 3) = 0) (h3 : τ.1 3 = iI r) (hr : 0 ≤ r) (hr2 : r ≤ 2500) (hU : U ≤ 50) (hN : N ≤ 50) (hj : j ≤ N) :
    f_X5_look_b76 (n + 1) τ (nI i) (nI N) (nI U) (iI (pu U N)) (nI j) = f_X5_look_b146 (f_X5_look_b76 n) τ (nI i) (nI N) (nI U) (iI (pu U N)) (nI j) (iI (ab (r - pu U (N - j)))) (nI (N - j)) := by
  have q1 := pu_nn U j
  have q2 := pu_bd hU (show j ≤ 50 by omega)
  have q3 := pu_nn U N
  have q4 := pu_bd hU (show N ≤ 50 by omega)
  have q5 : pu U N = pu U (N - j) + pu U j := by rw [← pu_add, Nat.sub_add_cancel hj]
  rw [f_X5_look_b76.eq_2, if_neg (by rw [nI_ltN (by omega) (by omega)]; omega), show (3 : Int32) = nI 3 from rfl, tool_in hi (by omega), Option.bind_some, if_neg hb]
  unfold f_X5_look_b105
  simp only [lt]
  rw [h3, nI_pu, iI_sub, iI_sub, abs_if ⟨by omega, by omega⟩]
  unfold f_X5_look_b126
  rw [show (3 : Int32) = nI 3 from rfl, tool_in hi (by omega), Option.bind_some, if_neg hb, pk_sub hj, show pu U N - r - pu U j = -(r - pu U (N - j)) by omega, ab_neg]
/-- only the four numbers of the best line change -/
def lks (σ τ : Sg) : Prop := τ.2 = σ.2 ∧ ∀ k, (k < 4 ∨ 7 < k) → τ.1 k = σ.1 k
theorem lks_rf : lks σ σ := ⟨rfl, fun _ _ => rfl⟩
theorem lks_tr {ρ : Sg} (h : lks σ τ) (h2 : lks τ ρ) : lks σ ρ := ⟨h2.1.trans h.1, fun k hk => (h2.2 k hk).trans (h.2 k hk)⟩
theorem lks_s {v : Int32} {m : Nat} (h : lks σ τ) (hm : 4 ≤ m ∧ m ≤ 7) : lks σ (s1 τ m v) := ⟨h.1, fun k hk => (s1_ne (by omega)).trans (h.2 k hk)⟩
def best (τ : Sg) (c l : Nat) (d : Int) (m : Nat) : Prop := τ.1 6 = nI c ∧ τ.1 4 = nI l ∧ τ.1 5 = iI d ∧ τ.1 7 = nI m
theorem best_new {v7 v6 w : Int32} : (s1 (s1 (s1 (s1 τ 7 1) 5 v7) 4 v6) 6 w).1 6 = w ∧ (s1 (s1 (s1 (s1 τ 7 1) 5 v7) 4 v6) 6 w).1 4 = v6 ∧ (s1 (s1 (s1 (s1 τ 7 1) 5 v7) 4 v6) 6 w).1 5 = v7 ∧ (s1 (s1 (s1 (s1 τ 7 1) 5 v7) 4 v6) 6 w).1 7 = 1 := by
  simp [s1, upd]
theorem best_tie {v6 w x : Int32} : (s1 (s1 (s1 τ 7 x) 4 v6) 6 w).1 6 = w ∧ (s1 (s1 (s1 τ 7 x) 4 v6) 6 w).1 4 = v6 ∧ (s1 (s1 (s1 τ 7 x) 4 v6) 6 w).1 5 = τ.1 5 ∧ (s1 (s1 (s1 τ 7 x) 4 v6) 6 w).1 7 = x := by
  simp [s1, upd]
/-- the best so far, a direct vernier -/
def ivD (r : Int) (U k j : Nat) (τ : Sg) : Prop := (j = 0 ∧ τ.1 7 = 0) ∨ (1 ≤ j ∧ best τ (min (j - 1) k) (min (j - 1) k) (ab (r - pu U (min (j - 1) k))) (if k + 1 ≤ j - 1 ∧ 2 * (r - pu U k) = U then 2 else 1))
def ivR (r : Int) (U N k j : Nat) (τ : Sg) : Prop := (j = 0 ∧ τ.1 7 = 0) ∨ (1 ≤ j ∧ best τ (max (N - (j - 1)) k) (N - max (N - (j - 1)) k) (ab (r - pu U (max (N - (j - 1)) k))) (if N - (j - 1) ≤ k ∧ 2 * (r - pu U k) = U then 2 else 1))
theorem stepD {v5 : Int32} (hi : i < 10) (hb : τ.2 0 (4 + 8 * i + 3) = 0) (h3 : τ.1 3 = iI r) (hr : 0 ≤ r) (hr2 : r ≤ 2500) (hU : U ≤ 50) (hU0 : 0 < U) (hN : N ≤ 50) (hj : j ≤ N) (hk : k ≤ N) (k1 : -(U : Int) < 2 * (r - pu U k)) (k2 : 2 * (r - pu U k) ≤ U) (iv : ivD r U k j τ) :
    ∃ τ', f_X5_look_b76 (n + 1) τ (nI i) (nI N) (nI U) v5 (nI j) = f_X5_look_b76 n τ' (nI i) (nI N) (nI U) v5 (nI (j + 1)) ∧ ivD r U k (j + 1) τ' ∧ lks τ τ' := by
  rw [b76_direct hi hb h3 hr hr2 hU hN hj]
  have a1 := pu_nn U j
  have a2 := pu_bd hU (show j ≤ 50 by omega)
  have a3 := pu_nn U k
  have a4 := pu_bd hU (show k ≤ 50 by omega)
  have new : (τ.1 7 = 0 ∨ ¬ τ.1 5 ≤ iI (ab (r - pu U j))) → j ≤ k → ∃ τ', f_X5_look_b146 (f_X5_look_b76 n) τ (nI i) (nI N) (nI U) v5 (nI j) (iI (ab (r - pu U j))) (nI j) = f_X5_look_b76 n τ' (nI i) (nI N) (nI U) v5 (nI (j + 1)) ∧ ivD r U k (j + 1) τ' ∧ lks τ τ' := by
    intro h hjk
    refine ⟨_, (lk_new h).trans (by rw [nI_1]), Or.inr ⟨by omega, ?_⟩, lks_s (lks_s (lks_s (lks_s lks_rf (by omega)) (by omega)) (by omega)) (by omega)⟩
    have e : min (j + 1 - 1) k = j := by omega
    rw [e, if_neg (by omega)]
    exact best_new
  rcases iv with ⟨rfl, h7⟩ | ⟨h1, b1, b2, b3, b4⟩
  · exact new (Or.inl h7) (by omega)
  · have h70 : ¬ τ.1 7 = 0 := by
      rw [b4, show (0 : Int32) = nI 0 from rfl, nI_eq (by split <;> omega) (by omega)]
      split <;> omega
    rcases Nat.lt_or_ge k j with hjk | hjk
    · have e : min (j - 1) k = k := by omega
      rw [e] at b1 b2 b3
      have c1 : ab (r - pu U k) ≤ 2500 := ab_le (by omega) (by omega)
      have c2 : ab (r - pu U j) ≤ 2500 := ab_le (by omega) (by omega)
      have c3 := ab_nn (r - pu U k)
      have c4 := ab_nn (r - pu U j)
      have e2 : min (j + 1 - 1) k = k := by omega
      rcases Nat.lt_or_ge (k + 1) j with hj2 | hj2
      · obtain ⟨d, rfl⟩ : ∃ d, j = k + (2 + d) := ⟨j - k - 2, by omega⟩
        have p1 : pu U (k + (2 + d)) = pu U k + (pu U 1 + pu U 1 + pu U d) := by rw [pu_add, pu_add, ← pu_add U 1 1]
        have p2 := pu_1 U
        have p3 := pu_nn U d
        have hlt : ab (r - pu U k) < ab (r - pu U (k + (2 + d))) := by unfold ab; split <;> split <;> omega
        refine ⟨τ, (lk_far h70 (by rw [b3, iI_le ⟨by omega, by omega⟩ ⟨by omega, by omega⟩]; omega) (by rw [b3, iI_eq ⟨by omega, by omega⟩ ⟨by omega, by omega⟩]; omega)).trans (by rw [nI_1]), Or.inr ⟨by omega, ?_⟩, lks_rf⟩
        rw [e2]
        refine ⟨b1, b2, b3, ?_⟩
        rw [b4]
        congr 1
        by_cases ht : 2 * (r - pu U k) = U
        · rw [if_pos ⟨by omega, ht⟩, if_pos ⟨by omega, ht⟩]
        · rw [if_neg (fun q => ht q.2), if_neg (fun q => ht q.2)]
      · have hj3 : j = k + 1 := by omega
        subst hj3
        have p1 : pu U (k + 1) = pu U k + U := by rw [pu_add, pu_1]
        by_cases ht : 2 * (r - pu U k) = U
        · have heq : ab (r - pu U (k + 1)) = ab (r - pu U k) := by unfold ab; split <;> split <;> omega
          refine ⟨_, (lk_tie_keep h70 (by rw [heq, b3]) (by rw [b1, nI_leN (by omega) (by omega)]; omega)).trans (by rw [nI_1]), Or.inr ⟨by omega, ?_⟩, lks_s (lks_s (lks_s lks_rf (by omega)) (by omega)) (by omega)⟩
          rw [e2, if_pos ⟨by omega, ht⟩]
          obtain ⟨g1, g2, g3, g4⟩ := best_tie (τ := τ) (v6 := τ.1 4) (w := τ.1 6) (x := τ.1 7 + 1)
          refine ⟨g1.trans b1, g2.trans b2, g3.trans b3, g4.trans ?_⟩
          rw [b4, if_neg (by omega)]; rfl
        · have hlt : ab (r - pu U k) < ab (r - pu U (k + 1)) := by unfold ab; split <;> split <;> omega
          refine ⟨τ, (lk_far h70 (by rw [b3, iI_le ⟨by omega, by omega⟩ ⟨by omega, by omega⟩]; omega) (by rw [b3, iI_eq ⟨by omega, by omega⟩ ⟨by omega, by omega⟩]; omega)).trans (by rw [nI_1]), Or.inr ⟨by omega, ?_⟩, lks_rf⟩
          rw [e2, if_neg (fun q => ht q.2)]
          rw [if_neg (fun q => ht q.2)] at b4
          exact ⟨b1, b2, b3, b4⟩
    · refine new (Or.inr ?_) hjk
      have e : min (j - 1) k = j - 1 := by omega
      rw [e] at b3
      obtain ⟨d, hd⟩ : ∃ d, k = j + d := ⟨k - j, by omega⟩
      have p1 : pu U k = pu U j + pu U d := by rw [hd, pu_add]
      have p2 : pu U j = pu U (j - 1) + U := by
        have : pu U (j - 1 + 1) = pu U (j - 1) + pu U 1 := pu_add U (j - 1) 1
        rw [pu_1, Nat.sub_add_cancel h1] at this; exact this
      have p3 := pu_nn U d
      have p4 := pu_nn U (j - 1)
      have c1 : ab (r - pu U (j - 1)) ≤ 2500 := ab_le (by omega) (by omega)
      have c2 : ab (r - pu U j) ≤ 2500 := ab_le (by omega) (by omega)
      have c3 := ab_nn (r - pu U (j - 1))
      have c4 := ab_nn (r - pu U j)
      have hlt : ab (r - pu U j) < ab (r - pu U (j - 1)) := by unfold ab; split <;> split <;> omega
      rw [b3, iI_le ⟨by omega, by omega⟩ ⟨by omega, by omega⟩]
      omega
end LOOK
