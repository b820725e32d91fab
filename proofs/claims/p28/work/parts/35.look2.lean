/-! THE COINCIDENCE: the other way, the loops, the whole look. -/
theorem tool_0 {σ : Sg} {i : Nat} (hi : i < 10) : f_X5_tool σ (nI i) (0 : Int32) = some (σ.2 0 (4 + 8 * i)) := tool_in (k := 0) hi (by omega)
theorem tool_1 {σ : Sg} {i : Nat} (hi : i < 10) : f_X5_tool σ (nI i) (1 : Int32) = some (σ.2 0 (4 + 8 * i + 1)) := tool_in (k := 1) hi (by omega)
theorem tool_2 {σ : Sg} {i : Nat} (hi : i < 10) : f_X5_tool σ (nI i) (2 : Int32) = some (σ.2 0 (4 + 8 * i + 2)) := tool_in (k := 2) hi (by omega)
theorem tool_3 {σ : Sg} {i : Nat} (hi : i < 10) : f_X5_tool σ (nI i) (3 : Int32) = some (σ.2 0 (4 + 8 * i + 3)) := tool_in (k := 3) hi (by omega)
theorem tool_4 {σ : Sg} {i : Nat} (hi : i < 10) : f_X5_tool σ (nI i) (4 : Int32) = some (σ.2 0 (4 + 8 * i + 4)) := tool_in (k := 4) hi (by omega)
theorem tool_5 {σ : Sg} {i : Nat} (hi : i < 10) : f_X5_tool σ (nI i) (5 : Int32) = some (σ.2 0 (4 + 8 * i + 5)) := tool_in (k := 5) hi (by omega)
theorem tool_6 {σ : Sg} {i : Nat} (hi : i < 10) : f_X5_tool σ (nI i) (6 : Int32) = some (σ.2 0 (4 + 8 * i + 6)) := tool_in (k := 6) hi (by omega)
theorem tool_7 {σ : Sg} {i : Nat} (hi : i < 10) : f_X5_tool σ (nI i) (7 : Int32) = some (σ.2 0 (4 + 8 * i + 7)) := tool_in (k := 7) hi (by omega)
theorem scholar_0 {σ : Sg} {i : Nat} (hi : i < 12) : f_X5_scholar σ (nI i) (0 : Int32) = some (σ.2 0 (84 + 5 * i)) := scholar_in (k := 0) hi (by omega)
theorem scholar_1 {σ : Sg} {i : Nat} (hi : i < 12) : f_X5_scholar σ (nI i) (1 : Int32) = some (σ.2 0 (84 + 5 * i + 1)) := scholar_in (k := 1) hi (by omega)
theorem scholar_2 {σ : Sg} {i : Nat} (hi : i < 12) : f_X5_scholar σ (nI i) (2 : Int32) = some (σ.2 0 (84 + 5 * i + 2)) := scholar_in (k := 2) hi (by omega)
theorem scholar_3 {σ : Sg} {i : Nat} (hi : i < 12) : f_X5_scholar σ (nI i) (3 : Int32) = some (σ.2 0 (84 + 5 * i + 3)) := scholar_in (k := 3) hi (by omega)
theorem scholar_4 {σ : Sg} {i : Nat} (hi : i < 12) : f_X5_scholar σ (nI i) (4 : Int32) = some (σ.2 0 (84 + 5 * i + 4)) := scholar_in (k := 4) hi (by omega)
theorem sheet_0 {σ : Sg} {i : Nat} (hi : i < 60) : f_X5_sheet σ (nI i) (0 : Int32) = some (σ.2 0 (144 + 8 * i)) := sheet_in (k := 0) hi (by omega)
theorem sheet_1 {σ : Sg} {i : Nat} (hi : i < 60) : f_X5_sheet σ (nI i) (1 : Int32) = some (σ.2 0 (144 + 8 * i + 1)) := sheet_in (k := 1) hi (by omega)
theorem sheet_2 {σ : Sg} {i : Nat} (hi : i < 60) : f_X5_sheet σ (nI i) (2 : Int32) = some (σ.2 0 (144 + 8 * i + 2)) := sheet_in (k := 2) hi (by omega)
theorem sheet_3 {σ : Sg} {i : Nat} (hi : i < 60) : f_X5_sheet σ (nI i) (3 : Int32) = some (σ.2 0 (144 + 8 * i + 3)) := sheet_in (k := 3) hi (by omega)
theorem sheet_4 {σ : Sg} {i : Nat} (hi : i < 60) : f_X5_sheet σ (nI i) (4 : Int32) = some (σ.2 0 (144 + 8 * i + 4)) := sheet_in (k := 4) hi (by omega)
theorem sheet_5 {σ : Sg} {i : Nat} (hi : i < 60) : f_X5_sheet σ (nI i) (5 : Int32) = some (σ.2 0 (144 + 8 * i + 5)) := sheet_in (k := 5) hi (by omega)
theorem sheet_6 {σ : Sg} {i : Nat} (hi : i < 60) : f_X5_sheet σ (nI i) (6 : Int32) = some (σ.2 0 (144 + 8 * i + 6)) := sheet_in (k := 6) hi (by omega)
theorem sheet_7 {σ : Sg} {i : Nat} (hi : i < 60) : f_X5_sheet σ (nI i) (7 : Int32) = some (σ.2 0 (144 + 8 * i + 7)) := sheet_in (k := 7) hi (by omega)
section LOOK2
variable {n i N U j k : Nat} {r : Int} {σ τ : Sg}
theorem stepR (hi : i < 10) (hb : ¬ τ.2 0 (4 + 8 * i + 3) = 0) (h3 : τ.1 3 = iI r) (hr : 0 ≤ r) (hr2 : r < pu U N) (hU : U ≤ 50) (hU0 : 0 < U) (hN : N ≤ 50) (hj : j ≤ N) (hk : k ≤ N) (k1 : -(U : Int) < 2 * (r - pu U k)) (k2 : 2 * (r - pu U k) ≤ U) (iv : ivR r U N k j τ) :
    ∃ τ', f_X5_look_b76 (n + 1) τ (nI i) (nI N) (nI U) (iI (pu U N)) (nI j) = f_X5_look_b76 n τ' (nI i) (nI N) (nI U) (iI (pu U N)) (nI (j + 1)) ∧ ivR r U N k (j + 1) τ' ∧ lks τ τ' := by
  have a0 := pu_bd hU hN
  rw [b76_retro hi hb h3 hr (by omega) hU hN hj]
  have a1 := pu_nn U (N - j)
  have a2 := pu_bd hU (show N - j ≤ 50 by omega)
  have a3 := pu_nn U k
  have a4 := pu_bd hU (show k ≤ 50 by omega)
  have new : (τ.1 7 = 0 ∨ ¬ τ.1 5 ≤ iI (ab (r - pu U (N - j)))) → k ≤ N - j → (¬ (N - j ≤ k ∧ 2 * (r - pu U k) = U)) → ∃ τ', f_X5_look_b146 (f_X5_look_b76 n) τ (nI i) (nI N) (nI U) (iI (pu U N)) (nI j) (iI (ab (r - pu U (N - j)))) (nI (N - j)) = f_X5_look_b76 n τ' (nI i) (nI N) (nI U) (iI (pu U N)) (nI (j + 1)) ∧ ivR r U N k (j + 1) τ' ∧ lks τ τ' := by
    intro h hjk hnt
    refine ⟨_, (lk_new h).trans (by rw [nI_1]), Or.inr ⟨by omega, ?_⟩, lks_s (lks_s (lks_s (lks_s lks_rf (by omega)) (by omega)) (by omega)) (by omega)⟩
    have e : max (N - (j + 1 - 1)) k = N - j := by omega
    rw [e, if_neg (by rw [Nat.add_sub_cancel]; exact hnt), show N - (N - j) = j by omega]
    exact best_new
  have tk : 2 * (r - pu U k) = U → k < N := by
    intro ht
    rcases Nat.lt_or_ge k N with h | h
    · exact h
    · have : k = N := by omega
      subst this; omega
  rcases iv with ⟨rfl, h7⟩ | ⟨h1, b1, b2, b3, b4⟩
  · refine new (Or.inl h7) (by omega) (fun q => ?_)
    have := tk q.2
    omega
  · have h70 : ¬ τ.1 7 = 0 := by
      rw [b4, show (0 : Int32) = nI 0 from rfl, nI_eq (by split <;> omega) (by omega)]
      split <;> omega
    have e1 : N - (j - 1) = N - j + 1 := by omega
    rw [e1] at b1 b2 b3 b4
    have p2 : pu U (N - j + 1) = pu U (N - j) + U := by rw [pu_add, pu_1]
    rcases Nat.lt_or_ge (N - j) k with hjk | hjk
    · have e : max (N - j + 1) k = k := by omega
      rw [e] at b1 b2 b3
      have e2 : max (N - (j + 1 - 1)) k = k := by omega
      obtain ⟨d, hd⟩ : ∃ d, k = N - j + (1 + d) := ⟨k - (N - j) - 1, by omega⟩
      have p1 : pu U k = pu U (N - j) + (U + pu U d) := by rw [hd, pu_add, pu_add, pu_1]
      have p3 := pu_nn U d
      have c1 : ab (r - pu U k) ≤ 2500 := ab_le (by omega) (by omega)
      have c2 : ab (r - pu U (N - j)) ≤ 2500 := ab_le (by omega) (by omega)
      have c3 := ab_nn (r - pu U k)
      have c4 := ab_nn (r - pu U (N - j))
      have hlt : ab (r - pu U k) < ab (r - pu U (N - j)) := by unfold ab; split <;> split <;> omega
      refine ⟨τ, (lk_far h70 (by rw [b3, iI_le ⟨by omega, by omega⟩ ⟨by omega, by omega⟩]; omega) (by rw [b3, iI_eq ⟨by omega, by omega⟩ ⟨by omega, by omega⟩]; omega)).trans (by rw [nI_1]), Or.inr ⟨by omega, ?_⟩, lks_rf⟩
      rw [e2]
      refine ⟨b1, b2, b3, ?_⟩
      rw [b4]
      congr 1
      by_cases ht : 2 * (r - pu U k) = U
      · rw [if_pos ⟨by omega, ht⟩, if_pos ⟨by omega, ht⟩]
      · rw [if_neg (fun q => ht q.2), if_neg (fun q => ht q.2)]
    · have e : max (N - j + 1) k = N - j + 1 := by omega
      rw [e] at b1 b2 b3
      obtain ⟨d, hd⟩ : ∃ d, N - j = k + d := ⟨N - j - k, by omega⟩
      have p1 : pu U (N - j) = pu U k + pu U d := by rw [hd, pu_add]
      have p3 := pu_nn U d
      have p4 := pu_bd hU (show N - j + 1 ≤ 50 by omega)
      have p5 := pu_nn U (N - j + 1)
      have c1 : ab (r - pu U (N - j + 1)) ≤ 2500 := ab_le (by omega) (by omega)
      have c2 : ab (r - pu U (N - j)) ≤ 2500 := ab_le (by omega) (by omega)
      have c3 := ab_nn (r - pu U (N - j + 1))
      have c4 := ab_nn (r - pu U (N - j))
      by_cases ht : N - j = k ∧ 2 * (r - pu U k) = U
      · obtain ⟨hjk2, ht⟩ := ht
        have heq : ab (r - pu U (N - j)) = ab (r - pu U (N - j + 1)) := by
          rw [hjk2] at p2 ⊢
          unfold ab; split <;> split <;> omega
        refine ⟨_, (lk_tie_new h70 (by rw [heq, b3]) (by rw [b1, nI_leN (by omega) (by omega)]; omega)).trans (by rw [nI_1]), Or.inr ⟨by omega, ?_⟩, lks_s (lks_s (lks_s lks_rf (by omega)) (by omega)) (by omega)⟩
        have e2 : max (N - (j + 1 - 1)) k = k := by omega
        rw [e2, if_pos ⟨by omega, ht⟩]
        obtain ⟨g1, g2, g3, g4⟩ := best_tie (τ := τ) (v6 := nI j) (w := nI (N - j)) (x := τ.1 7 + 1)
        refine ⟨g1.trans (by rw [hjk2]), g2.trans (by congr 1; omega), g3.trans (by rw [b3, ← heq, hjk2]), g4.trans ?_⟩
        rw [b4, if_neg (by omega)]; rfl
      · refine new (Or.inr ?_) hjk (fun q => ht ⟨by omega, q.2⟩)
        have hlt : ab (r - pu U (N - j)) < ab (r - pu U (N - j + 1)) := by
          rcases Nat.eq_or_lt_of_le hjk with h | h
          · have h5 : ¬ 2 * (r - pu U k) = U := fun q => ht ⟨h.symm, q⟩
            rw [← h] at p2 ⊢
            unfold ab; split <;> split <;> omega
          · have p6 : (U : Int) ≤ pu U d := by
              have := pu_le (U := U) (show 1 ≤ d by omega)
              rw [pu_1] at this; exact this
            unfold ab; split <;> split <;> omega
        rw [b3, iI_le ⟨by omega, by omega⟩ ⟨by omega, by omega⟩]
        omega
theorem loopD {v5 : Int32} (hi : i < 10) (hr : 0 ≤ r) (hr2 : r ≤ 2500) (hU : U ≤ 50) (hU0 : 0 < U) (hN : N ≤ 50) (hk : k ≤ N) (k1 : -(U : Int) < 2 * (r - pu U k)) (k2 : 2 * (r - pu U k) ≤ U) :
    ∀ (m n j : Nat) (τ : Sg), m + j = N + 1 → m < n → τ.2 0 (4 + 8 * i + 3) = 0 → τ.1 3 = iI r → ivD r U k j τ →
    ∃ τ', f_X5_look_b76 n τ (nI i) (nI N) (nI U) v5 (nI j) = some τ' ∧ ivD r U k (N + 1) τ' ∧ lks τ τ' := by
  intro m
  induction m with
  | zero =>
    intro n j τ hm hn hb h3 iv
    obtain ⟨n, rfl⟩ : ∃ z, n = z + 1 := ⟨n - 1, by omega⟩
    have : j = N + 1 := by omega
    subst this
    exact ⟨τ, b76_end (by omega) (by omega), iv, lks_rf⟩
  | succ m ih =>
    intro n j τ hm hn hb h3 iv
    obtain ⟨n, rfl⟩ : ∃ z, n = z + 1 := ⟨n - 1, by omega⟩
    obtain ⟨τ1, e1, iv1, l1⟩ := stepD (n := n) (v5 := v5) hi hb h3 hr hr2 hU hU0 hN (by omega) hk k1 k2 iv
    obtain ⟨τ2, e2, iv2, l2⟩ := ih n (j + 1) τ1 (by omega) (by omega) (by rw [l1.1]; exact hb) (by rw [l1.2 3 (by omega)]; exact h3) iv1
    exact ⟨τ2, e1.trans e2, iv2, lks_tr l1 l2⟩
theorem loopR (hi : i < 10) (hr : 0 ≤ r) (hr2 : r < pu U N) (hU : U ≤ 50) (hU0 : 0 < U) (hN : N ≤ 50) (hk : k ≤ N) (k1 : -(U : Int) < 2 * (r - pu U k)) (k2 : 2 * (r - pu U k) ≤ U) :
    ∀ (m n j : Nat) (τ : Sg), m + j = N + 1 → m < n → ¬ τ.2 0 (4 + 8 * i + 3) = 0 → τ.1 3 = iI r → ivR r U N k j τ →
    ∃ τ', f_X5_look_b76 n τ (nI i) (nI N) (nI U) (iI (pu U N)) (nI j) = some τ' ∧ ivR r U N k (N + 1) τ' ∧ lks τ τ' := by
  intro m
  induction m with
  | zero =>
    intro n j τ hm hn hb h3 iv
    obtain ⟨n, rfl⟩ : ∃ z, n = z + 1 := ⟨n - 1, by omega⟩
    have : j = N + 1 := by omega
    subst this
    exact ⟨τ, b76_end (by omega) (by omega), iv, lks_rf⟩
  | succ m ih =>
    intro n j τ hm hn hb h3 iv
    obtain ⟨n, rfl⟩ : ∃ z, n = z + 1 := ⟨n - 1, by omega⟩
    obtain ⟨τ1, e1, iv1, l1⟩ := stepR (n := n) hi hb h3 hr hr2 hU hU0 hN (by omega) hk k1 k2 iv
    obtain ⟨τ2, e2, iv2, l2⟩ := ih n (j + 1) τ1 (by omega) (by omega) (by rw [l1.1]; exact hb) (by rw [l1.2 3 (by omega)]; exact h3) iv1
    exact ⟨τ2, e1.trans e2, iv2, lks_tr l1 l2⟩
/-- the fraction as a number of lines -/
theorem kst_nat (hr : 0 ≤ r) (hr2 : r < pu U N) (hU0 : 0 < U) : ∃ k : Nat, k ≤ N ∧ kst r U = (k : Int) ∧ -(U : Int) < 2 * (r - pu U k) ∧ 2 * (r - pu U k) ≤ U := by
  have hu : (0 : Int) < U := by omega
  obtain ⟨s1_, s2_⟩ := kst_spec (r := r) hu
  have h0 : 0 ≤ kst r U := by
    have : 0 ≤ r / (U : Int) := Int.ediv_nonneg hr (by omega)
    unfold kst; split <;> omega
  obtain ⟨k, hk⟩ : ∃ k : Nat, kst r U = (k : Int) := ⟨(kst r U).toNat, by omega⟩
  rw [hk] at s1_ s2_
  refine ⟨k, ?_, hk, s1_, s2_⟩
  rcases Nat.lt_or_ge N k with h | h
  · exfalso
    have h1 : pu U (N + 1) ≤ pu U k := pu_le h
    rw [pu_add, pu_1] at h1
    have h2 : pu U k = (k : Int) * U := rfl
    omega
  · exact h
/-- what look leaves: the main division, the rest, the best line -/
def seen (σ τ : Sg) (m r : Int) (U N k : Nat) (back : Int32) : Prop :=
  τ.2 = σ.2 ∧ (∀ z, (z < 2 ∨ 7 < z) → τ.1 z = σ.1 z) ∧ τ.1 2 = iI m ∧ τ.1 3 = iI r ∧ τ.1 6 = nI k ∧ τ.1 4 = (if back = 0 then nI k else nI (N - k)) ∧ τ.1 5 = iI (ab (r - pu U k)) ∧ τ.1 7 = nI (if 2 * (r - pu U k) = U then 2 else 1)
theorem look_in {p : Int} (hi : i < 10) (hp : md p) (hN : σ.2 0 (4 + 8 * i) = nI N) (hU : σ.2 0 (4 + 8 * i + 1) = nI U) (hN2 : 2 ≤ N ∧ N ≤ 50) (hU2 : 1 ≤ U ∧ U ≤ 50) :
    ∃ (k : Nat) (τ : Sg), k ≤ N ∧ kst (p % pu U N) U = (k : Int) ∧ f_X5_look σ (nI i) (iI p) = some τ ∧ seen σ τ (p / pu U N) (p % pu U N) U N k (σ.2 0 (4 + 8 * i + 3)) := by
  have w1 : 0 < pu U N := by
    have := pu_le (U := U) (show 1 ≤ N by omega)
    rw [pu_1] at this; omega
  have w2 := pu_bd hU2.2 hN2.2
  have wmd : md (pu U N) := ⟨by omega, by omega⟩
  obtain ⟨e1, e2, e3⟩ := div_parts (p := p) w1
  obtain ⟨k, hk, hks, k1, k2⟩ := kst_nat (N := N) (U := U) e2 e3 (by omega)
  have hmd := div_md (w := pu U N) hp
  have hw : f_X5_wide σ (nI i) = some (iI (pu U N)) := by rw [wide_in hi, hN, hU, nI_pu]
  have hne : (iI (pu U N) != 0) = true := by
    rw [bne_iff_ne, show (0 : Int32) = iI 0 from rfl]
    intro q; rw [iI_eq wmd.sm ⟨by omega, by omega⟩] at q; omega
  have body : ∀ (τ : Sg), τ.2 = σ.2 → (∀ z, z ≠ 2 → τ.1 z = σ.1 z) → ∀ w0 : Int32, τ.1 2 - w0 = iI (p / pu U N) → ∃ ρ, f_X5_look_b51 τ (nI i) (iI p) (nI N) (nI U) (iI (pu U N)) w0 (τ.1 2) = some ρ ∧ seen σ ρ (p / pu U N) (p % pu U N) U N k (σ.2 0 (4 + 8 * i + 3)) := by
    intro τ t1 t2 w0 ht
    unfold f_X5_look_b51
    simp only [lts]
    rw [ht]
    have f1 : (s1 τ 2 (iI (p / pu U N))).1 2 = iI (p / pu U N) := s1_self
    rw [f1, iI_mul, iI_sub, show p - p / pu U N * pu U N = p % pu U N by omega]
    generalize hτ2 : s1 (s1 (s1 τ 2 (iI (p / pu U N))) 3 (iI (p % pu U N))) 7 0 = τ2
    have g1 : τ2.2 = σ.2 := by rw [← hτ2]; exact t1
    have g2 : τ2.1 2 = iI (p / pu U N) := by rw [← hτ2]; simp [s1, upd]
    have g3 : τ2.1 3 = iI (p % pu U N) := by rw [← hτ2]; simp [s1, upd]
    have g7 : τ2.1 7 = 0 := by rw [← hτ2]; simp [s1, upd]
    have gz : ∀ z, (z < 2 ∨ 7 < z) → τ2.1 z = σ.1 z := by
      intro z hz
      rw [← hτ2, s1_ne (by omega), s1_ne (by omega), s1_ne (by omega)]
      exact t2 z (by omega)
    by_cases hb : σ.2 0 (4 + 8 * i + 3) = 0
    · obtain ⟨ρ, q1, iv, q2⟩ := loopD (i := i) (N := N) (v5 := iI (pu U N)) hi e2 (by omega) hU2.2 (by omega) hN2.2 hk k1 k2 (N + 1) fuel 0 τ2 (by omega) (by unfold fuel; omega) (by rw [g1]; exact hb) g3 (Or.inl ⟨rfl, g7⟩)
      refine ⟨ρ, q1, q2.1.trans g1, fun z hz => (q2.2 z (by omega)).trans (gz z hz), (q2.2 2 (by omega)).trans g2, (q2.2 3 (by omega)).trans g3, ?_⟩
      rcases iv with ⟨h, _⟩ | ⟨_, b1, b2, b3, b4⟩
      · omega
      · have e : min (N + 1 - 1) k = k := by omega
        rw [e] at b1 b2 b3
        refine ⟨b1, by rw [if_pos hb]; exact b2, b3, ?_⟩
        rw [b4]
        congr 1
        by_cases ht : 2 * (p % pu U N - pu U k) = U
        · have hkN : k < N := by
            rcases Nat.lt_or_ge k N with h | h
            · exact h
            · have : k = N := by omega
              subst this; omega
          rw [if_pos ⟨by omega, ht⟩, if_pos ht]
        · rw [if_neg (fun q => ht q.2), if_neg ht]
    · obtain ⟨ρ, q1, iv, q2⟩ := loopR (i := i) (N := N) hi e2 e3 hU2.2 (by omega) hN2.2 hk k1 k2 (N + 1) fuel 0 τ2 (by omega) (by unfold fuel; omega) (by rw [g1]; exact hb) g3 (Or.inl ⟨rfl, g7⟩)
      refine ⟨ρ, q1, q2.1.trans g1, fun z hz => (q2.2 z (by omega)).trans (gz z hz), (q2.2 2 (by omega)).trans g2, (q2.2 3 (by omega)).trans g3, ?_⟩
      rcases iv with ⟨h, _⟩ | ⟨_, b1, b2, b3, b4⟩
      · omega
      · have e : max (N - (N + 1 - 1)) k = k := by omega
        rw [e] at b1 b2 b3
        refine ⟨b1, by rw [if_neg hb]; exact b2, b3, ?_⟩
        rw [b4]
        congr 1
        by_cases ht : 2 * (p % pu U N - pu U k) = U
        · rw [if_pos ⟨by omega, ht⟩, if_pos ht]
        · rw [if_neg (fun q => ht q.2), if_neg ht]
  have ht : sm (p.tdiv (pu U N) * pu U N) := by
    obtain ⟨q1, q2⟩ := hp
    rcases tdiv_cases (p := p) w1 with ⟨_, b⟩ | ⟨_, b, _⟩ | ⟨_, _, c⟩
    · rw [b]; constructor <;> omega
    · rw [b]; constructor <;> omega
    · rw [c, Int.add_mul, Int.one_mul]; constructor <;> omega
  have hf : ∀ {o : Option Sg}, f_X5_look σ (nI i) (iI p) = o ↔ (if (s1 σ 2 (iI (p.tdiv (pu U N)))).1 2 * iI (pu U N) ≤ iI p then f_X5_look_b51 (s1 σ 2 (iI (p.tdiv (pu U N)))) (nI i) (iI p) (nI N) (nI U) (iI (pu U N)) 0 ((s1 σ 2 (iI (p.tdiv (pu U N)))).1 2) else f_X5_look_b51 (s1 σ 2 (iI (p.tdiv (pu U N)))) (nI i) (iI p) (nI N) (nI U) (iI (pu U N)) 1 ((s1 σ 2 (iI (p.tdiv (pu U N)))).1 2)) = o := by
    intro o
    unfold f_X5_look
    rw [tool_0 hi, Option.bind_some, tool_1 hi, Option.bind_some, hw, Option.bind_some, hN, hU, gd_of hne, iI_div hp.sm wmd.sm w1]
    simp only [lts]
  have q0 : (s1 σ 2 (iI (p.tdiv (pu U N)))).1 2 = iI (p.tdiv (pu U N)) := s1_self
  have hle : (s1 σ 2 (iI (p.tdiv (pu U N)))).1 2 * iI (pu U N) ≤ iI p ↔ p.tdiv (pu U N) * pu U N ≤ p := by rw [q0, iI_mul, iI_le ht hp.sm]
  rcases tdiv_cases (p := p) w1 with ⟨a, b⟩ | ⟨a, b, c⟩ | ⟨a, b, c⟩
  · obtain ⟨ρ, r1, r2⟩ := body (s1 σ 2 (iI (p.tdiv (pu U N)))) rfl (fun z hz => s1_ne hz) 0 (by rw [q0, b, show (0 : Int32) = iI 0 from rfl, iI_sub, Int.sub_zero])
    exact ⟨k, ρ, hk, hks, hf.mpr ((if_pos (hle.mpr (by rw [b]; omega))).trans r1), r2⟩
  · obtain ⟨ρ, r1, r2⟩ := body (s1 σ 2 (iI (p.tdiv (pu U N)))) rfl (fun z hz => s1_ne hz) 0 (by rw [q0, c, show (0 : Int32) = iI 0 from rfl, iI_sub, Int.sub_zero])
    exact ⟨k, ρ, hk, hks, hf.mpr ((if_pos (hle.mpr (by rw [b]; omega))).trans r1), r2⟩
  · obtain ⟨ρ, r1, r2⟩ := body (s1 σ 2 (iI (p.tdiv (pu U N)))) rfl (fun z hz => s1_ne hz) 1 (by rw [q0, c, show (1 : Int32) = iI 1 from rfl, iI_sub, show p / pu U N + 1 - 1 = p / pu U N by omega])
    refine ⟨k, ρ, hk, hks, hf.mpr ((if_neg (fun q => ?_)).trans r1), r2⟩
    have := hle.mp q
    rw [c, Int.add_mul, Int.one_mul] at this
    omega
end LOOK2
