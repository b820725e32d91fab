/-! THE ANSWER, whole; the mark. -/
/-- an instrument's numbers, as a row of the reference tells them -/
def insOK (f : Nat → Int32) (i N U Ln : Nat) (z : Int) (g tr : Nat) : Prop :=
  f (4 + 8 * i) = nI N ∧ f (4 + 8 * i + 1) = nI U ∧ f (4 + 8 * i + 2) = nI Ln ∧ f (4 + 8 * i + 4) = iI z ∧ f (4 + 8 * i + 5) = nI g ∧ f (4 + 8 * i + 6) = nI tr ∧
  (2 ≤ N ∧ N ≤ 50) ∧ (1 ≤ U ∧ U ≤ 50) ∧ (2 ≤ Ln ∧ Ln ≤ 200) ∧ (-(pu U N) ≤ z ∧ z ≤ pu U N) ∧ g ≤ 20 ∧ tr < 4
/-- scratch numbers may change, no row does -/
def scr (σ τ : Sg) : Prop := τ.2 = σ.2 ∧ ∀ k, (k < 2 ∨ 7 < k) → τ.1 k = σ.1 k
theorem scr_rf {σ : Sg} : scr σ σ := ⟨rfl, fun _ _ => rfl⟩
theorem scr_tr {σ τ ρ : Sg} (h : scr σ τ) (h2 : scr τ ρ) : scr σ ρ := ⟨h2.1.trans h.1, fun k hk => (h2.2 k hk).trans (h.2 k hk)⟩
/-- the class's cells of an instrument are the reference's -/
def cellsI (σ : Sg) (f : Nat → Int32) (i : Nat) : Prop := ∀ k, k < 8 → f_X3_cell σ 0 (nI i) (nI k) = some (f (4 + 8 * i + k))
def plc (x e z : Int) (g : Nat) : Int := x + z + (e * g).tdiv 10
theorem plc_bd {x e z : Int} {g U N : Nat} (hx : 0 ≤ x ∧ x ≤ 500000) (he : -50 ≤ e ∧ e ≤ 50) (hg : g ≤ 20) (hz : -(pu U N) ≤ z ∧ z ≤ pu U N) (hw : pu U N ≤ 2500) : -3600 ≤ plc x e z g ∧ plc x e z g ≤ 503600 ∧ md (e * g) := by
  have h1 : (e * (g : Int)).natAbs ≤ 50 * 20 := by
    rw [Int.natAbs_mul]
    exact Nat.mul_le_mul (by omega) (by omega)
  have h2 := Int.natAbs_tdiv_le_natAbs (e * (g : Int)) 10
  unfold plc md
  omega
theorem trapM_bd {t : Nat} {m W : Int} (hW : 0 < W) (h : -600000 ≤ m * W ∧ m * W ≤ 600000) (hW2 : W ≤ 2500) : -602500 ≤ trapM t m * W ∧ trapM t m * W ≤ 1300000 := by
  unfold trapM
  split
  · split
    · have h5 : 0 ≤ m / 5 := Int.ediv_nonneg (by omega) (by omega)
      have h6 : m / 5 ≤ m := by omega
      have h7 : m / 5 * W ≤ m * W := Int.mul_le_mul_of_nonneg_right h6 (by omega)
      have h8 : 0 ≤ m / 5 * W := Int.mul_nonneg h5 (by omega)
      rw [Int.add_mul]
      omega
    · omega
  · split
    · rw [Int.add_mul]; omega
    · omega
theorem prod_bd {k : Int} {U N : Nat} (hU : U ≤ 50) (hk : -60 ≤ k ∧ k ≤ 60) : -3000 ≤ k * U ∧ k * U ≤ 3000 := by
  have h1 : k * (U : Int) ≤ 60 * U := Int.mul_le_mul_of_nonneg_right hk.2 (by omega)
  have h2 : -60 * (U : Int) ≤ k * U := Int.mul_le_mul_of_nonneg_right hk.1 (by omega)
  omega
theorem ans_eq {σ τ : Sg} {i N U Ln g tr h kn : Nat} {x e z : Int} (hi : i < 10) (hI : insOK (τ.2 0) i N U Ln z g tr) (hc : cellsI σ (τ.2 0) i) (hx : 0 ≤ x ∧ x ≤ 500000) (he : -50 ≤ e ∧ e ≤ 50) (hh : h < 16) (hk : kn < 8) :
    ∃ (v : Int) (ρ : Sg), -1000000 ≤ v ∧ v ≤ 2000000 ∧ f_X2_answerOf σ (nI i) (iI x) (iI e) (nI h) (nI kn) = some (iI v) ∧ f_X5_answerBy τ (nI i) (iI x) (iI e) (nI h) (nI kn) = some (iI v, ρ) ∧ scr τ ρ := by
  obtain ⟨i0_, i1_, i2_, i4_, i5_, i6_, hN, hU, hL, hz, hg, htr⟩ := hI
  have w2 := pu_bd hU.2 hN.2
  have w1 : (U : Int) ≤ pu U N := by
    have := pu_le (U := U) (show 1 ≤ N by omega)
    rw [pu_1] at this; exact this
  obtain ⟨p1, p2, p3⟩ := plc_bd hx he hg hz w2
  have pmd : md (plc x e z g) := ⟨by omega, by omega⟩
  have hplace : (iI x + iI z) + (iI e * nI g) / 10 = iI (plc x e z g) := by
    rw [nI_iI, iI_mul, show (10 : Int32) = iI 10 from rfl, iI_div p3.sm ⟨by omega, by omega⟩ (by omega), iI_add, iI_add]; rfl
  obtain ⟨k, τ1, hkN, hks, hlook, t2, tz, tm, tr_, tk, -, -, -⟩ := look_in (σ := τ) (p := plc x e z g) hi pmd i0_ i1_ hN hU
  obtain ⟨e1, e2, e3⟩ := div_parts (p := plc x e z g) (w := pu U N) (by omega)
  have hm0 := div_md (w := pu U N) pmd
  obtain ⟨k', hk'N, hks', hk1, hk2⟩ := kst_nat (N := N) (U := U) e2 e3 (by omega)
  have hkk : k' = k := by omega
  subst hkk
  have hku := pu_bd hU.2 (show k' ≤ 50 by omega)
  have hku0 := pu_nn U k'
  have q1 : iI k' * iI U ≤ iI (plc x e z g % pu U N) ↔ pu U k' ≤ plc x e z g % pu U N := by rw [iI_mul]; exact iI_le ⟨by show -2147483648 ≤ pu U k'; omega, by show pu U k' < _; omega⟩ ⟨by omega, by omega⟩
  -- the fraction behind the first habit
  have hf1 : ∃ k1 : Int, k1 = frac1 (bitN h 0) U (plc x e z g % pu U N) k' ∧ 0 ≤ k1 ∧ k1 ≤ 50 := by
    refine ⟨_, rfl, ?_, ?_⟩
    · unfold frac1; split
      · rename_i hc2
        rcases Nat.eq_zero_or_pos k' with h0 | h0
        · subst h0
          have := hc2.2
          simp at this; omega
        · omega
      · omega
    · unfold frac1; split <;> omega
  obtain ⟨k1, hk1e, hk10, hk15⟩ := hf1
  have hmb : -90000000 ≤ plc x e z g / pu U N ∧ plc x e z g / pu U N ≤ 90000000 := by
    have := Int.natAbs_ediv_le_natAbs (plc x e z g) (pu U N)
    omega
  refine ⟨endZ (bitN h 3) (pu U N) U z (trapM (eff kn tr) (mainZ (bitN h 2) N (plc x e z g / pu U N) (frac2 (bitN h 1) k1))) (trapK (eff kn tr) N (frac2 (bitN h 1) k1)), τ1, ?_, ?_, ?_, ?_, ?_⟩
  · have b1 : -600000 ≤ mainZ (bitN h 2) N (plc x e z g / pu U N) (frac2 (bitN h 1) k1) * pu U N ∧ mainZ (bitN h 2) N (plc x e z g / pu U N) (frac2 (bitN h 1) k1) * pu U N ≤ 600000 := by
      unfold mainZ; split
      · rw [Int.add_mul]; omega
      · omega
    have b2 := trapM_bd (t := eff kn tr) (by omega) b1 w2
    have b3 : -2 ≤ frac2 (bitN h 1) k1 ∧ frac2 (bitN h 1) k1 ≤ 50 := by unfold frac2; split <;> omega
    have b4 := prod_bd (k := trapK (eff kn tr) N (frac2 (bitN h 1) k1)) (N := N) hU.2 (by unfold trapK; split <;> omega)
    unfold endZ; split <;> omega
  · have b1 : -600000 ≤ mainZ (bitN h 2) N (plc x e z g / pu U N) (frac2 (bitN h 1) k1) * pu U N ∧ mainZ (bitN h 2) N (plc x e z g / pu U N) (frac2 (bitN h 1) k1) * pu U N ≤ 600000 := by
      unfold mainZ; split
      · rw [Int.add_mul]; omega
      · omega
    have b2 := trapM_bd (t := eff kn tr) (by omega) b1 w2
    have b3 : -2 ≤ frac2 (bitN h 1) k1 ∧ frac2 (bitN h 1) k1 ≤ 50 := by unfold frac2; split <;> omega
    have b4 := prod_bd (k := trapK (eff kn tr) N (frac2 (bitN h 1) k1)) (N := N) hU.2 (by unfold trapK; split <;> omega)
    unfold endZ; split <;> omega
  · unfold f_X2_answerOf f_X2_mainDivision
    have c0 := hc 0 (by omega)
    have c1 := hc 1 (by omega)
    have c4 := hc 4 (by omega)
    have c5 := hc 5 (by omega)
    have c6 := hc 6 (by omega)
    rw [show nI 0 = (0 : Int32) from rfl, Nat.add_zero, i0_] at c0
    rw [show nI 1 = (1 : Int32) from rfl, i1_] at c1
    rw [show nI 4 = (4 : Int32) from rfl, i4_] at c4
    rw [show nI 5 = (5 : Int32) from rfl, i5_] at c5
    rw [show nI 6 = (6 : Int32) from rfl, i6_] at c6
    simp only [c0, c1, c4, c5, c6, Option.bind_some, lt]
    rw [gd_of (by decide), hplace, nI_pu, quot_in pmd ⟨by omega, by omega⟩ (by omega), Option.bind_some, iI_mul, iI_sub, show plc x e z g - plc x e z g / pu U N * pu U N = plc x e z g % pu U N by omega, nI_iI U, near_in ⟨by omega, by omega⟩ (by omega) (by omega), Option.bind_some, hks, has_in (hab_bits h hh).1.1, Option.bind_some]
    cases hb : bitN h 0
    · rw [if_pos (by decide)]
      refine x_even hh hk htr hN.2 hmb ⟨hk10, by omega⟩ rfl rfl rfl rfl ?_
      rw [hk1e, hb]; unfold frac1; rw [if_neg (fun q => by cases q.1)]
    · rw [if_neg (by decide)]
      by_cases hle : pu U k' ≤ plc x e z g % pu U N
      · rw [if_pos (q1.mpr hle)]
        refine x_even hh hk htr hN.2 hmb ⟨hk10, by omega⟩ rfl rfl rfl rfl ?_
        rw [hk1e, hb]; unfold frac1; rw [if_neg (fun q => by have h9 : _ < (k' : Int) * U := q.2; have h8 : pu U k' = (k' : Int) * U := rfl; omega)]
      · rw [if_neg (fun q => hle (q1.mp q))]
        refine x_even hh hk htr hN.2 hmb ⟨hk10, by omega⟩ rfl rfl rfl rfl ?_
        rw [hk1e, hb]; unfold frac1; rw [if_pos ⟨rfl, by have h8 : pu U k' = (k' : Int) * U := rfl; omega⟩, show (-1 : Int32) = iI (-1) from rfl, iI_add]; congr 1
  · have hw : f_X5_wide τ1 (nI i) = some (iI (pu U N)) := by rw [wide_in hi, t2, i0_, i1_, nI_pu]
    have hz1 : τ1.2 0 (4 + 8 * i + 4) = iI z := by rw [t2]; exact i4_
    have ht1 : τ1.2 0 (4 + 8 * i + 6) = nI tr := by rw [t2]; exact i6_
    unfold f_X5_answerBy f_X5_answerBy_b79
    rw [tool_0 hi, Option.bind_some, tool_1 hi, Option.bind_some, tool_4 hi, Option.bind_some, tool_5 hi, Option.bind_some, i0_, i1_, i4_, i5_, gd_of (by decide), hplace, hlook, Option.bind_some]
    simp only [lt]
    rw [tm, tk, tr_]
    have hbb := (hab_bits h hh).1.2
    cases hb : bitN h 0
    · rw [if_neg (fun q => by rw [hbb.mp q] at hb; cases hb)]
      refine m_even hh hi hk htr hN.2 hmb ⟨hk10, by omega⟩ hw hz1 ht1 rfl rfl ?_
      rw [hk1e, hb]; unfold frac1; rw [if_neg (fun q => by cases q.1), show (0 : Int32) = iI 0 from rfl, nI_iI, iI_sub, Int.sub_zero]
    · rw [if_pos (hbb.mpr hb)]
      by_cases hle : pu U k' ≤ plc x e z g % pu U N
      · rw [if_pos (show nI k' * nI U ≤ _ from q1.mpr hle)]
        refine m_even hh hi hk htr hN.2 hmb ⟨hk10, by omega⟩ hw hz1 ht1 rfl rfl ?_
        rw [hk1e, hb]; unfold frac1; rw [if_neg (fun q => by have h9 : _ < (k' : Int) * U := q.2; have h8 : pu U k' = (k' : Int) * U := rfl; omega), show (0 : Int32) = iI 0 from rfl, nI_iI, iI_sub, Int.sub_zero]
      · rw [if_neg (show ¬ nI k' * nI U ≤ _ from fun q => hle (q1.mp q))]
        refine m_even hh hi hk htr hN.2 hmb ⟨hk10, by omega⟩ hw hz1 ht1 rfl rfl ?_
        rw [hk1e, hb]; unfold frac1; rw [if_pos ⟨rfl, by have h8 : pu U k' = (k' : Int) * U := rfl; omega⟩, show (1 : Int32) = iI 1 from rfl, nI_iI, iI_sub]
  · exact ⟨t2, fun k hk => tz k hk⟩
/-- the mark is one number, 0 to 10 -/
theorem mark_eq {σ τ : Sg} {i U : Nat} {x v : Int} (hi : i < 10) (hU : τ.2 0 (4 + 8 * i + 1) = nI U) (hU2 : 1 ≤ U ∧ U ≤ 50) (hc : cellsI σ (τ.2 0) i) (hx : 0 ≤ x ∧ x ≤ 500000) (hv : -1000000 ≤ v ∧ v ≤ 2000000) :
    ∃ k : Nat, k ≤ 10 ∧ f_X2_markOf σ (nI i) (iI x) (iI v) = some (nI k) ∧ f_X5_markOf τ (nI i) (iI x) (iI v) = some (nI k) := by
  have hq : 0 ≤ ab (v - x) / (U : Int) := Int.ediv_nonneg (ab_nn _) (by omega)
  have hab : ab (v - x) ≤ 3000000 := ab_le (by omega) (by omega)
  have hqd := Int.natAbs_ediv_le_natAbs (ab (v - x)) (U : Int)
  have hab0 := ab_nn (v - x)
  have hq2 : ab (v - x) / (U : Int) ≤ 3000000 := by omega
  have hr : ∃ k : Nat, k ≤ 10 ∧ (k : Int) = if 0 < 10 - ab (v - x) / (U : Int) then 10 - ab (v - x) / (U : Int) else 0 := by
    refine ⟨(if 0 < 10 - ab (v - x) / (U : Int) then 10 - ab (v - x) / (U : Int) else 0).toNat, ?_, ?_⟩ <;> split <;> omega
  obtain ⟨k, hk, hke⟩ := hr
  refine ⟨k, hk, ?_, ?_⟩
  · unfold f_X2_markOf
    have c1 := hc 1 (by omega)
    rw [show nI 1 = (1 : Int32) from rfl, hU] at c1
    rw [c1, Option.bind_some]
    simp only [lt]
    have e1 : (if 0 ≤ iI v - iI x then iI v - iI x else 0 - (iI v - iI x)) = iI (ab (v - x)) := by
      rw [iI_sub]
      have h0 : (0 ≤ iI (v - x)) ↔ 0 ≤ v - x := by rw [show (0 : Int32) = iI 0 from rfl, iI_le ⟨by omega, by omega⟩ ⟨by omega, by omega⟩]
      unfold ab
      by_cases h : 0 ≤ v - x
      · rw [if_pos (h0.mpr h), if_pos h]
      · rw [if_neg (fun q => h (h0.mp q)), if_neg h, show (0 : Int32) = iI 0 from rfl, iI_sub]; congr 1; omega
    rw [e1, nI_iI U, quot_in ⟨by omega, by omega⟩ ⟨by omega, by omega⟩ (by omega), Option.bind_some, show (10 : Int32) = iI 10 from rfl, iI_sub]
    have h0 : (0 : Int32) < iI (10 - ab (v - x) / (U : Int)) ↔ 0 < 10 - ab (v - x) / (U : Int) := by rw [show (0 : Int32) = iI 0 from rfl, iI_lt ⟨by omega, by omega⟩ ⟨by omega, by omega⟩]
    by_cases h : 0 < 10 - ab (v - x) / (U : Int)
    · rw [if_pos (h0.mpr h), nI_iI, hke, if_pos h]
    · rw [if_neg (fun q => h (h0.mp q)), nI_iI, hke, if_neg h]; rfl
  · have hend : ∀ d : Int32, d = iI (ab (v - x)) → f_X5_markOf_b14 τ (nI i) d = some (nI k) := by
      intro d hd
      subst hd
      unfold f_X5_markOf_b14
      have hne : (nI U != 0) = true := by rw [bne_iff_ne]; exact nI_ne0 (by omega) (by omega)
      rw [tool_1 hi, Option.bind_some, hU, gd_of hne]
      simp only [lt]
      rw [nI_iI U, iI_div ⟨by omega, by omega⟩ ⟨by omega, by omega⟩ (by omega), Int.tdiv_eq_ediv_of_nonneg hab0, show (10 : Int32) = iI 10 from rfl, iI_sub]
      have h0 : (0 : Int32) ≤ iI (10 - ab (v - x) / (U : Int)) ↔ 0 ≤ 10 - ab (v - x) / (U : Int) := by rw [show (0 : Int32) = iI 0 from rfl, iI_le ⟨by omega, by omega⟩ ⟨by omega, by omega⟩]
      by_cases h : 0 < 10 - ab (v - x) / (U : Int)
      · rw [if_pos (h0.mpr (by omega)), nI_iI, hke, if_pos h]
      · by_cases h2 : 0 ≤ 10 - ab (v - x) / (U : Int)
        · rw [if_pos (h0.mpr h2), nI_iI, hke, if_neg h]; congr 2; omega
        · rw [if_neg (fun q => h2 (h0.mp q)), nI_iI, hke, if_neg h]; rfl
    unfold f_X5_markOf
    have h0 : iI x ≤ iI v ↔ x ≤ v := iI_le ⟨by omega, by omega⟩ ⟨by omega, by omega⟩
    by_cases h : x ≤ v
    · rw [if_pos (h0.mpr h)]
      exact hend _ (by rw [iI_sub]; unfold ab; rw [if_pos (by omega)])
    · rw [if_neg (fun q => h (h0.mp q))]
      exact hend _ (by rw [iI_sub]; unfold ab; rw [if_neg (by omega)]; congr 1; omega)
