/-! THE COINCIDENCE: the quotient that is rounded down, the nearest fraction, and the reference's look at every line. -/
theorem xor_nonneg {p w : Int} (hp : sm p) (hw : sm w) (h : 0 < w) : 0 ≤ (iI p ^^^ iI w) ↔ 0 ≤ p := by
  have key : ∀ x : Int32, 0 ≤ x ↔ x.toBitVec.msb = false := by
    intro x
    rw [Int32.le_iff_toInt_le, BitVec.msb_eq_toInt]
    have : x.toInt = x.toBitVec.toInt := rfl
    rw [← this]
    have h0 : (0 : Int32).toInt = 0 := rfl
    rw [h0]
    simp
  rw [key]
  have hw1 : (iI w).toBitVec.msb = false := (key _).mp (by rw [show (0 : Int32) = iI 0 from rfl, iI_le ⟨by omega, by omega⟩ hw]; omega)
  have e : (iI p ^^^ iI w).toBitVec = (iI p).toBitVec ^^^ (iI w).toBitVec := rfl
  rw [e, BitVec.msb_xor, hw1, Bool.xor_false, ← key, show (0 : Int32) = iI 0 from rfl, iI_le ⟨by omega, by omega⟩ hp]
theorem tdiv_floor {p w : Int} (h : 0 < w) : p.tdiv w = p / w + (if 0 ≤ p ∨ p.tdiv w * w = p then 0 else 1) := by
  have h1 := @Int.tdiv_eq_ediv p w
  have hs : w.sign = 1 := Int.sign_eq_one_of_pos h
  rw [hs] at h1
  by_cases hp : 0 ≤ p
  · rw [if_pos (Or.inl hp)] at h1 ⊢; exact h1
  · by_cases hd : w ∣ p
    · rw [if_pos (Or.inr hd)] at h1
      have e : p.tdiv w * w = p := by rw [h1, Int.add_zero]; exact Int.ediv_mul_cancel hd
      rw [if_pos (Or.inr e)]; exact h1
    · rw [if_neg (fun q => q.elim hp hd)] at h1
      have e : ¬ p.tdiv w * w = p := fun q => hd ⟨p.tdiv w, by rw [Int.mul_comm]; exact q.symm⟩
      rw [if_neg (fun q => q.elim hp e)]; exact h1
def md (z : Int) : Prop := -100000000 ≤ z ∧ z ≤ 100000000
theorem md.sm {z : Int} (h : md z) : sm z := ⟨by have := h.1; omega, by have := h.2; omega⟩
theorem div_md {p w : Int} (h2 : md p) : md (p / w) := by
  have h1 := Int.natAbs_ediv_le_natAbs p w
  obtain ⟨a, b⟩ := h2
  constructor <;> omega
theorem tdiv_md {p w : Int} (h2 : md p) : md (p.tdiv w) := by
  have h1 := Int.natAbs_tdiv_le_natAbs p w
  obtain ⟨a, b⟩ := h2
  constructor <;> omega
/-- the parts of a quotient that is rounded down -/
theorem div_parts {p w : Int} (h : 0 < w) : p = p / w * w + p % w ∧ 0 ≤ p % w ∧ p % w < w := by
  refine ⟨?_, Int.emod_nonneg p (by omega), Int.emod_lt_of_pos p h⟩
  have := Int.emod_add_mul_ediv p w
  rw [Int.mul_comm (p / w) w]; omega
theorem tdiv_cases {p w : Int} (h : 0 < w) : (0 ≤ p ∧ p.tdiv w = p / w) ∨ (p < 0 ∧ p.tdiv w * w = p ∧ p.tdiv w = p / w) ∨ (p < 0 ∧ ¬ p.tdiv w * w = p ∧ p.tdiv w = p / w + 1) := by
  have h1 := tdiv_floor (p := p) h
  by_cases hp : 0 ≤ p
  · left; rw [if_pos (Or.inl hp)] at h1; exact ⟨hp, by omega⟩
  · right
    by_cases e : p.tdiv w * w = p
    · left; rw [if_pos (Or.inr e)] at h1; exact ⟨by omega, e, by omega⟩
    · right; rw [if_neg (fun q => q.elim hp e)] at h1; exact ⟨by omega, e, h1⟩
theorem quot_in {σ : Sg} {p w : Int} (hp : md p) (hw : md w) (h : 0 < w) : f_X4_quotient σ (iI p) (iI w) = some (iI (p / w)) := by
  unfold f_X4_quotient f_J9_floorDiv_7cf53
  have hw0 : ¬ iI w ≤ 0 := by rw [show (0 : Int32) = iI 0 from rfl, iI_le hw.sm ⟨by omega, by omega⟩]; omega
  have hne : (iI w != 0) = true := by
    rw [bne_iff_ne]; intro e; rw [e] at hw0; exact hw0 (Int32.le_refl _)
  rw [if_neg hw0, gd_of hne]
  simp only [lt]
  rw [iI_div hp.sm hw.sm h]
  obtain ⟨e1, e2, e3⟩ := div_parts (p := p) h
  rcases tdiv_cases (p := p) h with ⟨a, b⟩ | ⟨a, b, c⟩ | ⟨a, b, c⟩
  · rw [if_pos ((xor_nonneg hp.sm hw.sm h).mpr a), b]; rfl
  · rw [if_neg (by rw [xor_nonneg hp.sm hw.sm h]; omega), iI_mul, if_pos (by rw [b]), c]; rfl
  · have hb : sm (p.tdiv w * w) := by
      rw [c, Int.add_mul, Int.one_mul]
      obtain ⟨q1, q2⟩ := hp; obtain ⟨q3, q4⟩ := hw
      constructor <;> omega
    rw [if_neg (by rw [xor_nonneg hp.sm hw.sm h]; omega), iI_mul, if_neg (by rw [iI_eq hb hp.sm]; exact b), c, show (1 : Int32) = iI 1 from rfl, iI_sub, show p / w + 1 - 1 = p / w by omega]; rfl
/-- the nearest fraction, the lower one of two -/
def kst (r u : Int) : Int := if 2 * (r - r / u * u) ≤ u then r / u else r / u + 1
theorem near_in {σ : Sg} {r u : Int} (hr : md r) (hu : 0 < u) (hu2 : u ≤ 1000) : f_X4_nearestFraction σ (iI r) (iI u) = some (iI (kst r u)) := by
  have hum : md u := ⟨by omega, by omega⟩
  obtain ⟨e1, e2, e3⟩ := div_parts (p := r) hu
  unfold f_X4_nearestFraction
  rw [quot_in hr hum hu, Option.bind_some, show (2 : Int32) = iI 2 from rfl, iI_mul, iI_sub, iI_mul, show (1 : Int32) = iI 1 from rfl, iI_add]
  have e := iI_le (a := 2 * (r - r / u * u)) (b := u) ⟨by omega, by omega⟩ hum.sm
  unfold kst
  by_cases h : 2 * (r - r / u * u) ≤ u
  · rw [if_pos (e.mpr h), if_pos h]
  · rw [if_neg (fun q => h (e.mp q)), if_neg h]
theorem kst_spec {r u : Int} (hu : 0 < u) : -u < 2 * (r - kst r u * u) ∧ 2 * (r - kst r u * u) ≤ u := by
  obtain ⟨e1, e2, e3⟩ := div_parts (p := r) hu
  unfold kst
  split
  · constructor <;> omega
  · rw [Int.add_mul, Int.one_mul]; constructor <;> omega
/-- the magnitude -/
def ab (z : Int) : Int := if 0 ≤ z then z else -z
theorem abs_if {α : Type} {z : Int} (hz : sm z) (f : Int32 → α) : (if 0 ≤ iI z then f (iI z) else f (- iI z)) = f (iI (ab z)) := by
  unfold ab
  have h0 : (0 ≤ iI z) ↔ 0 ≤ z := by rw [show (0 : Int32) = iI 0 from rfl, iI_le ⟨by omega, by omega⟩ hz]
  by_cases h : 0 ≤ z
  · rw [if_pos (h0.mpr h), if_pos h]
  · rw [if_neg (by rw [h0]; exact h), if_neg h, iI_neg]
section STEP
variable {K : Sg → Int32 → Int32 → Int32 → Int32 → Int32 → Option Sg} {σ : Sg} {v1 v3 v4 v5 v6 v7 w : Int32}
theorem lk_new (h : σ.1 7 = 0 ∨ ¬ σ.1 5 ≤ v7) : f_X5_look_b146 K σ v1 v3 v4 v5 v6 v7 w = K (s1 (s1 (s1 (s1 σ 7 1) 5 v7) 4 v6) 6 w) v1 v3 v4 v5 (v6 + 1) := by
  unfold f_X5_look_b146
  by_cases h0 : σ.1 7 = 0
  · rw [if_pos h0]; rfl
  · rw [if_neg h0]
    rcases h with h | h
    · exact absurd h h0
    · rw [if_neg h]; rfl
theorem lk_tie_keep (h0 : ¬ σ.1 7 = 0) (h1 : v7 = σ.1 5) (h2 : σ.1 6 ≤ w) : f_X5_look_b146 K σ v1 v3 v4 v5 v6 v7 w = K (s1 (s1 (s1 σ 7 (σ.1 7 + 1)) 4 (σ.1 4)) 6 (σ.1 6)) v1 v3 v4 v5 (v6 + 1) := by
  unfold f_X5_look_b146 f_X5_look_b228 f_X5_look_b250 f_X5_look_b253
  rw [if_neg h0, if_pos (by rw [h1]; exact Int32.le_refl _), if_pos h1]
  simp only [lts, lt]
  have e1 : (s1 σ 7 (σ.1 7 + 1)).1 6 = σ.1 6 := s1_ne (by omega)
  have e2 : (s1 σ 7 (σ.1 7 + 1)).1 4 = σ.1 4 := s1_ne (by omega)
  rw [e1, e2, if_pos h2]
  have e3 : (s1 (s1 σ 7 (σ.1 7 + 1)) 4 (σ.1 4)).1 6 = σ.1 6 := (s1_ne (by omega)).trans e1
  rw [e3, if_pos h2]
theorem lk_tie_new (h0 : ¬ σ.1 7 = 0) (h1 : v7 = σ.1 5) (h2 : ¬ σ.1 6 ≤ w) : f_X5_look_b146 K σ v1 v3 v4 v5 v6 v7 w = K (s1 (s1 (s1 σ 7 (σ.1 7 + 1)) 4 v6) 6 w) v1 v3 v4 v5 (v6 + 1) := by
  unfold f_X5_look_b146 f_X5_look_b228 f_X5_look_b250 f_X5_look_b253
  rw [if_neg h0, if_pos (by rw [h1]; exact Int32.le_refl _), if_pos h1]
  simp only [lts, lt]
  have e1 : (s1 σ 7 (σ.1 7 + 1)).1 6 = σ.1 6 := s1_ne (by omega)
  rw [e1, if_neg h2]
  have e3 : (s1 (s1 σ 7 (σ.1 7 + 1)) 4 v6).1 6 = σ.1 6 := (s1_ne (by omega)).trans e1
  rw [e3, if_neg h2]
theorem lk_far (h0 : ¬ σ.1 7 = 0) (h1 : σ.1 5 ≤ v7) (h2 : ¬ v7 = σ.1 5) : f_X5_look_b146 K σ v1 v3 v4 v5 v6 v7 w = K σ v1 v3 v4 v5 (v6 + 1) := by
  unfold f_X5_look_b146 f_X5_look_b253
  rw [if_neg h0, if_pos h1, if_neg h2]; rfl
end STEP
