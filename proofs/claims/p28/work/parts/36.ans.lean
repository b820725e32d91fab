/-! THE ANSWER: both systems' answers are one number. -/
def bitN (h k : Nat) : Bool := decide (h / 2 ^ k % 2 = 1)
def eff (kn tr : Nat) : Nat := if tr = 0 then 0 else if bitN kn (tr - 1) = true then 0 else tr
theorem hab_bits : ∀ h, h < 16 → ((nI h &&& 1 = 0 ↔ bitN h 0 = false) ∧ (nI h &&& 1 = 1 ↔ bitN h 0 = true)) ∧ ((nI h &&& 2 = 0 ↔ bitN h 1 = false) ∧ (nI h &&& 2 = 2 ↔ bitN h 1 = true)) ∧ ((nI h &&& 4 = 0 ↔ bitN h 2 = false) ∧ (nI h &&& 4 = 4 ↔ bitN h 2 = true)) ∧ ((nI h &&& 8 = 0 ↔ bitN h 3 = false) ∧ (nI h &&& 8 = 8 ↔ bitN h 3 = true)) := by decide +kernel
theorem know_bits : ∀ kn, kn < 8 → ∀ tr, tr < 4 → 0 < tr → (nI kn &&& ((1 : Int32) <<< ((nI tr - 1) &&& 31)) = 0 ↔ eff kn tr = tr) ∧ ((nI kn >>> ((nI tr - 1) &&& 31)) &&& 1 = 0 ↔ eff kn tr = tr) := by decide +kernel
theorem eff_cases (kn tr : Nat) : eff kn tr = 0 ∨ eff kn tr = tr := by unfold eff; split <;> (try split) <;> omega
def fracZ (b1 b2 : Bool) (U : Nat) (r : Int) (k : Int) : Int :=
  if b2 = true ∧ (if b1 = true ∧ r < k * U then k - 1 else k) % 2 = 1 then (if b1 = true ∧ r < k * U then k - 1 else k) - 1 else (if b1 = true ∧ r < k * U then k - 1 else k)
def frac1 (b1 : Bool) (U : Nat) (r : Int) (k : Int) : Int := if b1 = true ∧ r < k * U then k - 1 else k
def frac2 (b2 : Bool) (k : Int) : Int := if b2 = true ∧ k % 2 = 1 then k - 1 else k
def mainZ (b4 : Bool) (N : Nat) (m k : Int) : Int := if b4 = true ∧ (N : Int) / 2 < k then m + 1 else m
def trapM (t : Nat) (m : Int) : Int := if t = 2 then (if 0 < m then m + m / 5 else m) else if t = 3 then m + 1 else m
def trapK (t N : Nat) (k : Int) : Int := if t = 1 then N - k else k
def endZ (b8 : Bool) (W U : Int) (z m k : Int) : Int := if b8 = true then m * W + k * U else m * W + k * U - z
section ANS
variable {σ τ : Sg} {i h kn N U tr : Nat} {z m k W r : Int}
theorem has_in {s b : Nat} {x y : Int32} (hb : (x &&& y = 0) ↔ bitN s b = false) : f_X4_has σ x y = some (if bitN s b = true then 1 else 0) := by
  unfold f_X4_has
  cases hc : bitN s b
  · rw [if_pos (hb.mpr hc)]; rfl
  · rw [if_neg (fun q => by have := hb.mp q; rw [hc] at this; cases this)]; rfl
theorem x_end (hh : h < 16) {v7 v10 v8 m0 k0 : Int32} (e7 : v7 = iI U) (e10 : v10 = iI W) (e8 : v8 = iI z) (em : m0 = iI m) (ek : k0 = iI k) : f_X2_answerOf_b224 σ (nI h) v7 v8 v10 m0 k0 = some (iI (endZ (bitN h 3) W U z m k)) := by
  subst e7 e10 e8 em ek
  unfold f_X2_answerOf_b224
  simp only [lt]
  rw [has_in (hab_bits h hh).2.2.2.1, Option.bind_some, iI_mul, iI_mul, iI_add, iI_sub]
  unfold endZ
  cases hc : bitN h 3
  · rfl
  · rfl
theorem m_end (hh : h < 16) (hi : i < 10) {v7 m0 k0 : Int32} (hw : f_X5_wide τ (nI i) = some (iI W)) (hz : τ.2 0 (4 + 8 * i + 4) = iI z) (e7 : v7 = iI U) (em : m0 = iI m) (ek : k0 = iI k) : f_X5_answerBy_b218 τ (nI i) (nI h) v7 m0 k0 = some (iI (endZ (bitN h 3) W U z m k), τ) := by
  subst e7 em ek
  unfold f_X5_answerBy_b218
  rw [hw, Option.bind_some, iI_mul, iI_mul, iI_add]
  unfold endZ
  have hb := (hab_bits h hh).2.2.2.2
  cases hc : bitN h 3
  · rw [if_neg (fun q => by rw [hb.mp q] at hc; cases hc), tool_4 hi, Option.bind_some, hz, iI_sub]; rfl
  · rw [if_pos (hb.mpr hc), show (0 : Int32) = iI 0 from rfl, iI_sub, Int.sub_zero]; rfl
theorem trapBit_0 : f_X4_trapBit σ (nI 0) = some 0 := by unfold f_X4_trapBit; rw [if_pos (by decide)]
theorem trapBit_in (ht : tr < 4) (h0 : 0 < tr) : f_X4_trapBit σ (nI tr) = some ((1 : Int32) <<< ((nI tr - 1) &&& 31)) := by
  unfold f_X4_trapBit
  rw [if_neg (nI_ne0 h0 (by omega))]
theorem knows_in (hk : kn < 8) (ht : tr < 4) : ∃ y : Int32, f_X4_trapBit σ (nI tr) = some y ∧ (f_X4_has σ (nI kn) y = some (if eff kn tr = tr then 0 else 1)) := by
  rcases Nat.eq_zero_or_pos tr with rfl | h0
  · refine ⟨0, trapBit_0, ?_⟩
    unfold f_X4_has
    rw [if_pos (by rw [Int32.and_zero]), if_pos (by unfold eff; rw [if_pos rfl])]
  · refine ⟨_, trapBit_in ht h0, ?_⟩
    unfold f_X4_has
    by_cases hc : eff kn tr = tr
    · rw [if_pos ((know_bits kn hk tr ht h0).1.mpr hc), if_pos hc]
    · rw [if_neg (fun q => hc ((know_bits kn hk tr ht h0).1.mp q)), if_neg hc]
theorem five_div (hm : md m) (h0 : ¬ m ≤ 0) : iI m / 5 = iI (m / 5) := by
  rw [show (5 : Int32) = iI 5 from rfl, iI_div hm.sm ⟨by omega, by omega⟩ (by omega), Int.tdiv_eq_ediv_of_nonneg (by omega)]
theorem x_trap (hh : h < 16) (hk : kn < 8) (ht : tr < 4) (hm : md m) {v7 v10 v8 m0 k0 : Int32} (e7 : v7 = iI U) (e10 : v10 = iI W) (e8 : v8 = iI z) (em : m0 = iI m) (ek : k0 = iI k) :
    f_X2_answerOf_b163 σ (nI h) (nI kn) (nI N) v7 v8 (nI tr) v10 m0 k0 = some (iI (endZ (bitN h 3) W U z (trapM (eff kn tr) m) (trapK (eff kn tr) N k))) := by
  subst em ek
  unfold f_X2_answerOf_b163 f_X2_answerOf_b215
  obtain ⟨y, h1, h2⟩ := knows_in (σ := σ) hk ht
  rw [h1, Option.bind_some, h2, Option.bind_some]
  simp only [lt]
  by_cases hc : eff kn tr = tr
  · rw [if_pos hc, if_pos rfl, hc]
    match tr, ht with
    | 0, _ =>
      rw [if_neg (by decide), if_neg (by decide), if_neg (by decide)]
      exact x_end hh e7 e10 e8 rfl rfl
    | 1, _ =>
      rw [if_pos (by decide)]
      exact x_end hh e7 e10 e8 rfl (by rw [nI_iI, iI_sub]; rfl)
    | 2, _ =>
      rw [if_neg (by decide), if_pos (by decide)]
      have h0 : iI m ≤ 0 ↔ m ≤ 0 := by rw [show (0 : Int32) = iI 0 from rfl, iI_le hm.sm ⟨by omega, by omega⟩]
      by_cases hm0 : m ≤ 0
      · rw [if_pos (h0.mpr hm0), if_neg (by decide)]
        refine x_end hh e7 e10 e8 ?_ rfl
        unfold trapM
        rw [if_pos rfl, if_neg (by omega)]
      · rw [if_neg (fun q => hm0 (h0.mp q)), gd_of (by decide), five_div hm hm0, iI_add]
        refine x_end hh e7 e10 e8 ?_ rfl
        unfold trapM
        rw [if_pos rfl, if_pos (by omega)]
    | 3, _ =>
      rw [if_neg (by decide), if_neg (by decide), if_pos (by decide), show (1 : Int32) = iI 1 from rfl, iI_add]
      exact x_end hh e7 e10 e8 rfl rfl
  · rw [if_neg hc, if_neg (by decide)]
    have h0 : eff kn tr = 0 := (eff_cases kn tr).resolve_right hc
    rw [h0]
    exact x_end hh e7 e10 e8 rfl rfl
theorem m_trap (hh : h < 16) (hi : i < 10) (hk : kn < 8) (ht : tr < 4) (hm : md m) (hw : f_X5_wide τ (nI i) = some (iI W)) (hz : τ.2 0 (4 + 8 * i + 4) = iI z) (htr : τ.2 0 (4 + 8 * i + 6) = nI tr) {v7 w0 w1 k0 : Int32} (e7 : v7 = iI U) (em : w1 + w0 = iI m) (ek : k0 = iI k) :
    f_X5_answerBy_b133 τ (nI i) (nI h) (nI kn) (nI N) v7 k0 w0 w1 = some (iI (endZ (bitN h 3) W U z (trapM (eff kn tr) m) (trapK (eff kn tr) N k)), τ) := by
  subst ek
  unfold f_X5_answerBy_b133 f_X5_answerBy_b178 f_X5_answerBy_b215
  simp only [lt]
  rw [em, tool_6 hi, Option.bind_some, htr]
  rcases Nat.eq_zero_or_pos tr with rfl | h0
  · rw [if_pos (by decide)]
    have e : eff kn 0 = 0 := by unfold eff; rw [if_pos rfl]
    rw [e]
    exact m_end hh hi hw hz e7 rfl rfl
  · rw [if_neg (nI_nle h0 (by omega))]
    by_cases hc : eff kn tr = tr
    · rw [if_pos ((know_bits kn hk tr ht h0).2.mpr hc), hc]
      match tr, ht, h0 with
      | 1, _, _ =>
        rw [if_pos (by decide), if_neg (by decide), if_neg (by decide)]
        exact m_end hh hi hw hz e7 (by rw [show (0 : Int32) = iI 0 from rfl, iI_add, Int.add_zero]; rfl) (by rw [nI_iI, iI_sub]; rfl)
      | 2, _, _ =>
        rw [if_neg (by decide), if_pos (by decide)]
        have h0 : iI m ≤ 0 ↔ m ≤ 0 := by rw [show (0 : Int32) = iI 0 from rfl, iI_le hm.sm ⟨by omega, by omega⟩]
        by_cases hm0 : m ≤ 0
        · rw [if_pos (h0.mpr hm0)]
          refine m_end hh hi hw hz e7 ?_ rfl
          unfold trapM
          rw [if_pos rfl, if_neg (by omega), show (0 : Int32) = iI 0 from rfl, iI_add, Int.add_zero]
        · rw [if_neg (fun q => hm0 (h0.mp q)), gd_of (by decide), five_div hm hm0, iI_add]
          refine m_end hh hi hw hz e7 ?_ rfl
          unfold trapM
          rw [if_pos rfl, if_pos (by omega)]
      | 3, _, _ =>
        rw [if_neg (by decide), if_neg (by decide), if_pos (by decide), show (1 : Int32) = iI 1 from rfl, iI_add]
        exact m_end hh hi hw hz e7 rfl rfl
    · rw [if_neg (fun q => hc ((know_bits kn hk tr ht h0).2.mp q))]
      have h0 : eff kn tr = 0 := (eff_cases kn tr).resolve_right hc
      rw [h0]
      exact m_end hh hi hw hz e7 rfl rfl
theorem half (hN : N ≤ 50) : nI N / 2 = iI ((N : Int) / 2) := by
  rw [nI_iI, show (2 : Int32) = iI 2 from rfl, iI_div ⟨by omega, by omega⟩ ⟨by omega, by omega⟩ (by omega), Int.tdiv_eq_ediv_of_nonneg (by omega)]
theorem x_edge (hh : h < 16) (hk : kn < 8) (ht : tr < 4) (hN : N ≤ 50) (hm : -90000000 ≤ m ∧ m ≤ 90000000) (hkk : -100 ≤ k ∧ k ≤ 100) {v7 v10 v8 m0 k0 : Int32} (e7 : v7 = iI U) (e10 : v10 = iI W) (e8 : v8 = iI z) (em : m0 = iI m) (ek : k0 = iI k) :
    f_X2_answerOf_b142 σ (nI h) (nI kn) (nI N) v7 v8 (nI tr) v10 m0 k0 = some (iI (endZ (bitN h 3) W U z (trapM (eff kn tr) (mainZ (bitN h 2) N m k)) (trapK (eff kn tr) N k))) := by
  unfold f_X2_answerOf_b142
  rw [has_in (hab_bits h hh).2.2.1.1, Option.bind_some]
  simp only [lt]
  unfold mainZ
  cases hc : bitN h 2
  · rw [if_pos (by decide), if_neg (fun q => by cases q.1)]
    exact x_trap hh hk ht ⟨by omega, by omega⟩ e7 e10 e8 em ek
  · have e : iI k ≤ iI ((N : Int) / 2) ↔ k ≤ (N : Int) / 2 := iI_le ⟨by omega, by omega⟩ ⟨by omega, by omega⟩
    rw [if_neg (by decide), gd_of (by decide), half hN, ek]
    by_cases hle : k ≤ (N : Int) / 2
    · rw [if_pos (e.mpr hle), if_neg (fun q => by have := q.2; omega)]
      exact x_trap hh hk ht ⟨by omega, by omega⟩ e7 e10 e8 em rfl
    · rw [if_neg (fun q => hle (e.mp q)), if_pos ⟨rfl, by omega⟩]
      exact x_trap hh hk ht ⟨by omega, by omega⟩ e7 e10 e8 (by rw [em, show (1 : Int32) = iI 1 from rfl, iI_add]) rfl
theorem m_edge (hh : h < 16) (hi : i < 10) (hk : kn < 8) (ht : tr < 4) (hN : N ≤ 50) (hm : -90000000 ≤ m ∧ m ≤ 90000000) (hkk : -100 ≤ k ∧ k ≤ 100) (hw : f_X5_wide τ (nI i) = some (iI W)) (hz : τ.2 0 (4 + 8 * i + 4) = iI z) (htr : τ.2 0 (4 + 8 * i + 6) = nI tr) {v7 w0 w1 m0 : Int32} (e7 : v7 = iI U) (em : m0 = iI m) (ek : w1 - w0 = iI k) :
    f_X5_answerBy_b106 τ (nI i) (nI h) (nI kn) (nI N) v7 m0 w0 w1 = some (iI (endZ (bitN h 3) W U z (trapM (eff kn tr) (mainZ (bitN h 2) N m k)) (trapK (eff kn tr) N k)), τ) := by
  unfold f_X5_answerBy_b106 f_X5_answerBy_b132
  simp only [lt]
  rw [ek]
  unfold mainZ
  have hb := (hab_bits h hh).2.2.1.2
  cases hc : bitN h 2
  · rw [if_neg (fun q => by rw [hb.mp q] at hc; cases hc), if_neg (fun q => by cases q.1)]
    exact m_trap hh hi hk ht ⟨by omega, by omega⟩ hw hz htr e7 (by rw [em, show (0 : Int32) = iI 0 from rfl, iI_add, Int.add_zero]) rfl
  · have e : iI k ≤ iI ((N : Int) / 2) ↔ k ≤ (N : Int) / 2 := iI_le ⟨by omega, by omega⟩ ⟨by omega, by omega⟩
    rw [if_pos (hb.mpr hc), gd_of (by decide), half hN]
    by_cases hle : k ≤ (N : Int) / 2
    · rw [if_pos (e.mpr hle), if_neg (fun q => by have := q.2; omega)]
      exact m_trap hh hi hk ht ⟨by omega, by omega⟩ hw hz htr e7 (by rw [em, show (0 : Int32) = iI 0 from rfl, iI_add, Int.add_zero]) rfl
    · rw [if_neg (fun q => hle (e.mp q)), if_pos ⟨rfl, by omega⟩]
      exact m_trap hh hi hk ht ⟨by omega, by omega⟩ hw hz htr e7 (by rw [em, show (1 : Int32) = iI 1 from rfl, iI_add]) rfl
theorem mod2 (h0 : 0 ≤ k) (h1 : k ≤ 100) : iI k - iI k / 2 * 2 = iI (k % 2) := by
  rw [show (2 : Int32) = iI 2 from rfl, iI_div ⟨by omega, by omega⟩ ⟨by omega, by omega⟩ (by omega), Int.tdiv_eq_ediv_of_nonneg h0, iI_mul, iI_sub]
  congr 1
  omega
theorem x_even (hh : h < 16) (hk : kn < 8) (ht : tr < 4) (hN : N ≤ 50) (hm : -90000000 ≤ m ∧ m ≤ 90000000) (hkk : 0 ≤ k ∧ k ≤ 99) {v7 v10 v8 m0 k0 : Int32} (e7 : v7 = iI U) (e10 : v10 = iI W) (e8 : v8 = iI z) (em : m0 = iI m) (ek : k0 = iI k) :
    f_X2_answerOf_b123 σ (nI h) (nI kn) (nI N) v7 v8 (nI tr) v10 m0 k0 = some (iI (endZ (bitN h 3) W U z (trapM (eff kn tr) (mainZ (bitN h 2) N m (frac2 (bitN h 1) k))) (trapK (eff kn tr) N (frac2 (bitN h 1) k)))) := by
  unfold f_X2_answerOf_b123
  rw [has_in (hab_bits h hh).2.1.1, Option.bind_some]
  simp only [lt]
  unfold frac2
  cases hc : bitN h 1
  · rw [if_pos (by decide), if_neg (fun q => by cases q.1)]
    exact x_edge hh hk ht hN hm ⟨by omega, by omega⟩ e7 e10 e8 em ek
  · rw [if_neg (by decide), gd_of (by decide), ek, mod2 hkk.1 (by omega)]
    have e : iI (k % 2) = 0 ↔ k % 2 = 0 := by rw [show (0 : Int32) = iI 0 from rfl, iI_eq ⟨by omega, by omega⟩ ⟨by omega, by omega⟩]
    by_cases h0 : k % 2 = 0
    · rw [if_pos (e.mpr h0), if_neg (fun q => by have := q.2; omega)]
      exact x_edge hh hk ht hN hm ⟨by omega, by omega⟩ e7 e10 e8 em rfl
    · rw [if_neg (fun q => h0 (e.mp q)), if_pos ⟨rfl, by omega⟩]
      exact x_edge hh hk ht hN hm ⟨by omega, by omega⟩ e7 e10 e8 em (by rw [show (-1 : Int32) = iI (-1) from rfl, iI_add]; congr 1)
theorem m_even (hh : h < 16) (hi : i < 10) (hk : kn < 8) (ht : tr < 4) (hN : N ≤ 50) (hm : -90000000 ≤ m ∧ m ≤ 90000000) (hkk : 0 ≤ k ∧ k ≤ 99) (hw : f_X5_wide τ (nI i) = some (iI W)) (hz : τ.2 0 (4 + 8 * i + 4) = iI z) (htr : τ.2 0 (4 + 8 * i + 6) = nI tr) {v7 w0 w1 m0 : Int32} (e7 : v7 = iI U) (em : m0 = iI m) (ek : w1 - w0 = iI k) :
    f_X5_answerBy_b80 τ (nI i) (nI h) (nI kn) (nI N) v7 m0 w0 w1 = some (iI (endZ (bitN h 3) W U z (trapM (eff kn tr) (mainZ (bitN h 2) N m (frac2 (bitN h 1) k))) (trapK (eff kn tr) N (frac2 (bitN h 1) k))), τ) := by
  unfold f_X5_answerBy_b80 f_X5_answerBy_b105
  simp only [lt]
  rw [ek]
  unfold frac2
  have hb := (hab_bits h hh).2.1.2
  cases hc : bitN h 1
  · rw [if_neg (fun q => by rw [hb.mp q] at hc; cases hc), if_neg (fun q => by cases q.1)]
    exact m_edge hh hi hk ht hN hm ⟨by omega, by omega⟩ hw hz htr e7 em (by rw [show (0 : Int32) = iI 0 from rfl, iI_sub, Int.sub_zero])
  · rw [if_pos (hb.mpr hc), gd_of (by decide), mod2 hkk.1 (by omega)]
    have e : iI (k % 2) = 1 ↔ k % 2 = 1 := by rw [show (1 : Int32) = iI 1 from rfl, iI_eq ⟨by omega, by omega⟩ ⟨by omega, by omega⟩]
    by_cases h0 : k % 2 = 1
    · rw [if_pos (e.mpr h0), if_pos ⟨rfl, h0⟩]
      exact m_edge hh hi hk ht hN hm ⟨by omega, by omega⟩ hw hz htr e7 em (by rw [show (1 : Int32) = iI 1 from rfl, iI_sub])
    · rw [if_neg (fun q => h0 (e.mp q)), if_neg (fun q => h0 q.2)]
      exact m_edge hh hi hk ht hN hm ⟨by omega, by omega⟩ hw hz htr e7 em (by rw [show (0 : Int32) = iI 0 from rfl, iI_sub, Int.sub_zero])
end ANS
