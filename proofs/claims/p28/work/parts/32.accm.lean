/-! ACCESS in the reference. -/
section ACCM
variable {σ : Sg} {a i k : Nat}
theorem li_4 : (4 : Int32) = nI 4 := rfl
theorem li_8 : (8 : Int32) = nI 8 := rfl
theorem li_5 : (5 : Int32) = nI 5 := rfl
theorem li_84 : (84 : Int32) = nI 84 := rfl
theorem li_144 : (144 : Int32) = nI 144 := rfl
theorem li_3 : (3 : Int32) = nI 3 := rfl
theorem tix (i k : Nat) : ((4 : Int32) + ((8 : Int32) * nI i)) + nI k = nI (4 + 8 * i + k) := by rw [li_4, li_8, pk_mul, nI_add, nI_add]
theorem six (i k : Nat) : ((84 : Int32) + ((5 : Int32) * nI i)) + nI k = nI (84 + 5 * i + k) := by rw [li_84, li_5, pk_mul, nI_add, nI_add]
theorem pix (i k : Nat) : ((144 : Int32) + ((8 : Int32) * nI i)) + nI k = nI (144 + 8 * i + k) := by rw [li_144, li_8, pk_mul, nI_add, nI_add]
theorem pix0 (i : Nat) : ((144 : Int32) + ((8 : Int32) * nI i)) = nI (144 + 8 * i) := by rw [li_144, li_8, pk_mul, nI_add]
theorem tix0 (i : Nat) : ((4 : Int32) + ((8 : Int32) * nI i)) = nI (4 + 8 * i) := by rw [li_4, li_8, pk_mul, nI_add]
theorem tool_in (hi : i < 10) (hk : k < 8) : f_X5_tool σ (nI i) (nI k) = some (σ.2 0 (4 + 8 * i + k)) := by
  unfold f_X5_tool
  rw [tix, gd_of (inb_n (by omega) (by omega)), ix_n (by omega)]
theorem scholar_in (hi : i < 12) (hk : k < 5) : f_X5_scholar σ (nI i) (nI k) = some (σ.2 0 (84 + 5 * i + k)) := by
  unfold f_X5_scholar
  rw [six, gd_of (inb_n (by omega) (by omega)), ix_n (by omega)]
theorem sheet_in (hi : i < 60) (hk : k < 8) : f_X5_sheet σ (nI i) (nI k) = some (σ.2 0 (144 + 8 * i + k)) := by
  unfold f_X5_sheet
  rw [pix, gd_of (inb_n (by omega) (by omega)), ix_n (by omega)]
theorem i0 {α : Type} : gd (inb (0 : Int32) 624) = (id : Option α → Option α) := by funext o; exact gd_of (inb_n (n := 0) (by omega) (by omega))
theorem i1 {α : Type} : gd (inb (1 : Int32) 624) = (id : Option α → Option α) := by funext o; exact gd_of (inb_n (n := 1) (by omega) (by omega))
theorem i2 {α : Type} : gd (inb (2 : Int32) 624) = (id : Option α → Option α) := by funext o; exact gd_of (inb_n (n := 2) (by omega) (by omega))
theorem x0 : ix (0 : Int32) = 0 := rfl
theorem x1 : ix (1 : Int32) = 1 := rfl
theorem x2 : ix (2 : Int32) = 2 := rfl
theorem n1_lt {i a : Nat} (hi : i < 2 ^ 31) (ha : a < 2 ^ 31) : nI i ≤ nI a - 1 ↔ i < a := by
  rw [show (1 : Int32) = iI 1 from rfl, nI_iI, nI_iI, iI_sub, iI_le ⟨by omega, by omega⟩ ⟨by omega, by omega⟩]
  omega
theorem big_n1 {p : Int32} {a : Nat} (ha : a < 2 ^ 31) (h : nI a ≤ p) : ¬ p ≤ nI a - 1 := by
  rw [Int32.le_iff_toInt_le, nI_iI, iI_toInt (by omega) (by omega)] at h
  rw [show (1 : Int32) = iI 1 from rfl, nI_iI, iI_sub, Int32.le_iff_toInt_le, iI_toInt (by omega) (by omega)]
  omega
theorem noTool_in (h : σ.2 0 0 = nI a) (hi : i < a) (ha : a ≤ 60) : f_X5_noTool σ (nI i) = some 0 := by
  unfold f_X5_noTool
  rw [i0, x0, h]
  show (f_X5_in σ (nI i) 0 (nI a - 1)).bind _ = _
  rw [in_in (nI_lt0 (by omega)) ((n1_lt (by omega) (by omega)).mpr hi)]
  rfl
theorem noTool_neg {p : Int32} (h : p < 0) : f_X5_noTool σ p = some 1 := by
  unfold f_X5_noTool
  rw [i0]
  show (f_X5_in σ p 0 _).bind _ = _
  rw [in_lo h]
  rfl
theorem noTool_big {p : Int32} (h : σ.2 0 0 = nI a) (ha : a ≤ 60) (hp : nI a ≤ p) : f_X5_noTool σ p = some 1 := by
  unfold f_X5_noTool
  rw [i0, x0, h]
  show (f_X5_in σ p 0 _).bind _ = _
  rw [in_hi (big_n1 (by omega) hp)]
  rfl
theorem noScholar_in (h : σ.2 0 1 = nI a) (hi : i < a) (ha : a ≤ 60) : f_X5_noScholar σ (nI i) = some 0 := by
  unfold f_X5_noScholar
  rw [i1, x1, h]
  show (f_X5_in σ (nI i) 0 (nI a - 1)).bind _ = _
  rw [in_in (nI_lt0 (by omega)) ((n1_lt (by omega) (by omega)).mpr hi)]
  rfl
theorem noScholar_neg {p : Int32} (h : p < 0) : f_X5_noScholar σ p = some 1 := by
  unfold f_X5_noScholar
  rw [i1]
  show (f_X5_in σ p 0 _).bind _ = _
  rw [in_lo h]
  rfl
theorem noScholar_big {p : Int32} (h : σ.2 0 1 = nI a) (ha : a ≤ 60) (hp : nI a ≤ p) : f_X5_noScholar σ p = some 1 := by
  unfold f_X5_noScholar
  rw [i1, x1, h]
  show (f_X5_in σ p 0 _).bind _ = _
  rw [in_hi (big_n1 (by omega) hp)]
  rfl
theorem noPaper_in (h : σ.2 0 2 = nI a) (hi : i < a) (ha : a ≤ 60) : f_X5_noPaper σ (nI i) = some 0 := by
  unfold f_X5_noPaper
  rw [i2, x2, h]
  show (f_X5_in σ (nI i) 0 (nI a - 1)).bind _ = _
  rw [in_in (nI_lt0 (by omega)) ((n1_lt (by omega) (by omega)).mpr hi)]
  rfl
theorem noPaper_neg {p : Int32} (h : p < 0) : f_X5_noPaper σ p = some 1 := by
  unfold f_X5_noPaper
  rw [i2]
  show (f_X5_in σ p 0 _).bind _ = _
  rw [in_lo h]
  rfl
theorem noPaper_big {p : Int32} (h : σ.2 0 2 = nI a) (ha : a ≤ 60) (hp : nI a ≤ p) : f_X5_noPaper σ p = some 1 := by
  unfold f_X5_noPaper
  rw [i2, x2, h]
  show (f_X5_in σ p 0 _).bind _ = _
  rw [in_hi (big_n1 (by omega) hp)]
  rfl
theorem wide_in (hi : i < 10) : f_X5_wide σ (nI i) = some (σ.2 0 (4 + 8 * i) * σ.2 0 (4 + 8 * i + 1)) := by
  unfold f_X5_wide
  rw [show (0 : Int32) = nI 0 from rfl, show (1 : Int32) = nI 1 from rfl, tool_in hi (by omega), Option.bind_some, tool_in hi (by omega), Option.bind_some]
  rfl
/-- the loops over papers -/
theorem inAppeal_loop {v : Int32} (h : σ.2 0 2 = nI a) (ha : a ≤ 60) : ∀ (m n i : Nat), m + i = a → m < n →
    f_X5_inAppeal_b4 σ n v (nI (cntB (fun q => decide (σ.2 0 (144 + 8 * q + 5) = v)) i)) (nI i) = some (nI (cntB (fun q => decide (σ.2 0 (144 + 8 * q + 5) = v)) a)) := by
  intro m
  induction m with
  | zero =>
    intro n i hm hn
    obtain ⟨n, rfl⟩ : ∃ z, n = z + 1 := ⟨n - 1, by omega⟩
    have hk : i = a := by omega
    subst hk
    rw [f_X5_inAppeal_b4.eq_2, i2, x2, h]
    exact if_pos ((nI_leN (by omega) (by omega)).mpr (Nat.le_refl _))
  | succ m ih =>
    intro n i hm hn
    obtain ⟨n, rfl⟩ : ∃ z, n = z + 1 := ⟨n - 1, by omega⟩
    rw [f_X5_inAppeal_b4.eq_2, i2, x2, h, show (5 : Int32) = nI 5 from rfl, sheet_in (by omega) (by omega), Option.bind_some]
    refine (if_neg (by rw [nI_leN (by omega) (by omega)]; omega)).trans ?_
    have e := ih n (i + 1) (by omega) (by omega)
    rw [cntB_s] at e
    by_cases hc : σ.2 0 (144 + 8 * i + 5) = v
    · rw [if_pos hc]
      simp only [hc, decide_true, if_true] at e
      simp only [lt, f_X5_inAppeal_b30]
      rw [nI_1, nI_1]
      exact e
    · rw [if_neg hc]
      simp only [hc, decide_false] at e
      simp only [lt, f_X5_inAppeal_b30]
      rw [nI_1, show (0 : Int32) = nI 0 from rfl, nI_add]
      simpa using e
theorem inAppeal_in {v : Int32} (h : σ.2 0 2 = nI a) (ha : a ≤ 60) : f_X5_inAppeal σ v = some (nI (cntB (fun q => decide (σ.2 0 (144 + 8 * q + 5) = v)) a)) :=
  inAppeal_loop h ha a fuel 0 (by omega) (by unfold fuel; omega)
theorem writtenBy_loop {v : Int32} (h : σ.2 0 2 = nI a) (ha : a ≤ 60) (hk : k < 8) : ∀ (m n i : Nat), m + i = a → m < n →
    f_X5_writtenBy_b5 σ n (nI k) v (nI (cntB (fun q => decide (σ.2 0 (144 + 8 * q + k) = v)) i)) (nI i) = some (nI (cntB (fun q => decide (σ.2 0 (144 + 8 * q + k) = v)) a)) := by
  intro m
  induction m with
  | zero =>
    intro n i hm hn
    obtain ⟨n, rfl⟩ : ∃ z, n = z + 1 := ⟨n - 1, by omega⟩
    have hk : i = a := by omega
    subst hk
    rw [f_X5_writtenBy_b5.eq_2, i2, x2, h]
    exact if_pos ((nI_leN (by omega) (by omega)).mpr (Nat.le_refl _))
  | succ m ih =>
    intro n i hm hn
    obtain ⟨n, rfl⟩ : ∃ z, n = z + 1 := ⟨n - 1, by omega⟩
    rw [f_X5_writtenBy_b5.eq_2, i2, x2, h, sheet_in (by omega) (by omega), Option.bind_some]
    refine (if_neg (by rw [nI_leN (by omega) (by omega)]; omega)).trans ?_
    have e := ih n (i + 1) (by omega) (by omega)
    rw [cntB_s] at e
    by_cases hc : σ.2 0 (144 + 8 * i + k) = v
    · rw [if_pos hc]
      simp only [hc, decide_true, if_true] at e
      simp only [lt, f_X5_writtenBy_b33]
      rw [nI_1, nI_1]
      exact e
    · rw [if_neg hc]
      simp only [hc, decide_false] at e
      simp only [lt, f_X5_writtenBy_b33]
      rw [nI_1, show (0 : Int32) = nI 0 from rfl, nI_add]
      simpa using e
theorem writtenBy_in {v : Int32} (h : σ.2 0 2 = nI a) (ha : a ≤ 60) (hk : k < 8) : f_X5_writtenBy σ (nI k) v = some (nI (cntB (fun q => decide (σ.2 0 (144 + 8 * q + k) = v)) a)) :=
  writtenBy_loop h ha hk a fuel 0 (by omega) (by unfold fuel; omega)
/-- the marks of a pupil's papers -/
def mks (f : Nat → Int32) (v : Int32) (q : Nat) : Int32 := if f (144 + 8 * q) = v then f (144 + 8 * q + 4) else 0
theorem marksOf_loop {v : Int32} (h : σ.2 0 2 = nI a) (ha : a ≤ 60) : ∀ (m n i : Nat), m + i = a → m < n →
    f_X5_marksOf_b4 σ n v (sumI (mks (σ.2 0) v) i) (nI i) = some (sumI (mks (σ.2 0) v) a) := by
  intro m
  induction m with
  | zero =>
    intro n i hm hn
    obtain ⟨n, rfl⟩ : ∃ z, n = z + 1 := ⟨n - 1, by omega⟩
    have hk : i = a := by omega
    subst hk
    rw [f_X5_marksOf_b4.eq_2, i2, x2, h]
    exact if_pos ((nI_leN (by omega) (by omega)).mpr (Nat.le_refl _))
  | succ m ih =>
    intro n i hm hn
    obtain ⟨n, rfl⟩ : ∃ z, n = z + 1 := ⟨n - 1, by omega⟩
    rw [f_X5_marksOf_b4.eq_2, i2, x2, h, show (0 : Int32) = nI 0 from rfl, sheet_in (by omega) (by omega), Option.bind_some, Nat.add_zero]
    refine (if_neg (by rw [nI_leN (by omega) (by omega)]; omega)).trans ?_
    have e := ih n (i + 1) (by omega) (by omega)
    have e2 : sumI (mks (σ.2 0) v) (i + 1) = sumI (mks (σ.2 0) v) i + mks (σ.2 0) v i := rfl
    have e3 : mks (σ.2 0) v i = if σ.2 0 (144 + 8 * i) = v then σ.2 0 (144 + 8 * i + 4) else 0 := rfl
    rw [e2, e3] at e
    by_cases hc : σ.2 0 (144 + 8 * i) = v
    · rw [if_pos hc, show (4 : Int32) = nI 4 from rfl, sheet_in (by omega) (by omega), Option.bind_some]
      rw [if_pos hc] at e
      simp only [lt, f_X5_marksOf_b35]
      rw [nI_1]
      exact e
    · rw [if_neg hc]
      rw [if_neg hc] at e
      simp only [lt, f_X5_marksOf_b35]
      rw [nI_1]
      exact e
theorem marksOf_in {v : Int32} (h : σ.2 0 2 = nI a) (ha : a ≤ 60) : f_X5_marksOf σ v = some (sumI (mks (σ.2 0) v) a) :=
  marksOf_loop h ha a fuel 0 (by omega) (by unfold fuel; omega)
end ACCM
