/-! ACCESS: what the small methods answer, at places in range and out of it. -/
theorem nI_lt0 {n : Nat} (h : n < 2 ^ 31) : ¬ nI n < 0 := nI_pos h
theorem nI_ltN {a b : Nat} (ha : a < 2 ^ 31) (hb : b < 2 ^ 31) : nI a < nI b ↔ a < b := nI_ltI ha hb
theorem nI_leN {a b : Nat} (ha : a < 2 ^ 31) (hb : b < 2 ^ 31) : nI a ≤ nI b ↔ a ≤ b := nI_leI ha hb
theorem tlim_n (t : Nat) : tlim t = nI (tlimN t) := rfl
theorem tcol_n (t : Nat) : tcol t = nI (tcolN t) := rfl
theorem tlim_le (t : Nat) : tlimN t ≤ 60 := by unfold tlimN; split <;> (try split) <;> (try split) <;> omega
theorem tcol_le (t : Nat) : tcolN t ≤ 11 := by unfold tcolN; split <;> (try split) <;> (try split) <;> omega
theorem tcol_pos (t : Nat) : 0 < tcolN t := by unfold tcolN; split <;> (try split) <;> (try split) <;> omega
theorem tsz_le (t : Nat) : tsz t ≤ 660 := Nat.mul_le_mul (tlim_le t) (tcol_le t)
theorem pl_lt {i k a t : Nat} (hi : i < a) (ha : a ≤ tlimN t) (hk : k < tcolN t) : i * tcolN t + k < tsz t := by
  have h1 : (i + 1) * tcolN t ≤ tlimN t * tcolN t := Nat.mul_le_mul_right _ (by omega)
  rw [Nat.add_mul, Nat.one_mul] at h1
  unfold tsz
  omega
section ACC
variable {σ : Sg} {t a i k : Nat}
theorem lacks_in (h : σ.1 t = nI a) (hi : i < a) (ha : a ≤ 60) : f_X3_lacks σ t (nI i) = some 0 := by
  unfold f_X3_lacks
  rw [if_neg (nI_lt0 (by omega)), h, if_pos ((nI_ltN (by omega) (by omega)).mpr hi)]
theorem lacks_neg {p : Int32} (h : p < 0) : f_X3_lacks σ t p = some 1 := by
  unfold f_X3_lacks
  rw [if_pos h]; rfl
theorem lacks_big {p : Int32} (h : σ.1 t = nI a) (hp : nI a ≤ p) : f_X3_lacks σ t p = some 1 := by
  unfold f_X3_lacks
  by_cases h0 : p < 0
  · rw [if_pos h0]; rfl
  · rw [if_neg h0, h, if_neg (Int32.not_lt.mpr hp)]; rfl
theorem idx_n (i k c : Nat) : nI i * nI c + nI k = nI (i * c + k) := by rw [pk_mul, nI_add]
theorem cell_in (h : σ.1 t = nI a) (hi : i < a) (ha : a ≤ tlimN t) (hk : k < tcolN t) : f_X3_cell σ t (nI i) (nI k) = some (σ.2 t (i * tcolN t + k)) := by
  have h1 := tlim_le t
  have h2 := tcol_le t
  have h3 := pl_lt hi ha hk
  have h4 := tsz_le t
  unfold f_X3_cell
  rw [lacks_in h hi (by omega)]
  simp only [Option.bind_some, if_true, lt]
  rw [if_neg (nI_lt0 (by omega)), tcol_n, if_pos ((nI_ltN (by omega) (by omega)).mpr hk), idx_n, if_neg (nI_lt0 (by omega)), show Int32.ofNat (tsz t) = nI (tsz t) from rfl, if_neg (by rw [nI_leN (by omega) (by omega)]; omega), gd_of (inb_n h3 (by omega)), ix_n (by omega)]
theorem put_in {v : Int32} (h : σ.1 t = nI a) (hi : i < a) (ha : a ≤ tlimN t) (hk : k < tcolN t) : f_X3_put σ t (nI i) (nI k) v = some (s2 σ t (upd (σ.2 t) (i * tcolN t + k) v)) := by
  have h1 := tlim_le t
  have h2 := tcol_le t
  have h3 := pl_lt hi ha hk
  have h4 := tsz_le t
  unfold f_X3_put
  rw [lacks_in h hi (by omega)]
  simp only [Option.bind_some, if_true, lt, lts]
  rw [if_neg (nI_lt0 (by omega)), tcol_n, if_pos ((nI_ltN (by omega) (by omega)).mpr hk), idx_n, if_neg (nI_lt0 (by omega)), show Int32.ofNat (tsz t) = nI (tsz t) from rfl, if_neg (by rw [nI_leN (by omega) (by omega)]; omega), gd_of (inb_n h3 (by omega)), ix_n (by omega)]
theorem inc_in {v : Int32} (h : σ.1 t = nI a) (hi : i < a) (ha : a ≤ tlimN t) (hk : k < tcolN t) : f_X3_increase σ t (nI i) (nI k) v = some (s2 σ t (upd (σ.2 t) (i * tcolN t + k) (σ.2 t (i * tcolN t + k) + v))) := by
  unfold f_X3_increase
  rw [cell_in h hi ha hk, Option.bind_some, put_in h hi ha hk, Option.bind_some]
theorem full_no (h : σ.1 t = nI a) (ha : a < tlimN t) : f_X3_isFull σ t = some 0 := by
  have h1 := tlim_le t
  unfold f_X3_isFull
  rw [h, tlim_n, if_pos ((nI_ltN (by omega) (by omega)).mpr ha)]
theorem full_yes (h : σ.1 t = nI (tlimN t)) : f_X3_isFull σ t = some 1 := by
  have h1 := tlim_le t
  unfold f_X3_isFull
  rw [h, tlim_n, if_neg (by rw [nI_ltN (by omega) (by omega)]; omega)]
/-- a row of zeros -/
def zr (f : Nat → Int32) (b c : Nat) : Nat → Int32 := fun j => if b ≤ j ∧ j < b + c then 0 else f j
theorem zr_0 (f : Nat → Int32) (b : Nat) : zr f b 0 = f := by
  funext j; unfold zr; rw [if_neg (by omega)]
theorem zr_s (f : Nat → Int32) (b c : Nat) : upd (zr f b c) (b + c) 0 = zr f b (c + 1) := by
  funext j; unfold upd zr
  by_cases h : j = b + c
  · rw [if_pos h, if_pos (by omega)]
  · rw [if_neg h]
    by_cases h2 : b ≤ j ∧ j < b + c
    · rw [if_pos h2, if_pos (by omega)]
    · rw [if_neg h2, if_neg (by omega)]
theorem s2_id (σ : Sg) (k : Nat) : s2 σ k (σ.2 k) = σ := by
  unfold s2
  have : va_up σ.2 k (σ.2 k) = σ.2 := by funext j; unfold va_up; by_cases h : j = k <;> simp [h]
  rw [this]
theorem s2_s2 (σ : Sg) (k : Nat) (f g : Nat → Int32) : s2 (s2 σ k f) k g = s2 σ k g := by
  unfold s2
  have : va_up (va_up σ.2 k f) k g = va_up σ.2 k g := by funext j; unfold va_up; by_cases h : j = k <;> simp [h]
  rw [this]
theorem s1_id (σ : Sg) (k : Nat) : s1 σ k (σ.1 k) = σ := by
  unfold s1
  have : upd σ.1 k (σ.1 k) = σ.1 := by funext j; unfold upd; by_cases h : j = k <;> simp [h]
  rw [this]
theorem s1_s1 (σ : Sg) (k : Nat) (v w : Int32) : s1 (s1 σ k v) k w = s1 σ k w := by
  unfold s1
  have : upd (upd σ.1 k v) k w = upd σ.1 k w := by funext j; unfold upd; by_cases h : j = k <;> simp [h]
  rw [this]
theorem newRow_loop (ha : a < tlimN t) : ∀ (m n k : Nat) (τ : Sg), m + k = tcolN t → m < n → τ.1 t = nI (a + 1) → τ.2 t = zr (σ.2 t) (a * tcolN t) k →
    f_X3_newRow_b29 t n τ (nI a) (nI k) = some (nI a, s2 τ t (zr (σ.2 t) (a * tcolN t) (tcolN t))) := by
  have h1 := tlim_le t
  have h2 := tcol_le t
  intro m
  induction m with
  | zero =>
    intro n k τ hm hn hr hc
    obtain ⟨n, rfl⟩ : ∃ z, n = z + 1 := ⟨n - 1, by omega⟩
    have hk : k = tcolN t := by omega
    subst hk
    rw [f_X3_newRow_b29.eq_2, tcol_n, if_pos ((nI_leN (by omega) (by omega)).mpr (Nat.le_refl _)), ← hc, s2_id]
  | succ m ih =>
    intro n k τ hm hn hr hc
    obtain ⟨n, rfl⟩ : ∃ z, n = z + 1 := ⟨n - 1, by omega⟩
    rw [f_X3_newRow_b29.eq_2, tcol_n, if_neg (by rw [nI_leN (by omega) (by omega)]; omega), put_in hr (by omega) (by omega) (by omega), Option.bind_some]
    show f_X3_newRow_b29 t n _ (nI a) (nI k + 1) = _
    rw [nI_1, ih n (k + 1) (s2 τ t (upd (τ.2 t) (a * tcolN t + k) 0)) (by omega) (by omega) hr (by rw [s2_self, hc]; exact zr_s _ _ _), s2_s2]
theorem newRow_in (h : σ.1 t = nI a) (ha : a < tlimN t) : f_X3_newRow σ t = some (nI a, s2 (s1 σ t (nI (a + 1))) t (zr (σ.2 t) (a * tcolN t) (tcolN t))) := by
  have h2 := tcol_le t
  unfold f_X3_newRow
  rw [full_no h ha, Option.bind_some, if_pos rfl]
  simp only [lt, lts]
  rw [h]
  show f_X3_newRow_b29 t fuel (s1 σ t (nI a + 1)) (nI a) (nI 0) = _
  rw [nI_1]
  exact newRow_loop (σ := σ) ha (tcolN t) fuel 0 _ (by omega) (by unfold fuel; omega) s1_self (by rw [zr_0]; rfl)
def cntB (p : Nat → Bool) : Nat → Nat
  | 0 => 0
  | n + 1 => cntB p n + (if p n = true then 1 else 0)
theorem cntB_s (p : Nat → Bool) (n : Nat) : cntB p (n + 1) = cntB p n + (if p n = true then 1 else 0) := rfl
theorem cntB_le (p : Nat → Bool) : ∀ n, cntB p n ≤ n := by
  intro n
  induction n with
  | zero => exact Nat.le_refl 0
  | succ n ih => unfold cntB; split <;> omega
theorem cntB_congr {p q : Nat → Bool} : ∀ n, (∀ i, i < n → p i = q i) → cntB p n = cntB q n := by
  intro n
  induction n with
  | zero => intro _; rfl
  | succ n ih => intro h; unfold cntB; rw [ih (fun i hi => h i (by omega)), h n (by omega)]
def sumI (f : Nat → Int32) : Nat → Int32
  | 0 => 0
  | n + 1 => sumI f n + f n
theorem sumI_congr {f g : Nat → Int32} : ∀ n, (∀ i, i < n → f i = g i) → sumI f n = sumI g n := by
  intro n
  induction n with
  | zero => intro _; rfl
  | succ n ih => intro h; unfold sumI; rw [ih (fun i hi => h i (by omega)), h n (by omega)]
theorem rows_loop {v : Int32} (h : σ.1 t = nI a) (ha : a ≤ tlimN t) (hk : k < tcolN t) : ∀ (m n i : Nat), m + i = a → m < n →
    f_X3_rowsWith_b5 σ t n (nI k) v (nI (cntB (fun i => decide (σ.2 t (i * tcolN t + k) = v)) i)) (nI i) = some (nI (cntB (fun i => decide (σ.2 t (i * tcolN t + k) = v)) a)) := by
  have h1 := tlim_le t
  intro m
  induction m with
  | zero =>
    intro n i hm hn
    obtain ⟨n, rfl⟩ : ∃ z, n = z + 1 := ⟨n - 1, by omega⟩
    have hk : i = a := by omega
    subst hk
    rw [f_X3_rowsWith_b5.eq_2, h, if_pos ((nI_leN (by omega) (by omega)).mpr (Nat.le_refl _))]
  | succ m ih =>
    intro n i hm hn
    obtain ⟨n, rfl⟩ : ∃ z, n = z + 1 := ⟨n - 1, by omega⟩
    rw [f_X3_rowsWith_b5.eq_2, h, if_neg (by rw [nI_leN (by omega) (by omega)]; omega), cell_in h (by omega) ha hk, Option.bind_some]
    have e := ih n (i + 1) (by omega) (by omega)
    rw [cntB_s] at e
    by_cases hc : σ.2 t (i * tcolN t + k) = v
    · rw [if_pos hc]
      simp only [hc, decide_true, if_true] at e
      simp only [lt, f_X3_rowsWith_b28]
      rw [nI_1, nI_1]
      exact e
    · rw [if_neg hc]
      simp only [hc, decide_false, Nat.add_zero] at e
      simp only [lt, f_X3_rowsWith_b28]
      rw [nI_1]
      simpa using e
theorem rowsWith_in {v : Int32} (h : σ.1 t = nI a) (ha : a ≤ tlimN t) (hk : k < tcolN t) : f_X3_rowsWith σ t (nI k) v = some (nI (cntB (fun i => decide (σ.2 t (i * tcolN t + k) = v)) a)) := by
  have h1 := tlim_le t
  exact rows_loop h ha hk a fuel 0 (by omega) (by unfold fuel; omega)
theorem sum_loop (h : σ.1 t = nI a) (ha : a ≤ tlimN t) (hk : k < tcolN t) : ∀ (m n i : Nat), m + i = a → m < n →
    f_X3_sumOf_b4 σ t n (nI k) (sumI (fun i => σ.2 t (i * tcolN t + k)) i) (nI i) = some (sumI (fun i => σ.2 t (i * tcolN t + k)) a) := by
  have h1 := tlim_le t
  intro m
  induction m with
  | zero =>
    intro n i hm hn
    obtain ⟨n, rfl⟩ : ∃ z, n = z + 1 := ⟨n - 1, by omega⟩
    have hk : i = a := by omega
    subst hk
    rw [f_X3_sumOf_b4.eq_2, h, if_pos ((nI_leN (by omega) (by omega)).mpr (Nat.le_refl _))]
  | succ m ih =>
    intro n i hm hn
    obtain ⟨n, rfl⟩ : ∃ z, n = z + 1 := ⟨n - 1, by omega⟩
    rw [f_X3_sumOf_b4.eq_2, h, if_neg (by rw [nI_leN (by omega) (by omega)]; omega), cell_in h (by omega) ha hk, Option.bind_some]
    have e := ih n (i + 1) (by omega) (by omega)
    simp only [lt]
    rw [nI_1]
    exact e
theorem sumOf_in (h : σ.1 t = nI a) (ha : a ≤ tlimN t) (hk : k < tcolN t) : f_X3_sumOf σ t (nI k) = some (sumI (fun i => σ.2 t (i * tcolN t + k)) a) := by
  have h1 := tlim_le t
  exact sum_loop h ha hk a fuel 0 (by omega) (by unfold fuel; omega)
theorem copy_in {u : Nat} (hz : tsz u = tsz t) (hl : tlimN u = tlimN t) (h : σ.1 u = nI a) (ha : a ≤ tlimN t) : f_X3_copyFrom σ t u = some (s1 (s2 σ t (va_cpy (σ.2 u) (σ.2 t) 0 0 (tsz t))) t (nI a)) := by
  have h1 := tlim_le t
  have h4 := tsz_le t
  unfold f_X3_copyFrom
  simp only [lt, lts]
  rw [hz]
  simp only [ite_self]
  rw [gd_of (by
    unfold cpy_ok
    rw [decide_eq_true_eq]
    have e : ix (Int32.ofNat (tsz t)) = tsz t := ix_n (by omega)
    refine ⟨Int32.le_refl _, Int32.le_refl _, nI_pos' (n := tsz t) (by omega), ?_, ?_⟩ <;> rw [e] <;> show 0 + _ ≤ _ <;> omega)]
  rw [show ix (Int32.ofNat (tsz t)) = tsz t from ix_n (by omega), show ix (0 : Int32) = 0 from rfl]
  have e2 : (s2 σ t (va_cpy (σ.2 u) (σ.2 t) 0 0 (tsz t))).1 u = nI a := h
  rw [e2, tlim_n]
  by_cases hlt : nI a < nI (tlimN t)
  · rw [if_pos hlt]
  · rw [if_neg hlt]
    have : a = tlimN t := by
      rw [nI_ltN (by omega) (by omega)] at hlt
      omega
    rw [this]
theorem outside_in {p lo hi : Int32} (h1 : ¬ p < lo) (h2 : p ≤ hi) : f_X4_outside σ p lo hi = some 0 := by
  unfold f_X4_outside; rw [if_neg h1, if_pos h2]
theorem outside_lo {p lo hi : Int32} (h1 : p < lo) : f_X4_outside σ p lo hi = some 1 := by
  unfold f_X4_outside; rw [if_pos h1]; rfl
theorem outside_hi {p lo hi : Int32} (h2 : ¬ p ≤ hi) : f_X4_outside σ p lo hi = some 1 := by
  unfold f_X4_outside
  by_cases h1 : p < lo
  · rw [if_pos h1]; rfl
  · rw [if_neg h1, if_neg h2]; rfl
theorem in_in {p lo hi : Int32} (h1 : ¬ p < lo) (h2 : p ≤ hi) : f_X5_in σ p lo hi = some 1 := by
  unfold f_X5_in; rw [if_neg h1, if_neg (Int32.not_lt.mpr h2)]
theorem in_lo {p lo hi : Int32} (h1 : p < lo) : f_X5_in σ p lo hi = some 0 := by
  unfold f_X5_in; rw [if_pos h1]
theorem in_hi {p lo hi : Int32} (h2 : ¬ p ≤ hi) : f_X5_in σ p lo hi = some 0 := by
  unfold f_X5_in
  by_cases h1 : p < lo
  · rw [if_pos h1]
  · rw [if_neg h1, if_pos (Int32.not_le.mp h2)]
end ACC
