/-! THE TEXT READ AS PAPERS: the two readers go together. -/
def xs (σ : Sg) (r p : Nat) (g : Nat → Int32) : Sg := s2 (s1 (s1 σ 18 (nI r)) 23 (nI p)) 18 g
def ms (τ : Sg) (r p : Nat) (h : Nat → Int32) : Sg := s2 (s1 (s1 τ 10 (nI r)) 9 (nI p)) 4 h
section PARSE
variable {σ τ : Sg} {r r' p p' n : Nat} {g g' h h' : Nat → Int32}
theorem s1_comm {k j : Nat} {v w : Int32} (hkj : k ≠ j) : s1 (s1 σ k v) j w = s1 (s1 σ j w) k v := by
  unfold s1
  have : upd (upd σ.1 k v) j w = upd (upd σ.1 j w) k v := by
    funext x; unfold upd
    by_cases h1 : x = j
    · rw [if_pos h1, if_neg (by omega), if_pos h1]
    · rw [if_neg h1, if_neg h1]
  rw [this]
theorem xs_18 : (xs σ r p g).1 18 = nI r := by
  unfold xs; rw [s2_1, s1_ne (by omega), s1_self]
theorem xs_23 : (xs σ r p g).1 23 = nI p := by
  unfold xs; rw [s2_1, s1_self]
theorem xs_t : (xs σ r p g).2 18 = g := s2_self
theorem xs_1 {k : Nat} (h1 : k ≠ 18) (h2 : k ≠ 23) : (xs σ r p g).1 k = σ.1 k := by
  unfold xs; rw [s2_1, s1_ne h2, s1_ne h1]
theorem xs_2 {k : Nat} (h1 : k ≠ 18) : (xs σ r p g).2 k = σ.2 k := s2_ne h1
theorem xs_p : s1 (xs σ r p g) 23 (nI p') = xs σ r p' g := by
  show s2 (s1 (s1 (s1 σ 18 (nI r)) 23 (nI p)) 23 (nI p')) 18 g = _
  rw [s1_s1]; rfl
theorem xs_g : s2 (xs σ r p g) 18 g' = xs σ r p g' := s2_s2 _ _ _ _
theorem xs_r : s1 (xs σ r p g) 18 (nI r') = xs σ r' p g := by
  show s2 (s1 (s1 (s1 σ 18 (nI r)) 23 (nI p)) 18 (nI r')) 18 g = _
  rw [s1_comm (k := 23) (j := 18) (by omega), s1_s1]; rfl
theorem ms_10 : (ms τ r p h).1 10 = nI r := by
  unfold ms; rw [s2_1, s1_ne (by omega), s1_self]
theorem ms_9 : (ms τ r p h).1 9 = nI p := by
  unfold ms; rw [s2_1, s1_self]
theorem ms_t : (ms τ r p h).2 4 = h := s2_self
theorem ms_1 {k : Nat} (h1 : k ≠ 10) (h2 : k ≠ 9) : (ms τ r p h).1 k = τ.1 k := by
  unfold ms; rw [s2_1, s1_ne h2, s1_ne h1]
theorem ms_2 {k : Nat} (h1 : k ≠ 4) : (ms τ r p h).2 k = τ.2 k := s2_ne h1
theorem ms_p : s1 (ms τ r p h) 9 (nI p') = ms τ r p' h := by
  show s2 (s1 (s1 (s1 τ 10 (nI r)) 9 (nI p)) 9 (nI p')) 4 h = _
  rw [s1_s1]; rfl
theorem ms_h : s2 (ms τ r p h) 4 h' = ms τ r p h' := s2_s2 _ _ _ _
theorem ms_r : s1 (ms τ r p h) 10 (nI r') = ms τ r' p h := by
  show s2 (s1 (s1 (s1 τ 10 (nI r)) 9 (nI p)) 10 (nI r')) 4 h = _
  rw [s1_comm (k := 9) (j := 10) (by omega), s1_s1]; rfl
/-- one text of n characters -/
def Txt (σ τ : Sg) (n : Nat) : Prop := n ≤ 60 ∧ σ.1 22 = nI n ∧ τ.1 8 = nI n ∧ ∀ j, j < n → σ.2 19 j = τ.2 3 j ∧ isch (σ.2 19 j) = true
theorem here_in (T : Txt σ τ n) (hp : p < n) : f_X1_characterHere (xs σ r p g) = some (τ.2 3 p) := by
  obtain ⟨hn, e1, e2, e3⟩ := T
  unfold f_X1_characterHere
  rw [xs_23, xs_1 (by omega) (by omega), e1, xs_2 (by omega), if_neg (nI_lt0 (by omega)), if_neg (by rw [nI_leN (by omega) (by omega)]; omega), if_neg (by rw [show (60 : Int32) = nI 60 from rfl, nI_leN (by omega) (by omega)]; omega), gd_of (inb_n (by omega) (by omega)), ix_n (by omega), gd_of (e3 p hp).2, (e3 p hp).1]
theorem digit_eq (T : Txt σ τ n) (hp : p ≤ n) {ρ : Sg} : (p < n ∧ ∃ d : Nat, d ≤ 9 ∧ τ.2 3 p = nI (48 + d) ∧ f_X1_isDigitHere (xs σ r p g) = some 1 ∧ f_X5_in ρ (τ.2 3 p) (48 : Int32) (57 : Int32) = some 1) ∨ (f_X1_isDigitHere (xs σ r p g) = some 0 ∧ (p = n ∨ (p < n ∧ f_X5_in ρ (τ.2 3 p) (48 : Int32) (57 : Int32) = some 0))) := by
  obtain ⟨hn, e1, e2, e3⟩ := T
  have T : Txt σ τ n := ⟨hn, e1, e2, e3⟩
  unfold f_X1_isDigitHere
  rw [xs_23, xs_1 (by omega) (by omega), e1]
  rcases Nat.lt_or_ge p n with hpn | hpn
  rotate_left
  · have : p = n := by omega
    subst this
    rw [if_pos (Int32.le_refl _)]
    exact Or.inr ⟨rfl, Or.inl rfl⟩
  rw [if_neg (by rw [nI_leN (by omega) (by omega)]; omega), here_in T hpn]
  simp only [Option.bind_some]
  by_cases h1 : τ.2 3 p < (48 : Int32)
  · rw [if_pos h1]
    exact Or.inr ⟨rfl, Or.inr ⟨hpn, in_lo h1⟩⟩
  · rw [if_neg h1]
    by_cases h2 : (57 : Int32) < τ.2 3 p
    · rw [if_pos h2]
      exact Or.inr ⟨rfl, Or.inr ⟨hpn, in_hi (Int32.not_le.mpr h2)⟩⟩
    · rw [if_neg h2]
      left
      refine ⟨hpn, ?_⟩
      have z48 : (48 : Int32).toInt = 48 := rfl
      have z57 : (57 : Int32).toInt = 57 := rfl
      have k1 := h1
      have k2 := h2
      rw [Int32.lt_iff_toInt_lt] at k1 k2
      obtain ⟨m, hm, e⟩ := nat_of (p := τ.2 3 p) (by omega)
      exact ⟨m - 48, by omega, by rw [e]; congr 1; omega, rfl, in_in h1 (Int32.not_lt.mp h2)⟩
theorem dig_x {V d : Nat} : nI V * (10 : Int32) + (nI (48 + d) - (48 : Int32)) = nI (10 * V + d) := by
  rw [show (10 : Int32) = nI 10 from rfl, pk_mul, show (48 : Int32) = nI 48 from rfl, nI_sub, nI_iI, iI_add, nI_iI]
  congr 1; omega
theorem dig_m {V d : Nat} : ((10 : Int32) * nI V + nI (48 + d)) - (48 : Int32) = nI (10 * V + d) := by
  rw [show (10 : Int32) = nI 10 from rfl, pk_mul, nI_add, show (48 : Int32) = nI 48 from rfl, nI_sub, nI_iI]
  congr 1; omega
theorem num_loop (T : Txt σ τ n) {mx : Nat} (hmx : mx ≤ 6) {row col : Int32} : ∀ (m n1 n2 k V p : Nat), m + k = mx → 1 ≤ k → m < n1 → m < n2 → p ≤ n → (V = 0 → k = 1) → V < 10 ^ k →
    ∃ V' k' p', 1 ≤ k' ∧ k' ≤ mx ∧ V' < 10 ^ k' ∧ p ≤ p' ∧ p' ≤ n ∧ f_X1_readNumber_b6 n1 (xs σ r p g) (nI mx) row col (nI k) (nI V) = f_X1_readNumber_b61 (xs σ r p' g) row col (nI k') (nI V') ∧
      f_X5_number_b58 n2 (ms τ r' p h) (nI mx) (nI V) (nI k) = some (nI V', ms τ r' p' h) := by
  have T' := T
  obtain ⟨hn, e1, e2, e3⟩ := T
  intro m
  induction m with
  | zero =>
    intro n1 n2 k V p hm hk h1 h2 hp hV hV2
    obtain ⟨n1, rfl⟩ : ∃ z, n1 = z + 1 := ⟨n1 - 1, by omega⟩
    obtain ⟨n2, rfl⟩ : ∃ z, n2 = z + 1 := ⟨n2 - 1, by omega⟩
    have : k = mx := by omega
    subst this
    rw [f_X1_readNumber_b6.eq_2, f_X5_number_b58.eq_2, if_pos (Int32.le_refl _), if_pos (Int32.le_refl _)]
    exact ⟨V, k, p, hk, Nat.le_refl _, hV2, Nat.le_refl _, hp, rfl, rfl⟩
  | succ m ih =>
    intro n1 n2 k V p hm hk h1 h2 hp hV hV2
    obtain ⟨n1, rfl⟩ : ∃ z, n1 = z + 1 := ⟨n1 - 1, by omega⟩
    obtain ⟨n2, rfl⟩ : ∃ z, n2 = z + 1 := ⟨n2 - 1, by omega⟩
    have nle : ¬ nI mx ≤ nI k := by rw [nI_leN (by omega) (by omega)]; omega
    have hp6 : (10 : Nat) ^ k ≤ 10 ^ 6 := Nat.pow_le_pow_right (by omega) (by omega)
    have hV6 : V < 1000000 := Nat.lt_of_lt_of_le hV2 hp6
    have hend : ∃ V' k' p', 1 ≤ k' ∧ k' ≤ mx ∧ V' < 10 ^ k' ∧ p ≤ p' ∧ p' ≤ n ∧ f_X1_readNumber_b61 (xs σ r p g) row col (nI k) (nI V) = f_X1_readNumber_b61 (xs σ r p' g) row col (nI k') (nI V') ∧
      (some (nI V, ms τ r' p h) : Option (Int32 × Sg)) = some (nI V', ms τ r' p' h) := ⟨V, k, p, hk, by omega, hV2, Nat.le_refl _, hp, rfl, rfl⟩
    rw [f_X1_readNumber_b6.eq_2, f_X5_number_b58.eq_2, if_neg nle, if_neg nle, ms_9, ms_1 (by omega) (by omega), e2, ms_2 (by omega)]
    rcases digit_eq (r := r) (g := g) (ρ := ms τ r' p h) T' hp with ⟨hpn, d, hd, ed, x1, m1⟩ | ⟨x1, hno⟩
    rotate_left
    · rw [x1, Option.bind_some, if_pos rfl]
      by_cases hV0 : nI V ≤ 0
      · rw [if_pos hV0]; exact hend
      · rw [if_neg hV0]
        rcases hno with rfl | ⟨hpn, m1⟩
        · rw [if_pos (Int32.le_refl _)]; exact hend
        · rw [if_neg (by rw [nI_leN (by omega) (by omega)]; omega), gd_of (inb_n (by omega) (by omega)), ix_n (by omega), m1, Option.bind_some, if_pos rfl]; exact hend
    rw [x1, Option.bind_some, if_neg (show ¬ (1 : Int32) = 0 by decide)]
    by_cases hV0 : V = 0
    · have hk1 := hV hV0
      subst hV0 hk1
      rw [if_pos (by decide), if_pos (by decide), if_pos (by decide)]; exact hend
    have hV1 : ¬ nI V ≤ 0 := by rw [show (0 : Int32) = nI 0 from rfl, nI_leN (by omega) (by omega)]; omega
    have hV3 : ¬ nI V = 0 := nI_ne0 (by omega) (by omega)
    rw [if_neg hV1, if_neg (show ¬ nI n ≤ nI p by rw [nI_leN (by omega) (by omega)]; omega), gd_of (inb_n (by omega) (by omega)), ix_n (by omega), m1, Option.bind_some, if_neg (show ¬ (1 : Int32) = 0 by decide), if_neg hV3, ite_self]
    unfold f_X1_readNumber_b30
    rw [here_in T' hpn, Option.bind_some, ed, gd_of (inb_n (by omega) (by omega)), xs_23]
    simp only [lt, lts]
    rw [dig_x, dig_m, nI_1, nI_1, xs_p, ms_p]
    have hpow : (10 : Nat) ^ (k + 1) = 10 ^ k * 10 := Nat.pow_succ ..
    obtain ⟨V', k', p', q1, q2, q3, q4, q5, q6, q7⟩ := ih n1 n2 (k + 1) (10 * V + d) (p + 1) (by omega) (by omega) (by omega) (by omega) (by omega) (by omega) (by omega)
    exact ⟨V', k', p', q1, q2, q3, by omega, q5, q6, q7⟩
theorem put18 {v : Int32} {i k a : Nat} (h : σ.1 18 = nI a) (hi : i < a) (ha : a ≤ 11) (hk : k < 3) : f_X3_put σ 18 (nI i) (nI k) v = some (s2 σ 18 (upd (σ.2 18) (i * 3 + k) v)) := put_in (t := 18) h hi ha hk
theorem put18x {v : Int32} {i k : Nat} (hi : i < r) (hr : r ≤ 11) (hk : k < 3) : f_X3_put (xs σ r p g) 18 (nI i) (nI k) v = some (xs σ r p (upd g (i * 3 + k) v)) := by
  rw [put18 xs_18 hi hr hk, xs_g, xs_t]
theorem cell18x {i k : Nat} (hi : i < r) (hr : r ≤ 11) (hk : k < 3) : f_X3_cell (xs σ r p g) 18 (nI i) (nI k) = some (g (i * 3 + k)) := by
  rw [show f_X3_cell (xs σ r p g) 18 (nI i) (nI k) = some ((xs σ r p g).2 18 (i * 3 + k)) from cell_in (t := 18) xs_18 hi hr hk, xs_t]
theorem number_eq (T : Txt σ τ n) {mx row col : Nat} (hmx : 1 ≤ mx ∧ mx ≤ 6) (hp : p ≤ n) (hrow : row < r) (hr : r ≤ 11) (hcol : col < 3) :
    (f_X1_readNumber (xs σ r p g) (nI mx) (nI row) (nI col) = some (0, xs σ r p (upd g (row * 3 + col) 0)) ∧ f_X5_number (ms τ r' p h) (nI mx) = some (-10000005, ms τ r' p h)) ∨
    (∃ V p', V < 1000000 ∧ p < p' ∧ p' ≤ n ∧ f_X1_readNumber (xs σ r p g) (nI mx) (nI row) (nI col) = some (1, xs σ r p' (upd g (row * 3 + col) (nI V))) ∧ f_X5_number (ms τ r' p h) (nI mx) = some (nI V, ms τ r' p' h)) := by
  have T' := T
  obtain ⟨hn, e1, e2, e3⟩ := T
  have hX : f_X1_readNumber (xs σ r p g) (nI mx) (nI row) (nI col) = f_X1_readNumber_b6 (4095 + 1) (xs σ r p g) (nI mx) (nI row) (nI col) (0 : Int32) (0 : Int32) := rfl
  rw [hX, f_X1_readNumber_b6.eq_2, if_neg (show ¬ nI mx ≤ 0 by rw [show (0 : Int32) = nI 0 from rfl, nI_leN (by omega) (by omega)]; omega)]
  unfold f_X5_number
  rw [ms_9, ms_1 (by omega) (by omega), e2, ms_2 (by omega)]
  rcases digit_eq (r := r) (g := g) (ρ := ms τ r' p h) T' hp with ⟨hpn, d, hd, ed, x1, m1⟩ | ⟨x1, hno⟩
  rotate_left
  · left
    rw [x1, Option.bind_some, if_pos rfl]
    unfold f_X1_readNumber_b61
    rw [put18x hrow hr hcol, Option.bind_some, if_pos (Int32.le_refl _)]
    refine ⟨rfl, ?_⟩
    rcases hno with rfl | ⟨hpn, m1⟩
    · rw [if_pos (Int32.le_refl _)]
    · rw [if_neg (by rw [nI_leN (by omega) (by omega)]; omega), gd_of (inb_n (by omega) (by omega)), ix_n (by omega), m1, Option.bind_some, if_pos rfl]
  right
  rw [x1, Option.bind_some, if_neg (show ¬ (1 : Int32) = 0 by decide), if_neg (show ¬ (0 : Int32) = 1 by decide)]
  rw [if_neg (show ¬ nI n ≤ nI p by rw [nI_leN (by omega) (by omega)]; omega), gd_of (inb_n (by omega) (by omega)), ix_n (by omega), m1, Option.bind_some, if_neg (show ¬ (1 : Int32) = 0 by decide)]
  unfold f_X1_readNumber_b30
  rw [here_in T' hpn, Option.bind_some, ed, gd_of (inb_n (by omega) (by omega)), xs_23]
  simp only [lt, lts]
  rw [show (0 : Int32) * (10 : Int32) + (nI (48 + d) - (48 : Int32)) = nI d from (dig_x (V := 0)).trans (by congr 1; omega), show nI (48 + d) - (48 : Int32) = nI d by rw [show (48 : Int32) = nI 48 from rfl, nI_sub, nI_iI]; congr 1; omega, nI_1, xs_p, ms_p]
  obtain ⟨V', k', p', q1, q2, q3, q4, q5, q6, q7⟩ := num_loop (r := r) (r' := r') (g := g) (h := h) T' hmx.2 (row := nI row) (col := nI col) (mx - 1) 4095 fuel 1 d (p + 1) (by omega) (by omega) (by omega) (by unfold fuel; omega) (by omega) (fun _ => rfl) (by omega)
  have hp6 : (10 : Nat) ^ k' ≤ 10 ^ 6 := Nat.pow_le_pow_right (by omega) (by omega)
  refine ⟨V', p', Nat.lt_of_lt_of_le q3 hp6, by omega, q5, ?_, q7⟩
  rw [show f_X1_readNumber_b6 4095 (xs σ r (p + 1) g) (nI mx) (nI row) (nI col) ((0 : Int32) + 1) (nI d) = _ from q6]
  unfold f_X1_readNumber_b61
  rw [put18x hrow hr hcol, Option.bind_some, if_neg (show ¬ nI k' ≤ 0 by rw [show (0 : Int32) = nI 0 from rfl, nI_leN (by omega) (by omega)]; omega)]
theorem sign_eq (T : Txt σ τ n) (hp : p ≤ n) (c : Int32) :
    (f_X1_readSign (xs σ r p g) c = some (0, xs σ r p g) ∧ f_X5_takes (ms τ r' p h) c = some (0, ms τ r' p h) ∧ (p = n ∨ (p < n ∧ ¬ τ.2 3 p = c))) ∨
    (p < n ∧ τ.2 3 p = c ∧ f_X1_readSign (xs σ r p g) c = some (1, xs σ r (p + 1) g) ∧ f_X5_takes (ms τ r' p h) c = some (1, ms τ r' (p + 1) h)) := by
  have T' := T
  obtain ⟨hn, e1, e2, e3⟩ := T
  unfold f_X1_readSign f_X5_takes
  rw [xs_23, xs_1 (by omega) (by omega), e1, ms_9, ms_1 (by omega) (by omega), e2, ms_2 (by omega)]
  rcases Nat.lt_or_ge p n with hpn | hpn
  rotate_left
  · have : p = n := by omega
    subst this
    rw [if_pos (Int32.le_refl _), if_pos (Int32.le_refl _)]
    exact Or.inl ⟨rfl, rfl, Or.inl rfl⟩
  rw [if_neg (by rw [nI_leN (by omega) (by omega)]; omega), if_neg (by rw [nI_leN (by omega) (by omega)]; omega), here_in T' hpn, Option.bind_some, gd_of (inb_n (by omega) (by omega)), ix_n (by omega)]
  by_cases hc : τ.2 3 p = c
  · rw [if_pos hc, if_pos hc]
    simp only [lts]
    rw [nI_1, xs_p, ms_p]
    exact Or.inr ⟨hpn, hc, rfl, rfl⟩
  · rw [if_neg hc, if_neg hc]
    exact Or.inl ⟨rfl, rfl, Or.inr ⟨hpn, hc⟩⟩
/-- the rows read so far are one -/
def rel (r : Nat) (g h : Nat → Int32) : Prop := ∀ j, j < r → ∀ k, k < 3 → g (j * 3 + k) = h (3 * j + k)
theorem ne5 {V : Nat} (hV : V < 1000000) : ¬ nI V = (-10000005 : Int32) := fun e => by
  have h1 : (nI V).toInt = (-10000005 : Int32).toInt := by rw [e]
  rw [nI_iI, iI_toInt (by omega) (by omega)] at h1
  have h2 : (-10000005 : Int32).toInt = -10000005 := rfl
  omega
theorem draft_eq (T : Txt σ τ n) (hp : p ≤ n) (hr : r ≤ 10) (hrel : rel r g h) :
    (∃ p' r1 r2 g' h', p' ≤ n ∧ f_X1_readDraft (xs σ r p g) = some (0, xs σ r1 p' g') ∧ f_X5_readsPaper (ms τ r p h) = some (0, ms τ r2 p' h')) ∨
    (∃ p' g' h', p + 5 ≤ p' ∧ p' ≤ n ∧ f_X1_readDraft (xs σ r p g) = some (1, xs σ (r + 1) p' g') ∧ rel (r + 1) g' h' ∧ f_X5_readsPaper (ms τ r p h) = some ((if p' = n ∨ τ.2 3 p' = 59 then 1 else 0), ms τ (r + 1) p' h')) := by
  have T' := T
  obtain ⟨hn, e1, e2, e3⟩ := T
  unfold f_X1_readDraft f_X5_readsPaper
  rw [show f_X3_newRow (xs σ r p g) 18 = some (nI r, xs σ (r + 1) p (zr g (r * 3) 3)) from (newRow_in (t := 18) xs_18 (show r < 11 by omega)).trans (by rw [xs_r, xs_g, xs_t]; rfl), ms_10, show (3 : Int32) * nI r = nI (3 * r) by rw [show (3 : Int32) = nI 3 from rfl, pk_mul]]
  simp only [lt, lts, Option.bind_some]
  rw [show nI (3 * r) + (1 : Int32) = nI (3 * r + 1) from nI_1 _, show nI (3 * r) + (2 : Int32) = nI (3 * r + 2) by rw [show (2 : Int32) = nI 2 from rfl, nI_add]]
  have G : ∀ (j : Nat), j < 36 → ∀ o : Option (Int32 × Sg), gd (inb (nI j) 36) o = o := fun j hj o => gd_of (inb_n hj (by omega))
  simp only [G (3 * r) (by omega), G (3 * r + 1) (by omega), G (3 * r + 2) (by omega), ix_n (show 3 * r < 2 ^ 31 by omega), ix_n (show 3 * r + 1 < 2 ^ 31 by omega), ix_n (show 3 * r + 2 < 2 ^ 31 by omega)]
  rcases number_eq (r' := r) (h := h) (g := zr g (r * 3) 3) T' (mx := 2) (row := r) (col := 0) (by omega) hp (show r < r + 1 by omega) (by omega) (by omega) with ⟨x1, m1⟩ | ⟨V0, pa, hV0, hpa, hpan, x1, m1⟩
  · rw [show f_X1_readNumber (xs σ (r + 1) p (zr g (r * 3) 3)) (2 : Int32) (nI r) (0 : Int32) = _ from x1, show f_X5_number (ms τ r p h) (2 : Int32) = _ from m1]
    simp only [Option.bind_some, if_true]
    rw [ms_t, ms_h, ms_t, upd_self, if_pos rfl]
    exact Or.inl ⟨p, _, _, _, _, hp, rfl, rfl⟩
  rw [show f_X1_readNumber (xs σ (r + 1) p (zr g (r * 3) 3)) (2 : Int32) (nI r) (0 : Int32) = _ from x1, show f_X5_number (ms τ r p h) (2 : Int32) = _ from m1]
  simp only [Option.bind_some, show ¬ (1 : Int32) = 0 by decide, if_false]
  rw [ms_t, ms_h, ms_t, upd_self, if_neg (ne5 hV0)]
  rcases sign_eq (r := r + 1) (r' := r) (h := upd h (3 * r) (nI V0)) (g := upd (zr g (r * 3) 3) (r * 3 + 0) (nI V0)) T' hpan (47 : Int32) with ⟨x2, m2, -⟩ | ⟨hlt1, -, x2, m2⟩
  · rw [x2, m2]
    simp only [Option.bind_some, if_true]
    exact Or.inl ⟨pa, _, _, _, _, hpan, rfl, rfl⟩
  rw [x2, m2]
  simp only [Option.bind_some, show ¬ (1 : Int32) = 0 by decide, if_false]
  rcases number_eq (r' := r) (h := upd h (3 * r) (nI V0)) (g := upd (zr g (r * 3) 3) (r * 3 + 0) (nI V0)) T' (p := pa + 1) (mx := 2) (row := r) (col := 1) (by omega) (by omega) (show r < r + 1 by omega) (by omega) (by omega) with ⟨x3, m3⟩ | ⟨V1, pb, hV1, hpb, hpbn, x3, m3⟩
  · rw [show f_X1_readNumber (xs σ (r + 1) (pa + 1) (upd (zr g (r * 3) 3) (r * 3 + 0) (nI V0))) (2 : Int32) (nI r) (1 : Int32) = _ from x3, show f_X5_number (ms τ r (pa + 1) (upd h (3 * r) (nI V0))) (2 : Int32) = _ from m3]
    simp only [Option.bind_some, if_true]
    rw [ms_t, ms_h, ms_t, upd_self, if_pos rfl]
    exact Or.inl ⟨pa + 1, _, _, _, _, by omega, rfl, rfl⟩
  rw [show f_X1_readNumber (xs σ (r + 1) (pa + 1) (upd (zr g (r * 3) 3) (r * 3 + 0) (nI V0))) (2 : Int32) (nI r) (1 : Int32) = _ from x3, show f_X5_number (ms τ r (pa + 1) (upd h (3 * r) (nI V0))) (2 : Int32) = _ from m3]
  simp only [Option.bind_some, show ¬ (1 : Int32) = 0 by decide, if_false]
  rw [ms_t, ms_h, ms_t, upd_self, if_neg (ne5 hV1)]
  rcases sign_eq (r := r + 1) (r' := r) (h := upd (upd h (3 * r) (nI V0)) (3 * r + 1) (nI V1)) (g := upd (upd (zr g (r * 3) 3) (r * 3 + 0) (nI V0)) (r * 3 + 1) (nI V1)) T' hpbn (64 : Int32) with ⟨x4, m4, -⟩ | ⟨hlt2, -, x4, m4⟩
  · rw [x4, m4]
    simp only [Option.bind_some, if_true]
    exact Or.inl ⟨pb, _, _, _, _, hpbn, rfl, rfl⟩
  rw [x4, m4]
  simp only [Option.bind_some, show ¬ (1 : Int32) = 0 by decide, if_false]
  rcases number_eq (r' := r) (h := upd (upd h (3 * r) (nI V0)) (3 * r + 1) (nI V1)) (g := upd (upd (zr g (r * 3) 3) (r * 3 + 0) (nI V0)) (r * 3 + 1) (nI V1)) T' (p := pb + 1) (mx := 6) (row := r) (col := 2) (by omega) (by omega) (show r < r + 1 by omega) (by omega) (by omega) with ⟨x5, m5⟩ | ⟨V2, pc, hV2, hpc, hpcn, x5, m5⟩
  · rw [show f_X1_readNumber (xs σ (r + 1) (pb + 1) (upd (upd (zr g (r * 3) 3) (r * 3 + 0) (nI V0)) (r * 3 + 1) (nI V1))) (6 : Int32) (nI r) (2 : Int32) = _ from x5, show f_X5_number (ms τ r (pb + 1) (upd (upd h (3 * r) (nI V0)) (3 * r + 1) (nI V1))) (6 : Int32) = _ from m5]
    simp only [Option.bind_some, if_true]
    rw [ms_t, ms_h, ms_t, upd_self, if_pos rfl]
    exact Or.inl ⟨pb + 1, _, _, _, _, by omega, rfl, rfl⟩
  rw [show f_X1_readNumber (xs σ (r + 1) (pb + 1) (upd (upd (zr g (r * 3) 3) (r * 3 + 0) (nI V0)) (r * 3 + 1) (nI V1))) (6 : Int32) (nI r) (2 : Int32) = _ from x5, show f_X5_number (ms τ r (pb + 1) (upd (upd h (3 * r) (nI V0)) (3 * r + 1) (nI V1))) (6 : Int32) = _ from m5]
  simp only [Option.bind_some, show ¬ (1 : Int32) = 0 by decide, if_false]
  rw [ms_t, ms_h, ms_t, upd_self, if_neg (ne5 hV2), ms_10, nI_1, ms_r, ms_9, ms_1 (by omega) (by omega), e2, ms_2 (by omega)]
  unfold f_X5_readsPaper_b141
  right
  refine ⟨pc, _, upd (upd (upd h (3 * r) (nI V0)) (3 * r + 1) (nI V1)) (3 * r + 2) (nI V2), by omega, hpcn, rfl, ?_, ?_⟩
  · intro j hj k hk
    by_cases e : j = r
    · subst e
      have : k = 0 ∨ k = 1 ∨ k = 2 := by omega
      rcases this with rfl | rfl | rfl
      · rw [upd_ne (by omega), upd_ne (by omega), upd_self, upd_ne (by omega), upd_ne (by omega), show 3 * j + 0 = 3 * j from rfl, upd_self]
      · rw [upd_ne (by omega), upd_self, upd_ne (by omega), upd_self]
      · rw [upd_self, upd_self]
    · rw [upd_ne (by omega), upd_ne (by omega), upd_ne (by omega), upd_ne (by omega), upd_ne (by omega), upd_ne (by omega)]
      unfold zr
      rw [if_neg (by omega)]
      exact hrel j (by omega) k hk
  · rcases Nat.lt_or_ge pc n with hlt | hge
    · rw [if_neg (show ¬ nI pc = nI n by rw [nI_eq (by omega) (by omega)]; omega), gd_of (inb_n (by omega) (by omega)), ix_n (by omega)]
      by_cases h59 : τ.2 3 pc = (59 : Int32)
      · rw [if_pos h59, if_pos (Or.inr h59)]
      · rw [if_neg h59, if_neg (by rintro (q | q); omega; exact h59 q)]
    · have : pc = n := by omega
      subst this
      rw [if_pos rfl, if_pos (Or.inl rfl)]
end PARSE
