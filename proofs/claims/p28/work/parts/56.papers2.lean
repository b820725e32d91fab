/-! THE PAPERS by the law. -/
def mkZ (U : Nat) (x v : Int) : Nat := (10 - ab (v - x) / (U : Int)).toNat
theorem mkZ_le {U : Nat} {x v : Int} : mkZ U x v ≤ 10 := by
  have hq : 0 ≤ ab (v - x) / (U : Int) := Int.ediv_nonneg (ab_nn _) (by omega)
  unfold mkZ
  omega
def papJ (f : Nat → Int32) (a q : Nat) : Prop := ∃ (i U : Nat) (x v : Int) (k s : Nat), f (144 + 8 * q + 1) = nI i ∧ i < a ∧ f (4 + 8 * i + 1) = nI U ∧ (1 ≤ U ∧ U ≤ 50) ∧ f (144 + 8 * q + 2) = iI x ∧ (0 ≤ x ∧ x ≤ 500000) ∧ iI x ≤ f (4 + 8 * i + 2) * (f (4 + 8 * i) * f (4 + 8 * i + 1)) ∧ f (144 + 8 * q + 3) = iI v ∧ (-1000000 ≤ v ∧ v ≤ 2000000) ∧ f (144 + 8 * q + 4) = nI k ∧ k ≤ 10 ∧ f (144 + 8 * q + 5) = nI s ∧ s ≤ 3 ∧ (s < 2 → k = mkZ U x v) ∧ (s = 2 → ∃ hp : Int, f (144 + 8 * q + 7) = iI hp ∧ (-10 ≤ hp ∧ hp ≤ 10) ∧ (k : Int) = mkZ U x v + hp) ∧ (s = 3 → k = mkZ U x v - 1)
def J (f : Nat → Int32) (a c : Nat) : Prop := ∀ q, q < c → papJ f a q
section PA
variable {σ : Sg} {a b c p q : Nat} {f : Nat → Int32}
theorem mark_l (h : SI σ a b c f) {i U : Nat} {x v : Int} (hi : i < a) (hU : f (4 + 8 * i + 1) = nI U) (hU2 : 1 ≤ U ∧ U ≤ 50) (hx : 0 ≤ x ∧ x ≤ 500000) (hv : -1000000 ≤ v ∧ v ≤ 2000000) : f_L_mark σ (nI i) (iI x) (iI v) = some (nI (mkZ U x v)) := by
  have hq : 0 ≤ ab (v - x) / (U : Int) := Int.ediv_nonneg (ab_nn _) (by omega)
  have hab : ab (v - x) ≤ 3000000 := ab_le (by omega) (by omega)
  have hqd := Int.natAbs_ediv_le_natAbs (ab (v - x)) (U : Int)
  have hab0 := ab_nn (v - x)
  have hq2 : ab (v - x) / (U : Int) ≤ 3000000 := by omega
  have e1 : f_L_size σ (iI v - iI x) = some (iI (ab (v - x))) := by
    unfold f_L_size
    rw [iI_sub]
    have h0 : (0 ≤ iI (v - x)) ↔ 0 ≤ v - x := by rw [show (0 : Int32) = iI 0 from rfl, iI_le ⟨by omega, by omega⟩ ⟨by omega, by omega⟩]
    unfold ab
    by_cases h : 0 ≤ v - x
    · rw [if_pos (h0.mpr h), if_pos h]
    · rw [if_neg (fun q => h (h0.mp q)), if_neg h, iI_neg]
  unfold f_L_mark
  rw [e1, Option.bind_some, show f_X4_instrument σ (nI i) (1 : Int32) = _ from r_ins8 (k := 1) h hi (by omega), Option.bind_some, hU, gd_of (by rw [bne_iff_ne]; exact nI_ne0 (by omega) (by omega))]
  simp only [lt]
  rw [nI_iI U, iI_div ⟨by omega, by omega⟩ ⟨by omega, by omega⟩ (by omega), Int.tdiv_eq_ediv_of_nonneg hab0, show (10 : Int32) = iI 10 from rfl, iI_sub]
  have h0 : (0 : Int32) ≤ iI (10 - ab (v - x) / (U : Int)) ↔ 0 ≤ 10 - ab (v - x) / (U : Int) := by rw [show (0 : Int32) = iI 0 from rfl, iI_le ⟨by omega, by omega⟩ ⟨by omega, by omega⟩]
  unfold mkZ
  by_cases h : 0 ≤ 10 - ab (v - x) / (U : Int)
  · rw [if_pos (h0.mpr h), nI_iI, show (((10 - ab (v - x) / (U : Int)).toNat : Nat) : Int) = 10 - ab (v - x) / (U : Int) by omega]
  · rw [if_neg (fun q => h (h0.mp q)), show (10 - ab (v - x) / (U : Int)).toNat = 0 by omega]; rfl
/-- the lowest mark of a pupil, paper by paper -/
def lowF (f : Nat → Int32) (p : Nat) : Nat → Int32
  | 0 => -10000005
  | k + 1 => if f (144 + 8 * k) = nI p then (if lowF f p k = -10000005 then f (144 + 8 * k + 4) else if f (144 + 8 * k + 4) < lowF f p k then f (144 + 8 * k + 4) else lowF f p k) else lowF f p k
theorem lowF_s (f : Nat → Int32) (p k : Nat) : lowF f p (k + 1) = if f (144 + 8 * k) = nI p then (if lowF f p k = -10000005 then f (144 + 8 * k + 4) else if f (144 + 8 * k + 4) < lowF f p k then f (144 + 8 * k + 4) else lowF f p k) else lowF f p k := rfl
theorem low_vl (h : SI σ a b c f) : ∀ (m n i : Nat), m + i = c → m < n → f_X2_lowestMark_b5 σ n (nI p) (lowF f p i) (nI i) = some (lowF f p c) := by
  have h' := h
  obtain ⟨⟨ha, hb, hc⟩, ⟨r0, r1, r2⟩, -⟩ := h
  intro m
  induction m with
  | zero =>
    intro n i hm hn
    obtain ⟨n, rfl⟩ : ∃ z, n = z + 1 := ⟨n - 1, by omega⟩
    have hk : i = c := by omega
    subst hk
    rw [f_X2_lowestMark_b5.eq_2]
    unfold f_X3_size
    rw [Option.bind_some, r2, if_pos (Int32.le_refl _)]
  | succ m ih =>
    intro n i hm hn
    obtain ⟨n, rfl⟩ : ∃ z, n = z + 1 := ⟨n - 1, by omega⟩
    have nle : ¬ nI c ≤ nI i := by rw [nI_leN (by omega) (by omega)]; omega
    have e := ih n (i + 1) (by omega) (by omega)
    rw [lowF_s] at e
    have g0 : f_X3_cell σ 2 (nI i) (0 : Int32) = some (f (144 + 8 * i)) := R3.pap (k := 0) h' (by omega) (by omega)
    have g4 : f_X3_cell σ 2 (nI i) (4 : Int32) = some (f (144 + 8 * i + 4)) := R3.pap (k := 4) h' (by omega) (by omega)
    rw [f_X2_lowestMark_b5.eq_2, g0, g4]
    unfold f_X3_size f_X2_lowestMark_b57 f_X2_lowestMark_b58
    simp only [Option.bind_some, lt]
    rw [r2, if_neg nle, nI_1]
    by_cases h0 : f (144 + 8 * i) = nI p
    · rw [if_pos h0] at e ⊢
      by_cases h1 : lowF f p i = -10000005
      · rw [if_pos h1] at e ⊢; exact e
      · rw [if_neg h1] at e ⊢; exact e
    · rw [if_neg h0] at e ⊢; exact e
theorem low_v (h : SI σ a b c f) (p : Nat) : f_X2_lowestMark σ (nI p) = some (lowF f p c) := by
  have hc := h.1.2.2
  exact low_vl h c fuel 0 (by omega) (by unfold fuel; omega)
theorem lowF_v (hq : ∀ q, q < c → papV f a b q) (hp : p < 2 ^ 31) : ∀ k, k ≤ c → (cntP f k p = 0 ∧ lowF f p k = -10000005) ∨ (0 < cntP f k p ∧ ∃ m : Nat, m ≤ 10 ∧ lowF f p k = nI m) := by
  intro k
  induction k with
  | zero => intro _; left; exact ⟨rfl, rfl⟩
  | succ k ih =>
    intro hk
    have i1 := ih (by omega)
    obtain ⟨_, _, _, m, _, -, -, -, -, -, -, q7, q8, -⟩ := hq k (by omega)
    have es : cntP f (k + 1) p = cntP f k p + (if decide (f (144 + 8 * k) = nI p) = true then 1 else 0) := rfl
    rw [lowF_s, es]
    by_cases h0 : f (144 + 8 * k) = nI p
    · rw [if_pos h0, if_pos (decide_eq_true h0)]
      right
      refine ⟨by omega, ?_⟩
      rcases i1 with ⟨-, e⟩ | ⟨-, m2, h2, e⟩
      · rw [if_pos e]; exact ⟨m, q8, q7⟩
      · rw [e, if_neg (by rw [show (-10000005 : Int32) = iI (-10000005) from rfl, nI_iI, iI_eq ⟨by omega, by omega⟩ ⟨by omega, by omega⟩]; omega), q7]
        by_cases h3 : nI m < nI m2
        · rw [if_pos h3]; exact ⟨m, q8, rfl⟩
        · rw [if_neg h3]; exact ⟨m2, h2, rfl⟩
    · rw [if_neg h0, if_neg (by rw [decide_eq_true_eq]; exact h0), Nat.add_zero]; exact i1
/-- the law's arrays behind k papers -/
def PI (f : Nat → Int32) (k : Nat) (ρ : Nat → Nat → Int32) : Prop := (∀ p, p < 12 → ρ 0 p = nI (cntP f k p)) ∧ (∀ p, p < 12 → ρ 1 p = sumI (mks f (nI p)) k) ∧ (∀ p, p < 12 → cntP f k p = 0 ∨ ρ 2 p = lowF f p k) ∧ ∀ s, s < 4 → ρ 3 s = nI (cntS f (nI s) k)
theorem cntP_s (f : Nat → Int32) (k p : Nat) : cntP f (k + 1) p = cntP f k p + (if decide (f (144 + 8 * k) = nI p) = true then 1 else 0) := rfl
theorem cntS_s (f : Nat → Int32) (s : Int32) (k : Nat) : cntS f s (k + 1) = cntS f s k + (if decide (f (144 + 8 * k + 5) = s) = true then 1 else 0) := rfl
theorem sumM_s (f : Nat → Int32) (v : Int32) (k : Nat) : sumI (mks f v) (k + 1) = sumI (mks f v) k + (if f (144 + 8 * k) = v then f (144 + 8 * k + 4) else 0) := rfl
theorem PI_step {k p s : Nat} {ρ : Sg} (hp : p < 12) (hs : s < 4) (e0 : f (144 + 8 * k) = nI p) (e5 : f (144 + 8 * k + 5) = nI s) (h : PI f k ρ.2) :
    PI f (k + 1) (s2 (s2 (s2 (s2 ρ 0 (upd (ρ.2 0) p (ρ.2 0 p + 1))) 1 (upd (ρ.2 1) p (ρ.2 1 p + f (144 + 8 * k + 4)))) 2 (upd (ρ.2 2) p (lowF f p (k + 1)))) 3 (upd (ρ.2 3) s (ρ.2 3 s + 1))).2 := by
  obtain ⟨h0, h1, h2, h3⟩ := h
  refine ⟨fun j hj => ?_, fun j hj => ?_, fun j hj => ?_, fun j hj => ?_⟩
  · rw [s2_ne (by omega), s2_ne (by omega), s2_ne (by omega), s2_self, cntP_s, e0]
    by_cases e : j = p
    · subst e; rw [upd_self, h0 j hj, if_pos (decide_eq_true rfl), nI_1]
    · rw [upd_ne e, h0 j hj, if_neg (by rw [decide_eq_true_eq, nI_eq (by omega) (by omega)]; omega), Nat.add_zero]
  · rw [s2_ne (by omega), s2_ne (by omega), s2_self, sumM_s, e0]
    by_cases e : j = p
    · subst e; rw [upd_self, h1 j hj, if_pos rfl]
    · rw [upd_ne e, h1 j hj, if_neg (by rw [nI_eq (by omega) (by omega)]; omega), Int32.add_zero]
  · rw [s2_ne (by omega), s2_self, cntP_s, e0]
    by_cases e : j = p
    · subst e; right; rw [upd_self]
    · rw [upd_ne e, if_neg (by rw [decide_eq_true_eq, nI_eq (by omega) (by omega)]; omega), Nat.add_zero, lowF_s, e0, if_neg (by rw [nI_eq (by omega) (by omega)]; omega)]
      exact h2 j hj
  · rw [s2_self, cntS_s, e5]
    by_cases e : j = s
    · subst e; rw [upd_self, h3 j hj, if_pos (decide_eq_true rfl), nI_1]
    · rw [upd_ne e, h3 j hj, if_neg (by rw [decide_eq_true_eq, nI_eq (by omega) (by omega)]; omega), Nat.add_zero]
end PA
