/-! PLACES in an order: among the members P of 0 .. c - 1, by a strict order R. -/
theorem cntB_lt {p q : Nat → Bool} : ∀ c, (∀ i, i < c → p i = true → q i = true) → (∃ j, j < c ∧ q j = true ∧ p j = false) → cntB p c < cntB q c := by
  intro c
  induction c with
  | zero => intro _ ⟨j, hj, _⟩; omega
  | succ c ih =>
    intro h ⟨j, hj, h1, h2⟩
    have hm : cntB p c ≤ cntB q c := cntB_mono c fun i hi hp => h i (by omega) hp
    rw [cntB_s, cntB_s]
    by_cases e : j = c
    · subst e
      rw [h1, h2]
      simp only [if_true]
      rw [if_neg (by decide)]
      omega
    · have := ih (fun i hi => h i (by omega)) ⟨j, by omega, h1, h2⟩
      have hc := h c (by omega)
      cases hp : p c
      · rw [if_neg (by decide)]; omega
      · rw [hc hp, if_pos rfl]; omega
section ORD
variable {c : Nat} {P : Nat → Bool} {R : Nat → Nat → Bool}
def ordR (c : Nat) (P : Nat → Bool) (R : Nat → Nat → Bool) : Prop := (∀ x, x < c → P x = true → R x x = false) ∧ (∀ x y, x < c → y < c → P x = true → P y = true → x ≠ y → R x y = true ∨ R y x = true) ∧ ∀ x y z, x < c → y < c → z < c → P x = true → P y = true → P z = true → R x y = true → R y z = true → R x z = true
def rkR (c : Nat) (P : Nat → Bool) (R : Nat → Nat → Bool) (x : Nat) : Nat := cntB (fun y => P y && R y x) c
theorem rk_lt (h : ordR c P R) {x y : Nat} (hx : x < c) (hy : y < c) (px : P x = true) (py : P y = true) (hr : R x y = true) : rkR c P R x < rkR c P R y := by
  refine cntB_lt c (fun i hi hp => ?_) ⟨x, hx, by rw [px, hr]; rfl, by rw [h.1 x hx px, Bool.and_false]⟩
  rw [Bool.and_eq_true] at hp ⊢
  exact ⟨hp.1, h.2.2 i x y hi hx hy hp.1 px py hp.2 hr⟩
theorem rk_top (h : ordR c P R) {x : Nat} (hx : x < c) (px : P x = true) : rkR c P R x < cntB P c := by
  refine cntB_lt c (fun i hi hp => ?_) ⟨x, hx, px, by rw [h.1 x hx px, Bool.and_false]⟩
  rw [Bool.and_eq_true] at hp
  exact hp.1
theorem rk_inj (h : ordR c P R) {x y : Nat} (hx : x < c) (hy : y < c) (px : P x = true) (py : P y = true) (e : rkR c P R x = rkR c P R y) : x = y := by
  refine Decidable.byContradiction fun hne => ?_
  rcases h.2.1 x y hx hy px py hne with hr | hr
  · have := rk_lt h hx hy px py hr; omega
  · have := rk_lt h hy hx py px hr; omega
theorem rk_rel (h : ordR c P R) {x y : Nat} (hx : x < c) (hy : y < c) (px : P x = true) (py : P y = true) (e : rkR c P R x < rkR c P R y) : R x y = true := by
  rcases h.2.1 x y hx hy px py (fun q => by subst q; omega) with hr | hr
  · exact hr
  · have := rk_lt h hy hx py px hr; omega
theorem max_el (h : ordR c P R) {Q : Nat → Bool} (hQ : ∀ x, x < c → Q x = true → P x = true) : ∀ d, d ≤ c → (∃ z, z < d ∧ Q z = true) → ∃ y, y < d ∧ Q y = true ∧ ∀ z, z < d → Q z = true → z = y ∨ R z y = true := by
  intro d
  induction d with
  | zero => intro _ ⟨z, hz, _⟩; omega
  | succ d ih =>
    intro hd ⟨z, hz, hq⟩
    by_cases ex : ∃ z, z < d ∧ Q z = true
    · obtain ⟨y, hy, qy, hm⟩ := ih (by omega) ex
      cases hQd : Q d
      · exact ⟨y, by omega, qy, fun w hw qw => by
          by_cases e : w = d
          · subst e; rw [hQd] at qw; cases qw
          · exact hm w (by omega) qw⟩
      · have pd := hQ d (by omega) hQd
        have py := hQ y (by omega) qy
        rcases h.2.1 d y (by omega) (by omega) pd py (by omega) with hr | hr
        · exact ⟨y, by omega, qy, fun w hw qw => by
            by_cases e : w = d
            · subst e; exact Or.inr hr
            · exact hm w (by omega) qw⟩
        · refine ⟨d, by omega, hQd, fun w hw qw => ?_⟩
          by_cases e : w = d
          · exact Or.inl e
          · right
            rcases hm w (by omega) qw with e2 | e2
            · rw [e2]; exact hr
            · exact h.2.2 w y d (by omega) (by omega) (by omega) (hQ w (by omega) qw) py pd e2 hr
    · have e : z = d := Decidable.byContradiction fun hne => ex ⟨z, by omega, hq⟩
      subst e
      exact ⟨z, by omega, hq, fun w hw qw => by
        by_cases e : w = z
        · exact Or.inl e
        · exact absurd ⟨w, by omega, qw⟩ ex⟩
theorem cnt_pos {Q : Nat → Bool} : ∀ d, 0 < cntB Q d → ∃ z, z < d ∧ Q z = true := by
  intro d
  induction d with
  | zero => intro h; exact absurd h (Nat.lt_irrefl 0)
  | succ d ih =>
    intro h
    rw [cntB_s] at h
    cases hq : Q d
    · rw [hq, if_neg (by decide)] at h
      obtain ⟨z, hz, hz2⟩ := ih (by omega)
      exact ⟨z, by omega, hz2⟩
    · exact ⟨d, by omega, hq⟩
/-- the greatest of a part has all the others of it ahead -/
theorem max_cnt (h : ordR c P R) {Q : Nat → Bool} (hQ : ∀ x, x < c → Q x = true → P x = true) (hpos : 0 < cntB Q c) : ∃ y, y < c ∧ Q y = true ∧ cntB Q c ≤ rkR c P R y + 1 := by
  obtain ⟨y, hy, qy, hm⟩ := max_el h hQ c (Nat.le_refl _) (cnt_pos c hpos)
  refine ⟨y, hy, qy, ?_⟩
  have h1 : cntB (fun z => Q z && !(decide (z = y))) c ≤ rkR c P R y := cntB_mono c fun i hi hp => by
    rw [Bool.and_eq_true] at hp ⊢
    have hne : ¬ i = y := by
      intro e; rw [e] at hp; simp at hp
    exact ⟨hQ i hi hp.1, (hm i hi hp.1).resolve_left hne⟩
  have h2 := cntB_one (p := fun z => Q z && !(decide (z = y))) (p' := Q) (q := y) c hy (fun j _ hne => by simp [hne])
  omega
theorem rk_ex (h : ordR c P R) : ∀ d, d < cntB P c → ∃ x, x < c ∧ P x = true ∧ rkR c P R x = cntB P c - 1 - d := by
  intro d
  induction d with
  | zero =>
    intro hd
    obtain ⟨y, hy, py, hm⟩ := max_cnt h (Q := P) (fun _ _ q => q) hd
    have := rk_top h hy py
    exact ⟨y, hy, py, by omega⟩
  | succ d ih =>
    intro hd
    obtain ⟨x, hx, px, ex⟩ := ih (by omega)
    have hpos : 0 < rkR c P R x := by omega
    obtain ⟨y, hy, qy, hm⟩ := max_cnt h (Q := fun y => P y && R y x) (fun _ _ q => (Bool.and_eq_true _ _ ▸ q).1) hpos
    rw [Bool.and_eq_true] at qy
    have h1 := rk_lt h hy hx qy.1 px qy.2
    have h2 : rkR c P R x ≤ rkR c P R y + 1 := hm
    exact ⟨y, hy, qy.1, by omega⟩
theorem rk_at (h : ordR c P R) {k : Nat} (hk : k < cntB P c) : ∃ x, x < c ∧ P x = true ∧ rkR c P R x = k := by
  obtain ⟨x, hx, px, e⟩ := rk_ex h (cntB P c - 1 - k) (by omega)
  exact ⟨x, hx, px, by omega⟩
end ORD
theorem cnt_all : ∀ c, cntB (fun _ => true) c = c := by
  intro c
  induction c with
  | zero => rfl
  | succ c ih => rw [cntB_s, ih, if_pos rfl]
/-- a pupil is better than another one -/
def btr (m s : Nat → Nat) (p q : Nat) : Bool := if m p = 0 ∨ m q = 0 ∨ s p * m q = s q * m p then (if m p = m q then decide (p < q) else decide (m q < m p)) else decide (s q * m p < s p * m q)
theorem btr_irr (m s : Nat → Nat) (p : Nat) : btr m s p p = false := by
  unfold btr
  rw [if_pos (Or.inr (Or.inr rfl)), if_pos rfl]
  exact decide_eq_false (Nat.lt_irrefl p)
theorem btr_tot (m s : Nat → Nat) {p q : Nat} (h : p ≠ q) : btr m s p q = true ∨ btr m s q p = true := by
  unfold btr
  by_cases h0 : m p = 0 ∨ m q = 0 ∨ s p * m q = s q * m p
  · rw [if_pos h0, if_pos (show m q = 0 ∨ m p = 0 ∨ s q * m p = s p * m q by omega)]
    by_cases e : m p = m q
    · rw [if_pos e, if_pos e.symm, decide_eq_true_eq, decide_eq_true_eq]; omega
    · rw [if_neg e, if_neg (fun q => e q.symm), decide_eq_true_eq, decide_eq_true_eq]; omega
  · rw [if_neg h0, if_neg (show ¬ (m q = 0 ∨ m p = 0 ∨ s q * m p = s p * m q) by omega), decide_eq_true_eq, decide_eq_true_eq]
    omega
theorem btr_tr (m s : Nat → Nat) {p q r : Nat} (h1 : btr m s p q = true) (h2 : btr m s q r = true) : btr m s p r = true := by
  have tie : ∀ x y, (if m x = m y then decide (x < y) else decide (m y < m x)) = true ↔ (m y < m x ∨ (m x = m y ∧ x < y)) := by
    intro x y
    by_cases e : m x = m y
    · rw [if_pos e, decide_eq_true_eq]; omega
    · rw [if_neg e, decide_eq_true_eq]; omega
  have key : ∀ x y, btr m s x y = true ↔ ((m x = 0 ∨ m y = 0 ∨ s x * m y = s y * m x) ∧ (m y < m x ∨ (m x = m y ∧ x < y))) ∨ ((0 < m x ∧ 0 < m y) ∧ s y * m x < s x * m y) := by
    intro x y
    unfold btr
    by_cases h0 : m x = 0 ∨ m y = 0 ∨ s x * m y = s y * m x
    · rw [if_pos h0, tie]
      constructor
      · intro h; exact Or.inl ⟨h0, h⟩
      · rintro (h | h)
        · exact h.2
        · omega
    · rw [if_neg h0, decide_eq_true_eq]
      constructor
      · intro h; exact Or.inr ⟨by omega, h⟩
      · rintro (h | h)
        · exact absurd h.1 h0
        · exact h.2
  rw [key] at h1 h2 ⊢
  by_cases zp : m p = 0
  · have zq : m q = 0 ∧ p < q := by rcases h1 with h1 | h1 <;> omega
    have zr : m r = 0 ∧ q < r := by rcases h2 with h2 | h2 <;> omega
    left; omega
  by_cases zq : m q = 0
  · have zr : m r = 0 ∧ q < r := by rcases h2 with h2 | h2 <;> omega
    left; omega
  by_cases zr : m r = 0
  · left; omega
  -- all have papers
  have a1 : s q * m p ≤ s p * m q := by rcases h1 with h1 | h1 <;> omega
  have a2 : s r * m q ≤ s q * m r := by rcases h2 with h2 | h2 <;> omega
  have b1 : s r * m q * m p ≤ s q * m r * m p := Nat.mul_le_mul_right _ a2
  have b2 : s q * m p * m r ≤ s p * m q * m r := Nat.mul_le_mul_right _ a1
  have e1 : s q * m r * m p = s q * m p * m r := by rw [Nat.mul_assoc, Nat.mul_comm (m r), ← Nat.mul_assoc]
  have e2 : s r * m q * m p = s r * m p * m q := by rw [Nat.mul_assoc, Nat.mul_comm (m q), ← Nat.mul_assoc]
  have e3 : s p * m q * m r = s p * m r * m q := by rw [Nat.mul_assoc, Nat.mul_comm (m q), ← Nat.mul_assoc]
  have c1 : s r * m p ≤ s p * m r := by
    refine Nat.le_of_mul_le_mul_right (c := m q) ?_ (by omega)
    rw [← e2, ← e3]
    omega
  by_cases hs : s q * m p < s p * m q ∨ s r * m q < s q * m r
  · right
    refine ⟨⟨by omega, by omega⟩, ?_⟩
    refine Nat.lt_of_mul_lt_mul_right (a := m q) ?_
    rw [← e2, ← e3]
    rcases hs with hs | hs
    · have := Nat.mul_lt_mul_of_pos_right hs (show 0 < m r by omega); omega
    · have := Nat.mul_lt_mul_of_pos_right hs (show 0 < m p by omega); omega
  · have t1 : m q < m p ∨ (m p = m q ∧ p < q) := by rcases h1 with h1 | h1 <;> omega
    have t2 : m r < m q ∨ (m q = m r ∧ q < r) := by rcases h2 with h2 | h2 <;> omega
    have d1 : s p * m q = s q * m p := by omega
    have d2 : s q * m r = s r * m q := by omega
    left
    refine ⟨Or.inr (Or.inr ?_), by omega⟩
    refine Nat.eq_of_mul_eq_mul_right (show 0 < m q by omega) ?_
    rw [← e2, ← e3, d1, ← e1, d2]
theorem btr_ord (m s : Nat → Nat) (c : Nat) : ordR c (fun _ => true) (btr m s) := ⟨fun x _ _ => btr_irr m s x, fun x y _ _ _ _ h => btr_tot m s h, fun x y z _ _ _ _ _ _ h1 h2 => btr_tr m s h1 h2⟩
