/-! WHAT THE ACTS DO, on the second picture. -/
def Same (τ τ' : Sg) : Prop := τ'.1 0 = τ.1 0 ∧ τ'.2 0 = τ.2 0 ∧ τ'.2 1 = τ.2 1
def Rec (τ τ' : Sg) : Prop := ∃ h : Nat, h ≤ 4 ∧ τ.1 0 = nI h ∧ τ'.1 0 = nI (min 4 (h + 1)) ∧ ∀ x, x < 624 → τ'.2 1 (624 * min h 3 + x) = τ.2 0 x
theorem Same.rf {τ : Sg} : Same τ τ := ⟨rfl, rfl, rfl⟩
theorem Rec.same {τ ρ ρ' : Sg} (h : Rec τ ρ) (s : ρ'.1 0 = ρ.1 0) (s1' : ρ'.2 1 = ρ.2 1) : Rec τ ρ' := by
  obtain ⟨h, h1, h2, h3, h4⟩ := h
  exact ⟨h, h1, h2, by rw [s]; exact h3, fun x hx => by rw [s1']; exact h4 x hx⟩
theorem rec_m {σ τ : Sg} (hI : Inv σ τ) : ∃ τ1, f_X5_record τ = some τ1 ∧ τ1.2 0 = τ.2 0 ∧ Rec τ τ1 := by
  obtain ⟨-, ⟨h, o, hh, ho, e20, e19, m0, hR⟩, -, -⟩ := hI
  obtain ⟨τ', t1, t2, t3, t4, t5, t6⟩ := record_in hh m0
  exact ⟨τ', t1, t4 0 (by omega), h, hh, m0, t2, t5⟩
theorem J.keep {f f' : Nat → Int32} {a a' c : Nat} (h : J f a c) (h1 : ∀ x, 144 ≤ x → x < 624 → f' x = f x) (h2 : ∀ i, i < a → ∀ k, k < 3 → f' (4 + 8 * i + k) = f (4 + 8 * i + k)) (hc : c ≤ 60) (ha : a ≤ a') : J f' a' c := by
  intro q hq
  obtain ⟨i, U, x, v, k, s, e1, hi, eU, hU, e2, hx, hxs, e3, hv, e4, hk, e5, hs, d1, d2, d3⟩ := h q hq
  refine ⟨i, U, x, v, k, s, by rw [h1 _ (by omega) (by omega)]; exact e1, by omega, by rw [h2 i hi 1 (by omega)]; exact eU, hU, by rw [h1 _ (by omega) (by omega)]; exact e2, hx, ?_, by rw [h1 _ (by omega) (by omega)]; exact e3, hv, by rw [h1 _ (by omega) (by omega)]; exact e4, hk, by rw [h1 _ (by omega) (by omega)]; exact e5, hs, d1, fun z => ?_, d3⟩
  · rw [h2 i hi 2 (by omega), h2 i hi 1 (by omega), show f' (4 + 8 * i) = f (4 + 8 * i) from h2 i hi 0 (by omega)]; exact hxs
  · obtain ⟨hp, g1, g2⟩ := d2 z
    exact ⟨hp, by rw [h1 _ (by omega) (by omega)]; exact g1, g2⟩
section EF
variable {σ τ : Sg} {a b c i p q : Nat}
/-- an act's end: refused (nothing of it), or done -/
def Acts (σ τ : Sg) (o : Option (Int32 × Sg)) (r : Int32) (F : (Nat → Int32) → Prop) : Prop := ∃ σ' τ', o = some (r, σ') ∧ Inv σ' τ' ∧ Rec τ τ' ∧ F (τ'.2 0)
def Stays (σ τ : Sg) (o : Option (Int32 × Sg)) (r : Int32) : Prop := ∃ σ', o = some (r, σ') ∧ Inv σ' τ
theorem Sim.stays {ox om : Option (Int32 × Sg)} {r : Int32} (h : Sim ox om) (e : om = some (r, τ)) : Stays σ τ ox r := by
  obtain ⟨r', σ', τ', e1, e2, e3⟩ := h
  rw [e] at e2
  cases e2
  exact ⟨σ', e1, e3⟩
theorem Sim.acts {ox om : Option (Int32 × Sg)} {r : Int32} {ρ : Sg} {F : (Nat → Int32) → Prop} (h : Sim ox om) (e : om = some (r, ρ)) (hr : Rec τ ρ) (hF : F (ρ.2 0)) : Acts σ τ ox r F := by
  obtain ⟨r', σ', τ', e1, e2, e3⟩ := h
  rw [e] at e2
  cases e2
  exact ⟨σ', ρ, e1, e3, hr, hF⟩
theorem a_adjust (hI : Inv σ τ) (h : SI σ a b c (τ.2 0)) (hi : i < a) {N U : Nat} (hN : τ.2 0 (4 + 8 * i) = nI N) (hU : τ.2 0 (4 + 8 * i + 1) = nI U) (hN2 : N ≤ 50) (hU2 : U ≤ 50) {x : Int} {y : Nat} (hx : -(pu U N) ≤ x ∧ x ≤ pu U N) (hy : y ≤ 20) :
    (τ.2 0 (4 + 8 * i + 4) = iI x ∧ τ.2 0 (4 + 8 * i + 5) = nI y ∧ Stays σ τ (f_X4_adjust σ (nI i) (iI x) (nI y)) (-10000005)) ∨ (¬ (τ.2 0 (4 + 8 * i + 4) = iI x ∧ τ.2 0 (4 + 8 * i + 5) = nI y) ∧ Acts σ τ (f_X4_adjust σ (nI i) (iI x) (nI y)) (τ.2 0 (4 + 8 * i + 4)) (fun g => g = upd (upd (τ.2 0) (4 + 8 * i + 4) (iI x)) (4 + 8 * i + 5) (nI y))) := by
  have s := sim_adjust hI (nI i) (iI x) (nI y)
  have w2 := pu_bd hU2 hN2
  have w0 := pu_nn U N
  obtain ⟨⟨ha, hb, hc⟩, -, ⟨f0, f1, f2⟩, -⟩ := h
  have pre : f_X5_adjust τ (nI i) (iI x) (nI y) = (if τ.2 0 (4 + 8 * i + 4) = iI x then (if τ.2 0 (4 + 8 * i + 5) = nI y then some ((-10000005 : Int32), τ) else f_X5_adjust_b69 τ (nI i) (iI x) (nI y) (τ.2 0 (4 + 8 * i + 4))) else f_X5_adjust_b69 τ (nI i) (iI x) (nI y) (τ.2 0 (4 + 8 * i + 4))) := by
    unfold f_X5_adjust
    rw [noTool_in f0 hi (by omega), Option.bind_some, if_pos rfl, wide_in (show i < 10 by omega), Option.bind_some, Option.bind_some, hN, hU, nI_pu, iI_neg, in_in (by rw [iI_lt ⟨by omega, by omega⟩ ⟨by omega, by omega⟩]; omega) (by rw [iI_le ⟨by omega, by omega⟩ ⟨by omega, by omega⟩]; omega), Option.bind_some, if_neg (show ¬ (1 : Int32) = 0 by decide), in_in (hi := (20 : Int32)) (nI_lt0 (by omega)) ((nI_leN (b := 20) (by omega) (by omega)).mpr hy), Option.bind_some, if_neg (show ¬ (1 : Int32) = 0 by decide), tool_4 (by omega), tool_5 (by omega), Option.bind_some, Option.bind_some]
  have fin : ∃ ρ, f_X5_adjust_b69 τ (nI i) (iI x) (nI y) (τ.2 0 (4 + 8 * i + 4)) = some (τ.2 0 (4 + 8 * i + 4), ρ) ∧ Rec τ ρ ∧ ρ.2 0 = upd (upd (τ.2 0) (4 + 8 * i + 4) (iI x)) (4 + 8 * i + 5) (nI y) := by
    obtain ⟨τ1, t1, t2, t3⟩ := rec_m hI
    unfold f_X5_adjust_b69
    rw [t1, Option.bind_some, show ((4 : Int32) + ((8 : Int32) * nI i)) + (4 : Int32) = nI (4 + 8 * i + 4) from tix i 4, show ((4 : Int32) + ((8 : Int32) * nI i)) + (5 : Int32) = nI (4 + 8 * i + 5) from tix i 5, gd_of (inb_n (by omega) (by omega)), ix_n (by omega)]
    simp only [lts]
    rw [gd_of (inb_n (by omega) (by omega)), ix_n (by omega), s2_self, s2_s2, t2]
    exact ⟨_, rfl, t3.same rfl (s2_ne (by omega)), s2_self⟩
  obtain ⟨ρ, g1, g2, g3⟩ := fin
  by_cases e4 : τ.2 0 (4 + 8 * i + 4) = iI x
  · by_cases e5 : τ.2 0 (4 + 8 * i + 5) = nI y
    · left
      exact ⟨e4, e5, s.stays (by rw [pre, if_pos e4, if_pos e5])⟩
    · right
      exact ⟨fun z => e5 z.2, s.acts (by rw [pre, if_pos e4, if_neg e5]; exact g1) g2 g3⟩
  · right
    exact ⟨fun z => e4 z.1, s.acts (by rw [pre, if_neg e4]; exact g1) g2 g3⟩
theorem a_setTrap (hI : Inv σ τ) (h : SI σ a b c (τ.2 0)) (hi : i < a) {y : Nat} (hy : y ≤ 3) :
    (τ.2 0 (4 + 8 * i + 6) = nI y ∧ Stays σ τ (f_X4_setTrap σ (nI i) (nI y)) (-10000005)) ∨ (¬ τ.2 0 (4 + 8 * i + 6) = nI y ∧ Acts σ τ (f_X4_setTrap σ (nI i) (nI y)) (τ.2 0 (4 + 8 * i + 6)) (fun g => g = upd (upd (τ.2 0) (4 + 8 * i + 6) (nI y)) (4 + 8 * i + 7) 0)) := by
  have s := sim_setTrap hI (nI i) (nI y)
  obtain ⟨⟨ha, hb, hc⟩, -, ⟨f0, f1, f2⟩, -⟩ := h
  obtain ⟨τ1, t1, t2, t3⟩ := rec_m hI
  have pre : f_X5_setTrap τ (nI i) (nI y) = (if τ.2 0 (4 + 8 * i + 6) = nI y then some ((-10000005 : Int32), τ) else some (τ.2 0 (4 + 8 * i + 6), s2 τ1 0 (upd (upd (τ.2 0) (4 + 8 * i + 6) (nI y)) (4 + 8 * i + 7) 0))) := by
    unfold f_X5_setTrap
    rw [noTool_in f0 hi (by omega), Option.bind_some, if_pos rfl, in_in (hi := (3 : Int32)) (nI_lt0 (by omega)) ((nI_leN (b := 3) (by omega) (by omega)).mpr hy), Option.bind_some, if_neg (show ¬ (1 : Int32) = 0 by decide), tool_6 (by omega), Option.bind_some, t1, Option.bind_some, show ((4 : Int32) + ((8 : Int32) * nI i)) + (6 : Int32) = nI (4 + 8 * i + 6) from tix i 6, show ((4 : Int32) + ((8 : Int32) * nI i)) + (7 : Int32) = nI (4 + 8 * i + 7) from tix i 7, gd_of (inb_n (by omega) (by omega)), ix_n (by omega)]
    simp only [lts]
    rw [gd_of (inb_n (by omega) (by omega)), ix_n (by omega), s2_self, s2_s2, t2]
  by_cases e : τ.2 0 (4 + 8 * i + 6) = nI y
  · left; exact ⟨e, s.stays (by rw [pre, if_pos e])⟩
  · right; exact ⟨e, s.acts (ρ := s2 τ1 0 (upd (upd (τ.2 0) (4 + 8 * i + 6) (nI y)) (4 + 8 * i + 7) 0)) (by rw [pre, if_neg e]) (t3.same rfl (s2_ne (by omega))) s2_self⟩
/-- the pupils that don't know a trap -/
def cntK (f : Nat → Int32) (y : Int32) (n : Nat) : Nat := cntB (fun p => decide (f (84 + 5 * p + 2) &&& y = 0)) n
theorem tell_m {f : Nat → Int32} {y : Int32} (hb : b ≤ 12) : ∀ (m n j : Nat) (ρ : Sg), m + j = b → m < n → ρ.2 0 1 = nI b → (∀ p, j ≤ p → ρ.2 0 (84 + 5 * p + 2) = f (84 + 5 * p + 2)) →
    ∃ ρ', f_X5_announce_b74 n ρ y (nI (cntK f y j)) (nI j) = some (nI (cntK f y b), ρ') ∧ ρ'.1 = ρ.1 ∧ (∀ k, k ≠ 0 → ρ'.2 k = ρ.2 k) ∧ ∀ x, (x < 84 ∨ 144 ≤ x) → ρ'.2 0 x = ρ.2 0 x := by
  have idl : ∀ x : Option (Int32 × Sg), id x = x := fun _ => rfl
  intro m
  induction m with
  | zero =>
    intro n j ρ hm hn h1 h2
    obtain ⟨n, rfl⟩ : ∃ z, n = z + 1 := ⟨n - 1, by omega⟩
    have hj : j = b := by omega
    subst hj
    rw [f_X5_announce_b74.eq_2, i1, x1, h1, idl, if_pos (Int32.le_refl _)]
    exact ⟨ρ, rfl, rfl, fun _ _ => rfl, fun _ _ => rfl⟩
  | succ m ih =>
    intro n j ρ hm hn h1 h2
    obtain ⟨n, rfl⟩ : ∃ z, n = z + 1 := ⟨n - 1, by omega⟩
    have nle : ¬ nI b ≤ nI j := by rw [nI_leN (by omega) (by omega)]; omega
    have G : ∀ o : Option (Int32 × Sg), gd (inb (nI (84 + 5 * j + 2)) 624) o = o := fun o => gd_of (inb_n (by omega) (by omega))
    rw [f_X5_announce_b74.eq_2, i1, x1, h1, idl, if_neg nle, scholar_2 (by omega), Option.bind_some, h2 j (Nat.le_refl _)]
    unfold f_X5_announce_b103
    simp only [lt, lts]
    rw [nI_1 j, show ((84 : Int32) + ((5 : Int32) * nI j)) + (2 : Int32) = nI (84 + 5 * j + 2) from six j 2, ix_n (by omega)]
    simp only [G]
    have es : cntK f y (j + 1) = cntK f y j + (if decide (f (84 + 5 * j + 2) &&& y = 0) = true then 1 else 0) := rfl
    have go : ∀ w : Int32, nI (cntK f y j) + w = nI (cntK f y (j + 1)) → ∃ ρ', f_X5_announce_b74 n (s2 ρ 0 (upd (ρ.2 0) (84 + 5 * j + 2) (ρ.2 0 (84 + 5 * j + 2) ||| y))) y (nI (cntK f y j) + w) (nI (j + 1)) = some (nI (cntK f y b), ρ') ∧ ρ'.1 = ρ.1 ∧ (∀ k, k ≠ 0 → ρ'.2 k = ρ.2 k) ∧ ∀ x, (x < 84 ∨ 144 ≤ x) → ρ'.2 0 x = ρ.2 0 x := by
      intro w hw
      rw [hw]
      obtain ⟨ρ', g1, g2, g3, g4⟩ := ih n (j + 1) (s2 ρ 0 (upd (ρ.2 0) (84 + 5 * j + 2) (ρ.2 0 (84 + 5 * j + 2) ||| y))) (by omega) (by omega) (by rw [s2_self, upd_ne (by omega)]; exact h1) (fun p hp => by rw [s2_self, upd_ne (by omega)]; exact h2 p (by omega))
      exact ⟨ρ', g1, g2, fun k hk => by rw [g3 k hk, s2_ne hk], fun x hx => by rw [g4 x hx, s2_self, upd_ne (by omega)]⟩
    by_cases e : f (84 + 5 * j + 2) &&& y = 0
    · rw [if_pos e]
      exact go 1 (by rw [es, if_pos (decide_eq_true e), nI_1])
    · rw [if_neg e]
      exact go 0 (by rw [es, if_neg (by rw [decide_eq_true_eq]; exact e), Nat.add_zero, Int32.add_zero])
theorem a_announce (hI : Inv σ τ) (h : SI σ a b c (τ.2 0)) (hi : i < a) :
    (τ.2 0 (4 + 8 * i + 6) = 0 ∧ Stays σ τ (f_X4_announce σ (nI i)) (-10000004)) ∨ (¬ τ.2 0 (4 + 8 * i + 6) = 0 ∧ τ.2 0 (4 + 8 * i + 7) = 1 ∧ Stays σ τ (f_X4_announce σ (nI i)) (-10000005)) ∨
    (¬ τ.2 0 (4 + 8 * i + 6) = 0 ∧ ¬ τ.2 0 (4 + 8 * i + 7) = 1 ∧ Acts σ τ (f_X4_announce σ (nI i)) (nI (cntK (τ.2 0) ((1 : Int32) <<< ((τ.2 0 (4 + 8 * i + 6) - (1 : Int32)) &&& 31)) b)) (fun g => g (4 + 8 * i + 7) = 1 ∧ (∀ x, (x < 84 ∨ 144 ≤ x) → x ≠ 4 + 8 * i + 7 → g x = τ.2 0 x))) := by
  have s := sim_announce hI (nI i)
  obtain ⟨⟨ha, hb, hc⟩, -, ⟨f0, f1, f2⟩, -⟩ := h
  by_cases e6 : τ.2 0 (4 + 8 * i + 6) = 0
  · left
    refine ⟨e6, s.stays ?_⟩
    unfold f_X5_announce
    rw [noTool_in f0 hi (by omega), Option.bind_some, if_pos rfl, tool_6 (by omega), Option.bind_some, if_pos e6]
  right
  by_cases e7 : τ.2 0 (4 + 8 * i + 7) = 1
  · left
    refine ⟨e6, e7, s.stays ?_⟩
    unfold f_X5_announce
    rw [noTool_in f0 hi (by omega), Option.bind_some, if_pos rfl, tool_6 (by omega), Option.bind_some, if_neg e6, tool_7 (by omega), Option.bind_some, if_pos e7]
  right
  obtain ⟨τ1, t1, t2, t3⟩ := rec_m hI
  obtain ⟨ρ', g1, g2, g3, g4⟩ := tell_m (b := b) (f := τ.2 0) (y := (1 : Int32) <<< ((τ.2 0 (4 + 8 * i + 6) - (1 : Int32)) &&& 31)) hb b fuel 0 (s2 τ1 0 (upd (τ1.2 0) (4 + 8 * i + 7) 1)) (by omega) (by unfold fuel; omega) (by rw [s2_self, upd_ne (by omega), t2]; exact f1) (fun p hp => by rw [s2_self, upd_ne (by omega), t2])
  refine ⟨e6, e7, s.acts (ρ := ρ') ?_ (t3.same (by rw [g2]; rfl) (by rw [g3 1 (by omega), s2_ne (by omega)])) ⟨by rw [g4 _ (by omega), s2_self, upd_self], fun x hx hx2 => by rw [g4 x hx, s2_self, upd_ne hx2, t2]⟩⟩
  unfold f_X5_announce
  rw [noTool_in f0 hi (by omega), Option.bind_some, if_pos rfl, tool_6 (by omega), Option.bind_some, if_neg e6, tool_7 (by omega), Option.bind_some, if_neg e7, t1, Option.bind_some, show ((4 : Int32) + ((8 : Int32) * nI i)) + (7 : Int32) = nI (4 + 8 * i + 7) from tix i 7, gd_of (inb_n (by omega) (by omega)), ix_n (by omega)]
  simp only [lts, lt]
  rw [tool_6 (by omega), s2_self, upd_ne (by omega), t2, Option.bind_some]
  rw [t2] at g1
  exact g1
theorem a_addPupil (hI : Inv σ τ) (h : SI σ a b c (τ.2 0)) {e : Int} {y : Nat} (he : -50 ≤ e ∧ e ≤ 50) (hy : y < 16) :
    (b = 12 ∧ Stays σ τ (f_X4_addPupil σ (iI e) (nI y)) (-10000003)) ∨ (b < 12 ∧ Acts σ τ (f_X4_addPupil σ (iI e) (nI y)) (nI b) (fun g => ∀ x, x ≠ 1 → (x < 84 ∨ 144 ≤ x) → g x = τ.2 0 x)) := by
  have s := sim_addPupil hI (iI e) (nI y)
  obtain ⟨⟨ha, hb, hc⟩, -, ⟨f0, f1, f2⟩, -⟩ := h
  have ok : f_X5_isScholar τ (iI e) (nI y) = some 1 := by
    unfold f_X5_isScholar
    rw [in_in (by rw [show (-50 : Int32) = iI (-50) from rfl, iI_lt ⟨by omega, by omega⟩ ⟨by omega, by omega⟩]; omega) (by rw [show (50 : Int32) = iI 50 from rfl, iI_le ⟨by omega, by omega⟩ ⟨by omega, by omega⟩]; omega), Option.bind_some, if_neg (show ¬ (1 : Int32) = 0 by decide), in_in (hi := (15 : Int32)) (nI_lt0 (by omega)) ((nI_leN (b := 15) (by omega) (by omega)).mpr (by omega)), Option.bind_some, if_neg (show ¬ (1 : Int32) = 0 by decide)]
  rcases Nat.lt_or_ge b 12 with hb12 | hb12
  · right
    obtain ⟨τ1, t1, t2, t3⟩ := rec_m hI
    refine ⟨hb12, s.acts (ρ := s2 τ1 0 (upd (upd (upd (τ.2 0) (84 + 5 * b + 0) (iI e)) (84 + 5 * b + 1) (nI y)) 1 (nI (b + 1)))) ?_ (t3.same rfl (s2_ne (by omega))) (fun x hx0 hx => by rw [s2_self, upd_ne (by omega), upd_ne (by omega), upd_ne (by omega)])⟩
    unfold f_X5_addPupil
    rw [ok, Option.bind_some, if_neg (show ¬ (1 : Int32) = 0 by decide), i1, x1, f1]
    simp only [id_eq]
    rw [if_neg (show ¬ nI b = (12 : Int32) by rw [show (12 : Int32) = nI 12 from rfl, nI_eq (by omega) (by omega)]; omega), t1, Option.bind_some, t2, f1]
    simp only [Option.bind_some, lt, lts]
    rw [show ((84 : Int32) + ((5 : Int32) * nI b)) + (0 : Int32) = nI (84 + 5 * b + 0) from six b 0, gd_of (inb_n (by omega) (by omega)), ix_n (by omega), s2_self, s2_s2]
    rw [show upd (τ.2 0) (84 + 5 * b + 0) (iI e) 1 = nI b by unfold upd; rw [if_neg (by omega)]; exact f1]
    rw [show ((84 : Int32) + ((5 : Int32) * nI b)) + (1 : Int32) = nI (84 + 5 * b + 1) from six b 1, gd_of (inb_n (by omega) (by omega)), ix_n (by omega), s2_self, s2_s2]
    simp only [s2_self, s2_s2]
    rw [show upd (upd (τ.2 0) (84 + 5 * b + 0) (iI e)) (84 + 5 * b + 1) (nI y) 1 = nI b by unfold upd; rw [if_neg (by omega), if_neg (by omega)]; exact f1]
    rw [nI_1, upd_self, nI_pred]
  · left
    have : b = 12 := by omega
    subst this
    refine ⟨rfl, s.stays ?_⟩
    unfold f_X5_addPupil
    rw [ok, Option.bind_some, if_neg (show ¬ (1 : Int32) = 0 by decide), i1, x1, f1]
    simp only [id_eq]
    rw [if_pos (by decide)]
end EF
