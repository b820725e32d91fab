/-! WHAT THE ACTS DO: write, appeal, decide. -/
section EF3
variable {σ τ : Sg} {a b c i p q : Nat}
def newQ (f g : Nat → Int32) (c p i : Nat) (x y : Int) (mk : Nat) : Prop := g (144 + 8 * c) = nI p ∧ g (144 + 8 * c + 1) = nI i ∧ g (144 + 8 * c + 2) = iI x ∧ g (144 + 8 * c + 3) = iI y ∧ g (144 + 8 * c + 4) = nI mk ∧ g (144 + 8 * c + 5) = 0 ∧ g 2 = nI (c + 1) ∧ ∀ z, z ≠ 2 → (z < 144 + 8 * c ∨ 144 + 8 * c + 8 ≤ z) → g z = f z
theorem m_writes (h : SI σ a b c (τ.2 0)) (hc60 : c < 60) (hp : p < b) (hi : i < a) {x e y : Int} {hh kn U : Nat} (hx : 0 ≤ x ∧ x ≤ 500000) (he : -50 ≤ e ∧ e ≤ 50) (hh16 : hh < 16) (hk : kn < 8) (k1 : τ.2 0 (84 + 5 * p) = iI e) (k3 : τ.2 0 (84 + 5 * p + 1) = nI hh) (k5 : τ.2 0 (84 + 5 * p + 2) = nI kn)
    (hU : τ.2 0 (4 + 8 * i + 1) = nI U) (hU2 : 1 ≤ U ∧ U ≤ 50) (hy : -1000000 ≤ y ∧ y ≤ 2000000) (ey : f_X2_answerOf σ (nI i) (iI x) (iI e) (nI hh) (nI kn) = some (iI y)) :
    ∃ τ', f_X5_writes τ (nI p) (nI i) (iI x) = some (nI (mkZ U x y), τ') ∧ τ'.1 0 = τ.1 0 ∧ τ'.2 1 = τ.2 1 ∧ newQ (τ.2 0) (τ'.2 0) c p i x y (mkZ U x y) := by
  have h' := h
  obtain ⟨⟨ha, hb, hc⟩, ⟨r0, r1, r2⟩, ⟨f0, f1, f2⟩, t1, t2, t3, v1, v2, v3, -⟩ := h
  obtain ⟨⟨N, U', Ln, z, g, tr, hok⟩, -⟩ := v1 i hi
  obtain ⟨F3, hF3⟩ : ∃ F3 : Nat → Int32, F3 = upd (upd (upd (τ.2 0) (144 + 8 * c) (nI p)) (144 + 8 * c + 1) (nI i)) (144 + 8 * c + 2) (iI x) := ⟨_, rfl⟩
  have eF : ∀ j, j < 144 → F3 j = τ.2 0 j := fun j hj => by rw [hF3]; unfold upd; rw [if_neg (by omega), if_neg (by omega), if_neg (by omega)]
  obtain ⟨y', ρ, b1, b2, e1, e2, e3⟩ := ans_eq (σ := σ) (τ := s2 τ 0 F3) (show i < 10 by omega) (by rw [s2_self]; exact hok.congr fun k hk => eF _ (by omega)) (by rw [s2_self]; exact (R3.ins h' hi).congr fun k hk => eF _ (by omega)) hx he hh16 hk
  have eyy : iI y' = iI y := by rw [ey] at e1; exact (Option.some.inj e1).symm
  rw [eyy] at e2
  have e30 : ρ.2 0 = F3 := by rw [e3.1, s2_self]
  obtain ⟨mk, hmk, g1, g2⟩ := mark_eq (σ := σ) (τ := s2 ρ 0 (upd F3 (144 + 8 * c + 3) (iI y))) (show i < 10 by omega) (by rw [s2_self, upd_ne (by omega), eF _ (by omega)]; exact hU) hU2 (by rw [s2_self]; exact (R3.ins h' hi).congr fun k hk => by rw [upd_ne (by omega), eF _ (by omega)]) hx hy
  have emk : nI mk = nI (mkZ U x y) := by
    rw [mark_x h' hi hU hU2 hx hy] at g1
    exact (Option.some.inj g1).symm
  rw [emk] at g2
  refine ⟨s2 ρ 0 (upd (upd (upd (upd F3 (144 + 8 * c + 3) (iI y)) (144 + 8 * c + 4) (nI (mkZ U x y))) (144 + 8 * c + 5) 0) 2 (nI (c + 1))), ?_, ?_, ?_, ?_⟩
  · unfold f_X5_writes
    rw [i2, x2, f2]
    simp only [id_eq, lt]
    have M : ∀ k : Nat, ((144 : Int32) + ((8 : Int32) * nI c)) + nI k = nI (144 + 8 * c + k) := fun k => pix c k
    rw [show ((144 : Int32) + (8 : Int32) * nI c) + (0 : Int32) = nI (144 + 8 * c) from M 0, show ((144 : Int32) + (8 : Int32) * nI c) + (1 : Int32) = nI (144 + 8 * c + 1) from M 1, show ((144 : Int32) + (8 : Int32) * nI c) + (2 : Int32) = nI (144 + 8 * c + 2) from M 2, show ((144 : Int32) + (8 : Int32) * nI c) + (3 : Int32) = nI (144 + 8 * c + 3) from M 3, show ((144 : Int32) + (8 : Int32) * nI c) + (4 : Int32) = nI (144 + 8 * c + 4) from M 4, show ((144 : Int32) + (8 : Int32) * nI c) + (5 : Int32) = nI (144 + 8 * c + 5) from M 5]
    have G : ∀ (j : Nat), j < 624 → ∀ o : Option (Int32 × Sg), gd (inb (nI j) 624) o = o := fun j hj o => gd_of (inb_n hj (by omega))
    simp only [G (144 + 8 * c) (by omega), G (144 + 8 * c + 1) (by omega), G (144 + 8 * c + 2) (by omega), G (144 + 8 * c + 3) (by omega), G (144 + 8 * c + 4) (by omega), G (144 + 8 * c + 5) (by omega), lts, ix_n (show 144 + 8 * c < 2 ^ 31 by omega), ix_n (show 144 + 8 * c + 1 < 2 ^ 31 by omega), ix_n (show 144 + 8 * c + 2 < 2 ^ 31 by omega), ix_n (show 144 + 8 * c + 3 < 2 ^ 31 by omega), ix_n (show 144 + 8 * c + 4 < 2 ^ 31 by omega), ix_n (show 144 + 8 * c + 5 < 2 ^ 31 by omega), s2_self, s2_s2]
    rw [← hF3, scholar_0 (by omega), scholar_1 (by omega), scholar_2 (by omega), s2_self, eF _ (by omega), eF _ (by omega), eF _ (by omega), k1, k3, k5]
    simp only [Option.bind_some]
    rw [e2, Option.bind_some]
    simp only [e30, upd_self]
    rw [g2, Option.bind_some]
    have F2 : upd (upd (upd F3 (144 + 8 * c + 3) (iI y)) (144 + 8 * c + 4) (nI (mkZ U x y))) (144 + 8 * c + 5) 0 2 = nI c := by
      rw [upd_ne (by omega), upd_ne (by omega), upd_ne (by omega), eF _ (by omega), f2]
    rw [F2, nI_1]
    congr 2
    rw [upd_ne (by omega), upd_ne (by omega), upd_self]
  · rw [s2_1, e3.2 0 (by omega), s2_1]
  · rw [s2_ne (by omega), e3.1, s2_ne (by omega)]
  · rw [s2_self]
    refine ⟨?_, ?_, ?_, ?_, ?_, ?_, ?_, fun z hz0 hz => ?_⟩
    · rw [upd_ne (by omega), upd_ne (by omega), upd_ne (by omega), upd_ne (by omega), hF3, upd_ne (by omega), upd_ne (by omega), upd_self]
    · rw [upd_ne (by omega), upd_ne (by omega), upd_ne (by omega), upd_ne (by omega), hF3, upd_ne (by omega), upd_self]
    · rw [upd_ne (by omega), upd_ne (by omega), upd_ne (by omega), upd_ne (by omega), hF3, upd_self]
    · rw [upd_ne (by omega), upd_ne (by omega), upd_ne (by omega), upd_self]
    · rw [upd_ne (by omega), upd_ne (by omega), upd_self]
    · rw [upd_ne (by omega), upd_self]
    · rw [upd_self]
    · rw [upd_ne (by omega), upd_ne (by omega), upd_ne (by omega), upd_ne (by omega), hF3, upd_ne (by omega), upd_ne (by omega), upd_ne (by omega)]
theorem a_write (hI : Inv σ τ) (h : SI σ a b c (τ.2 0)) (hp : p < b) (hi : i < a) {x e y : Int} {hh kn U : Nat} (hx : 0 ≤ x ∧ x ≤ 500000) (hxs : iI x ≤ τ.2 0 (4 + 8 * i + 2) * (τ.2 0 (4 + 8 * i) * τ.2 0 (4 + 8 * i + 1))) (he : -50 ≤ e ∧ e ≤ 50) (hh16 : hh < 16) (hk : kn < 8) (k1 : τ.2 0 (84 + 5 * p) = iI e) (k3 : τ.2 0 (84 + 5 * p + 1) = nI hh) (k5 : τ.2 0 (84 + 5 * p + 2) = nI kn)
    (hU : τ.2 0 (4 + 8 * i + 1) = nI U) (hU2 : 1 ≤ U ∧ U ≤ 50) (hy : -1000000 ≤ y ∧ y ≤ 2000000) (ey : f_X2_answerOf σ (nI i) (iI x) (iI e) (nI hh) (nI kn) = some (iI y)) :
    (c = 60 ∧ Stays σ τ (f_X4_write σ (nI p) (nI i) (iI x)) (-10000003)) ∨ (c < 60 ∧ Acts σ τ (f_X4_write σ (nI p) (nI i) (iI x)) (nI (mkZ U x y)) (fun g => newQ (τ.2 0) g c p i x y (mkZ U x y))) := by
  have s := sim_write hI (nI p) (nI i) (iI x)
  have h' := h
  have st : f_X5_isSetting τ (nI i) (iI x) = some 1 := by
    have z := set_ok h hi hx hxs
    rcases setting_eq h hi (iI x) with ⟨-, q2, -⟩ | ⟨q1, -⟩
    · exact q2
    · rw [z] at q1; cases q1
  obtain ⟨⟨ha, hb, hc⟩, -, ⟨f0, f1, f2⟩, -⟩ := h
  rcases Nat.lt_or_ge c 60 with hc60 | hc60
  · right
    obtain ⟨τ1, t1, t2, t3⟩ := rec_m hI
    have h1 : SI σ a b c (τ1.2 0) := by rw [t2]; exact h'
    obtain ⟨τ', w1, w2, w3, w4⟩ := m_writes (τ := τ1) h1 hc60 hp hi hx he hh16 hk (by rw [t2]; exact k1) (by rw [t2]; exact k3) (by rw [t2]; exact k5) (by rw [t2]; exact hU) hU2 hy ey
    rw [t2] at w4
    refine ⟨hc60, s.acts (ρ := τ') ?_ (t3.same w2 w3) w4⟩
    unfold f_X5_write
    rw [noScholar_in f1 hp (by omega), Option.bind_some, if_pos rfl, noTool_in f0 hi (by omega), Option.bind_some, if_pos rfl, st, Option.bind_some, if_neg (show ¬ (1 : Int32) = 0 by decide), i2, x2, f2]
    simp only [id_eq]
    rw [if_neg (show ¬ nI c = (60 : Int32) by rw [show (60 : Int32) = nI 60 from rfl, nI_eq (by omega) (by omega)]; omega), t1, Option.bind_some, w1, Option.bind_some]
    simp only [lts, lt]
  · left
    have : c = 60 := by omega
    subst this
    refine ⟨rfl, s.stays ?_⟩
    unfold f_X5_write
    rw [noScholar_in f1 hp (by omega), Option.bind_some, if_pos rfl, noTool_in f0 hi (by omega), Option.bind_some, if_pos rfl, st, Option.bind_some, if_neg (show ¬ (1 : Int32) = 0 by decide), i2, x2, f2]
    simp only [id_eq]
    rw [if_pos (by decide)]
theorem a_appeal (hI : Inv σ τ) (h : SI σ a b c (τ.2 0)) (hq : q < c) {w : Nat} (hw : 1 ≤ w ∧ w ≤ 3) :
    (0 < τ.2 0 (144 + 8 * q + 5) ∧ Stays σ τ (f_X4_appeal σ (nI q) (nI w)) (-10000004)) ∨ (τ.2 0 (144 + 8 * q + 5) = 0 ∧ cntS (τ.2 0) 1 c = 20 ∧ Stays σ τ (f_X4_appeal σ (nI q) (nI w)) (-10000003)) ∨
    (τ.2 0 (144 + 8 * q + 5) = 0 ∧ cntS (τ.2 0) 1 c < 20 ∧ ∃ z : Int, Acts σ τ (f_X4_appeal σ (nI q) (nI w)) (iI z) (fun g => g = upd (upd (upd (τ.2 0) (144 + 8 * q + 7) (iI z)) (144 + 8 * q + 6) (nI w)) (144 + 8 * q + 5) 1)) := by
  have s := sim_appeal hI (nI q) (nI w)
  have h' := h
  obtain ⟨⟨ha, hb, hc⟩, -, ⟨f0, f1, f2⟩, -, -, -, -, -, v3, -, -, v6⟩ := h
  obtain ⟨p, i, x, k, st, q1, q2, q3, q4, q5, q6, q7, q8, q9, q10, -⟩ := v3 q hq
  have z : (0 : Int32) = nI 0 := rfl
  have inn : f_X5_in τ (nI w) (1 : Int32) (3 : Int32) = some 1 := in_in (by rw [show (1 : Int32) = nI 1 from rfl, nI_ltN (by omega) (by omega)]; omega) ((nI_leN (b := 3) (by omega) (by omega)).mpr hw.2)
  have hca : f_X5_inAppeal τ (1 : Int32) = some (nI (cntS (τ.2 0) 1 c)) := inAppeal_in f2 hc
  have v6' : cntS (τ.2 0) 1 c ≤ 20 := v6
  rcases Nat.eq_zero_or_pos st with hs | hs
  · subst hs
    right
    rcases Nat.lt_or_ge (cntS (τ.2 0) 1 c) 20 with hA | hA
    · right
      obtain ⟨τ1, t1, t2, t3⟩ := rec_m hI
      have h1 : R3 a b c (σ.1 0) (σ.1 1) (σ.1 2) (σ.2 0) (σ.2 1) (σ.2 2) (τ1.2 0) := by rw [t2]; exact h'
      obtain ⟨m, k', ρ, hm, hk', e4, o1, o2, o3⟩ := hope_ok h1 hq hw
      have ρ0 : ρ.2 0 = τ.2 0 := by rw [o3.1, t2]
      refine ⟨q9, hA, (m : Int) - k', s.acts (ρ := s2 ρ 0 (upd (upd (upd (τ.2 0) (144 + 8 * q + 7) (iI ((m : Int) - k'))) (144 + 8 * q + 6) (nI w)) (144 + 8 * q + 5) 1)) ?_ (t3.same (by rw [s2_1]; exact o3.2 0 (by omega)) (by rw [s2_ne (by omega), o3.1])) s2_self⟩
      unfold f_X5_appeal
      rw [noPaper_in f2 hq (by omega), Option.bind_some, if_pos rfl, inn, Option.bind_some, if_neg (show ¬ (1 : Int32) = 0 by decide), sheet_5 (by omega), q9, Option.bind_some, if_pos (by decide), hca, Option.bind_some, if_neg (show ¬ nI (cntS (τ.2 0) 1 c) = (20 : Int32) by rw [show (20 : Int32) = nI 20 from rfl, nI_eq (by omega) (by omega)]; omega), t1, Option.bind_some]
      simp only [lt]
      rw [o2, Option.bind_some]
      simp only [lts]
      have M : ∀ k : Nat, ((144 : Int32) + ((8 : Int32) * nI q)) + nI k = nI (144 + 8 * q + k) := fun k => pix q k
      have G : ∀ (j : Nat), j < 624 → ∀ o : Option (Int32 × Sg), gd (inb (nI j) 624) o = o := fun j hj o => gd_of (inb_n hj (by omega))
      rw [show ((144 : Int32) + (8 : Int32) * nI q) + (5 : Int32) = nI (144 + 8 * q + 5) from M 5, show ((144 : Int32) + (8 : Int32) * nI q) + (6 : Int32) = nI (144 + 8 * q + 6) from M 6, show ((144 : Int32) + (8 : Int32) * nI q) + (7 : Int32) = nI (144 + 8 * q + 7) from M 7]
      simp only [G (144 + 8 * q + 5) (by omega), G (144 + 8 * q + 6) (by omega), G (144 + 8 * q + 7) (by omega), ix_n (show 144 + 8 * q + 5 < 2 ^ 31 by omega), ix_n (show 144 + 8 * q + 6 < 2 ^ 31 by omega), ix_n (show 144 + 8 * q + 7 < 2 ^ 31 by omega), s2_self, s2_s2]
      rw [ρ0, upd_ne (show 144 + 8 * q + 7 ≠ 144 + 8 * q + 5 by omega), upd_ne (show 144 + 8 * q + 7 ≠ 144 + 8 * q + 6 by omega), upd_self]
    · left
      refine ⟨q9, by omega, s.stays ?_⟩
      unfold f_X5_appeal
      rw [noPaper_in f2 hq (by omega), Option.bind_some, if_pos rfl, inn, Option.bind_some, if_neg (show ¬ (1 : Int32) = 0 by decide), sheet_5 (by omega), q9, Option.bind_some, if_pos (by decide), hca, Option.bind_some, show cntS (τ.2 0) 1 c = 20 by omega, if_pos (by decide)]
  · left
    refine ⟨by rw [q9, z, nI_ltN (by omega) (by omega)]; exact hs, s.stays ?_⟩
    unfold f_X5_appeal
    rw [noPaper_in f2 hq (by omega), Option.bind_some, if_pos rfl, inn, Option.bind_some, if_neg (show ¬ (1 : Int32) = 0 by decide), sheet_5 (by omega), q9, Option.bind_some, if_neg (by rw [z, nI_leN (by omega) (by omega)]; omega)]
/-- whether the first appeal is granted -/
def gB (f : Nat → Int32) (i q : Nat) : Int32 := if 0 < f (144 + 8 * q + 7) then (if f (144 + 8 * q + 6) = 1 then (if f (4 + 8 * i + 6) ≤ 0 then 0 else if f (4 + 8 * i + 7) = 0 then 1 else 0) else if f (144 + 8 * q + 6) = 2 then (if f (4 + 8 * i + 5) < 5 then 0 else 1) else (if 10 < f (4 + 8 * i + 1) then 0 else 1)) else 0
theorem gB_m {i q : Nat} (hi : i < 10) (hq : q < 60) (e1 : τ.2 0 (144 + 8 * q + 1) = nI i) : f_X5_isGranted τ (nI q) = some (gB (τ.2 0) i q) := by
  unfold f_X5_isGranted gB
  rw [sheet_1 hq, sheet_7 hq, sheet_6 hq, e1]
  simp only [Option.bind_some]
  rw [tool_6 hi, tool_7 hi, tool_5 hi, tool_1 hi]
  simp only [Option.bind_some]
  repeat' split
  all_goals rfl
theorem gB_01 (f : Nat → Int32) (i q : Nat) : gB f i q = 0 ∨ (gB f i q = 1 ∧ 0 < f (144 + 8 * q + 7)) := by
  unfold gB
  by_cases h : 0 < f (144 + 8 * q + 7)
  · rw [if_pos h]
    repeat' split
    all_goals first
      | exact Or.inl rfl
      | exact Or.inr ⟨rfl, h⟩
  · rw [if_neg h]; exact Or.inl rfl
theorem a_decide (hI : Inv σ τ) (h : SI σ a b c (τ.2 0)) {r : Int32} (hr : f_X4_waiting σ (0 : Int32) = some r) :
    (r = -10000005 ∧ Stays σ τ (f_X4_decide σ) (-10000005)) ∨ (∃ q p i, q < c ∧ r = nI q ∧ τ.2 0 (144 + 8 * q + 5) = 1 ∧ τ.2 0 (144 + 8 * q + 1) = nI i ∧ i < a ∧ p < b ∧
      ((gB (τ.2 0) i q = 0 ∧ ∃ k : Nat, k ≤ 10 ∧ τ.2 0 (144 + 8 * q + 4) = nI k ∧ ∃ v : Int32, Acts σ τ (f_X4_decide σ) ((2 : Int32) * nI q + 0) (fun g => g = upd (upd (upd (τ.2 0) (144 + 8 * q + 5) 3) (144 + 8 * q + 4) (nI (k - 1))) (84 + 5 * p + 4) v)) ∨
       (gB (τ.2 0) i q = 1 ∧ ∃ (k k' : Nat) (hp : Int), k ≤ 10 ∧ k' ≤ 10 ∧ τ.2 0 (144 + 8 * q + 4) = nI k ∧ τ.2 0 (144 + 8 * q + 7) = iI hp ∧ (-10 ≤ hp ∧ hp ≤ 10) ∧ (k' : Int) = (k : Int) + hp ∧ ∃ v : Int32, Acts σ τ (f_X4_decide σ) ((2 : Int32) * nI q + 1) (fun g => g = upd (upd (upd (τ.2 0) (144 + 8 * q + 5) 2) (144 + 8 * q + 4) (nI k')) (84 + 5 * p + 3) v)))) := by
  have s := sim_decide hI
  have h' := h
  obtain ⟨⟨ha, hb, hc⟩, ⟨r0, r1, r2⟩, ⟨f0, f1, f2⟩, t1_, t2_, t3_, v1, v2, v3, v4, v5, v6⟩ := h
  obtain ⟨rr, e1, e2, e3⟩ := waiting_loop h' c fuel 0 (w := 0) (by omega) (by unfold fuel; omega)
  have hrr : rr = r := by
    unfold f_X4_waiting f_X2_waitingAt at hr
    rw [if_pos (by decide), show f_X2_waitingAt_b2 σ fuel (0 : Int32) (0 : Int32) = _ from e1, Option.bind_some] at hr
    exact Option.some.inj hr
  subst hrr
  have wm : f_X5_waiting τ (0 : Int32) = some rr := by
    unfold f_X5_waiting
    rw [if_pos (by decide)]
    exact e2
  by_cases hn : rr = (-10000005 : Int32)
  · left
    refine ⟨hn, s.stays ?_⟩
    unfold f_X5_decide
    rw [wm, Option.bind_some, if_pos hn]
  right
  rcases e3 with e3 | ⟨q, hq, rfl, hw⟩
  · exact absurd e3 hn
  obtain ⟨p, i, x, k, st, q1, q2, q3, q4, q5, q6, q7, q8, q9, q10, q11⟩ := v3 q hq
  have hs : st = 1 := by
    have hw' := hw
    unfold waitsQ at hw'
    rw [q9] at hw'
    exact (nI_eq (b := 1) (by omega) (by omega)).mp hw'
  subst hs
  obtain ⟨cs, hp, w1, w2, w3, w4, w5⟩ := q11 (by omega)
  have w6 := w5 rfl
  obtain ⟨τ1, t1, t2, t3⟩ := rec_m hI
  have gr : f_X5_isGranted τ1 (nI q) = some (gB (τ.2 0) i q) := by
    rw [gB_m (i := i) (by omega) (by omega) (by rw [t2]; exact q3), t2]
  have M : ∀ k : Nat, ((144 : Int32) + ((8 : Int32) * nI q)) + nI k = nI (144 + 8 * q + k) := fun k => pix q k
  have G : ∀ (j : Nat), j < 624 → ∀ o : Option (Int32 × Sg), gd (inb (nI j) 624) o = o := fun j hj o => gd_of (inb_n hj (by omega))
  have P : ∀ k : Nat, ((84 : Int32) + ((5 : Int32) * nI p)) + nI k = nI (84 + 5 * p + k) := fun k => six p k
  have a4 : ∀ z : Int32, upd (τ1.2 0) (144 + 8 * q + 5) z (144 + 8 * q + 4) = nI k := fun z => by rw [upd_ne (by omega), t2, q7]
  have a7 : ∀ z : Int32, upd (τ1.2 0) (144 + 8 * q + 5) z (144 + 8 * q + 7) = iI hp := fun z => by rw [upd_ne (by omega), t2, w3]
  have a0 : ∀ z y : Int32, upd (upd (τ1.2 0) (144 + 8 * q + 5) z) (144 + 8 * q + 4) y (144 + 8 * q) = nI p := fun z y => by rw [upd_ne (by omega), upd_ne (by omega), t2, q1]
  have pre : f_X5_decide τ = (if gB (τ.2 0) i q = 0 then f_X5_decide_b50 τ1 (nI q) (gB (τ.2 0) i q) ((144 : Int32) + ((8 : Int32) * nI q)) (3 : Int32) (((144 : Int32) + ((8 : Int32) * nI q)) + (5 : Int32)) else f_X5_decide_b50 τ1 (nI q) (gB (τ.2 0) i q) ((144 : Int32) + ((8 : Int32) * nI q)) (2 : Int32) (((144 : Int32) + ((8 : Int32) * nI q)) + (5 : Int32))) := by
    unfold f_X5_decide
    rw [wm, Option.bind_some, if_neg hn, t1, Option.bind_some, gr, Option.bind_some]
    simp only [lt]
  have b88 : ∀ (v2 z d : Int32) (w2' : Int32), f_X5_decide_b88 (s2 τ1 0 (upd (τ1.2 0) (144 + 8 * q + 5) z)) (nI q) v2 d (nI k) (nI (144 + 8 * q + 4)) = (if v2 = 0 then f_X5_decide_b114 (s2 τ1 0 (upd (upd (τ1.2 0) (144 + 8 * q + 5) z) (144 + 8 * q + 4) (nI k + d))) (nI q) v2 (4 : Int32) ((84 : Int32) + ((5 : Int32) * nI p)) else f_X5_decide_b114 (s2 τ1 0 (upd (upd (τ1.2 0) (144 + 8 * q + 5) z) (144 + 8 * q + 4) (nI k + d))) (nI q) v2 (3 : Int32) ((84 : Int32) + ((5 : Int32) * nI p))) := by
    intro v2 z d w2'
    unfold f_X5_decide_b88
    rw [G (144 + 8 * q + 4) (by omega), ix_n (by omega), s2_self, s2_s2]
    simp only [lts]
    rw [sheet_0 (by omega), s2_self, a0, Option.bind_some]
  refine ⟨q, p, i, hq, rfl, by rw [q9]; rfl, q3, q4, q2, ?_⟩
  rcases gB_01 (τ.2 0) i q with g0 | ⟨g1, hpos⟩
  · left
    refine ⟨g0, k, q8, q7, τ.2 0 (84 + 5 * p + 4) + 1, ?_⟩
    rw [g0, if_pos rfl] at pre
    have fin : f_X5_decide τ = some ((2 : Int32) * nI q + 0, s2 τ1 0 (upd (upd (upd (τ.2 0) (144 + 8 * q + 5) 3) (144 + 8 * q + 4) (nI (k - 1))) (84 + 5 * p + 4) (τ.2 0 (84 + 5 * p + 4) + 1))) := by
      rw [pre]
      unfold f_X5_decide_b50
      rw [show ((144 : Int32) + (8 : Int32) * nI q) + (5 : Int32) = nI (144 + 8 * q + 5) from M 5, show ((144 : Int32) + (8 : Int32) * nI q) + (4 : Int32) = nI (144 + 8 * q + 4) from M 4, G (144 + 8 * q + 5) (by omega), ix_n (show 144 + 8 * q + 5 < 2 ^ 31 by omega), ix_n (show 144 + 8 * q + 4 < 2 ^ 31 by omega)]
      simp only [lts]
      rw [G (144 + 8 * q + 4) (by omega), if_pos trivial, sheet_4 (by omega), s2_self, a4, Option.bind_some, b88 _ _ _ 0, b88 _ _ _ 0, if_pos rfl, if_pos rfl]
      unfold f_X5_decide_b114
      rw [show ((84 : Int32) + (5 : Int32) * nI p) + (4 : Int32) = nI (84 + 5 * p + 4) from P 4]
      simp only [G (84 + 5 * p + 4) (by omega), ix_n (show 84 + 5 * p + 4 < 2 ^ 31 by omega), lts, s2_self, s2_s2, if_true]
      have e : ∀ z y : Int32, upd (upd (τ1.2 0) (144 + 8 * q + 5) z) (144 + 8 * q + 4) y (84 + 5 * p + 4) = τ.2 0 (84 + 5 * p + 4) := fun z y => by rw [upd_ne (by omega), upd_ne (by omega), t2]
      rw [e, e, t2]
      by_cases hk0 : nI k ≤ 0
      · have : k = 0 := by
          rw [show (0 : Int32) = nI 0 from rfl, nI_leN (by omega) (by omega)] at hk0; omega
        subst this
        rw [if_pos hk0, show nI 0 + (0 : Int32) = nI (0 - 1) from rfl]
      · have : 0 < k := by
          rw [show (0 : Int32) = nI 0 from rfl, nI_leN (by omega) (by omega)] at hk0; omega
        rw [if_neg hk0, show nI k + (-1 : Int32) = nI (k - 1) by rw [nI_iI, show (-1 : Int32) = iI (-1) from rfl, iI_add, nI_iI]; congr 1; omega]
    exact s.acts fin (t3.same rfl (s2_ne (by omega))) s2_self
  · right
    obtain ⟨k', hk'⟩ : ∃ k' : Nat, (k' : Int) = (k : Int) + hp := ⟨((k : Int) + hp).toNat, by omega⟩
    refine ⟨g1, k, k', hp, q8, by omega, q7, w3, w4, hk', τ.2 0 (84 + 5 * p + 3) + 1, ?_⟩
    rw [g1, if_neg (by decide)] at pre
    have fin : f_X5_decide τ = some ((2 : Int32) * nI q + 1, s2 τ1 0 (upd (upd (upd (τ.2 0) (144 + 8 * q + 5) 2) (144 + 8 * q + 4) (nI k')) (84 + 5 * p + 3) (τ.2 0 (84 + 5 * p + 3) + 1))) := by
      rw [pre]
      unfold f_X5_decide_b50
      rw [show ((144 : Int32) + (8 : Int32) * nI q) + (5 : Int32) = nI (144 + 8 * q + 5) from M 5, show ((144 : Int32) + (8 : Int32) * nI q) + (4 : Int32) = nI (144 + 8 * q + 4) from M 4, G (144 + 8 * q + 5) (by omega), ix_n (show 144 + 8 * q + 5 < 2 ^ 31 by omega), ix_n (show 144 + 8 * q + 4 < 2 ^ 31 by omega)]
      simp only [lts]
      rw [G (144 + 8 * q + 4) (by omega), if_neg (by decide), sheet_7 (by omega), s2_self, a7, a4, Option.bind_some, b88 _ _ _ 0, if_neg (by decide)]
      unfold f_X5_decide_b114
      rw [show ((84 : Int32) + (5 : Int32) * nI p) + (3 : Int32) = nI (84 + 5 * p + 3) from P 3]
      simp only [G (84 + 5 * p + 3) (by omega), ix_n (show 84 + 5 * p + 3 < 2 ^ 31 by omega), lts, s2_self, s2_s2]
      have e : ∀ z y : Int32, upd (upd (τ1.2 0) (144 + 8 * q + 5) z) (144 + 8 * q + 4) y (84 + 5 * p + 3) = τ.2 0 (84 + 5 * p + 3) := fun z y => by rw [upd_ne (by omega), upd_ne (by omega), t2]
      rw [if_neg (by decide), e, t2, show nI k + iI hp = nI k' by rw [nI_iI, iI_add, nI_iI, hk']]
    exact s.acts fin (t3.same rfl (s2_ne (by omega))) s2_self
end EF3
