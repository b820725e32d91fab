/-! WHAT THE ACTS DO: addInstrument, teach, train. -/
section EF2
variable {σ τ : Sg} {a b c i p q : Nat}
theorem a_addInstrument (hI : Inv σ τ) (h : SI σ a b c (τ.2 0)) {N U Ln : Nat} {u : Int32} (hN : 2 ≤ N ∧ N ≤ 50) (hU : 1 ≤ U ∧ U ≤ 50) (hL : 2 ≤ Ln ∧ Ln ≤ 200) (hu : u = 0 ∨ u = 1) :
    (a = 10 ∧ Stays σ τ (f_X4_addInstrument σ (nI N) (nI U) (nI Ln) u) (-10000003)) ∨ (a < 10 ∧ Acts σ τ (f_X4_addInstrument σ (nI N) (nI U) (nI Ln) u) (nI a) (fun g => (∀ x, x ≠ 0 → (x < 4 + 8 * a ∨ 84 ≤ x) → g x = τ.2 0 x) ∧ g 0 = nI (a + 1))) := by
  have s := sim_addInstrument hI (nI N) (nI U) (nI Ln) u hu
  obtain ⟨⟨ha, hb, hc⟩, -, ⟨f0, f1, f2⟩, -⟩ := h
  have q1 : f_X5_in τ (nI N) (2 : Int32) (50 : Int32) = some 1 := in_in (by rw [show (2 : Int32) = nI 2 from rfl, nI_ltN (by omega) (by omega)]; omega) ((nI_leN (b := 50) (by omega) (by omega)).mpr hN.2)
  have q2 : f_X5_in τ (nI U) (1 : Int32) (50 : Int32) = some 1 := in_in (by rw [show (1 : Int32) = nI 1 from rfl, nI_ltN (by omega) (by omega)]; omega) ((nI_leN (b := 50) (by omega) (by omega)).mpr hU.2)
  have q3 : f_X5_in τ (nI Ln) (2 : Int32) (200 : Int32) = some 1 := in_in (by rw [show (2 : Int32) = nI 2 from rfl, nI_ltN (by omega) (by omega)]; omega) ((nI_leN (b := 200) (by omega) (by omega)).mpr hL.2)
  rcases Nat.lt_or_ge a 10 with ha10 | ha10
  · right
    obtain ⟨τ1, t1, t2, t3⟩ := rec_m hI
    have M : ∀ k : Nat, ((4 : Int32) + ((8 : Int32) * nI a)) + nI k = nI (4 + 8 * a + k) := fun k => tix a k
    have act : ∀ bb : Int32, f_X5_addInstrument_b113 (s2 τ1 0 (upd (upd (upd (τ.2 0) (4 + 8 * a + 0) (nI N)) (4 + 8 * a + 1) (nI U)) (4 + 8 * a + 2) (nI Ln))) bb (nI (4 + 8 * a + 3)) = some (nI a, s2 τ1 0 (upd (upd (upd (upd (upd (τ.2 0) (4 + 8 * a + 0) (nI N)) (4 + 8 * a + 1) (nI U)) (4 + 8 * a + 2) (nI Ln)) (4 + 8 * a + 3) bb) 0 (nI (a + 1)))) := by
      intro bb
      unfold f_X5_addInstrument_b113
      rw [gd_of (inb_n (by omega) (by omega)), ix_n (by omega), s2_self, s2_s2]
      simp only [lts, i0, id_eq, x0, s2_self, s2_s2]
      have e0 : upd (upd (upd (upd (τ.2 0) (4 + 8 * a + 0) (nI N)) (4 + 8 * a + 1) (nI U)) (4 + 8 * a + 2) (nI Ln)) (4 + 8 * a + 3) bb 0 = nI a := by
        unfold upd
        rw [if_neg (by omega), if_neg (by omega), if_neg (by omega), if_neg (by omega)]; exact f0
      rw [e0, nI_1, upd_self, nI_pred]
    have em : ∃ bb : Int32, f_X5_addInstrument τ (nI N) (nI U) (nI Ln) u = some (nI a, s2 τ1 0 (upd (upd (upd (upd (upd (τ.2 0) (4 + 8 * a + 0) (nI N)) (4 + 8 * a + 1) (nI U)) (4 + 8 * a + 2) (nI Ln)) (4 + 8 * a + 3) bb) 0 (nI (a + 1)))) := by
      unfold f_X5_addInstrument
      rw [q1, q2, q3]
      simp only [Option.bind_some]
      rw [if_neg (show ¬ (1 : Int32) = 0 by decide), if_neg (show ¬ (1 : Int32) = 0 by decide), if_neg (show ¬ (1 : Int32) = 0 by decide), i0, x0, f0]
      simp only [id_eq]
      rw [if_neg (show ¬ nI a = (10 : Int32) by rw [show (10 : Int32) = nI 10 from rfl, nI_eq (by omega) (by omega)]; omega), t1, Option.bind_some, t2, f0]
      simp only [lt]
      rw [show ((4 : Int32) + (8 : Int32) * nI a) + (0 : Int32) = nI (4 + 8 * a + 0) from M 0, show ((4 : Int32) + (8 : Int32) * nI a) + (1 : Int32) = nI (4 + 8 * a + 1) from M 1, show ((4 : Int32) + (8 : Int32) * nI a) + (2 : Int32) = nI (4 + 8 * a + 2) from M 2, show ((4 : Int32) + (8 : Int32) * nI a) + (3 : Int32) = nI (4 + 8 * a + 3) from M 3]
      have G : ∀ (j : Nat), j < 624 → ∀ o : Option (Int32 × Sg), gd (inb (nI j) 624) o = o := fun j hj o => gd_of (inb_n hj (by omega))
      simp only [G (4 + 8 * a + 0) (by omega), G (4 + 8 * a + 1) (by omega), G (4 + 8 * a + 2) (by omega), lts, ix_n (show 4 + 8 * a + 0 < 2 ^ 31 by omega), ix_n (show 4 + 8 * a + 1 < 2 ^ 31 by omega), ix_n (show 4 + 8 * a + 2 < 2 ^ 31 by omega), s2_self, s2_s2]
      rcases hu with rfl | rfl
      · rw [if_pos rfl]; exact ⟨0, act 0⟩
      · rw [if_neg (by decide)]; exact ⟨1, act 1⟩
    obtain ⟨bb, em⟩ := em
    refine ⟨ha10, s.acts em (t3.same rfl (s2_ne (by omega))) ⟨fun x hx0 hx => ?_, by rw [s2_self, upd_self]⟩⟩
    rw [s2_self, upd_ne (by omega), upd_ne (by omega), upd_ne (by omega), upd_ne (by omega), upd_ne (by omega)]
  · left
    have : a = 10 := by omega
    subst this
    refine ⟨rfl, s.stays ?_⟩
    unfold f_X5_addInstrument
    rw [q1, q2, q3]
    simp only [Option.bind_some]
    rw [if_neg (show ¬ (1 : Int32) = 0 by decide), if_neg (show ¬ (1 : Int32) = 0 by decide), if_neg (show ¬ (1 : Int32) = 0 by decide), i0, x0, f0]
    simp only [id_eq]
    rw [if_pos (by decide)]
theorem a_teach (hI : Inv σ τ) (h : SI σ a b c (τ.2 0)) (hp : p < b) {tr : Nat} (ht : 1 ≤ tr ∧ tr ≤ 3) :
    (τ.2 0 (84 + 5 * p + 2) ||| ((1 : Int32) <<< ((nI tr - (1 : Int32)) &&& 31)) = τ.2 0 (84 + 5 * p + 2) ∧ Stays σ τ (f_X4_teach σ (nI p) (nI tr)) (-10000005)) ∨
    (¬ τ.2 0 (84 + 5 * p + 2) ||| ((1 : Int32) <<< ((nI tr - (1 : Int32)) &&& 31)) = τ.2 0 (84 + 5 * p + 2) ∧ Acts σ τ (f_X4_teach σ (nI p) (nI tr)) (τ.2 0 (84 + 5 * p + 2) ||| ((1 : Int32) <<< ((nI tr - (1 : Int32)) &&& 31))) (fun g => g = upd (τ.2 0) (84 + 5 * p + 2) (τ.2 0 (84 + 5 * p + 2) ||| ((1 : Int32) <<< ((nI tr - (1 : Int32)) &&& 31))))) := by
  have s := sim_teach hI (nI p) (nI tr)
  obtain ⟨⟨ha, hb, hc⟩, -, ⟨f0, f1, f2⟩, -⟩ := h
  obtain ⟨τ1, t1, t2, t3⟩ := rec_m hI
  have pre : f_X5_teach τ (nI p) (nI tr) = (if τ.2 0 (84 + 5 * p + 2) ||| ((1 : Int32) <<< ((nI tr - (1 : Int32)) &&& 31)) = τ.2 0 (84 + 5 * p + 2) then some ((-10000005 : Int32), τ) else some (τ.2 0 (84 + 5 * p + 2) ||| ((1 : Int32) <<< ((nI tr - (1 : Int32)) &&& 31)), s2 τ1 0 (upd (τ.2 0) (84 + 5 * p + 2) (τ.2 0 (84 + 5 * p + 2) ||| ((1 : Int32) <<< ((nI tr - (1 : Int32)) &&& 31)))))) := by
    unfold f_X5_teach
    rw [noScholar_in f1 hp (by omega), Option.bind_some, if_pos rfl, in_in (hi := (3 : Int32)) (by rw [show (1 : Int32) = nI 1 from rfl, nI_ltN (by omega) (by omega)]; omega) ((nI_leN (b := 3) (by omega) (by omega)).mpr ht.2), Option.bind_some, if_neg (show ¬ (1 : Int32) = 0 by decide), scholar_2 (by omega), Option.bind_some]
    simp only [lt]
    rw [Option.bind_some, t1, Option.bind_some, show ((84 : Int32) + ((5 : Int32) * nI p)) + (2 : Int32) = nI (84 + 5 * p + 2) from six p 2, gd_of (inb_n (by omega) (by omega)), ix_n (by omega)]
    simp only [lts]
    rw [t2]
  by_cases e : τ.2 0 (84 + 5 * p + 2) ||| ((1 : Int32) <<< ((nI tr - (1 : Int32)) &&& 31)) = τ.2 0 (84 + 5 * p + 2)
  · left; exact ⟨e, s.stays (by rw [pre, if_pos e])⟩
  · right
    rw [if_neg e] at pre
    exact ⟨e, s.acts pre (t3.same rfl (s2_ne (by omega))) s2_self⟩
theorem a_train (hI : Inv σ τ) (h : SI σ a b c (τ.2 0)) (hp : p < b) {e : Int} {y hh : Nat} (he : -50 ≤ e ∧ e ≤ 50) (hy : y < 16) (hh16 : hh < 16) (k1 : τ.2 0 (84 + 5 * p + 1) = nI hh) :
    (nI (hh ^^^ y) = 0 ∧ τ.2 0 (84 + 5 * p) = iI e ∧ Stays σ τ (f_X4_train σ (nI p) (iI e) (nI y)) (-10000005)) ∨
    (¬ (nI (hh ^^^ y) = 0 ∧ τ.2 0 (84 + 5 * p) = iI e) ∧ Acts σ τ (f_X4_train σ (nI p) (iI e) (nI y)) (nI (pop (hh ^^^ y))) (fun g => g = upd (upd (τ.2 0) (84 + 5 * p + 0) (iI e)) (84 + 5 * p + 1) (nI y))) := by
  have s := sim_train hI (nI p) (iI e) (nI y)
  obtain ⟨⟨ha, hb, hc⟩, -, ⟨f0, f1, f2⟩, -⟩ := h
  obtain ⟨b1, b2, b3⟩ := xor_bits hh hh16 y hy
  have ok : f_X5_isScholar τ (iI e) (nI y) = some 1 := by
    unfold f_X5_isScholar
    rw [in_in (by rw [show (-50 : Int32) = iI (-50) from rfl, iI_lt ⟨by omega, by omega⟩ ⟨by omega, by omega⟩]; omega) (by rw [show (50 : Int32) = iI 50 from rfl, iI_le ⟨by omega, by omega⟩ ⟨by omega, by omega⟩]; omega), Option.bind_some, if_neg (show ¬ (1 : Int32) = 0 by decide), in_in (hi := (15 : Int32)) (nI_lt0 (by omega)) ((nI_leN (b := 15) (by omega) (by omega)).mpr (by omega)), Option.bind_some, if_neg (show ¬ (1 : Int32) = 0 by decide)]
  have pre : f_X5_train τ (nI p) (iI e) (nI y) = (if nI (hh ^^^ y) = 0 then (if τ.2 0 (84 + 5 * p) = iI e then some ((-10000005 : Int32), τ) else f_X5_train_b50 τ (nI p) (iI e) (nI y) (nI (hh ^^^ y))) else f_X5_train_b50 τ (nI p) (iI e) (nI y) (nI (hh ^^^ y))) := by
    unfold f_X5_train
    rw [noScholar_in f1 hp (by omega), Option.bind_some, if_pos rfl, ok, Option.bind_some, if_neg (show ¬ (1 : Int32) = 0 by decide), scholar_1 (by omega), scholar_0 (by omega), Option.bind_some, k1]
    simp only [lt]
    rw [b1, Option.bind_some]
  have fin : ∃ ρ, f_X5_train_b50 τ (nI p) (iI e) (nI y) (nI (hh ^^^ y)) = some (nI (pop (hh ^^^ y)), ρ) ∧ Rec τ ρ ∧ ρ.2 0 = upd (upd (τ.2 0) (84 + 5 * p + 0) (iI e)) (84 + 5 * p + 1) (nI y) := by
    obtain ⟨τ1, t1, t2, t3⟩ := rec_m hI
    unfold f_X5_train_b50
    rw [t1, Option.bind_some, show ((84 : Int32) + ((5 : Int32) * nI p)) + (0 : Int32) = nI (84 + 5 * p + 0) from six p 0, show ((84 : Int32) + ((5 : Int32) * nI p)) + (1 : Int32) = nI (84 + 5 * p + 1) from six p 1, gd_of (inb_n (by omega) (by omega)), ix_n (by omega)]
    simp only [lts]
    rw [gd_of (inb_n (by omega) (by omega)), ix_n (by omega), s2_self, s2_s2, pop_M b2, t2]
    exact ⟨_, rfl, t3.same rfl (s2_ne (by omega)), s2_self⟩
  obtain ⟨ρ, g1, g2, g3⟩ := fin
  by_cases e4 : nI (hh ^^^ y) = 0
  · by_cases e5 : τ.2 0 (84 + 5 * p) = iI e
    · left; exact ⟨e4, e5, s.stays (by rw [pre, if_pos e4, if_pos e5])⟩
    · right; exact ⟨fun z => e5 z.2, s.acts (by rw [pre, if_pos e4, if_neg e5]; exact g1) g2 g3⟩
  · right; exact ⟨fun z => e4 z.1, s.acts (by rw [pre, if_neg e4]; exact g1) g2 g3⟩
end EF2
