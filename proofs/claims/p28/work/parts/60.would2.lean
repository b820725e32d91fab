/-! WHAT WOULD BE, by the law. -/
section WO
variable {σ : Sg} {a b c p q i : Nat} {f : Nat → Int32}
def tau (f : Nat → Int32) : Sg := (fun _ => 0, fun _ => f)
theorem SI.tau (h : SI σ a b c f) : R3 a b c (σ.1 0) (σ.1 1) (σ.1 2) (σ.2 0) (σ.2 1) (σ.2 2) ((tau f).2 0) := h
theorem mark_x (h : SI σ a b c f) {i U : Nat} {x v : Int} (hi : i < a) (hU : f (4 + 8 * i + 1) = nI U) (hU2 : 1 ≤ U ∧ U ≤ 50) (hx : 0 ≤ x ∧ x ≤ 500000) (hv : -1000000 ≤ v ∧ v ≤ 2000000) : f_X2_markOf σ (nI i) (iI x) (iI v) = some (nI (mkZ U x v)) := by
  have hq : 0 ≤ ab (v - x) / (U : Int) := Int.ediv_nonneg (ab_nn _) (by omega)
  have hab : ab (v - x) ≤ 3000000 := ab_le (by omega) (by omega)
  have hqd := Int.natAbs_ediv_le_natAbs (ab (v - x)) (U : Int)
  have hab0 := ab_nn (v - x)
  have hq2 : ab (v - x) / (U : Int) ≤ 3000000 := by omega
  unfold f_X2_markOf
  rw [show f_X3_cell σ 0 (nI i) (1 : Int32) = some (nI U) from (R3.ins h hi 1 (by omega)).trans (by rw [hU]), Option.bind_some]
  simp only [lt]
  have e1 : (if 0 ≤ iI v - iI x then iI v - iI x else 0 - (iI v - iI x)) = iI (ab (v - x)) := by
    rw [iI_sub]
    have h0 : (0 ≤ iI (v - x)) ↔ 0 ≤ v - x := by rw [show (0 : Int32) = iI 0 from rfl, iI_le ⟨by omega, by omega⟩ ⟨by omega, by omega⟩]
    unfold ab
    by_cases h : 0 ≤ v - x
    · rw [if_pos (h0.mpr h), if_pos h]
    · rw [if_neg (fun q => h (h0.mp q)), if_neg h, show (0 : Int32) = iI 0 from rfl, iI_sub]; congr 1; omega
  rw [e1, nI_iI U, quot_in ⟨by omega, by omega⟩ ⟨by omega, by omega⟩ (by omega), Option.bind_some, show (10 : Int32) = iI 10 from rfl, iI_sub]
  have h0 : (0 : Int32) < iI (10 - ab (v - x) / (U : Int)) ↔ 0 < 10 - ab (v - x) / (U : Int) := by rw [show (0 : Int32) = iI 0 from rfl, iI_lt ⟨by omega, by omega⟩ ⟨by omega, by omega⟩]
  unfold mkZ
  by_cases h : 0 < 10 - ab (v - x) / (U : Int)
  · rw [if_pos (h0.mpr h), nI_iI, show (((10 - ab (v - x) / (U : Int)).toNat : Nat) : Int) = 10 - ab (v - x) / (U : Int) by omega]
  · rw [if_neg (fun q => h (h0.mp q)), show (10 - ab (v - x) / (U : Int)).toNat = 0 by omega]; rfl
/-- the answer of a pupil's three numbers -/
theorem ans_x (h : SI σ a b c f) (hi : i < a) {x e : Int} {hh kn : Nat} (hx : 0 ≤ x ∧ x ≤ 500000) (he : -50 ≤ e ∧ e ≤ 50) (hh16 : hh < 16) (hk : kn < 8) : ∃ y : Int, (-1000000 ≤ y ∧ y ≤ 2000000) ∧ f_X2_answerOf σ (nI i) (iI x) (iI e) (nI hh) (nI kn) = some (iI y) := by
  have h' := h
  have v1 := h.2.2.2.2.2.2.1
  have ha := h.1.1
  obtain ⟨⟨N, U, Ln, z, g, tr, hok⟩, -⟩ := v1 i hi
  obtain ⟨y, ρ, b1, b2, e1, e2, e3⟩ := ans_eq (σ := σ) (τ := tau f) (show i < 10 by omega) hok (R3.ins h' hi) hx he hh16 hk
  exact ⟨y, ⟨b1, b2⟩, e1⟩
theorem pup_cells (h : SI σ a b c f) (hp : p < b) : ∃ (e : Int) (hh kn : Nat), (-50 ≤ e ∧ e ≤ 50) ∧ hh < 16 ∧ kn < 8 ∧ f (84 + 5 * p) = iI e ∧ f (84 + 5 * p + 1) = nI hh ∧ f (84 + 5 * p + 2) = nI kn ∧ f_X3_cell σ 1 (nI p) (0 : Int32) = some (iI e) ∧ f_X3_cell σ 1 (nI p) (1 : Int32) = some (nI hh) ∧ f_X3_cell σ 1 (nI p) (2 : Int32) = some (nI kn) := by
  have v2 := h.2.2.2.2.2.2.2.1
  obtain ⟨e, hh, kn, k1, k2, k3, k4, k5, k6⟩ := v2 p hp
  exact ⟨e, hh, kn, k2, k4, k6, k1, k3, k5, (R3.pup (k := 0) h hp (by omega)).trans (by rw [Nat.add_zero, k1]), (R3.pup (k := 1) h hp (by omega)).trans (by rw [k3]), (R3.pup (k := 2) h hp (by omega)).trans (by rw [k5])⟩
/-- a setting within the scale is one -/
theorem set_ok (h : SI σ a b c f) (hi : i < a) {x : Int} (hx : 0 ≤ x ∧ x ≤ 500000) (hs : iI x ≤ f (4 + 8 * i + 2) * (f (4 + 8 * i) * f (4 + 8 * i + 1))) : f_X2_isNoSetting σ (nI i) (iI x) = some 0 := by
  obtain ⟨⟨ha, hb, hc⟩, ⟨r0, r1, r2⟩, -, t1, -⟩ := h
  unfold f_X2_isNoSetting
  rw [show f_X3_cell σ 0 (nI i) (8 : Int32) = some (σ.2 0 (i * 11 + 8)) from cell0 (k := 8) r0 hi ha (by omega), (t1 i hi).2.1, Option.bind_some, outside_in (by rw [show (0 : Int32) = iI 0 from rfl, iI_lt ⟨by omega, by omega⟩ ⟨by omega, by omega⟩]; omega) hs]
  rfl
theorem answer_v (h : SI σ a b c f) (hp : p < b) (hi : i < a) {x : Int} (hx : 0 ≤ x ∧ x ≤ 500000) (hs : iI x ≤ f (4 + 8 * i + 2) * (f (4 + 8 * i) * f (4 + 8 * i + 1))) {e : Int} {hh kn : Nat} {y : Int32}
    (c0 : f_X3_cell σ 1 (nI p) (0 : Int32) = some (iI e)) (c1 : f_X3_cell σ 1 (nI p) (1 : Int32) = some (nI hh)) (c2 : f_X3_cell σ 1 (nI p) (2 : Int32) = some (nI kn)) (hy : f_X2_answerOf σ (nI i) (iI x) (iI e) (nI hh) (nI kn) = some y) : f_X4_answer σ (nI p) (nI i) (iI x) = some y := by
  have h' := h
  obtain ⟨⟨ha, hb, hc⟩, ⟨r0, r1, r2⟩, -⟩ := h
  unfold f_X4_answer f_X2_answerNow
  rw [lacks_in r1 hp (by omega), Option.bind_some, if_pos rfl, lacks_in r0 hi (by omega), Option.bind_some, if_pos rfl, set_ok h' hi hx hs, Option.bind_some, if_pos rfl, c0, c1, c2]
  simp only [Option.bind_some]
  rw [hy, Option.bind_some, Option.bind_some]
theorem would_l (h : SI σ a b c f) (hJ : J f a c) (hp : p < b) {e : Int} {hh kn : Nat} (he : -50 ≤ e ∧ e ≤ 50) (hh16 : hh < 16) (hk : kn < 8)
    (c0 : f_X3_cell σ 1 (nI p) (0 : Int32) = some (iI e)) (c1 : f_X3_cell σ 1 (nI p) (1 : Int32) = some (nI hh)) (c2 : f_X3_cell σ 1 (nI p) (2 : Int32) = some (nI kn)) : ∀ (m n1 n2 j : Nat) (v : Int32), m + j = c → m < n1 → m < n2 →
    ∃ (r : Int32) (n' : Nat), f_X2_sumIfWritten_b6 σ n1 (nI p) (iI e) (nI hh) (nI kn) v (nI j) = some r ∧ f_L_would_b4 σ n2 (nI p) v (nI j) = f_L_would_b4 σ (n' + 1) (nI p) r (nI c) := by
  have hc := h.1.2.2
  have hb := h.1.2.1
  have r2 := h.2.1.2.2
  intro m
  induction m with
  | zero =>
    intro n1 n2 j v hm h1 h2
    obtain ⟨n1, rfl⟩ : ∃ z, n1 = z + 1 := ⟨n1 - 1, by omega⟩
    obtain ⟨n2, rfl⟩ : ∃ z, n2 = z + 1 := ⟨n2 - 1, by omega⟩
    have hj : j = c := by omega
    subst hj
    refine ⟨v, n2, ?_, rfl⟩
    rw [f_X2_sumIfWritten_b6.eq_2]
    unfold f_X3_size
    rw [Option.bind_some, r2, if_pos (Int32.le_refl _)]
  | succ m ih =>
    intro n1 n2 j v hm h1 h2
    obtain ⟨n1, rfl⟩ : ∃ z, n1 = z + 1 := ⟨n1 - 1, by omega⟩
    obtain ⟨n2, rfl⟩ : ∃ z, n2 = z + 1 := ⟨n2 - 1, by omega⟩
    have hj : j < c := by omega
    have nle : ¬ nI c ≤ nI j := by rw [nI_leN (by omega) (by omega)]; omega
    rw [f_X2_sumIfWritten_b6.eq_2, f_L_would_b4.eq_2, r_cnt2 h, show f_X3_cell σ 2 (nI j) (0 : Int32) = some (f (144 + 8 * j)) from R3.pap (k := 0) h hj (by omega), show f_X4_paper σ (nI j) (0 : Int32) = _ from r_pap6 (k := 0) h hj (by omega)]
    unfold f_X3_size f_X2_sumIfWritten_b47 f_L_would_b59
    simp only [Option.bind_some, lt, Nat.add_zero]
    rw [r2, if_neg nle, if_neg nle]
    by_cases h0 : f (144 + 8 * j) = nI p
    · rw [if_pos h0, if_pos h0]
      obtain ⟨i, U, x, v', k', s, e1, hi, eU, hU, e2, hx, hxs, -⟩ := hJ j hj
      obtain ⟨y, hy, ey⟩ := ans_x h hi hx he hh16 hk
      have em : f_X2_markIfWritten σ (nI j) (iI e) (nI hh) (nI kn) = some (nI (mkZ U x y)) := by
        unfold f_X2_markIfWritten
        rw [show f_X3_cell σ 2 (nI j) (1 : Int32) = some (nI i) from (R3.pap (k := 1) h hj (by omega)).trans (by rw [e1]), show f_X3_cell σ 2 (nI j) (2 : Int32) = some (iI x) from (R3.pap (k := 2) h hj (by omega)).trans (by rw [e2])]
        simp only [Option.bind_some]
        rw [ey, Option.bind_some, mark_x h hi eU hU hx hy, Option.bind_some]
      rw [em, Option.bind_some, show f_X4_paper σ (nI j) (1 : Int32) = some (nI i) from (r_pap6 (k := 1) h hj (by omega)).trans (by rw [e1]), show f_X4_paper σ (nI j) (2 : Int32) = some (iI x) from (r_pap6 (k := 2) h hj (by omega)).trans (by rw [e2])]
      simp only [Option.bind_some]
      rw [answer_v h hp hi hx hxs c0 c1 c2 ey, Option.bind_some, mark_l h hi eU hU hx hy, Option.bind_some, nI_1]
      exact ih n1 n2 (j + 1) _ (by omega) (by omega) (by omega)
    · rw [if_neg h0, if_neg h0, nI_1]
      exact ih n1 n2 (j + 1) _ (by omega) (by omega) (by omega)
theorem would_ok (h : SI σ a b c f) (hJ : J f a c) (hp : p < b) : f_L_would σ (nI p) = some 1 := by
  have hc := h.1.2.2
  have hb := h.1.2.1
  have r1 := h.2.1.2.1
  obtain ⟨e, hh, kn, he, hh16, hk, k1, k2, k3, c0, c1, c2⟩ := pup_cells h hp
  obtain ⟨r, n', e1, e2⟩ := would_l h hJ hp he hh16 hk c0 c1 c2 c fuel fuel 0 0 (by omega) (by unfold fuel; omega) (by unfold fuel; omega)
  have eS : f_X2_sumIfWritten σ (nI p) (iI e) (nI hh) (nI kn) = some r := e1
  have w0 : f_X4_would σ (nI p) (0 : Int32) = some r := by
    unfold f_X4_would f_X4_would_b39 f_X4_would_b65 f_X4_would_b92 f_X4_would_b120
    rw [lacks_in r1 hp (by omega), Option.bind_some, if_pos rfl, outside_in (by decide) (by decide), Option.bind_some, if_pos rfl, if_neg (by decide), if_pos rfl, if_neg (by decide), c0, Option.bind_some, if_pos rfl, if_neg (by decide), c1, Option.bind_some, if_pos rfl, if_neg (by decide), c2, Option.bind_some, eS, Option.bind_some]
  have w5 : f_X4_would σ (nI p) (5 : Int32) = some (-10000002) := by
    unfold f_X4_would
    rw [lacks_in r1 hp (by omega), Option.bind_some, if_pos rfl, outside_hi (by decide), Option.bind_some, if_neg (by decide)]
  have w1 : iI e = 0 → f_X4_would σ (nI p) (1 : Int32) = some r := fun z => by
    unfold f_X4_would f_X4_would_b39 f_X4_would_b49 f_X4_would_b65 f_X4_would_b92 f_X4_would_b120
    rw [lacks_in r1 hp (by omega), Option.bind_some, if_pos rfl, outside_in (by decide) (by decide), Option.bind_some, if_pos rfl, if_neg (by decide), if_pos rfl, if_pos rfl, if_pos rfl, if_neg (by decide), c1, Option.bind_some, if_pos rfl, if_neg (by decide), c2, Option.bind_some, ← z, eS, Option.bind_some]
  have w2 : nI hh = 0 → f_X4_would σ (nI p) (2 : Int32) = some r := fun z => by
    unfold f_X4_would f_X4_would_b39 f_X4_would_b65 f_X4_would_b76 f_X4_would_b92 f_X4_would_b120
    rw [lacks_in r1 hp (by omega), Option.bind_some, if_pos rfl, outside_in (by decide) (by decide), Option.bind_some, if_pos rfl, if_neg (by decide), if_pos rfl, if_neg (by decide), c0, Option.bind_some, if_pos rfl, if_pos rfl, if_pos rfl, if_neg (by decide), c2, Option.bind_some, ← z, eS, Option.bind_some]
  have w3 : nI kn = 7 → f_X4_would σ (nI p) (3 : Int32) = some r := fun z => by
    unfold f_X4_would f_X4_would_b39 f_X4_would_b65 f_X4_would_b92 f_X4_would_b103 f_X4_would_b120
    rw [lacks_in r1 hp (by omega), Option.bind_some, if_pos rfl, outside_in (by decide) (by decide), Option.bind_some, if_pos rfl, if_neg (by decide), if_pos rfl, if_neg (by decide), c0, Option.bind_some, if_pos rfl, if_neg (by decide), c1, Option.bind_some, if_pos rfl, if_pos rfl, ← z, eS, Option.bind_some]
  have a2 : f_L_would_b124 σ (nI p) r = some 1 := by
    unfold f_L_would_b124 f_L_would_b145
    rw [show f_X4_pupil σ (nI p) (2 : Int32) = some (nI kn) from (r_pup3 (k := 2) h hp (by omega)).trans (by rw [k3]), Option.bind_some]
    by_cases z : nI kn = 7
    · rw [if_pos z, w3 z, Option.bind_some, if_pos rfl]
    · rw [if_neg z]
  have a1 : f_L_would_b105 σ (nI p) r = some 1 := by
    unfold f_L_would_b105
    rw [show f_X4_pupil σ (nI p) (1 : Int32) = some (nI hh) from (r_pup3 (k := 1) h hp (by omega)).trans (by rw [k2]), Option.bind_some]
    by_cases z : nI hh = 0
    · rw [if_pos z, w2 z, Option.bind_some, if_pos rfl]; exact a2
    · rw [if_neg z]; exact a2
  unfold f_L_would
  rw [show f_L_would_b4 σ fuel (nI p) (0 : Int32) (0 : Int32) = _ from e2, f_L_would_b4.eq_2, r_cnt2 h, Option.bind_some, if_pos (Int32.le_refl _), w0, Option.bind_some, if_pos rfl, w5, Option.bind_some, if_pos rfl, show f_X4_pupil σ (nI p) (0 : Int32) = some (iI e) from (r_pup3 (k := 0) h hp (by omega)).trans (by rw [Nat.add_zero, k1]), Option.bind_some]
  by_cases z : iI e = 0
  · rw [if_pos z, w1 z, Option.bind_some, if_pos rfl]; exact a1
  · rw [if_neg z]; exact a1
end WO
