/-! THE PAPERS by the law: its walk. -/
section PB
variable {σ : Sg} {a b c p q : Nat} {f : Nat → Int32}
theorem pap_tail (h : SI σ a b c f) {k s : Nat} {ρ : Sg} {v5 due : Int32} {K : Sg × Sg → Int32 → Int32 → Option (Int32 × Sg)} (hq : k < c) (e5 : f (144 + 8 * k + 5) = nI s) (hs : s ≤ 3) (hdue : f (144 + 8 * k + 4) = due) :
    f_L_papers_b201 K (σ, ρ) v5 (nI k) (f (144 + 8 * k + 4)) (nI s) due = K (σ, ρ) v5 (nI (k + 1)) := by
  have hc := h.1.2.2
  have v3 := h.2.2.2.2.2.2.2.2.1
  obtain ⟨p1, i1_, x1_, k1, s1_, -, -, -, -, -, -, a7, a8, a9, a10, a11⟩ := v3 k hq
  have ss : s1_ = s := by rw [a9, nI_eq (by omega) (by omega)] at e5; exact e5
  subst ss
  unfold f_L_papers_b201 f_L_papers_b240 f_L_papers_b250 f_L_papers_b271 f_L_papers_b281
  rw [if_pos hdue, a7, if_neg (nI_lt0 (by omega)), if_neg (by rw [show (10 : Int32) = nI 10 from rfl, nI_ltN (by omega) (by omega)]; omega)]
  rw [show f_X4_paper (σ, ρ).1 (nI k) (6 : Int32) = _ from r_pap67 (k := 6) h hq (by omega), show f_X4_paper (σ, ρ).1 (nI k) (7 : Int32) = _ from r_pap67 (k := 7) h hq (by omega), a9]
  simp only [Option.bind_some, lt]
  rw [nI_1]
  by_cases s0 : s1_ = 0
  · subst s0
    have z : nI 0 = (0 : Int32) := rfl
    simp only [z, if_true]
  · obtain ⟨cs, hp, w1, w2, w3, w4, -⟩ := a11 s0
    have ne : ¬ nI s1_ = 0 := nI_ne0 (by omega) (by omega)
    have n6 : ¬ nI cs = (-10000005 : Int32) := by rw [show (-10000005 : Int32) = iI (-10000005) from rfl, nI_iI, iI_eq ⟨by omega, by omega⟩ ⟨by omega, by omega⟩]; omega
    have n7 : ¬ iI hp = (-10000005 : Int32) := by rw [show (-10000005 : Int32) = iI (-10000005) from rfl, iI_eq ⟨by omega, by omega⟩ ⟨by omega, by omega⟩]; omega
    simp only [ne, if_false, w1, w3, n6, n7, if_true]
theorem pap_mid (h : SI σ a b c f) (hJ : J f a c) {k s w : Nat} {ρ : Sg} {v5 L : Int32} {K : Sg × Sg → Int32 → Int32 → Option (Int32 × Sg)} (hq : k < c) (hp : p < 12) (e5 : f (144 + 8 * k + 5) = nI s) (hs : s ≤ 3) (hw : w ≤ 10)
    (d1 : s < 2 → f (144 + 8 * k + 4) = nI w) (d2 : s = 2 → f (144 + 8 * k + 4) = nI w + f (144 + 8 * k + 7)) (d3 : s = 3 → f (144 + 8 * k + 4) = nI (w - 1)) :
    f_L_papers_b140 K (σ, ρ) v5 (nI k) (f (144 + 8 * k + 4)) (nI s) (nI w) L (nI p) = K (σ, s2 (s2 ρ 2 (upd (ρ.2 2) p L)) 3 (upd (ρ.2 3) s (ρ.2 3 s + 1))) (v5 + f (144 + 8 * k + 4)) (nI (k + 1)) := by
  unfold f_L_papers_b140
  rw [gd_of (inb_n (by omega) (by omega)), ix_n (by omega)]
  simp only [lts, lt]
  rw [gd_of (inb_n (by omega) (by omega)), gd_of (inb_n (by omega) (by omega)), ix_n (by omega), s2_ne (by omega)]
  have z : (0 : Int32) = nI 0 := rfl
  by_cases s2' : s < 2
  · rw [if_neg (by rw [show (2 : Int32) = nI 2 from rfl, nI_leN (by omega) (by omega)]; omega)]
    exact pap_tail h hq e5 hs (d1 s2')
  · rw [if_pos (by rw [show (2 : Int32) = nI 2 from rfl, nI_leN (by omega) (by omega)]; omega)]
    by_cases s3 : s = 2
    · rw [if_pos (show nI s = (2 : Int32) by rw [s3]; rfl), show f_X4_paper σ (nI k) (7 : Int32) = _ from r_pap67 (k := 7) h hq (by omega), Option.bind_some, if_neg (by rw [e5]; exact nI_ne0 (by omega) (by omega))]
      exact pap_tail h hq e5 hs (d2 s3)
    · rw [if_neg (show ¬ nI s = (2 : Int32) by rw [show (2 : Int32) = nI 2 from rfl, nI_eq (by omega) (by omega)]; exact s3)]
      have e := d3 (by omega)
      by_cases w0 : w = 0
      · rw [if_pos (by rw [z, nI_leN (by omega) (by omega)]; omega)]
        exact pap_tail h hq e5 hs (by rw [e, w0]; rfl)
      · rw [if_neg (by rw [z, nI_leN (by omega) (by omega)]; omega), show nI w - (1 : Int32) = nI (w - 1) by
          rw [show nI w = nI ((w - 1) + 1) by rw [show w - 1 + 1 = w by omega], nI_pred]]
        exact pap_tail h hq e5 hs e
theorem pap_last (h : SI σ a b c f) {ρ : Sg} (hPI : PI f c ρ.2) : ∀ (m n j : Nat), m + j = b → m < n → f_L_papers_b295 n (σ, ρ) (sumI (fun q => f (144 + 8 * q + 4)) c) (nI j) = some (1, σ) := by
  obtain ⟨a0, a1, a2, a3⟩ := hPI
  have hb := h.1.2.1
  have v3 := h.2.2.2.2.2.2.2.2.1
  intro m
  induction m with
  | zero =>
    intro n j hm hn
    obtain ⟨n, rfl⟩ : ∃ z, n = z + 1 := ⟨n - 1, by omega⟩
    have hj : j = b := by omega
    subst hj
    rw [f_L_papers_b295.eq_2]
    rw [show f_X4_count (σ, ρ).1 (1 : Int32) = _ from r_cnt1 h, Option.bind_some, if_pos (Int32.le_refl _), show f_X4_count (σ, ρ).1 (3 : Int32) = _ from r_cnt3 h, Option.bind_some, gd_of (show inb (1 : Int32) 4 = true by decide), show f_X4_count (σ, ρ).1 (4 : Int32) = _ from r_cnt4 h, show f_X4_count (σ, ρ).1 (5 : Int32) = _ from r_cnt5 h, show f_X4_count (σ, ρ).1 (6 : Int32) = _ from r_cnt6 h, show f_X4_count (σ, ρ).1 (2 : Int32) = _ from r_cnt2 h]
    rw [if_pos (show nI (cntS f 1 c) = (σ, ρ).2.2 3 (ix (1 : Int32)) from (a3 1 (by omega)).symm), Option.bind_some, gd_of (show inb (2 : Int32) 4 = true by decide), if_pos (show nI (cntS f 2 c) = (σ, ρ).2.2 3 (ix (2 : Int32)) from (a3 2 (by omega)).symm), Option.bind_some, gd_of (show inb (3 : Int32) 4 = true by decide), if_pos (show nI (cntS f 3 c) = (σ, ρ).2.2 3 (ix (3 : Int32)) from (a3 3 (by omega)).symm), Option.bind_some, if_pos rfl, Option.bind_some]
    rw [show f_X4_paper (σ, ρ).1 (nI c) (0 : Int32) = _ from r_pap_none h, Option.bind_some, if_pos rfl]
  | succ m ih =>
    intro n j hm hn
    obtain ⟨n, rfl⟩ : ∃ z, n = z + 1 := ⟨n - 1, by omega⟩
    have hj : j < b := by omega
    have c60 : cntP f c j ≤ 60 := mP_le h j
    rw [f_L_papers_b295.eq_2]
    rw [show f_X4_count (σ, ρ).1 (1 : Int32) = _ from r_cnt1 h, Option.bind_some, if_neg (by rw [nI_leN (by omega) (by omega)]; omega), show f_X4_pupil (σ, ρ).1 (nI j) (3 : Int32) = _ from r_pup_3 h hj, show f_X4_pupil (σ, ρ).1 (nI j) (4 : Int32) = _ from r_pup_4 h hj, show f_X4_pupil (σ, ρ).1 (nI j) (8 : Int32) = _ from (r_pup_8 h hj).trans (low_v h j)]
    simp only [Option.bind_some, show ∀ o : Option (Int32 × Sg), gd (inb (nI j) 12) o = o from fun o => gd_of (inb_n (by omega) (by omega)), ix_n (show j < 2 ^ 31 by omega)]
    rw [a0 j (by omega), if_pos rfl, a1 j (by omega), if_pos rfl]
    unfold f_L_papers_b357
    simp only [lt]
    rw [nI_1]
    rcases lowF_v (p := j) v3 (by omega) c (Nat.le_refl _) with ⟨z1, z2⟩ | ⟨z1, -⟩
    · rw [z1, if_pos (show nI 0 = 0 from rfl), if_pos z2]
      exact ih n (j + 1) (by omega) (by omega)
    · rw [if_neg (nI_ne0 z1 (by omega)), if_pos (((a2 j (by omega)).resolve_left (by omega)).symm)]
      exact ih n (j + 1) (by omega) (by omega)
theorem pap_loop (h : SI σ a b c f) (hJ : J f a c) : ∀ (m n k : Nat) (ρ : Sg), m + k = c → m < n → PI f k ρ.2 → f_L_papers_b26 n (σ, ρ) (sumI (fun q => f (144 + 8 * q + 4)) k) (nI k) = some (1, σ) := by
  have hc := h.1.2.2
  have hb := h.1.2.1
  have v3 := h.2.2.2.2.2.2.2.2.1
  intro m
  induction m with
  | zero =>
    intro n k ρ hm hn hPI
    obtain ⟨n, rfl⟩ : ∃ z, n = z + 1 := ⟨n - 1, by omega⟩
    have hk : k = c := by omega
    subst hk
    rw [f_L_papers_b26.eq_2, show f_X4_count (σ, ρ).1 (2 : Int32) = _ from r_cnt2 h, Option.bind_some, if_pos (Int32.le_refl _)]
    exact pap_last h hPI b fuel 0 (by omega) (by unfold fuel; omega)
  | succ m ih =>
    intro n k ρ hm hn hPI
    obtain ⟨n, rfl⟩ : ∃ z, n = z + 1 := ⟨n - 1, by omega⟩
    have hk : k < c := by omega
    obtain ⟨p, _, _, _, _, e0, hpb, -⟩ := v3 k hk
    obtain ⟨i, U, x, v, k', s, e1, hi, eU, hU, e2, hx, -, e3, hv, e4, hk', e5, hs, d1, d2, d3⟩ := hJ k hk
    have i2 : ∀ o : Option (Int32 × Sg), gd (inb (nI p) 12) o = o := fun o => gd_of (inb_n (by omega) (by omega))
    have step := PI_step (f := f) (k := k) (p := p) (s := s) (ρ := ρ) (by omega) (by omega) e0 e5 hPI
    have go := ih n (k + 1) _ (by omega) (by omega) step
    have mid : ∀ (ρ' : Sg) (L : Int32), L = lowF f p (k + 1) → ρ' = s2 (s2 ρ 0 (upd (ρ.2 0) p (ρ.2 0 p + 1))) 1 (upd (ρ.2 1) p (ρ.2 1 p + f (144 + 8 * k + 4))) → f_L_papers_b140 (f_L_papers_b26 n) (σ, ρ') (sumI (fun q => f (144 + 8 * q + 4)) k) (nI k) (f (144 + 8 * k + 4)) (nI s) (nI (mkZ U x v)) L (nI p) = some (1, σ) := by
      intro ρ' L hL hρ
      rw [pap_mid h hJ hk (show p < 12 by omega) e5 hs mkZ_le (fun hs2 => by rw [e4, d1 hs2]) (fun hs2 => by
        obtain ⟨hp, g1, g2, g3⟩ := d2 hs2
        rw [e4, g1, nI_iI, nI_iI, iI_add, g3]) (fun hs2 => by rw [e4, d3 hs2]), hL, hρ]
      have q2 : ∀ t, (2 ≤ t) → (s2 (s2 ρ 0 (upd (ρ.2 0) p (ρ.2 0 p + 1))) 1 (upd (ρ.2 1) p (ρ.2 1 p + f (144 + 8 * k + 4)))).2 t = ρ.2 t := fun t ht => by rw [s2_ne (by omega), s2_ne (by omega)]
      rw [q2 2 (by omega), q2 3 (by omega)]
      exact go
    rw [f_L_papers_b26.eq_2, show f_X4_count (σ, ρ).1 (2 : Int32) = _ from r_cnt2 h, Option.bind_some, if_neg (by rw [nI_leN (by omega) (by omega)]; omega)]
    rw [show f_X4_paper (σ, ρ).1 (nI k) (0 : Int32) = _ from r_pap6 (k := 0) h hk (by omega), show f_X4_paper (σ, ρ).1 (nI k) (1 : Int32) = _ from r_pap6 (k := 1) h hk (by omega), show f_X4_paper (σ, ρ).1 (nI k) (4 : Int32) = _ from r_pap6 (k := 4) h hk (by omega), show f_X4_paper (σ, ρ).1 (nI k) (5 : Int32) = _ from r_pap6 (k := 5) h hk (by omega), show f_X4_paper (σ, ρ).1 (nI k) (2 : Int32) = _ from r_pap6 (k := 2) h hk (by omega), show f_X4_paper (σ, ρ).1 (nI k) (3 : Int32) = _ from r_pap6 (k := 3) h hk (by omega)]
    simp only [Option.bind_some, Nat.add_zero]
    rw [e0, e1, e2, e3, e5, show f_L_mark (σ, ρ).1 (nI i) (iI x) (iI v) = _ from mark_l h hi eU hU hx hv, Option.bind_some]
    simp only [i2, ix_n (show p < 2 ^ 31 by omega), lts]
    unfold f_L_papers_b131
    have q0 : (s2 (s2 ρ 0 (upd (ρ.2 0) p (ρ.2 0 p + 1))) 1 (upd ((s2 ρ 0 (upd (ρ.2 0) p (ρ.2 0 p + 1))).2 1) p ((s2 ρ 0 (upd (ρ.2 0) p (ρ.2 0 p + 1))).2 1 p + f (144 + 8 * k + 4)))) = s2 (s2 ρ 0 (upd (ρ.2 0) p (ρ.2 0 p + 1))) 1 (upd (ρ.2 1) p (ρ.2 1 p + f (144 + 8 * k + 4))) := by rw [s2_ne (by omega)]
    rw [q0]
    have q1 : (s2 (s2 ρ 0 (upd (ρ.2 0) p (ρ.2 0 p + 1))) 1 (upd (ρ.2 1) p (ρ.2 1 p + f (144 + 8 * k + 4)))).2 0 p = nI (cntP f k p + 1) := by rw [s2_ne (by omega), s2_self, upd_self, hPI.1 p (by omega), nI_1]
    have q2 : (s2 (s2 ρ 0 (upd (ρ.2 0) p (ρ.2 0 p + 1))) 1 (upd (ρ.2 1) p (ρ.2 1 p + f (144 + 8 * k + 4)))).2 2 = ρ.2 2 := by rw [s2_ne (by omega), s2_ne (by omega)]
    rw [q1, q2]
    have c60 : cntP f k p ≤ k := cntB_le _ _
    have eL : lowF f p (k + 1) = if lowF f p k = -10000005 then f (144 + 8 * k + 4) else if f (144 + 8 * k + 4) < lowF f p k then f (144 + 8 * k + 4) else lowF f p k := by rw [lowF_s, if_pos e0]
    rcases lowF_v (p := p) v3 (by omega) k (by omega) with ⟨z1, z2⟩ | ⟨z1, m2, hm2, z2⟩
    · rw [z1, if_pos (show nI (0 + 1) = (1 : Int32) from rfl)]
      exact mid _ _ (by rw [eL, if_pos z2]) rfl
    · have zn : ¬ lowF f p k = -10000005 := by rw [z2, show (-10000005 : Int32) = iI (-10000005) from rfl, nI_iI, iI_eq ⟨by omega, by omega⟩ ⟨by omega, by omega⟩]; omega
      have e2' : ρ.2 2 p = lowF f p k := (hPI.2.2.1 p (by omega)).resolve_left (by omega)
      rw [if_neg (show ¬ nI (cntP f k p + 1) = (1 : Int32) by rw [show (1 : Int32) = nI 1 from rfl, nI_eq (by omega) (by omega)]; omega), e2']
      by_cases hle : lowF f p k ≤ f (144 + 8 * k + 4)
      · rw [if_pos hle]
        exact mid _ _ (by rw [eL, if_neg zn, if_neg (Int32.not_lt.mpr hle)]) rfl
      · rw [if_neg hle]
        exact mid _ _ (by rw [eL, if_neg zn, if_pos (Int32.not_le.mp hle)]) rfl
theorem papers_ok (h : SI σ a b c f) (hJ : J f a c) : f_L_papers σ = some (1, σ) := by
  have hc := h.1.2.2
  unfold f_L_papers g_L_papers
  exact pap_loop h hJ c fuel 0 sg00 (by omega) (by unfold fuel; omega) ⟨fun p _ => rfl, fun p _ => rfl, fun p _ => Or.inl rfl, fun s _ => rfl⟩
end PB
