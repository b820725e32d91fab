/-! A NEW PAPER: write. -/
def fX (σ σ' : Sg) : Prop := (∀ k, 3 ≤ k → σ'.1 k = σ.1 k) ∧ ∀ k, 3 ≤ k → σ'.2 k = σ.2 k
def fM (τ τ' : Sg) : Prop := (∀ k, (k < 2 ∨ 7 < k) → τ'.1 k = τ.1 k) ∧ ∀ k, k ≠ 0 → τ'.2 k = τ.2 k
theorem fX.sxn {σ σ' : Sg} (h : fX σ σ') : sxn σ σ' := ⟨fun k a _ _ => h.1 k a, fun k a _ => h.2 k a⟩
theorem fM.smn {τ τ' : Sg} (h : fM τ τ') : smn τ τ' := ⟨fun k a => h.1 k (by omega), fun k a => h.2 k (by omega)⟩
theorem fX_rf {σ : Sg} : fX σ σ := ⟨fun _ _ => rfl, fun _ _ => rfl⟩
theorem fM_rf {σ : Sg} : fM σ σ := ⟨fun _ _ => rfl, fun _ _ => rfl⟩
theorem fX_tr {σ τ ρ : Sg} (h : fX σ τ) (h2 : fX τ ρ) : fX σ ρ := ⟨fun k a => (h2.1 k a).trans (h.1 k a), fun k a => (h2.2 k a).trans (h.2 k a)⟩
theorem fM_tr {σ τ ρ : Sg} (h : fM σ τ) (h2 : fM τ ρ) : fM σ ρ := ⟨fun k a => (h2.1 k a).trans (h.1 k a), fun k a => (h2.2 k a).trans (h.2 k a)⟩
theorem R3.addQ {a b c p i mk : Nat} {x v : Int} {rt rp rq : Int32} {ct cp cq f ct' cp' cq' f' : Nat → Int32} (h : R3 a b c rt rp rq ct cp cq f) (hc60 : c < 60) (hp : p < b) (hi : i < a) (hx : 0 ≤ x ∧ x ≤ 500000) (hmk : mk ≤ 10)
    (y0 : cq' (c * 8) = nI p) (y1 : cq' (c * 8 + 1) = nI i) (y2 : cq' (c * 8 + 2) = iI x) (y3 : cq' (c * 8 + 3) = iI v) (y4 : cq' (c * 8 + 4) = nI mk) (y5 : cq' (c * 8 + 5) = 0) (y6 : cq' (c * 8 + 6) = -10000005) (y7 : cq' (c * 8 + 7) = -10000005) (yo : ∀ j, (j < c * 8 ∨ c * 8 + 8 ≤ j) → cq' j = cq j)
    (p3 : cp' (p * 9 + 3) = cp (p * 9 + 3) + 1) (p4 : cp' (p * 9 + 4) = cp (p * 9 + 4) + nI mk) (po : ∀ j, j ≠ p * 9 + 3 → j ≠ p * 9 + 4 → cp' j = cp j)
    (t10 : ct' (i * 11 + 10) = ct (i * 11 + 10) + 1) (to : ∀ j, j ≠ i * 11 + 10 → ct' j = ct j)
    (m0 : f' (144 + 8 * c) = nI p) (m1 : f' (144 + 8 * c + 1) = nI i) (m2 : f' (144 + 8 * c + 2) = iI x) (m3 : f' (144 + 8 * c + 3) = iI v) (m4 : f' (144 + 8 * c + 4) = nI mk) (m5 : f' (144 + 8 * c + 5) = 0) (mc : f' 2 = nI (c + 1)) (mo : ∀ j, j ≠ 2 → (j < 144 + 8 * c ∨ 144 + 8 * c + 6 ≤ j) → f' j = f j) : R3 a b (c + 1) rt rp (nI (c + 1)) ct' cp' cq' f' := by
  obtain ⟨⟨ha, hb, hc⟩, ⟨rt_, rp_, -⟩, ⟨f0, f1, f2⟩, t1, t2, t3, v1, v2, v3, v4, v5, v6⟩ := h
  have eI : ∀ k, cntI f' (c + 1) k = cntI f c k + (if decide (f' (144 + 8 * c + 1) = nI k) = true then 1 else 0) := fun k => by
    unfold cntI; rw [cntB_s]; congr 1
    exact cntB_congr c fun q hq => by rw [mo _ (by omega) (by omega)]
  have eP : ∀ k, cntP f' (c + 1) k = cntP f c k + (if decide (f' (144 + 8 * c) = nI k) = true then 1 else 0) := fun k => by
    unfold cntP; rw [cntB_s]; congr 1
    exact cntB_congr c fun q hq => by rw [mo _ (by omega) (by omega)]
  have eA : cntA f' (c + 1) = cntA f c := by
    unfold cntA; rw [cntB_s, m5, if_neg (by decide), Nat.add_zero]
    exact cntB_congr c fun q hq => by rw [mo _ (by omega) (by omega)]
  have eM : ∀ v, sumI (mks f' v) (c + 1) = sumI (mks f v) c + (if f' (144 + 8 * c) = v then f' (144 + 8 * c + 4) else 0) := fun v => by
    show sumI (mks f' v) c + mks f' v c = _
    congr 1
    exact sumI_congr c fun q hq => by unfold mks; rw [mo _ (by omega) (by omega), mo _ (by omega) (by omega)]
  refine ⟨⟨ha, hb, by omega⟩, ⟨rt_, rp_, rfl⟩, ⟨by rw [mo _ (by omega) (by omega)]; exact f0, by rw [mo _ (by omega) (by omega)]; exact f1, mc⟩, fun j hj => ?_, fun j hj => ?_, fun q hq => ?_, fun j hj => ?_, fun j hj => ?_, fun q hq => ?_, fun j hj hj2 k hk hk2 => ?_, fun p hp hp2 k hk hk2 => ?_, by rw [eA]; exact v6⟩
  · obtain ⟨q1, q2, q3, q4⟩ := t1 j hj
    refine ⟨fun k hk => ?_, ?_, ?_, ?_⟩
    · rw [to _ (by omega), mo _ (by omega) (by omega)]; exact q1 k hk
    · rw [to _ (by omega), mo _ (by omega) (by omega), mo _ (by omega) (by omega), mo _ (by omega) (by omega)]; exact q2
    · rw [to _ (by omega), mo _ (by omega) (by omega), mo _ (by omega) (by omega), mo _ (by omega) (by omega)]; exact q3
    · rw [eI, m1]
      by_cases e : j = i
      · subst e
        rw [t10, q4, nI_1, if_pos (by rw [decide_eq_true_eq])]
      · rw [to _ (by omega), q4, if_neg (by rw [decide_eq_true_eq, nI_eq (by omega) (by omega)]; omega)]; rfl
  · obtain ⟨q1, q2, q3, q4, q5⟩ := t2 j hj
    refine ⟨fun k hk => ?_, ?_, ?_, ?_, ?_⟩
    · rw [po _ (by omega) (by omega), mo _ (by omega) (by omega)]; exact q1 k hk
    · rw [eP, m0]
      by_cases e : j = p
      · subst e
        rw [p3, q2, nI_1, if_pos (by rw [decide_eq_true_eq])]
      · rw [po _ (by omega) (by omega), q2, if_neg (by rw [decide_eq_true_eq, nI_eq (by omega) (by omega)]; omega)]; rfl
    · rw [eM, m0, m4]
      by_cases e : j = p
      · subst e
        rw [p4, q3, if_pos rfl]
      · rw [po _ (by omega) (by omega), q3, if_neg (by rw [nI_eq (by omega) (by omega)]; omega), Int32.add_zero]
    · rw [po _ (by omega) (by omega), mo _ (by omega) (by omega)]; exact q4
    · rw [po _ (by omega) (by omega), mo _ (by omega) (by omega)]; exact q5
  · by_cases e : q = c
    · subst e
      refine ⟨fun k hk => ?_, fun k hk => ?_⟩
      · have : k = 0 ∨ k = 1 ∨ k = 2 ∨ k = 3 ∨ k = 4 ∨ k = 5 := by omega
        rcases this with rfl | rfl | rfl | rfl | rfl | rfl
        · exact y0.trans m0.symm
        · exact y1.trans m1.symm
        · exact y2.trans m2.symm
        · exact y3.trans m3.symm
        · exact y4.trans m4.symm
        · exact y5.trans m5.symm
      · rw [m5, if_pos rfl]
        rcases hk with rfl | rfl
        · exact y6
        · exact y7
    · obtain ⟨q1, q2⟩ := t3 q (by omega)
      exact ⟨fun k hk => by rw [yo _ (by omega), mo _ (by omega) (by omega)]; exact q1 k hk, fun k hk => by rw [yo _ (by omega), mo _ (by omega) (by omega), mo _ (by omega) (by omega)]; exact q2 k hk⟩
  · obtain ⟨⟨N, U, Ln, z, g, tr, q1, q2, q3, q4, q5, q6, q7⟩, q8, q9⟩ := v1 j hj
    refine ⟨⟨N, U, Ln, z, g, tr, ?_, ?_, ?_, ?_, ?_, ?_, q7⟩, ?_, ?_⟩ <;> rw [mo _ (by omega) (by omega)] <;> assumption
  · obtain ⟨e, hh, k, q1, q2, q3, q4, q5, q6⟩ := v2 j hj
    exact ⟨e, hh, k, by rw [mo _ (by omega) (by omega)]; exact q1, q2, by rw [mo _ (by omega) (by omega)]; exact q3, q4, by rw [mo _ (by omega) (by omega)]; exact q5, q6⟩
  · by_cases e : q = c
    · subst e
      exact ⟨p, i, x, mk, 0, m0, hp, m1, hi, m2, hx, m4, hmk, m5, by omega, fun h => absurd rfl h⟩
    · exact (v3 q (by omega)).congr fun k hk => mo _ (by omega) (by omega)
  · rw [mo _ (by omega) (by omega)]; exact v4 j hj hj2 k hk hk2
  · rw [mo _ (by omega) (by omega)]; exact v5 p hp hp2 k hk hk2
section WRITE
variable {σ τ : Sg} {a b c t i k p q : Nat} {g : Nat → Int32}
theorem inc0 {v : Int32} (h : σ.1 0 = nI a) (hi : i < a) (ha : a ≤ 10) (hk : k < 11) : f_X3_increase σ 0 (nI i) (nI k) v = some (s2 σ 0 (upd (σ.2 0) (i * 11 + k) (σ.2 0 (i * 11 + k) + v))) := inc_in (t := 0) h hi ha hk
theorem inc1 {v : Int32} (h : σ.1 1 = nI a) (hi : i < a) (ha : a ≤ 12) (hk : k < 9) : f_X3_increase σ 1 (nI i) (nI k) v = some (s2 σ 1 (upd (σ.2 1) (i * 9 + k) (σ.2 1 (i * 9 + k) + v))) := inc_in (t := 1) h hi ha hk
theorem inc2 {v : Int32} (h : σ.1 2 = nI a) (hi : i < a) (ha : a ≤ 60) (hk : k < 8) : f_X3_increase σ 2 (nI i) (nI k) v = some (s2 σ 2 (upd (σ.2 2) (i * 8 + k) (σ.2 2 (i * 8 + k) + v))) := inc_in (t := 2) h hi ha hk
theorem cellsI.congr {f f' : Nat → Int32} (h : cellsI σ f i) (e : ∀ k, k < 8 → f' (4 + 8 * i + k) = f (4 + 8 * i + k)) : cellsI σ f' i := fun k hk => by rw [h k hk, e k hk]
theorem insOK.congr {f f' : Nat → Int32} {N U Ln : Nat} {z : Int} {g tr : Nat} (h : insOK f i N U Ln z g tr) (e : ∀ k, k < 8 → f' (4 + 8 * i + k) = f (4 + 8 * i + k)) : insOK f' i N U Ln z g tr := by
  obtain ⟨q1, q2, q3, q4, q5, q6, q7⟩ := h
  exact ⟨by rw [show f' (4 + 8 * i) = f (4 + 8 * i) from e 0 (by omega)]; exact q1, by rw [e _ (by omega)]; exact q2, by rw [e _ (by omega)]; exact q3, by rw [e _ (by omega)]; exact q4, by rw [e _ (by omega)]; exact q5, by rw [e _ (by omega)]; exact q6, q7⟩
theorem paper_ok (h : R3 a b c (σ.1 0) (σ.1 1) (σ.1 2) (σ.2 0) (σ.2 1) (σ.2 2) (τ.2 0)) (hc60 : c < 60) (hp : p < b) (hi : i < a) {x : Int} (hx : 0 ≤ x ∧ x ≤ 500000) :
    ∃ (mk : Nat) (σ' τ' : Sg), mk ≤ 10 ∧ f_X2_newPaper σ (nI p) (nI i) (iI x) = some (nI mk, σ') ∧ f_X5_writes τ (nI p) (nI i) (iI x) = some (nI mk, τ') ∧ R3 a b (c + 1) (σ'.1 0) (σ'.1 1) (σ'.1 2) (σ'.2 0) (σ'.2 1) (σ'.2 2) (τ'.2 0) ∧ fX σ σ' ∧ fM τ τ' := by
  have h' := h
  obtain ⟨⟨ha, hb, hc⟩, ⟨r0, r1, r2⟩, ⟨f0, f1, f2⟩, t1, t2, t3, v1, v2, v3, -⟩ := h
  obtain ⟨e, hh, kn, k1, k2, k3, k4, k5, k6⟩ := v2 p hp
  obtain ⟨⟨N, U, Ln, z, g, tr, hok⟩, -⟩ := v1 i hi
  have hU := hok.2.1
  have hU2 : 1 ≤ U ∧ U ≤ 50 := hok.2.2.2.2.2.2.2.1
  have c0 : f_X3_cell σ 1 (nI p) (0 : Int32) = some (iI e) := (h'.pup (k := 0) hp (by omega)).trans (by rw [Nat.add_zero, k1])
  have c1 : f_X3_cell σ 1 (nI p) (1 : Int32) = some (nI hh) := (h'.pup (k := 1) hp (by omega)).trans (by rw [k3])
  have c2 : f_X3_cell σ 1 (nI p) (2 : Int32) = some (nI kn) := (h'.pup (k := 2) hp (by omega)).trans (by rw [k5])
  -- the reference's row
  obtain ⟨F3, hF3⟩ : ∃ F3 : Nat → Int32, F3 = upd (upd (upd (τ.2 0) (144 + 8 * c) (nI p)) (144 + 8 * c + 1) (nI i)) (144 + 8 * c + 2) (iI x) := ⟨_, rfl⟩
  have eF : ∀ j, j < 144 → F3 j = τ.2 0 j := fun j hj => by rw [hF3]; unfold upd; rw [if_neg (by omega), if_neg (by omega), if_neg (by omega)]
  obtain ⟨y, ρ, b1, b2, e1, e2, e3⟩ := ans_eq (σ := σ) (τ := s2 τ 0 F3) (show i < 10 by omega) (by rw [s2_self]; exact hok.congr fun k hk => eF _ (by omega)) (by rw [s2_self]; exact (h'.ins hi).congr fun k hk => eF _ (by omega)) hx k2 k4 k6
  have e30 : ρ.2 0 = F3 := by rw [e3.1, s2_self]
  obtain ⟨mk, hmk, g1, g2⟩ := mark_eq (σ := σ) (τ := s2 ρ 0 (upd F3 (144 + 8 * c + 3) (iI y))) (show i < 10 by omega) (by rw [s2_self, upd_ne (by omega), eF _ (by omega)]; exact hU) hU2 (by rw [s2_self]; exact (h'.ins hi).congr fun k hk => by rw [upd_ne (by omega), eF _ (by omega)]) hx (show -1000000 ≤ y ∧ y ≤ 2000000 from ⟨b1, b2⟩)
  have hM : f_X5_writes τ (nI p) (nI i) (iI x) = some (nI mk, s2 ρ 0 (upd (upd (upd (upd F3 (144 + 8 * c + 3) (iI y)) (144 + 8 * c + 4) (nI mk)) (144 + 8 * c + 5) 0) 2 (nI (c + 1)))) := by
    unfold f_X5_writes
    rw [i2, x2, f2]
    simp only [id_eq, lt]
    have M : ∀ k : Nat, ((144 : Int32) + ((8 : Int32) * nI c)) + nI k = nI (144 + 8 * c + k) := fun k => pix c k
    rw [show ((144 : Int32) + (8 : Int32) * nI c) + (0 : Int32) = nI (144 + 8 * c) from M 0, show ((144 : Int32) + (8 : Int32) * nI c) + (1 : Int32) = nI (144 + 8 * c + 1) from M 1, show ((144 : Int32) + (8 : Int32) * nI c) + (2 : Int32) = nI (144 + 8 * c + 2) from M 2, show ((144 : Int32) + (8 : Int32) * nI c) + (3 : Int32) = nI (144 + 8 * c + 3) from M 3, show ((144 : Int32) + (8 : Int32) * nI c) + (4 : Int32) = nI (144 + 8 * c + 4) from M 4, show ((144 : Int32) + (8 : Int32) * nI c) + (5 : Int32) = nI (144 + 8 * c + 5) from M 5]
    have G : ∀ (j : Nat), j < 624 → ∀ o : Option (Int32 × Sg), gd (inb (nI j) 624) o = o := fun j hj o => gd_of (inb_n hj (by omega))
    simp only [G (144 + 8 * c) (by omega), G (144 + 8 * c + 1) (by omega), G (144 + 8 * c + 2) (by omega), G (144 + 8 * c + 3) (by omega), G (144 + 8 * c + 4) (by omega), G (144 + 8 * c + 5) (by omega), lts, ix_n (show 144 + 8 * c < 2 ^ 31 by omega), ix_n (show 144 + 8 * c + 1 < 2 ^ 31 by omega), ix_n (show 144 + 8 * c + 2 < 2 ^ 31 by omega), ix_n (show 144 + 8 * c + 3 < 2 ^ 31 by omega), ix_n (show 144 + 8 * c + 4 < 2 ^ 31 by omega), ix_n (show 144 + 8 * c + 5 < 2 ^ 31 by omega), s2_self, s2_s2]
    rw [← hF3, scholar_0 (by omega), scholar_1 (by omega), scholar_2 (by omega), s2_self, eF _ (by omega), eF _ (by omega), eF _ (by omega), k1, k3, k5]
    simp only [Option.bind_some]
    rw [e2, Option.bind_some]
    simp only [e30, upd_self]
    rw [g2, Option.bind_some]
    have F2 : upd (upd (upd F3 (144 + 8 * c + 3) (iI y)) (144 + 8 * c + 4) (nI mk)) (144 + 8 * c + 5) 0 2 = nI c := by
      rw [upd_ne (by omega), upd_ne (by omega), upd_ne (by omega), eF _ (by omega), f2]
    rw [F2, nI_1]
    congr 2
    rw [upd_ne (by omega), upd_ne (by omega), upd_self]
  -- the class's row
  have hX : f_X2_newPaper σ (nI p) (nI i) (iI x) = some (nI mk, s2 (s2 (s2 (s1 σ 2 (nI (c + 1))) 2 (upd (upd (upd (upd (upd (upd (upd (upd (zr (σ.2 2) (c * 8) 8) (c * 8 + 0) (nI p)) (c * 8 + 1) (nI i)) (c * 8 + 2) (iI x)) (c * 8 + 3) (iI y)) (c * 8 + 4) (nI mk)) (c * 8 + 5) 0) (c * 8 + 6) (-10000005)) (c * 8 + 7) (-10000005))) 1 (upd (upd (σ.2 1) (p * 9 + 3) (σ.2 1 (p * 9 + 3) + 1)) (p * 9 + 4) (σ.2 1 (p * 9 + 4) + nI mk))) 0 (upd (σ.2 0) (i * 11 + 10) (σ.2 0 (i * 11 + 10) + 1))) := by
    unfold f_X2_newPaper f_X2_answerNow
    rw [c0, c1, c2]
    simp only [Option.bind_some]
    rw [e1]
    simp only [Option.bind_some]
    rw [g1, Option.bind_some, newRow2 r2 hc60]
    simp only [Option.bind_some, lt, lts]
    have P : ∀ {g : Nat → Int32} {k : Nat} {x : Int32}, k < 8 → f_X3_put (s2 (s1 σ 2 (nI (c + 1))) 2 g) 2 (nI c) (nI k) x = some (s2 (s1 σ 2 (nI (c + 1))) 2 (upd g (c * 8 + k) x)) := fun hk => put2' (a := c + 1) s1_self (by omega) (by omega) hk
    rw [show f_X3_put (s2 (s1 σ 2 (nI (c + 1))) 2 _) 2 (nI c) (0 : Int32) (nI p) = _ from P (k := 0) (by omega), Option.bind_some, show f_X3_put (s2 (s1 σ 2 (nI (c + 1))) 2 _) 2 (nI c) (1 : Int32) (nI i) = _ from P (k := 1) (by omega), Option.bind_some, show f_X3_put (s2 (s1 σ 2 (nI (c + 1))) 2 _) 2 (nI c) (2 : Int32) (iI x) = _ from P (k := 2) (by omega), Option.bind_some, show f_X3_put (s2 (s1 σ 2 (nI (c + 1))) 2 _) 2 (nI c) (3 : Int32) (iI y) = _ from P (k := 3) (by omega), Option.bind_some, show f_X3_put (s2 (s1 σ 2 (nI (c + 1))) 2 _) 2 (nI c) (4 : Int32) (nI mk) = _ from P (k := 4) (by omega), Option.bind_some, show f_X3_put (s2 (s1 σ 2 (nI (c + 1))) 2 _) 2 (nI c) (5 : Int32) (0 : Int32) = _ from P (k := 5) (by omega), Option.bind_some, show f_X3_put (s2 (s1 σ 2 (nI (c + 1))) 2 _) 2 (nI c) (6 : Int32) (-10000005 : Int32) = _ from P (k := 6) (by omega), Option.bind_some, show f_X3_put (s2 (s1 σ 2 (nI (c + 1))) 2 _) 2 (nI c) (7 : Int32) (-10000005 : Int32) = _ from P (k := 7) (by omega), Option.bind_some]
    generalize hG : upd (upd (upd (upd (upd (upd (upd (upd (zr (σ.2 2) (c * 8) 8) (c * 8 + 0) (nI p)) (c * 8 + 1) (nI i)) (c * 8 + 2) (iI x)) (c * 8 + 3) (iI y)) (c * 8 + 4) (nI mk)) (c * 8 + 5) 0) (c * 8 + 6) (-10000005)) (c * 8 + 7) (-10000005) = G
    generalize hS : s2 (s1 σ 2 (nI (c + 1))) 2 G = S
    have S1 : S.1 1 = nI b := by rw [← hS, s2_1, s1_ne (by omega)]; exact r1
    have S0 : S.1 0 = nI a := by rw [← hS, s2_1, s1_ne (by omega)]; exact r0
    have S21 : S.2 1 = σ.2 1 := by rw [← hS, s2_ne (by omega), s1_2]
    have S20 : S.2 0 = σ.2 0 := by rw [← hS, s2_ne (by omega), s1_2]
    rw [show f_X3_increase S 1 (nI p) (3 : Int32) (1 : Int32) = _ from inc1 (k := 3) S1 hp hb (by omega), Option.bind_some, show f_X3_increase (s2 S 1 _) 1 (nI p) (4 : Int32) (nI mk) = _ from inc1 (k := 4) (σ := s2 S 1 _) S1 hp hb (by omega), Option.bind_some, s2_self, s2_s2, show f_X3_increase (s2 S 1 _) 0 (nI i) (10 : Int32) (1 : Int32) = _ from inc0 (k := 10) (σ := s2 S 1 _) S0 hi ha (by omega), Option.bind_some, s2_ne (by omega), S20, S21, upd_ne (by omega)]
  refine ⟨mk, _, _, hmk, hX, hM, ?_, ⟨fun k hk => ?_, fun k hk => ?_⟩, ⟨fun k hk => ?_, fun k hk => ?_⟩⟩
  · rw [s2_self, s2_self, s2_ne (by omega), s2_self, s2_ne (by omega), s2_ne (by omega), s2_self]
    rw [show (s2 (s2 (s2 (s1 σ 2 (nI (c + 1))) 2 (upd (upd (upd (upd (upd (upd (upd (upd (zr (σ.2 2) (c * 8) 8) (c * 8 + 0) (nI p)) (c * 8 + 1) (nI i)) (c * 8 + 2) (iI x)) (c * 8 + 3) (iI y)) (c * 8 + 4) (nI mk)) (c * 8 + 5) 0) (c * 8 + 6) (-10000005)) (c * 8 + 7) (-10000005))) 1 (upd (upd (σ.2 1) (p * 9 + 3) (σ.2 1 (p * 9 + 3) + 1)) (p * 9 + 4) (σ.2 1 (p * 9 + 4) + nI mk))) 0 (upd (σ.2 0) (i * 11 + 10) (σ.2 0 (i * 11 + 10) + 1))).1 = (s1 σ 2 (nI (c + 1))).1 from rfl, s1_self, s1_ne (by omega), s1_ne (by omega)]
    refine h'.addQ (v := y) hc60 hp hi hx hmk ?_ ?_ ?_ ?_ ?_ ?_ ?_ ?_ ?_ ?_ ?_ ?_ ?_ ?_ ?_ ?_ ?_ ?_ ?_ ?_ ?_ ?_
    · unfold upd; rw [if_neg (by omega), if_neg (by omega), if_neg (by omega), if_neg (by omega), if_neg (by omega), if_neg (by omega), if_neg (by omega), if_pos (by omega)]
    · unfold upd; rw [if_neg (by omega), if_neg (by omega), if_neg (by omega), if_neg (by omega), if_neg (by omega), if_neg (by omega), if_pos (by omega)]
    · unfold upd; rw [if_neg (by omega), if_neg (by omega), if_neg (by omega), if_neg (by omega), if_neg (by omega), if_pos (by omega)]
    · unfold upd; rw [if_neg (by omega), if_neg (by omega), if_neg (by omega), if_neg (by omega), if_pos (by omega)]
    · unfold upd; rw [if_neg (by omega), if_neg (by omega), if_neg (by omega), if_pos (by omega)]
    · unfold upd; rw [if_neg (by omega), if_neg (by omega), if_pos (by omega)]
    · unfold upd; rw [if_neg (by omega), if_pos (by omega)]
    · unfold upd; rw [if_pos (by omega)]
    · intro j hj
      unfold upd zr; rw [if_neg (by omega), if_neg (by omega), if_neg (by omega), if_neg (by omega), if_neg (by omega), if_neg (by omega), if_neg (by omega), if_neg (by omega), if_neg (by omega)]
    · rw [upd_ne (by omega), upd_self]
    · rw [upd_self]
    · intro j hj hj2
      rw [upd_ne hj2, upd_ne hj]
    · rw [upd_self]
    · intro j hj
      rw [upd_ne hj]
    · rw [upd_ne (by omega), upd_ne (by omega), upd_ne (by omega), upd_ne (by omega), hF3, upd_ne (by omega), upd_ne (by omega), upd_self]
    · rw [upd_ne (by omega), upd_ne (by omega), upd_ne (by omega), upd_ne (by omega), hF3, upd_ne (by omega), upd_self]
    · rw [upd_ne (by omega), upd_ne (by omega), upd_ne (by omega), upd_ne (by omega), hF3, upd_self]
    · rw [upd_ne (by omega), upd_ne (by omega), upd_ne (by omega), upd_self]
    · rw [upd_ne (by omega), upd_ne (by omega), upd_self]
    · rw [upd_ne (by omega), upd_self]
    · rw [upd_self]
    · intro j hj0 hj
      rw [upd_ne hj0, upd_ne (by omega), upd_ne (by omega), upd_ne (by omega), hF3, upd_ne (by omega), upd_ne (by omega), upd_ne (by omega)]
  · show (s1 σ 2 (nI (c + 1))).1 k = σ.1 k
    exact s1_ne (by omega)
  · rw [s2_ne (by omega), s2_ne (by omega), s2_ne (by omega), s1_2]
  · rw [s2_1, e3.2 k hk, s2_1]
  · rw [s2_ne hk, e3.1, s2_ne hk]
theorem sim_write (hI : Inv σ τ) (p w v : Int32) : Sim (f_X4_write σ p w v) (f_X5_write τ p w v) := by
  obtain ⟨a, b, c, h⟩ := hI.1.get
  have h' := h
  obtain ⟨⟨ha, hb, hc⟩, ⟨r0, r1, r2⟩, ⟨f0, f1, f2⟩, -⟩ := h
  unfold f_X4_write f_X5_write
  rcases in_ix p b (by omega) with hp | hp | ⟨j, hj, rfl⟩
  · rw [lacks_neg hp, noScholar_neg hp, Option.bind_some, Option.bind_some, if_neg (by decide), if_neg (by decide)]
    exact ⟨_, _, _, rfl, rfl, hI⟩
  · rw [lacks_big r1 hp, noScholar_big f1 (by omega) hp, Option.bind_some, Option.bind_some, if_neg (by decide), if_neg (by decide)]
    exact ⟨_, _, _, rfl, rfl, hI⟩
  rw [lacks_in r1 hj (by omega), noScholar_in f1 hj (by omega), Option.bind_some, Option.bind_some, if_pos rfl, if_pos rfl]
  rcases in_ix w a (by omega) with hp | hp | ⟨i, hi, rfl⟩
  · rw [lacks_neg hp, noTool_neg hp, Option.bind_some, Option.bind_some, if_neg (by decide), if_neg (by decide)]
    exact ⟨_, _, _, rfl, rfl, hI⟩
  · rw [lacks_big r0 hp, noTool_big f0 (by omega) hp, Option.bind_some, Option.bind_some, if_neg (by decide), if_neg (by decide)]
    exact ⟨_, _, _, rfl, rfl, hI⟩
  rw [lacks_in r0 hi (by omega), noTool_in f0 hi (by omega), Option.bind_some, Option.bind_some, if_pos rfl, if_pos rfl]
  rcases setting_eq h' hi v with ⟨g1, g2, x, rfl, hx⟩ | ⟨g1, g2⟩
  rotate_left
  · rw [g1, g2, Option.bind_some, Option.bind_some, if_neg (by decide), if_pos rfl]
    exact ⟨_, _, _, rfl, rfl, hI⟩
  rw [g1, g2, Option.bind_some, Option.bind_some, if_pos rfl, if_neg (show ¬ (1 : Int32) = 0 by decide), i2, x2, f2]
  simp only [id_eq]
  rcases Nat.lt_or_ge c 60 with hc60 | hc60
  rotate_left
  · have : c = 60 := by omega
    subst this
    rw [full_yes (t := 2) r2, Option.bind_some, if_neg (by decide), if_pos (by decide)]
    exact ⟨_, _, _, rfl, rfl, hI⟩
  rw [full_no (t := 2) r2 hc60, Option.bind_some, if_pos rfl, if_neg (show ¬ nI c = (60 : Int32) by rw [show (60 : Int32) = nI 60 from rfl, nI_eq (by omega) (by omega)]; omega)]
  obtain ⟨σ1, τ1, p1, p2, hI1, hR, q0, -⟩ := rec2 hI h'
  rw [p1, p2, Option.bind_some, Option.bind_some]
  obtain ⟨mk, σ', τ', -, g1, g2, g3, g4, g5⟩ := paper_ok hR hc60 hj hi hx
  rw [g1, g2]
  exact ⟨nI mk, σ', τ', rfl, rfl, hI1.act g4.sxn g5.smn ⟨a, b, c + 1, g3⟩⟩
end WRITE
