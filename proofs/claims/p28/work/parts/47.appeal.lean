/-! APPEALS: appeal, decide. -/
theorem sumI_one {g g' : Nat → Int32} {q : Nat} {d : Int32} : ∀ c, q < c → (∀ j, j < c → j ≠ q → g' j = g j) → g' q = g q + d → sumI g' c = sumI g c + d := by
  intro c
  induction c with
  | zero => intro h; omega
  | succ c ih =>
    intro hq h1 h2
    show sumI g' c + g' c = sumI g c + g c + d
    by_cases e : q = c
    · subst e
      rw [h2, sumI_congr (f := g') (g := g) q (fun i hi => h1 i (by omega) (by omega)), Int32.add_assoc]
    · rw [ih (by omega) (fun j hj hne => h1 j (by omega) hne) h2, h1 c (by omega) (fun h => e h.symm), Int32.add_assoc, Int32.add_assoc, Int32.add_comm d]
theorem cntB_mono {p p' : Nat → Bool} : ∀ c, (∀ i, i < c → p' i = true → p i = true) → cntB p' c ≤ cntB p c := by
  intro c
  induction c with
  | zero => intro _; exact Nat.le_refl 0
  | succ c ih =>
    intro h
    have h1 := ih (fun i hi => h i (by omega))
    have h2 := h c (by omega)
    rw [cntB_s, cntB_s]
    split
    · rename_i h3; rw [if_pos (h2 h3)]; omega
    · omega
theorem cntB_one {p p' : Nat → Bool} {q : Nat} : ∀ c, q < c → (∀ j, j < c → j ≠ q → p' j = p j) → cntB p' c ≤ cntB p c + 1 := by
  intro c
  induction c with
  | zero => intro h; omega
  | succ c ih =>
    intro hq h1
    rw [cntB_s, cntB_s]
    by_cases e : q = c
    · subst e
      rw [cntB_congr (p := p') (q := p) q (fun i hi => h1 i (by omega) (by omega))]
      split <;> omega
    · have := ih (by omega) (fun j hj hne => h1 j (by omega) hne)
      rw [h1 c (by omega) (fun h => e h.symm)]
      omega
theorem R3.setQ {a b c p q : Nat} {d rt rp rq : Int32} {ct cp cq f cp' cq' f' : Nat → Int32} (h : R3 a b c rt rp rq ct cp cq f) (hq : q < c) (hp : f (144 + 8 * q) = nI p) (hpb : p < b)
    (y4 : ∀ k, 4 ≤ k → k < 8 → cq' (q * 8 + k) = f' (144 + 8 * q + k)) (s0 : ¬ f' (144 + 8 * q + 5) = 0) (yo : ∀ j, (j < q * 8 + 4 ∨ q * 8 + 8 ≤ j) → cq' j = cq j)
    (md : f' (144 + 8 * q + 4) = f (144 + 8 * q + 4) + d) (p4 : cp' (p * 9 + 4) = cp (p * 9 + 4) + d) (p6 : cp' (p * 9 + 6) = f' (84 + 5 * p + 3)) (p7 : cp' (p * 9 + 7) = f' (84 + 5 * p + 4)) (po : ∀ j, j ≠ p * 9 + 4 → j ≠ p * 9 + 6 → j ≠ p * 9 + 7 → cp' j = cp j)
    (mo : ∀ j, (j < 144 + 8 * q + 4 ∨ 144 + 8 * q + 8 ≤ j) → j ≠ 84 + 5 * p + 3 → j ≠ 84 + 5 * p + 4 → f' j = f j) (hV : papV f' a b q) (hA : cntA f' c ≤ 20) : R3 a b c rt rp rq ct cp' cq' f' := by
  obtain ⟨⟨ha, hb, hc⟩, hr, ⟨f0, f1, f2⟩, t1, t2, t3, v1, v2, v3, v4, v5, v6⟩ := h
  have eI : ∀ k, cntI f' c k = cntI f c k := fun k => cntB_congr c fun j hj => by rw [mo _ (by omega) (by omega) (by omega)]
  have eP : ∀ k, cntP f' c k = cntP f c k := fun k => cntB_congr c fun j hj => by rw [mo _ (by omega) (by omega) (by omega)]
  have eM : sumI (mks f' (nI p)) c = sumI (mks f (nI p)) c + d := sumI_one c hq (fun j hj hne => by unfold mks; rw [mo _ (by omega) (by omega) (by omega), mo _ (by omega) (by omega) (by omega)]) (by unfold mks; rw [mo (144 + 8 * q) (by omega) (by omega) (by omega), if_pos hp, if_pos hp, md])
  have eM2 : ∀ j, j < b → j ≠ p → sumI (mks f' (nI j)) c = sumI (mks f (nI j)) c := fun j hj hne => sumI_congr c fun i hi => by
    unfold mks
    by_cases e : i = q
    · subst e
      rw [mo (144 + 8 * i) (by omega) (by omega) (by omega), hp, if_neg (by rw [nI_eq (by omega) (by omega)]; omega), if_neg (by rw [nI_eq (by omega) (by omega)]; omega)]
    · rw [mo _ (by omega) (by omega) (by omega), mo _ (by omega) (by omega) (by omega)]
  refine ⟨⟨ha, hb, hc⟩, hr, ⟨by rw [mo _ (by omega) (by omega) (by omega)]; exact f0, by rw [mo _ (by omega) (by omega) (by omega)]; exact f1, by rw [mo _ (by omega) (by omega) (by omega)]; exact f2⟩, fun j hj => ?_, fun j hj => ?_, fun j hj => ?_, fun j hj => ?_, fun j hj => ?_, fun j hj => ?_, fun j hj hj2 k hk hk2 => ?_, fun j hj hj2 k hk hk2 => ?_, hA⟩
  · obtain ⟨q1, q2, q3, q4⟩ := t1 j hj
    refine ⟨fun k hk => ?_, ?_, ?_, ?_⟩
    · rw [mo _ (by omega) (by omega) (by omega)]; exact q1 k hk
    · rw [mo _ (by omega) (by omega) (by omega), mo _ (by omega) (by omega) (by omega), mo _ (by omega) (by omega) (by omega)]; exact q2
    · rw [mo _ (by omega) (by omega) (by omega), mo _ (by omega) (by omega) (by omega), mo _ (by omega) (by omega) (by omega)]; exact q3
    · rw [eI]; exact q4
  · obtain ⟨q1, q2, q3, q4, q5⟩ := t2 j hj
    by_cases e : j = p
    · subst e
      exact ⟨fun k hk => by rw [po _ (by omega) (by omega) (by omega), mo _ (by omega) (by omega) (by omega)]; exact q1 k hk, by rw [po _ (by omega) (by omega) (by omega), eP]; exact q2, by rw [p4, eM, q3], p6, p7⟩
    · exact ⟨fun k hk => by rw [po _ (by omega) (by omega) (by omega), mo _ (by omega) (by omega) (by omega)]; exact q1 k hk, by rw [po _ (by omega) (by omega) (by omega), eP]; exact q2, by rw [po _ (by omega) (by omega) (by omega), eM2 j hj e]; exact q3, by rw [po _ (by omega) (by omega) (by omega), mo _ (by omega) (by omega) (by omega)]; exact q4, by rw [po _ (by omega) (by omega) (by omega), mo _ (by omega) (by omega) (by omega)]; exact q5⟩
  · obtain ⟨q1, q2⟩ := t3 j hj
    by_cases e : j = q
    · subst e
      refine ⟨fun k hk => ?_, fun k hk => by rw [if_neg s0]; exact y4 k (by omega) (by omega)⟩
      rcases Nat.lt_or_ge k 4 with hk4 | hk4
      · rw [yo _ (by omega), mo _ (by omega) (by omega) (by omega)]; exact q1 k hk
      · exact y4 k hk4 (by omega)
    · exact ⟨fun k hk => by rw [yo _ (by omega), mo _ (by omega) (by omega) (by omega)]; exact q1 k hk, fun k hk => by rw [yo _ (by omega), mo _ (by omega) (by omega) (by omega), mo _ (by omega) (by omega) (by omega)]; exact q2 k hk⟩
  · obtain ⟨⟨N, U, Ln, z, g, tr, q1, q2, q3, q4, q5, q6, q7⟩, q8, q9⟩ := v1 j hj
    refine ⟨⟨N, U, Ln, z, g, tr, ?_, ?_, ?_, ?_, ?_, ?_, q7⟩, ?_, ?_⟩ <;> rw [mo _ (by omega) (by omega) (by omega)] <;> assumption
  · obtain ⟨e, hh, k, q1, q2, q3, q4, q5, q6⟩ := v2 j hj
    exact ⟨e, hh, k, by rw [mo _ (by omega) (by omega) (by omega)]; exact q1, q2, by rw [mo _ (by omega) (by omega) (by omega)]; exact q3, q4, by rw [mo _ (by omega) (by omega) (by omega)]; exact q5, q6⟩
  · by_cases e : j = q
    · subst e; exact hV
    · exact (v3 j hj).congr fun k hk => mo _ (by omega) (by omega) (by omega)
  · rw [mo _ (by omega) (by omega) (by omega)]; exact v4 j hj hj2 k hk hk2
  · rw [mo _ (by omega) (by omega) (by omega)]; exact v5 j hj hj2 k hk hk2
theorem hab_and : ∀ h, h < 16 → nI h &&& (-4 : Int32) = nI (h / 4 * 4) ∧ nI h &&& (12 : Int32) = nI (h / 4 * 4) := by decide +kernel
section APPEAL
variable {σ τ : Sg} {a b c t i k p q : Nat} {g : Nat → Int32}
theorem hope_ok (h : R3 a b c (σ.1 0) (σ.1 1) (σ.1 2) (σ.2 0) (σ.2 1) (σ.2 2) (τ.2 0)) (hq : q < c) {w : Nat} (hw : 1 ≤ w ∧ w ≤ 3) :
    ∃ (m k : Nat) (ρ : Sg), m ≤ 10 ∧ k ≤ 10 ∧ τ.2 0 (144 + 8 * q + 4) = nI k ∧ f_X2_hopeOf σ (nI q) (nI w) = some (iI ((m : Int) - k)) ∧ f_X5_hope τ (nI q) (nI w) = some (iI ((m : Int) - k), ρ) ∧ scr τ ρ := by
  have h' := h
  obtain ⟨⟨ha, hb, hc⟩, ⟨r0, r1, r2⟩, ⟨f0, f1, f2⟩, t1, t2, t3, v1, v2, v3, -⟩ := h
  obtain ⟨p, i, x, k, s, q1, q2, q3, q4, q5, q6, q7, q8, -⟩ := v3 q hq
  obtain ⟨e, hh, kn, k1, k2, k3, k4, k5, k6⟩ := v2 p q2
  obtain ⟨⟨N, U, Ln, z, g, tr, i0_, i1_, i2_, i4_, i5_, i6_, hN, hU, hL, hz, hg, htr⟩, -⟩ := v1 i q4
  have c0 : f_X3_cell σ 1 (nI p) (0 : Int32) = some (iI e) := (h'.pup (k := 0) q2 (by omega)).trans (by rw [Nat.add_zero, k1])
  have c1 : f_X3_cell σ 1 (nI p) (1 : Int32) = some (nI hh) := (h'.pup (k := 1) q2 (by omega)).trans (by rw [k3])
  have c2 : f_X3_cell σ 1 (nI p) (2 : Int32) = some (nI kn) := (h'.pup (k := 2) q2 (by omega)).trans (by rw [k5])
  have d0 : f_X3_cell σ 2 (nI q) (0 : Int32) = some (nI p) := (h'.pap (k := 0) hq (by omega)).trans (by rw [Nat.add_zero, q1])
  have d1 : f_X3_cell σ 2 (nI q) (1 : Int32) = some (nI i) := (h'.pap (k := 1) hq (by omega)).trans (by rw [q3])
  have d4 : f_X3_cell σ 2 (nI q) (4 : Int32) = some (nI k) := (h'.pap (k := 4) hq (by omega)).trans (by rw [q7])
  have e6 : f_X3_cell σ 0 (nI i) (6 : Int32) = some (nI tr) := (h'.ins q4 6 (by omega)).trans (by rw [i6_])
  have fin : ∀ {e : Int} {hh kn : Nat}, (-50 ≤ e ∧ e ≤ 50) → hh < 16 → kn < 8 → ∃ (m : Nat) (ρ : Sg), m ≤ 10 ∧ f_X2_hopeOf_b100 σ (nI q) (iI e) (nI hh) (nI kn) = some (iI ((m : Int) - k)) ∧ f_X5_hope_b94 τ (nI q) (nI i) (nI kn) (nI hh) (iI e) = some (iI ((m : Int) - k), ρ) ∧ scr τ ρ := by
    intro e hh kn he hh16 hk8
    obtain ⟨j, x', v, m, ρ, hm, hj, hx', s1_, s2_, m1, m2, m3, m4, -⟩ := ifw_eq h' hq he hh16 hk8
    have hji : nI j = nI i := by rw [← s1_, q3]
    rw [hji] at m2 m4
    refine ⟨m, ρ, hm, ?_, ?_, m3⟩
    · unfold f_X2_hopeOf_b100
      rw [m1, Option.bind_some, d4, Option.bind_some, nI_sub]
    · unfold f_X5_hope_b94
      rw [sheet_2 (by omega), s2_]
      simp only [Option.bind_some, lt, lts]
      rw [m2, Option.bind_some, m4, Option.bind_some, sheet_4 (by omega), m3.1, q7, Option.bind_some, nI_sub]
  unfold f_X2_hopeOf f_X5_hope f_X5_hope_b50 f_X5_hope_b51 f_X5_hope_b77
  rw [d0, d1, sheet_0 (by omega), sheet_1 (by omega), q1, q3]
  simp only [Option.bind_some]
  rw [c0, c1, c2, e6, tool_6 (by omega), scholar_2 (by omega), scholar_1 (by omega), scholar_0 (by omega), i6_, k1, k3, k5]
  simp only [Option.bind_some, lt]
  have hor : ∃ kn' : Nat, kn' < 8 ∧ ((f_X4_trapBit σ (nI tr)).bind fun r13 => f_X2_hopeOf_b100 σ (nI q) (iI e) (nI hh) (nI kn ||| r13)) = f_X2_hopeOf_b100 σ (nI q) (iI e) (nI hh) (nI kn') ∧ (if nI tr ≤ 0 then nI kn ||| 0 else nI kn ||| ((1 : Int32) <<< ((nI tr - 1) &&& 31))) = nI kn' := by
    rcases Nat.eq_zero_or_pos tr with h0 | h0
    · subst h0
      refine ⟨kn, k6, ?_, ?_⟩
      · rw [trapBit_0, Option.bind_some, Int32.or_zero]
      · rw [if_pos (by decide), Int32.or_zero]
    · obtain ⟨⟨b1, b2⟩, b3⟩ := or_bits kn k6 tr htr h0
      refine ⟨orN kn tr, b2, ?_, ?_⟩
      · rw [trapBit_in htr h0, Option.bind_some, b1]
      · rw [if_neg (by rw [show (0 : Int32) = nI 0 from rfl, nI_leN (by omega) (by omega)]; omega), b1]
  obtain ⟨kn', hk', o1, o2⟩ := hor
  rw [o1, Int32.or_zero]
  obtain ⟨b1, b2⟩ := hab_and hh k4
  rw [b1, b2]
  have : w = 1 ∨ w = 2 ∨ w = 3 := by omega
  rcases this with rfl | rfl | rfl
  · obtain ⟨m, ρ, g1, g2, g3, g4⟩ := fin k2 k4 hk'
    refine ⟨m, k, ρ, g1, q8, q7, ?_, ?_, g4⟩
    · rw [if_pos (by decide)]; exact g2
    · rw [if_pos (by decide)]
      rw [← o2] at g3
      split
      · rename_i ht
        rw [if_pos ht, Int32.or_zero] at g3
        rw [if_neg (by decide), if_neg (by decide)]; exact g3
      · rename_i ht
        rw [if_neg ht] at g3
        rw [if_neg (by decide), if_neg (by decide)]; exact g3
  · obtain ⟨m, ρ, g1, g2, g3, g4⟩ := fin (e := 0) ⟨by omega, by omega⟩ k4 k6
    refine ⟨m, k, ρ, g1, q8, q7, ?_, ?_, g4⟩
    · rw [if_neg (by decide), if_pos (by decide)]; exact g2
    · rw [if_neg (by decide), if_neg (by decide), if_pos (by decide)]; exact g3
  · obtain ⟨m, ρ, g1, g2, g3, g4⟩ := fin (hh := hh / 4 * 4) k2 (by omega) k6
    refine ⟨m, k, ρ, g1, q8, q7, ?_, ?_, g4⟩
    · rw [if_neg (by decide), if_neg (by decide), if_pos (by decide)]; exact g2
    · rw [if_neg (by decide), if_pos (by decide), if_neg (by decide)]; exact g3
theorem sim_appeal (hI : Inv σ τ) (p w : Int32) : Sim (f_X4_appeal σ p w) (f_X5_appeal τ p w) := by
  obtain ⟨a, b, c, h⟩ := hI.1.get
  have h' := h
  obtain ⟨⟨ha, hb, hc⟩, ⟨r0, r1, r2⟩, ⟨f0, f1, f2⟩, t1, t2, t3, v1, v2, v3, v4, v5, v6⟩ := h
  unfold f_X4_appeal f_X5_appeal
  rcases in_ix p c (by omega) with hp | hp | ⟨q, hq, rfl⟩
  · rw [lacks_neg hp, noPaper_neg hp, Option.bind_some, Option.bind_some, if_neg (by decide), if_neg (by decide)]
    exact ⟨_, _, _, rfl, rfl, hI⟩
  · rw [lacks_big r2 hp, noPaper_big f2 (by omega) hp, Option.bind_some, Option.bind_some, if_neg (by decide), if_neg (by decide)]
    exact ⟨_, _, _, rfl, rfl, hI⟩
  rw [lacks_in r2 hq (by omega), noPaper_in f2 hq (by omega), Option.bind_some, Option.bind_some, if_pos rfl, if_pos rfl]
  rcases range_nat σ τ w (lo := (1 : Int32)) (hi := (3 : Int32)) (l := 1) (h := 3) rfl rfl (by omega) (by omega) with ⟨w, hw, rfl, g1, g2⟩ | ⟨g1, g2⟩
  rotate_left
  · rw [g1, g2, Option.bind_some, Option.bind_some, if_neg (by decide), if_pos rfl]
    exact ⟨_, _, _, rfl, rfl, hI⟩
  obtain ⟨p, i, x, k, s, q1, q2, q3, q4, q5, q6, q7, q8, q9, q10, -⟩ := v3 q hq
  have d5 : f_X3_cell σ 2 (nI q) (5 : Int32) = some (nI s) := (h'.pap (k := 5) hq (by omega)).trans (by rw [q9])
  rw [g1, g2, Option.bind_some, Option.bind_some, if_pos rfl, if_neg (show ¬ (1 : Int32) = 0 by decide), d5, sheet_5 (by omega), q9, Option.bind_some, Option.bind_some]
  rcases Nat.eq_zero_or_pos s with hs | hs
  rotate_left
  · rw [if_neg (nI_ne0 (by omega) (by omega)), if_neg (by rw [show (0 : Int32) = nI 0 from rfl, nI_leN (by omega) (by omega)]; omega)]
    exact ⟨_, _, _, rfl, rfl, hI⟩
  subst hs
  have hcw : f_X3_rowsWith σ 2 (5 : Int32) (1 : Int32) = some (nI (cntA (τ.2 0) c)) := by
    rw [show (5 : Int32) = nI 5 from rfl, rowsWith_in (t := 2) r2 hc (show 5 < 8 by omega)]
    congr 2
    exact cntB_congr c fun j hj => by
      have e : σ.2 2 (j * tcolN 2 + 5) = τ.2 0 (144 + 8 * j + 5) := (t3 j hj).1 5 (by omega)
      rw [e]
  have hca : f_X5_inAppeal τ (1 : Int32) = some (nI (cntA (τ.2 0) c)) := inAppeal_in f2 hc
  rw [if_pos (by decide), if_pos (by decide), hcw, hca, Option.bind_some, Option.bind_some]
  rcases Nat.lt_or_ge (cntA (τ.2 0) c) 20 with hA | hA
  rotate_left
  · have : cntA (τ.2 0) c = 20 := by omega
    rw [this, if_neg (by decide), if_pos (by decide)]
    exact ⟨_, _, _, rfl, rfl, hI⟩
  rw [if_pos (show nI (cntA (τ.2 0) c) < (20 : Int32) from (nI_ltN (b := 20) (by omega) (by omega)).mpr hA), if_neg (show ¬ nI (cntA (τ.2 0) c) = (20 : Int32) by rw [show (20 : Int32) = nI 20 from rfl, nI_eq (by omega) (by omega)]; omega)]
  obtain ⟨σ1, τ1, p1, p2, hI1, hR, q0, -⟩ := rec2 hI h'
  obtain ⟨m, k', ρ, hm, hk', e4, o1, o2, o3⟩ := hope_ok hR hq hw
  rw [q0, q7, nI_eq (by omega) (by omega)] at e4
  subst e4
  have q00 := hR
  obtain ⟨-, ⟨s0, s1_, s2_⟩, -, u1, u2, u3, -⟩ := q00
  rw [p1, p2, Option.bind_some, Option.bind_some, o1, o2]
  simp only [Option.bind_some, lt, lts]
  rw [show f_X3_put σ1 2 (nI q) (5 : Int32) (1 : Int32) = _ from put2 (k := 5) s2_ hq hc (by omega), Option.bind_some, show f_X3_put (s2 σ1 2 _) 2 (nI q) (6 : Int32) (nI w) = _ from put2' (k := 6) s2_ hq hc (by omega), Option.bind_some, show f_X3_put (s2 σ1 2 _) 2 (nI q) (7 : Int32) _ = _ from put2' (k := 7) s2_ hq hc (by omega), Option.bind_some]
  have M : ∀ k : Nat, ((144 : Int32) + ((8 : Int32) * nI q)) + nI k = nI (144 + 8 * q + k) := fun k => pix q k
  have G : ∀ (j : Nat), j < 624 → ∀ o : Option (Int32 × Sg), gd (inb (nI j) 624) o = o := fun j hj o => gd_of (inb_n hj (by omega))
  rw [show ((144 : Int32) + (8 : Int32) * nI q) + (5 : Int32) = nI (144 + 8 * q + 5) from M 5, show ((144 : Int32) + (8 : Int32) * nI q) + (6 : Int32) = nI (144 + 8 * q + 6) from M 6, show ((144 : Int32) + (8 : Int32) * nI q) + (7 : Int32) = nI (144 + 8 * q + 7) from M 7]
  simp only [G (144 + 8 * q + 5) (by omega), G (144 + 8 * q + 6) (by omega), G (144 + 8 * q + 7) (by omega), ix_n (show 144 + 8 * q + 5 < 2 ^ 31 by omega), ix_n (show 144 + 8 * q + 6 < 2 ^ 31 by omega), ix_n (show 144 + 8 * q + 7 < 2 ^ 31 by omega), s2_self, s2_s2]
  have ρ0 : ρ.2 0 = τ1.2 0 := by rw [o3.1]
  rw [ρ0, upd_ne (show 144 + 8 * q + 7 ≠ 144 + 8 * q + 5 by omega), upd_ne (show 144 + 8 * q + 7 ≠ 144 + 8 * q + 6 by omega), upd_self]
  refine ⟨_, s2 σ1 2 (upd (upd (upd (σ1.2 2) (q * 8 + 5) 1) (q * 8 + 6) (nI w)) (q * 8 + 7) (iI ((m : Int) - k))), s2 ρ 0 (upd (upd (upd (τ1.2 0) (144 + 8 * q + 7) (iI ((m : Int) - k))) (144 + 8 * q + 6) (nI w)) (144 + 8 * q + 5) 1), rfl, rfl, hI1.act (sxn_s2 (by omega)) (smn_tr (smn_scr o3) (smn_s2 (by omega))) (iNow.mk (hR.setQ (d := 0) (p := p) hq (by rw [q0]; exact q1) q2 ?_ ?_ ?_ ?_ ?_ ?_ ?_ ?_ ?_ ?_ ?_) rfl rfl rfl (s2_ne (by omega)) (s2_ne (by omega)) s2_self s2_self)⟩
  · intro k hk hk2
    have : k = 4 ∨ k = 5 ∨ k = 6 ∨ k = 7 := by omega
    rcases this with rfl | rfl | rfl | rfl
    · rw [upd_ne (by omega), upd_ne (by omega), upd_ne (by omega), upd_ne (by omega), upd_ne (by omega), upd_ne (by omega)]
      exact (u3 q hq).1 4 (by omega)
    · rw [upd_ne (by omega), upd_ne (by omega), upd_self, upd_self]
    · rw [upd_ne (by omega), upd_self, upd_ne (by omega), upd_self]
    · rw [upd_self, upd_ne (by omega), upd_ne (by omega), upd_self]
  · rw [upd_self]; decide
  · intro j hj
    rw [upd_ne (by omega), upd_ne (by omega), upd_ne (by omega)]
  · rw [upd_ne (by omega), upd_ne (by omega), upd_ne (by omega), Int32.add_zero]
  · rw [Int32.add_zero]
  · rw [upd_ne (by omega), upd_ne (by omega), upd_ne (by omega)]
    exact (u2 p q2).2.2.2.1
  · rw [upd_ne (by omega), upd_ne (by omega), upd_ne (by omega)]
    exact (u2 p q2).2.2.2.2
  · intro j _ _ _; rfl
  · intro j hj _ _
    rw [upd_ne (by omega), upd_ne (by omega), upd_ne (by omega)]
  · refine ⟨p, i, x, k, 1, ?_, q2, ?_, q4, ?_, q6, ?_, q8, ?_, by omega, fun _ => ⟨w, (m : Int) - k, ?_, hw, ?_, by omega, fun _ => by omega⟩⟩
    · rw [upd_ne (by omega), upd_ne (by omega), upd_ne (by omega), q0]; exact q1
    · rw [upd_ne (by omega), upd_ne (by omega), upd_ne (by omega), q0]; exact q3
    · rw [upd_ne (by omega), upd_ne (by omega), upd_ne (by omega), q0]; exact q5
    · rw [upd_ne (by omega), upd_ne (by omega), upd_ne (by omega), q0]; exact q7
    · rw [upd_self]; rfl
    · rw [upd_ne (by omega), upd_self]
    · rw [upd_ne (by omega), upd_ne (by omega), upd_self]
  · have := cntB_one (p := fun j => decide (τ1.2 0 (144 + 8 * j + 5) = 1)) (p' := fun j => decide ((upd (upd (upd (τ1.2 0) (144 + 8 * q + 7) (iI ((m : Int) - k))) (144 + 8 * q + 6) (nI w)) (144 + 8 * q + 5) 1) (144 + 8 * j + 5) = 1)) (q := q) c hq (fun j hj hne => by rw [upd_ne (by omega), upd_ne (by omega), upd_ne (by omega)])
    have e : cntB (fun j => decide (τ1.2 0 (144 + 8 * j + 5) = 1)) c = cntA (τ.2 0) c := by rw [q0]; rfl
    unfold cntA
    omega
theorem just_eq (h : R3 a b c (σ.1 0) (σ.1 1) (σ.1 2) (σ.2 0) (σ.2 1) (σ.2 2) (τ.2 0)) (hq : q < c) (hw : waitsQ (τ.2 0) q) :
    ∃ r, f_X2_isJustified σ (nI q) = some r ∧ f_X5_isGranted τ (nI q) = some r ∧ (r = 0 ∨ (r = 1 ∧ 0 < τ.2 0 (144 + 8 * q + 7))) := by
  have h' := h
  obtain ⟨⟨ha, hb, hc⟩, ⟨r0, r1, r2⟩, ⟨f0, f1, f2⟩, t1, t2, t3, v1, v2, v3, -⟩ := h
  obtain ⟨p, i, x, k, s, q1, q2, q3, q4, q5, q6, q7, q8, q9, q10, q11⟩ := v3 q hq
  have hs : s ≠ 0 := by
    intro e; subst e
    unfold waitsQ at hw
    rw [q9] at hw
    exact absurd hw (by decide)
  obtain ⟨cs, hp, w1, w2, w3, w4, -⟩ := q11 hs
  obtain ⟨⟨N, U, Ln, z, g, tr, i0_, i1_, i2_, i4_, i5_, i6_, hN, hU, hL, hz, hg, htr⟩, hb3, hb7⟩ := v1 i q4
  unfold waitsQ at hw
  have ne5 : ¬ τ.2 0 (144 + 8 * q + 5) = 0 := by rw [hw]; decide
  have d7 : f_X3_cell σ 2 (nI q) (7 : Int32) = some (iI hp) := (h'.pap6 (k := 7) hq (by omega)).trans (by rw [if_neg ne5, w3])
  have d6 : f_X3_cell σ 2 (nI q) (6 : Int32) = some (nI cs) := (h'.pap6 (k := 6) hq (by omega)).trans (by rw [if_neg ne5, w1])
  have d1 : f_X3_cell σ 2 (nI q) (1 : Int32) = some (nI i) := (h'.pap (k := 1) hq (by omega)).trans (by rw [q3])
  have e6 : f_X3_cell σ 0 (nI i) (6 : Int32) = some (nI tr) := (h'.ins q4 6 (by omega)).trans (by rw [i6_])
  have e7 : f_X3_cell σ 0 (nI i) (7 : Int32) = some (τ.2 0 (4 + 8 * i + 7)) := h'.ins q4 7 (by omega)
  have e5 : f_X3_cell σ 0 (nI i) (5 : Int32) = some (nI g) := (h'.ins q4 5 (by omega)).trans (by rw [i5_])
  have e1 : f_X3_cell σ 0 (nI i) (1 : Int32) = some (nI U) := (h'.ins q4 1 (by omega)).trans (by rw [i1_])
  unfold f_X2_isJustified f_X5_isGranted
  rw [d7, d6, d1, sheet_1 (by omega), sheet_7 (by omega), sheet_6 (by omega), q3, w1, w3]
  simp only [Option.bind_some]
  rw [e6, e7, e5, e1, tool_6 (by omega), tool_7 (by omega), tool_5 (by omega), tool_1 (by omega), i6_, i5_, i1_]
  simp only [Option.bind_some]
  by_cases hpos : 0 < iI hp
  rotate_left
  · rw [if_neg hpos, if_neg hpos]; exact ⟨0, rfl, rfl, Or.inl rfl⟩
  rw [if_pos hpos, if_pos hpos]
  have z0 : nI tr = 0 ↔ tr = 0 := nI_eq (b := 0) (by omega) (by omega)
  have zl : nI tr ≤ 0 ↔ tr = 0 := by rw [show (0 : Int32) = nI 0 from rfl, nI_leN (by omega) (by omega)]; omega
  simp only [z0, zl]
  repeat' split
  all_goals first
    | exact ⟨0, rfl, rfl, Or.inl rfl⟩
    | exact ⟨1, rfl, rfl, Or.inr ⟨rfl, hpos⟩⟩
end APPEAL
