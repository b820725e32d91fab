/-! THE QUEUE by the law. -/
def hoV (f : Nat → Int32) (q : Nat) : Int := (f (144 + 8 * q + 7)).toInt
def mkV (f : Nat → Int32) (q : Nat) : Int := (f (144 + 8 * q + 4)).toInt
def soon (f : Nat → Int32) (p q : Nat) : Bool := if hoV f p = hoV f q then (if mkV f p = mkV f q then decide (p < q) else decide (mkV f p < mkV f q)) else decide (hoV f q < hoV f p)
theorem soon_iff (f : Nat → Int32) (p q : Nat) : soon f p q = true ↔ (hoV f q < hoV f p ∨ (hoV f p = hoV f q ∧ (mkV f p < mkV f q ∨ (mkV f p = mkV f q ∧ p < q)))) := by
  unfold soon
  by_cases h1 : hoV f p = hoV f q
  · rw [if_pos h1]
    by_cases h2 : mkV f p = mkV f q
    · rw [if_pos h2, decide_eq_true_eq]; omega
    · rw [if_neg h2, decide_eq_true_eq]; omega
  · rw [if_neg h1, decide_eq_true_eq]; omega
abbrev wq (f : Nat → Int32) : Nat → Bool := fun q => decide (f (144 + 8 * q + 5) = 1)
theorem soon_ord (f : Nat → Int32) (c : Nat) : ordR c (wq f) (soon f) := by
  refine ⟨fun x _ _ => ?_, fun x y _ _ _ _ hne => ?_, fun x y z _ _ _ _ _ _ h1 h2 => ?_⟩
  · cases hs : soon f x x
    · rfl
    · rw [soon_iff] at hs; omega
  · rw [soon_iff, soon_iff]; omega
  · rw [soon_iff] at h1 h2 ⊢; omega
section WT
variable {σ : Sg} {a b c p q : Nat} {f : Nat → Int32}
theorem i_eq {x y : Int32} : x = y ↔ x.toInt = y.toInt := Int32.toInt_inj.symm
theorem sooner_v (h : SI σ a b c f) (hp : p < c) (hq : q < c) (wp : wq f p = true) (wq' : wq f q = true) : f_X2_isSooner σ (nI p) (nI q) = some (if soon f p q = true then 1 else 0) := by
  have hc := h.1.2.2
  have wp' : f (144 + 8 * p + 5) = 1 := of_decide_eq_true wp
  have wq'' : f (144 + 8 * q + 5) = 1 := of_decide_eq_true wq'
  have p7 : f_X3_cell σ 2 (nI p) (7 : Int32) = some (f (144 + 8 * p + 7)) := (R3.pap6 (k := 7) h hp (by omega)).trans (by rw [if_neg (by rw [wp']; decide)])
  have q7 : f_X3_cell σ 2 (nI q) (7 : Int32) = some (f (144 + 8 * q + 7)) := (R3.pap6 (k := 7) h hq (by omega)).trans (by rw [if_neg (by rw [wq'']; decide)])
  have p4 : f_X3_cell σ 2 (nI p) (4 : Int32) = some (f (144 + 8 * p + 4)) := R3.pap (k := 4) h hp (by omega)
  have q4 : f_X3_cell σ 2 (nI q) (4 : Int32) = some (f (144 + 8 * q + 4)) := R3.pap (k := 4) h hq (by omega)
  unfold f_X2_isSooner
  rw [p7, q7, p4, q4]
  simp only [Option.bind_some]
  unfold soon hoV mkV
  have ple : nI q ≤ nI p ↔ q ≤ p := nI_leN (by omega) (by omega)
  by_cases e7 : f (144 + 8 * p + 7) = f (144 + 8 * q + 7)
  · rw [if_pos e7, if_pos (i_eq.mp e7)]
    by_cases e4 : f (144 + 8 * p + 4) = f (144 + 8 * q + 4)
    · rw [if_pos e4, if_pos (i_eq.mp e4)]
      by_cases e : q ≤ p
      · rw [if_pos (ple.mpr e), if_neg (by rw [decide_eq_true_eq]; omega)]
      · rw [if_neg (fun z => e (ple.mp z)), if_pos (by rw [decide_eq_true_eq]; omega)]
    · rw [if_neg e4, if_neg (fun z => e4 (i_eq.mpr z))]
      have e4' := fun z => e4 (i_eq.mpr z)
      by_cases e : f (144 + 8 * q + 4) ≤ f (144 + 8 * p + 4)
      · have := Int32.le_iff_toInt_le.mp e
        rw [if_pos e, if_neg (by rw [decide_eq_true_eq]; omega)]
      · have := Int32.lt_iff_toInt_lt.mp (Int32.not_le.mp e)
        rw [if_neg e, if_pos (by rw [decide_eq_true_eq]; omega)]
  · rw [if_neg e7, if_neg (fun z => e7 (i_eq.mpr z))]
    have e7' := fun z => e7 (i_eq.mpr z)
    by_cases e : f (144 + 8 * p + 7) ≤ f (144 + 8 * q + 7)
    · have := Int32.le_iff_toInt_le.mp e
      rw [if_pos e, if_neg (by rw [decide_eq_true_eq]; omega)]
    · have := Int32.lt_iff_toInt_lt.mp (Int32.not_le.mp e)
      rw [if_neg e, if_pos (by rw [decide_eq_true_eq]; omega)]
theorem waits_v (h : SI σ a b c f) (hp : p < c) : f_X2_waits σ (nI p) = some (if wq f p = true then 1 else 0) := by
  unfold f_X2_waits
  rw [show f_X3_cell σ 2 (nI p) (5 : Int32) = some (f (144 + 8 * p + 5)) from R3.pap (k := 5) h hp (by omega), Option.bind_some]
  by_cases e : f (144 + 8 * p + 5) = 1
  · rw [if_pos e, if_pos (decide_eq_true e)]
  · rw [if_neg e, if_neg (by rw [decide_eq_true_eq]; exact e)]
abbrev rkW (f : Nat → Int32) (c p : Nat) : Nat := rkR c (wq f) (soon f) p
theorem ahead_vl (h : SI σ a b c f) (hp : p < c) (wp : wq f p = true) : ∀ (m n i : Nat), m + i = c → m < n → f_X2_appealsAhead_b4 σ n (nI p) (nI (cntB (fun y => wq f y && soon f y p) i)) (nI i) = some (nI (rkW f c p)) := by
  have h' := h
  obtain ⟨⟨ha, hb, hc⟩, ⟨r0, r1, r2⟩, -⟩ := h
  intro m
  induction m with
  | zero =>
    intro n i hm hn
    obtain ⟨n, rfl⟩ : ∃ z, n = z + 1 := ⟨n - 1, by omega⟩
    have hk : i = c := by omega
    subst hk
    rw [f_X2_appealsAhead_b4.eq_2]
    unfold f_X3_size
    rw [Option.bind_some, r2, if_pos (Int32.le_refl _)]
    rfl
  | succ m ih =>
    intro n i hm hn
    obtain ⟨n, rfl⟩ : ∃ z, n = z + 1 := ⟨n - 1, by omega⟩
    have nle : ¬ nI c ≤ nI i := by rw [nI_leN (by omega) (by omega)]; omega
    have e := ih n (i + 1) (by omega) (by omega)
    rw [cntB_s] at e
    rw [f_X2_appealsAhead_b4.eq_2, waits_v h' (show i < c by omega)]
    unfold f_X3_size f_X2_appealsAhead_b35
    simp only [Option.bind_some, lt]
    rw [r2, if_neg nle, nI_1]
    cases hw : wq f i
    · rw [hw, Bool.false_and, if_neg (by decide), Nat.add_zero] at e
      rw [if_pos (by decide)]
      exact e
    · rw [if_neg (by decide), sooner_v h' (show i < c by omega) hp hw wp, Option.bind_some]
      cases hs : soon f i p
      · rw [hw, hs, Bool.and_false, if_neg (by decide), Nat.add_zero] at e
        rw [if_pos (by decide)]
        exact e
      · rw [hw, hs, Bool.and_true, if_pos rfl] at e
        rw [if_neg (by decide), nI_1]
        exact e
theorem ahead_v (h : SI σ a b c f) (hp : p < c) (wp : wq f p = true) : f_X2_appealsAhead σ (nI p) = some (nI (rkW f c p)) := by
  have hc := h.1.2.2
  exact ahead_vl h hp wp c fuel 0 (by omega) (by unfold fuel; omega)
theorem rkW_bd (h : SI σ a b c f) (hp : p < c) (wp : wq f p = true) : rkW f c p < cntS f 1 c := rk_top (soon_ord f c) hp wp
/-- the search for a place -/
theorem waiting_vl (h : SI σ a b c f) {k : Nat} (hk : k ≤ 60) : ∀ (m n i : Nat), m + i = c → m < n → (∀ j, j < i → wq f j = true → rkW f c j ≠ k) →
    (∃ x, x < c ∧ wq f x = true ∧ rkW f c x = k ∧ f_X2_waitingAt_b2 σ n (nI k) (nI i) = some (nI x)) ∨ ((∀ j, j < c → wq f j = true → rkW f c j ≠ k) ∧ f_X2_waitingAt_b2 σ n (nI k) (nI i) = some (-10000005)) := by
  have h' := h
  obtain ⟨⟨ha, hb, hc⟩, ⟨r0, r1, r2⟩, -⟩ := h
  intro m
  induction m with
  | zero =>
    intro n i hm hn hj
    obtain ⟨n, rfl⟩ : ∃ z, n = z + 1 := ⟨n - 1, by omega⟩
    have hi : i = c := by omega
    subst hi
    right
    refine ⟨hj, ?_⟩
    rw [f_X2_waitingAt_b2.eq_2]
    unfold f_X3_size
    rw [Option.bind_some, r2, if_pos (Int32.le_refl _)]
  | succ m ih =>
    intro n i hm hn hj
    obtain ⟨n, rfl⟩ : ∃ z, n = z + 1 := ⟨n - 1, by omega⟩
    have nle : ¬ nI c ≤ nI i := by rw [nI_leN (by omega) (by omega)]; omega
    rw [f_X2_waitingAt_b2.eq_2, waits_v h' (show i < c by omega)]
    unfold f_X3_size f_X2_waitingAt_b32
    simp only [Option.bind_some, lt]
    rw [r2, if_neg nle, nI_1]
    cases hw : wq f i
    · rw [if_pos (by decide)]
      exact ih n (i + 1) (by omega) (by omega) (fun j hj1 hj2 => by
        by_cases e : j = i
        · subst e; rw [hw] at hj2; cases hj2
        · exact hj j (by omega) hj2)
    · rw [if_neg (by decide), ahead_v h' (show i < c by omega) hw, Option.bind_some]
      have bd : rkW f c i ≤ c := cntB_le _ _
      by_cases e : rkW f c i = k
      · left
        exact ⟨i, by omega, hw, e, by rw [if_pos (by rw [e])]⟩
      · rw [if_neg (by rw [nI_eq (by omega) (by omega)]; exact e)]
        exact ih n (i + 1) (by omega) (by omega) (fun j hj1 hj2 => by
          by_cases e2 : j = i
          · subst e2; exact e
          · exact hj j (by omega) hj2)
theorem waiting_s (h : SI σ a b c f) {k : Nat} (hk : k ≤ 60) : (∃ x, x < c ∧ wq f x = true ∧ rkW f c x = k ∧ f_X4_waiting σ (nI k) = some (nI x)) ∨ ((∀ j, j < c → wq f j = true → rkW f c j ≠ k) ∧ f_X4_waiting σ (nI k) = some (-10000005)) := by
  have hc := h.1.2.2
  unfold f_X4_waiting f_X2_waitingAt
  rw [if_pos (Int32.not_lt.mp (nI_lt0 (by omega)))]
  rcases waiting_vl h hk c fuel 0 (by omega) (by unfold fuel; omega) (fun j hj => by omega) with ⟨x, h1, h2, h3, h4⟩ | ⟨h1, h2⟩
  · left; refine ⟨x, h1, h2, h3, ?_⟩
    rw [show f_X2_waitingAt_b2 σ fuel (nI k) (0 : Int32) = _ from h4]; rfl
  · right; refine ⟨h1, ?_⟩
    rw [show f_X2_waitingAt_b2 σ fuel (nI k) (0 : Int32) = _ from h2]; rfl
theorem waiting_v (h : SI σ a b c f) {k : Nat} (hk : k < cntS f 1 c) : ∃ x, x < c ∧ wq f x = true ∧ rkW f c x = k ∧ f_X4_waiting σ (nI k) = some (nI x) := by
  have hc := h.1.2.2
  have hle : cntS f 1 c ≤ c := cntB_le _ _
  rcases waiting_s h (k := k) (by omega) with h1 | ⟨h1, -⟩
  · exact h1
  · obtain ⟨x, hx, wx, e⟩ := rk_at (soon_ord f c) hk
    exact absurd e (h1 x hx wx)
theorem waiting_n (h : SI σ a b c f) : f_X4_waiting σ (nI (cntS f 1 c)) = some (-10000005) := by
  have hc := h.1.2.2
  have hle : cntS f 1 c ≤ c := cntB_le _ _
  rcases waiting_s h (k := cntS f 1 c) (by omega) with ⟨x, hx, wx, e, -⟩ | ⟨-, h1⟩
  · have := rkW_bd h hx wx; omega
  · exact h1
theorem waiting_m : f_X4_waiting σ (-1 : Int32) = some (-10000002) := by
  unfold f_X4_waiting
  rw [if_neg (by decide)]
theorem waits_step (h : SI σ a b c f) {x w k : Nat} {n : Int32} {K : Int32 → Int32 → Option Int32} (hx : x < c) (wx : wq f x = true) (hk : k ≤ 60) (hw : (k = 0 ∧ w = x) ∨ (w < c ∧ wq f w = true ∧ 0 < k ∧ soon f w x = true)) :
    f_L_waits_b34 σ K n (nI k) (nI x) (nI w) = K n (nI (k + 1)) := by
  have hc := h.1.2.2
  have wb : w < c := by omega
  have ww : wq f w = true := by
    rcases hw with hw | hw
    · rw [hw.2]; exact wx
    · exact hw.2.1
  have wx' : f (144 + 8 * x + 5) = 1 := of_decide_eq_true wx
  have ww' : f (144 + 8 * w + 5) = 1 := of_decide_eq_true ww
  have v3 := h.2.2.2.2.2.2.2.2.1
  obtain ⟨p1, i1_, x1_, k1, s1_, -, -, -, -, -, -, a7, a8, a9, -, a11⟩ := v3 x hx
  obtain ⟨p2, i2_, x2_, k2, s2_, -, -, -, -, -, -, b7, b8, b9, -, b11⟩ := v3 w wb
  have sx : s1_ ≠ 0 := by intro e; subst e; rw [a9] at wx'; exact absurd wx' (by decide)
  have sw : s2_ ≠ 0 := by intro e; subst e; rw [b9] at ww'; exact absurd ww' (by decide)
  obtain ⟨_, hx7, -, -, a12, a13, -⟩ := a11 sx
  obtain ⟨_, hw7, -, -, b12, b13, -⟩ := b11 sw
  unfold f_L_waits_b34 f_L_waits_b118
  rw [if_neg (nI_lt0 (by omega)), show f_X4_paper σ (nI x) (5 : Int32) = _ from r_pap6 (k := 5) h hx (by omega), Option.bind_some, if_pos wx', show f_X4_paper σ (nI w) (7 : Int32) = _ from r_pap67 (k := 7) h wb (by omega), show f_X4_paper σ (nI x) (7 : Int32) = _ from r_pap67 (k := 7) h hx (by omega), show f_X4_paper σ (nI w) (4 : Int32) = _ from r_pap6 (k := 4) h wb (by omega), show f_X4_paper σ (nI x) (4 : Int32) = _ from r_pap6 (k := 4) h hx (by omega), if_neg (show ¬ f (144 + 8 * w + 5) = 0 by rw [ww']; decide), if_neg (show ¬ f (144 + 8 * x + 5) = 0 by rw [wx']; decide), a12, b12, a7, b7]
  simp only [Option.bind_some, lt]
  rw [nI_1, iI_sub, nI_sub]
  have z : (0 : Int32) = nI 0 := rfl
  by_cases k0 : k = 0
  · rw [if_pos (by rw [z, nI_leN (by omega) (by omega)]; omega)]
  rw [if_neg (by rw [z, nI_leN (by omega) (by omega)]; omega)]
  have hs : soon f w x = true := by
    rcases hw with hw | hw
    · exact absurd hw.1 k0
    · exact hw.2.2.2
  rw [soon_iff] at hs
  unfold hoV mkV at hs
  rw [a12, b12, a7, b7, nI_iI, nI_iI, iI_toInt (by omega) (by omega), iI_toInt (by omega) (by omega), iI_toInt (by omega) (by omega), iI_toInt (by omega) (by omega)] at hs
  have y : (0 : Int32) = iI 0 := rfl
  have dlt : iI (hw7 - hx7) < 0 ↔ hw7 < hx7 := by rw [y, iI_lt ⟨by omega, by omega⟩ ⟨by omega, by omega⟩]; omega
  have deq : iI (hw7 - hx7) = 0 ↔ hw7 = hx7 := by rw [y, iI_eq ⟨by omega, by omega⟩ ⟨by omega, by omega⟩]; omega
  have mlt : 0 < iI ((k2 : Int) - k1) ↔ k1 < k2 := by rw [y, iI_lt ⟨by omega, by omega⟩ ⟨by omega, by omega⟩]; omega
  have meq : iI ((k2 : Int) - k1) = 0 ↔ k1 = k2 := by rw [y, iI_eq ⟨by omega, by omega⟩ ⟨by omega, by omega⟩]; omega
  have plt : nI w < nI x ↔ w < x := nI_ltN (by omega) (by omega)
  simp only [dlt, deq, mlt, meq, plt]
  rw [if_neg (by omega)]
  by_cases e1 : hw7 = hx7
  · rw [if_pos e1, if_neg (by omega)]
    by_cases e2 : k1 = k2
    · rw [if_pos e2, if_pos (by omega)]
    · rw [if_neg e2]
  · rw [if_neg e1]
theorem waits_loop (h : SI σ a b c f) : ∀ (m n k : Nat), m + k = cntS f 1 c → m < n → f_L_waits_b8 σ n (nI (cntS f 1 c)) (nI k) = some 1 := by
  have hc := h.1.2.2
  have hle : cntS f 1 c ≤ c := cntB_le _ _
  have h20 : cntS f 1 c ≤ 20 := h.2.2.2.2.2.2.2.2.2.2.2
  intro m
  induction m with
  | zero =>
    intro n k hm hn
    obtain ⟨n, rfl⟩ : ∃ z, n = z + 1 := ⟨n - 1, by omega⟩
    have hi : k = cntS f 1 c := by omega
    subst hi
    rw [f_L_waits_b8.eq_2, if_pos (Int32.le_refl _), if_neg (by rw [show (20 : Int32) = nI 20 from rfl, nI_ltN (by omega) (by omega)]; omega), waiting_n h, Option.bind_some, if_pos rfl, waiting_m, Option.bind_some, if_pos rfl]
  | succ m ih =>
    intro n k hm hn
    obtain ⟨n, rfl⟩ : ∃ z, n = z + 1 := ⟨n - 1, by omega⟩
    have ord := soon_ord f c
    obtain ⟨x, hx, wx, hk, ex⟩ := waiting_v h (k := k) (by omega)
    rw [f_L_waits_b8.eq_2, if_neg (by rw [nI_leN (by omega) (by omega)]; omega), ex, Option.bind_some]
    by_cases k0 : k = 0
    · subst k0
      rw [if_pos (show nI 0 ≤ 0 by decide), waits_step h hx wx (by omega) (Or.inl ⟨rfl, rfl⟩)]
      exact ih n 1 (by omega) (by omega)
    · obtain ⟨w, hw, ww, hk2, ew⟩ := waiting_v h (k := k - 1) (by omega)
      rw [if_neg (by rw [show (0 : Int32) = nI 0 from rfl, nI_leN (by omega) (by omega)]; omega), show nI k - (1 : Int32) = nI (k - 1) by
        rw [show nI k = nI ((k - 1) + 1) by rw [show k - 1 + 1 = k by omega], nI_pred], ew, Option.bind_some, waits_step h hx wx (by omega) (Or.inr ⟨hw, ww, by omega, rk_rel ord hw hx ww wx (by have e1 : rkR c (wq f) (soon f) x = k := hk; have e2 : rkR c (wq f) (soon f) w = k - 1 := hk2; omega)⟩)]
      exact ih n (k + 1) (by omega) (by omega)
theorem waits_ok (h : SI σ a b c f) : f_L_waits σ = some 1 := by
  have hc := h.1.2.2
  have hle : cntS f 1 c ≤ c := cntB_le _ _
  unfold f_L_waits
  rw [r_cnt3 h, Option.bind_some]
  exact waits_loop h (cntS f 1 c) fuel 0 (by omega) (by unfold fuel; omega)
end WT
