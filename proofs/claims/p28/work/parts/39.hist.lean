/-! HISTORY: states are copied, kept and dropped alike. -/
theorem tl0 {s : Nat} (h : s < 6) : tlimN (3 * s) = 10 ∧ tcolN (3 * s) = 11 ∧ tsz (3 * s) = 110 := by
  have a : tlimN (3 * s) = 10 := by unfold tlimN; rw [if_neg (by omega), if_pos (by omega)]
  have b : tcolN (3 * s) = 11 := by unfold tcolN; rw [if_neg (by omega), if_pos (by omega)]
  exact ⟨a, b, by unfold tsz; rw [a, b]⟩
theorem tl1 {s : Nat} (h : s < 6) : tlimN (3 * s + 1) = 12 ∧ tcolN (3 * s + 1) = 9 ∧ tsz (3 * s + 1) = 108 := by
  have a : tlimN (3 * s + 1) = 12 := by unfold tlimN; rw [if_neg (by omega), if_neg (by omega), if_pos (by omega)]
  have b : tcolN (3 * s + 1) = 9 := by unfold tcolN; rw [if_neg (by omega), if_neg (by omega), if_pos (by omega)]
  exact ⟨a, b, by unfold tsz; rw [a, b]⟩
theorem tl2 {s : Nat} (h : s < 6) : tlimN (3 * s + 2) = 60 ∧ tcolN (3 * s + 2) = 8 ∧ tsz (3 * s + 2) = 480 := by
  have a : tlimN (3 * s + 2) = 60 := by unfold tlimN; rw [if_neg (by omega), if_neg (by omega), if_neg (by omega)]
  have b : tcolN (3 * s + 2) = 8 := by unfold tcolN; rw [if_neg (by omega), if_neg (by omega), if_neg (by omega)]
  exact ⟨a, b, by unfold tsz; rw [a, b]⟩
theorem cpy0 {f g : Nat → Int32} {n j : Nat} (h : j < n) : va_cpy f g 0 0 n j = f j := by
  rw [pk_cpy_in (by omega) (by omega)]
  congr 1
  omega
theorem copyState {σ : Sg} {s d : Nat} {f : Nat → Int32} (hs : s < 6) (hd : d < 6) (h : RS σ d f) :
    ∃ σ', f_X2_copyFrom σ (19 + s) (19 + d) = some σ' ∧ RS σ' s f ∧ (∀ k, ¬ (3 * s ≤ k ∧ k < 3 * s + 3) → σ'.1 k = σ.1 k) ∧ ∀ k, ¬ (3 * s ≤ k ∧ k < 3 * s + 3) → σ'.2 k = σ.2 k := by
  obtain ⟨a, b, c, ⟨ha, hb, hc⟩, ⟨r0, r1, r2⟩, hf, rest⟩ := h
  obtain ⟨l0, c0, z0⟩ := tl0 hs
  obtain ⟨l1, c1, z1⟩ := tl1 hs
  obtain ⟨l2, c2, z2⟩ := tl2 hs
  obtain ⟨l0', c0', z0'⟩ := tl0 hd
  obtain ⟨l1', c1', z1'⟩ := tl1 hd
  obtain ⟨l2', c2', z2'⟩ := tl2 hd
  unfold f_X2_copyFrom
  rw [show 19 + s - 19 = s by omega, show 19 + d - 19 = d by omega]
  rw [copy_in (t := 3 * s) (u := 3 * d) (by rw [z0, z0']) (by rw [l0, l0']) r0 (by omega), Option.bind_some]
  generalize hσ1 : s1 (s2 σ (3 * s) (va_cpy (σ.2 (3 * d)) (σ.2 (3 * s)) 0 0 (tsz (3 * s)))) (3 * s) (nI a) = σ1
  have g1 : ∀ k, k ≠ 3 * s → σ1.1 k = σ.1 k := fun k hk => by rw [← hσ1]; exact s1_ne hk
  have g2 : ∀ k, k ≠ 3 * s → σ1.2 k = σ.2 k := fun k hk => by rw [← hσ1]; exact s2_ne hk
  have g3 : σ1.1 (3 * s) = nI a := by rw [← hσ1]; exact s1_self
  have g4 : σ1.2 (3 * s) = va_cpy (σ.2 (3 * d)) (σ.2 (3 * s)) 0 0 110 := by rw [← hσ1, ← z0]; exact s2_self
  rw [copy_in (t := 3 * s + 1) (u := 3 * d + 1) (by rw [z1, z1']) (by rw [l1, l1']) (by rw [g1 _ (by omega)]; exact r1) (by omega), Option.bind_some]
  generalize hσ2 : s1 (s2 σ1 (3 * s + 1) (va_cpy (σ1.2 (3 * d + 1)) (σ1.2 (3 * s + 1)) 0 0 (tsz (3 * s + 1)))) (3 * s + 1) (nI b) = σ2
  have i1 : ∀ k, k ≠ 3 * s + 1 → σ2.1 k = σ1.1 k := fun k hk => by rw [← hσ2]; exact s1_ne hk
  have i2 : ∀ k, k ≠ 3 * s + 1 → σ2.2 k = σ1.2 k := fun k hk => by rw [← hσ2]; exact s2_ne hk
  have i3 : σ2.1 (3 * s + 1) = nI b := by rw [← hσ2]; exact s1_self
  have i4 : σ2.2 (3 * s + 1) = va_cpy (σ1.2 (3 * d + 1)) (σ1.2 (3 * s + 1)) 0 0 108 := by rw [← hσ2, ← z1]; exact s2_self
  rw [copy_in (t := 3 * s + 2) (u := 3 * d + 2) (by rw [z2, z2']) (by rw [l2, l2']) (by rw [i1 _ (by omega), g1 _ (by omega)]; exact r2) (by omega), Option.bind_some]
  generalize hσ3 : s1 (s2 σ2 (3 * s + 2) (va_cpy (σ2.2 (3 * d + 2)) (σ2.2 (3 * s + 2)) 0 0 (tsz (3 * s + 2)))) (3 * s + 2) (nI c) = σ3
  have j1 : ∀ k, k ≠ 3 * s + 2 → σ3.1 k = σ2.1 k := fun k hk => by rw [← hσ3]; exact s1_ne hk
  have j2 : ∀ k, k ≠ 3 * s + 2 → σ3.2 k = σ2.2 k := fun k hk => by rw [← hσ3]; exact s2_ne hk
  have j3 : σ3.1 (3 * s + 2) = nI c := by rw [← hσ3]; exact s1_self
  have j4 : σ3.2 (3 * s + 2) = va_cpy (σ2.2 (3 * d + 2)) (σ2.2 (3 * s + 2)) 0 0 480 := by rw [← hσ3, ← z2]; exact s2_self
  refine ⟨σ3, rfl, ⟨a, b, c, ?_⟩, fun k hk => ?_, fun k hk => ?_⟩
  · rw [j1 (3 * s) (by omega), i1 (3 * s) (by omega), g3, j1 (3 * s + 1) (by omega), i3, j3, j2 (3 * s) (by omega), i2 (3 * s) (by omega), g4, j2 (3 * s + 1) (by omega), i4, j4]
    refine R3.congr (ct := σ.2 (3 * d)) (cp := σ.2 (3 * d + 1)) (cq := σ.2 (3 * d + 2)) (f := f) ⟨⟨ha, hb, hc⟩, ⟨rfl, rfl, rfl⟩, hf, rest⟩ (fun j hj => cpy0 hj) (fun j hj => ?_) (fun j hj => ?_) (fun _ _ => rfl)
    · rw [cpy0 hj, g2 _ (by omega)]
    · rw [cpy0 hj, i2 _ (by omega), g2 _ (by omega)]
  · rw [j1 k (by omega), i1 k (by omega), g1 k (by omega)]
  · rw [j2 k (by omega), i2 k (by omega), g2 k (by omega)]
/-- the reference's copies -/
def cpA (now hist : Nat → Int32) (h j : Nat) : Nat → Int32 := fun x => if 624 * h + j ≤ x ∧ x < 624 * h + 624 then now (x - 624 * h) else hist x
def shA (hist : Nat → Int32) (j : Nat) : Nat → Int32 := fun x => if j ≤ x ∧ x < 1872 then hist (x + 624) else hist x
theorem rec_cp {h : Nat} (hh : h ≤ 3) : ∀ (m n j : Nat) (τ : Sg), m + j = 624 → m < n → τ.1 0 = nI h → f_X5_record_b51 n τ (nI j) = some (s1 (s2 τ 1 (cpA (τ.2 0) (τ.2 1) h j)) 0 (nI (h + 1))) := by
  intro m
  induction m with
  | zero =>
    intro n j τ hm hn hr
    obtain ⟨n, rfl⟩ : ∃ z, n = z + 1 := ⟨n - 1, by omega⟩
    have : j = 624 := by omega
    subst this
    rw [f_X5_record_b51.eq_2, if_pos (by decide)]
    simp only [lts]
    rw [hr, nI_1]
    have e : cpA (τ.2 0) (τ.2 1) h 624 = τ.2 1 := by funext x; unfold cpA; rw [if_neg (by omega)]
    rw [e, s2_id]
  | succ m ih =>
    intro n j τ hm hn hr
    obtain ⟨n, rfl⟩ : ∃ z, n = z + 1 := ⟨n - 1, by omega⟩
    rw [f_X5_record_b51.eq_2, if_neg (by rw [show (624 : Int32) = nI 624 from rfl, nI_leN (by omega) (by omega)]; omega), gd_of (inb_n (by omega) (by omega)), hr, show (624 : Int32) = nI 624 from rfl, pk_mul, nI_add, gd_of (inb_n (by omega) (by omega)), ix_n (by omega), ix_n (by omega)]
    simp only [lts, lt]
    rw [nI_1, ih n (j + 1) _ (by omega) (by omega) (by exact hr)]
    rw [s2_self, s2_s2, s2_ne (by omega)]
    congr 3
    funext x
    unfold cpA upd
    by_cases hx : x = 624 * h + j
    · subst hx
      rw [if_neg (by omega), if_pos rfl, if_pos (by omega), show 624 * h + j - 624 * h = j by omega]
    · rw [if_neg hx]
      by_cases h2 : 624 * h + (j + 1) ≤ x ∧ x < 624 * h + 624
      · rw [if_pos h2, if_pos (by omega)]
      · rw [if_neg h2, if_neg (by omega)]
theorem rec_sh : ∀ (m n j : Nat) (τ : Sg), m + j = 1872 → m < n → τ.1 0 = nI 4 → f_X5_record_b10 n τ (nI j) = f_X5_record_b49 (s1 (s2 τ 1 (shA (τ.2 1) j)) 0 (nI 3)) := by
  intro m
  induction m with
  | zero =>
    intro n j τ hm hn hr
    obtain ⟨n, rfl⟩ : ∃ z, n = z + 1 := ⟨n - 1, by omega⟩
    have : j = 1872 := by omega
    subst this
    rw [f_X5_record_b10.eq_2, if_pos (by decide)]
    simp only [lts]
    rw [hr]
    have e : shA (τ.2 1) 1872 = τ.2 1 := by funext x; unfold shA; rw [if_neg (by omega)]
    rw [e, s2_id]
    rfl
  | succ m ih =>
    intro n j τ hm hn hr
    obtain ⟨n, rfl⟩ : ∃ z, n = z + 1 := ⟨n - 1, by omega⟩
    rw [f_X5_record_b10.eq_2, if_neg (by rw [show (1872 : Int32) = nI 1872 from rfl, nI_leN (by omega) (by omega)]; omega), show (624 : Int32) = nI 624 from rfl, nI_add, gd_of (inb_n (by omega) (by omega)), gd_of (inb_n (by omega) (by omega)), ix_n (by omega), ix_n (by omega)]
    simp only [lts, lt]
    rw [nI_1, ih n (j + 1) _ (by omega) (by omega) (by exact hr), s2_self, s2_s2]
    congr 3
    funext x
    unfold shA upd
    by_cases h2 : j + 1 ≤ x ∧ x < 1872
    · rw [if_pos h2, if_neg (by omega), if_pos (by omega)]
    · rw [if_neg h2]
      by_cases hx : x = j
      · subst hx
        rw [if_pos rfl, if_pos (by omega)]
      · rw [if_neg hx, if_neg (by omega)]
theorem record_in {τ : Sg} {h : Nat} (hh : h ≤ 4) (hr : τ.1 0 = nI h) : ∃ τ', f_X5_record τ = some τ' ∧ τ'.1 0 = nI (min 4 (h + 1)) ∧ (∀ k, k ≠ 0 → τ'.1 k = τ.1 k) ∧ (∀ k, k ≠ 1 → τ'.2 k = τ.2 k) ∧ (∀ x, x < 624 → τ'.2 1 (624 * min h 3 + x) = τ.2 0 x) ∧ ∀ k, k < min h 3 → ∀ x, x < 624 → τ'.2 1 (624 * k + x) = τ.2 1 (624 * (if h = 4 then k + 1 else k) + x) := by
  unfold f_X5_record f_X5_record_b49
  rcases Nat.lt_or_ge h 4 with h4 | h4
  · rw [hr, if_neg (by rw [show (4 : Int32) = nI 4 from rfl, nI_eq (by omega) (by omega)]; omega)]
    refine ⟨_, rec_cp (by omega) 624 fuel 0 τ (by omega) (by unfold fuel; omega) hr, ?_, fun k hk => s1_ne hk, fun k hk => s2_ne hk, fun x hx => ?_, fun k hk x hx => ?_⟩
    · rw [s1_self]; congr 1; omega
    · rw [s1_2, s2_self]; unfold cpA
      rw [if_pos (by omega), show 624 * min h 3 + x - 624 * h = x by omega]
    · rw [s1_2, s2_self, if_neg (by omega)]; unfold cpA
      rw [if_neg (by omega)]
  · have : h = 4 := by omega
    subst this
    rw [hr, if_pos (show nI 4 = (4 : Int32) from rfl)]
    have e := rec_sh 1872 fuel 0 τ (by omega) (by unfold fuel; omega) hr
    unfold f_X5_record_b49 at e
    have e2 := rec_cp (h := 3) (by omega) 624 fuel 0 (s1 (s2 τ 1 (shA (τ.2 1) 0)) 0 (nI 3)) (by omega) (by unfold fuel; omega) s1_self
    refine ⟨_, e.trans e2, s1_self, fun k hk => ?_, fun k hk => ?_, fun x hx => ?_, fun k hk x hx => ?_⟩
    · rw [s1_ne hk, s2_1, s1_ne hk]; rfl
    · rw [s1_2, s2_ne hk, s1_2, s2_ne hk]
    · rw [s1_2, s2_self]; unfold cpA
      rw [if_pos (by omega), s1_2, s2_ne (by omega), show 624 * min 4 3 + x - 624 * 3 = x by omega]
    · rw [s1_2, s2_self, if_pos rfl]; unfold cpA
      rw [if_neg (by omega), s1_2, s2_self]; unfold shA
      rw [if_pos (by omega), show 624 * k + x + 624 = 624 * (k + 1) + x by omega]
theorem stateAt_in {σ : Sg} {o h : Nat} (ho : o < 4) (hh : h ≤ 4) (h1 : σ.1 19 = nI o) : f_X0_stateAt σ (nI h) = some (19 + (2 + (o + h) % 4)) := by
  have hm : (o + h) % 4 < 4 := Nat.mod_lt _ (by omega)
  unfold f_X0_stateAt
  rw [gd_of (by decide), h1, nI_add, show (4 : Int32) = nI 4 from rfl, pk_rem (by omega) (by omega) (by omega)]
  simp only [lt]
  rw [if_neg (nI_lt0 (by omega)), if_neg (by rw [nI_leN (by omega) (by omega)]; omega), gd_of (inb_n (by omega) (by omega)), ix_n (by omega)]
  congr 1; omega
/-- an act begins: the state that was before it is recorded on both sides -/
theorem rec_ok {σ τ : Sg} (hI : Inv σ τ) : ∃ σ' τ', f_X0_push σ = some σ' ∧ f_X5_record τ = some τ' ∧ Inv σ' τ' ∧ (∀ k, k < 3 → σ'.1 k = σ.1 k) ∧ (∀ k, k < 3 → σ'.2 k = σ.2 k) ∧ (σ'.1 18 = σ.1 18 ∧ σ'.2 18 = σ.2 18 ∧ σ'.1 23 = σ.1 23) ∧ (∀ k, k ≠ 0 → τ'.1 k = τ.1 k) ∧ ∀ k, k ≠ 1 → τ'.2 k = τ.2 k := by
  obtain ⟨hN, ⟨h, o, hh, ho, e20, e19, m0, hR⟩, hS, hT⟩ := hI
  have hm : (o + h) % 4 < 4 := Nat.mod_lt _ (by omega)
  obtain ⟨τ', t1, t2, t3, t4, t5, t6⟩ := record_in hh m0
  obtain ⟨σ1, x1_, x2_, x3_, x4_⟩ := copyState (s := 2 + (o + h) % 4) (d := 0) (by omega) (by omega) hN
  unfold f_X0_push
  rw [e20, stateAt_in ho hh e19, Option.bind_some, gd_of (by rw [decide_eq_true_eq]; omega), x1_, Option.bind_some, x3_ 20 (by omega), x3_ 19 (by omega), e20, e19]
  have keep : ∀ s f, s ≠ 2 + (o + h) % 4 → s < 6 → RS σ s f → ∀ σ2 : Sg, (∀ z, z ≠ 19 → z ≠ 20 → σ2.1 z = σ1.1 z) → σ2.2 = σ1.2 → RS σ2 s f := by
    intro s f hs hs6 hr σ2 q1 q2
    refine hr.same (fun k hk => ?_) (fun k hk => ?_)
    · rw [q1 _ (by omega) (by omega), x3_ _ (by omega)]
    · rw [q2, x4_ _ (by omega)]
  have fin : ∀ σ2 : Sg, (∀ z, z ≠ 19 → z ≠ 20 → σ2.1 z = σ1.1 z) → σ2.2 = σ1.2 → (∃ h' o' : Nat, h' ≤ 4 ∧ o' < 4 ∧ σ2.1 20 = nI h' ∧ σ2.1 19 = nI o' ∧ τ'.1 0 = nI h' ∧ ∀ k, k < h' → RS σ2 (2 + (o' + k) % 4) (fun x => τ'.2 1 (624 * k + x))) →
      Inv σ2 τ' ∧ (∀ k, k < 3 → σ2.1 k = σ.1 k) ∧ (∀ k, k < 3 → σ2.2 k = σ.2 k) ∧ (σ2.1 18 = σ.1 18 ∧ σ2.2 18 = σ.2 18 ∧ σ2.1 23 = σ.1 23) ∧ (∀ k, k ≠ 0 → τ'.1 k = τ.1 k) ∧ ∀ k, k ≠ 1 → τ'.2 k = τ.2 k := by
    intro σ2 q1 q2 hist
    have a1 : ∀ k, k < 3 → σ2.1 k = σ.1 k := fun k hk => by rw [q1 _ (by omega) (by omega), x3_ _ (by omega)]
    have a2 : ∀ k, k < 3 → σ2.2 k = σ.2 k := fun k hk => by rw [q2, x4_ _ (by omega)]
    refine ⟨⟨?_, hist, ?_, ?_⟩, a1, a2, ⟨by rw [q1 _ (by omega) (by omega), x3_ _ (by omega)], by rw [q2, x4_ _ (by omega)], by rw [q1 _ (by omega) (by omega), x3_ _ (by omega)]⟩, t3, t4⟩
    · unfold iNow
      rw [t4 0 (by omega)]
      exact hN.same (fun k hk => a1 _ (by omega)) (fun k hk => a2 _ (by omega))
    · rcases hS with ⟨a, b⟩ | ⟨a, b, c⟩
      · left; exact ⟨by rw [q1 _ (by omega) (by omega), x3_ _ (by omega)]; exact a, by rw [t3 _ (by omega)]; exact b⟩
      · right
        refine ⟨by rw [q1 _ (by omega) (by omega), x3_ _ (by omega)]; exact a, by rw [t3 _ (by omega)]; exact b, ?_⟩
        rw [t4 2 (by omega)]
        exact keep 1 _ (by omega) (by omega) c σ2 q1 q2
    · obtain ⟨n, n1, n2, n3, n4⟩ := hT
      refine ⟨n, n1, by rw [q1 _ (by omega) (by omega), x3_ _ (by omega)]; exact n2, by rw [t3 _ (by omega)]; exact n3, fun j hj => ?_⟩
      rw [q2, x4_ _ (by omega), t4 _ (by omega)]
      exact n4 j hj
  have rowNew : ∀ σ2 : Sg, (∀ z, z ≠ 19 → z ≠ 20 → σ2.1 z = σ1.1 z) → σ2.2 = σ1.2 → RS σ2 (2 + (o + h) % 4) (fun x => τ'.2 1 (624 * min h 3 + x)) := by
    intro σ2 q1 q2
    have hr : RS σ2 (2 + (o + h) % 4) (τ.2 0) := x2_.same (fun k hk => q1 _ (by omega) (by omega)) (fun k hk => by rw [q2])
    obtain ⟨a, b, c, hh3⟩ := hr
    exact ⟨a, b, c, hh3.congr (fun _ _ => rfl) (fun _ _ => rfl) (fun _ _ => rfl) (fun j hj => t5 j hj)⟩
  have rowOld : ∀ k s f, RS σ s (fun x => τ.2 1 (624 * (if h = 4 then k + 1 else k) + x)) → k < min h 3 → s ≠ 2 + (o + h) % 4 → s < 6 → ∀ σ2 : Sg, (∀ z, z ≠ 19 → z ≠ 20 → σ2.1 z = σ1.1 z) → σ2.2 = σ1.2 → f = (fun x => τ'.2 1 (624 * k + x)) → RS σ2 s f := by
    intro k s f hr hk hs hs6 σ2 q1 q2 hf
    subst hf
    obtain ⟨a, b, c, hh3⟩ := keep s _ hs hs6 hr σ2 q1 q2
    exact ⟨a, b, c, hh3.congr (fun _ _ => rfl) (fun _ _ => rfl) (fun _ _ => rfl) (fun j hj => t6 k hk j hj)⟩
  rcases Nat.lt_or_ge h 4 with h4 | h4
  · rw [if_neg (by rw [show (4 : Int32) = nI 4 from rfl, nI_leN (by omega) (by omega)]; omega)]
    simp only [lts]
    rw [nI_1]
    have q1 : ∀ z, z ≠ 19 → z ≠ 20 → (s1 σ1 20 (nI (h + 1))).1 z = σ1.1 z := fun z _ hz => s1_ne hz
    refine ⟨_, τ', rfl, t1, fin _ q1 rfl ⟨h + 1, o, by omega, ho, s1_self, by rw [s1_ne (by omega), x3_ 19 (by omega)]; exact e19, by rw [t2]; congr 1; omega, fun k hk => ?_⟩⟩
    rcases Nat.lt_or_ge k h with hk2 | hk2
    · have hr := hR k hk2
      exact rowOld k _ _ (by rw [if_neg (by omega)]; exact hr) (by omega) (by omega) (by omega) _ q1 rfl rfl
    · have hk3 : k = h := by omega
      subst hk3
      have := rowNew _ q1 rfl
      rw [show min k 3 = k by omega] at this
      exact this
  · have h44 : h = 4 := by omega
    subst h44
    rw [if_pos (by decide), gd_of (by decide)]
    simp only [lts]
    rw [nI_1, show (4 : Int32) = nI 4 from rfl, pk_rem (by omega) (by omega) (by omega)]
    have q1 : ∀ z, z ≠ 19 → z ≠ 20 → (s1 σ1 19 (nI ((o + 1) % 4))).1 z = σ1.1 z := fun z hz _ => s1_ne hz
    refine ⟨_, τ', rfl, t1, fin _ q1 rfl ⟨4, (o + 1) % 4, by omega, Nat.mod_lt _ (by omega), by rw [s1_ne (by omega), x3_ 20 (by omega)]; exact e20, s1_self, t2, fun k hk => ?_⟩⟩
    rcases Nat.lt_or_ge k 3 with hk2 | hk2
    · have hr := hR (k + 1) (by omega)
      have es : 2 + ((o + 1) % 4 + k) % 4 = 2 + (o + (k + 1)) % 4 := by omega
      rw [es]
      exact rowOld k _ _ (by rw [if_pos rfl]; exact hr) (by omega) (by omega) (by omega) _ q1 rfl rfl
    · have hk3 : k = 3 := by omega
      subst hk3
      have := rowNew _ q1 rfl
      have es : 2 + ((o + 1) % 4 + 3) % 4 = 2 + (o + 4) % 4 := by omega
      rw [es]
      exact this
