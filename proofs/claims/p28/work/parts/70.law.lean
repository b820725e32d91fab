/-! THE LAW, from the state alone. -/
theorem lg_same (x : Int64) : lg_cmp x x = 0 := by simp [lg_cmp]
theorem J.like {f g : Nat → Int32} {a c : Nat} (h : J f a c) (hl : likeF f g) (ha : a ≤ 10) (hc : c ≤ 60) : J g a c := h.keep (fun x _ h2 => (hl x h2).symm) (fun i hi k hk => (hl _ (by omega)).symm) hc (Nat.le_refl _)
section LW
variable {σ τ σ' τ' : Sg} {a b c i p q : Nat} {ρ : Sg} {K : Sg × Sg → Int32 → Option Int32} {xs : Nat → Int32} {L : Nat}
theorem law_tail (h : GS σ τ a b c) (v2 v3 v4 : Int32) : f_L_law_b275 xs L K (σ, ρ) v2 v3 v4 1 = K (σ, ρ) (v2 + 1) := by
  obtain ⟨⟨ha, hb, hc⟩, -⟩ := id h.2.1
  unfold f_L_law_b275 f_L_law_b354 f_L_law_b383
  rw [if_neg (by decide), show f_L_ranks (σ, ρ).1 = _ from ranks_ok h.2.1, Option.bind_some, if_neg (by decide), show f_L_waits (σ, ρ).1 = _ from waits_ok h.2.1, Option.bind_some, if_neg (by decide), show f_L_papers (σ, ρ).1 = _ from papers_ok h.2.1 h.2.2, Option.bind_some]
  simp only [lts, lt]
  rw [if_neg (by decide), r_cnt9, Option.bind_some, if_pos (by trivial), r_cnt0 h.2.1, Option.bind_some, r_cnt1 h.2.1]
  simp only [Option.bind_some]
  have w : (if nI b ≤ 0 then K (σ, ρ) (v2 + 1) else ((f_L_low σ (v4 >>> ((5 : Int32) &&& 31)) (nI b)).bind fun r50 => (f_L_would σ r50).bind fun r51 => if r51 = 0 then none else K (σ, ρ) (v2 + 1))) = K (σ, ρ) (v2 + 1) := by
    rcases Nat.eq_zero_or_pos b with b0 | b0
    · rw [if_pos (by rw [b0]; decide)]
    · obtain ⟨p, hp, ep⟩ := low_in (σ := σ) (n := b) (x := v4 >>> ((5 : Int32) &&& 31)) b0 (by omega)
      rw [if_neg (by rw [show (0 : Int32) = nI 0 from rfl, nI_leN (by omega) (by omega)]; omega), ep, Option.bind_some, would_ok h.2.1 h.2.2 hp, Option.bind_some, if_neg (by decide)]
  rcases Nat.eq_zero_or_pos a with a0 | a0
  · rw [if_pos (by rw [a0]; decide)]
    exact w
  · obtain ⟨i, hi, ei⟩ := low_in (σ := σ) (n := a) (x := v4 >>> ((3 : Int32) &&& 31)) a0 (by omega)
    obtain ⟨m, hm, em⟩ := low_in (σ := σ) (n := 9000) (x := v3 >>> ((2 : Int32) &&& 31)) (by omega) (by omega)
    rw [if_neg (by rw [show (0 : Int32) = nI 0 from rfl, nI_leN (by omega) (by omega)]; omega), ei, Option.bind_some, show f_L_low σ (v3 >>> ((2 : Int32) &&& 31)) (9000 : Int32) = _ from em, Option.bind_some, show nI m - (1000 : Int32) = iI ((m : Int) - 1000) by rw [nI_iI, show (1000 : Int32) = iI 1000 from rfl, iI_sub], coincides_ok h.2.1 hi ⟨by omega, by omega⟩, Option.bind_some, if_neg (by decide)]
    exact w
theorem hist_n (h : Inv σ τ) : ∃ n : Nat, n ≤ 4 ∧ σ.1 20 = nI n ∧ τ.1 0 = nI n := by
  obtain ⟨-, ⟨n, o, hn, -, e20, -, m0, -⟩, -⟩ := h
  exact ⟨n, hn, e20, m0⟩
/-- what is undone is as it was -/
theorem law_undo (h : GS σ τ a b c) (hI : Inv σ' τ') (hr : Rec τ τ') {n : Nat} (hn : τ.1 0 = nI n) (hn4 : n ≤ 4) {d : Int64} (hd : f_L_digest σ = some d) (v2 v3 v4 : Int32) : ∃ σ2 τ2 a b c, f_L_law_b249 xs L K (σ', ρ) v2 v3 v4 d (nI (min n 3)) = f_L_law_b275 xs L K (σ2, ρ) v2 v3 v4 1 ∧ GS σ2 τ2 a b c := by
  obtain ⟨n', hn', e1, e2, e3⟩ := hr
  have hnn : n' = n := by rw [hn, nI_eq (by omega) (by omega)] at e1; exact e1.symm
  subst hnn
  obtain ⟨σ2, τ2, u1, u2, u3, -⟩ := undo_v (h := min n' 3) hI (by omega) (by rw [e2]; congr 1; omega)
  have hl : likeF (τ.2 0) (τ2.2 0) := fun x hx => by rw [u3 x hx, e3 x hx]
  obtain ⟨d', d1, d2⟩ := dig_like h.1 u2 hl
  have hdd : d' = d := by rw [hd] at d1; exact (Option.some.inj d1).symm
  subst hdd
  obtain ⟨⟨ha, hb, hc⟩, -⟩ := id h.2.1
  refine ⟨σ2, τ2, a, b, c, ?_, ?_⟩
  · unfold f_L_law_b249 f_L_law_b273
    rw [show f_X4_undo (σ', ρ).1 = _ from u1, Option.bind_some]
    simp only [lts, lt]
    rw [if_pos (by trivial), d2, Option.bind_some, lg_same, if_pos (by trivial)]
  · obtain ⟨a', b', c', s⟩ := u2.si
    have s1' := h.2.1.like hl
    obtain ⟨rfl, rfl, rfl⟩ := s1'.counts s
    exact ⟨u2, s, h.2.2.like hl ha hc⟩
theorem law_event (h : GS σ τ a b c) (h' : GS σ' τ' a' b' c') (hs : Same τ τ' ∨ Rec τ τ') {n : Nat} (hn : τ.1 0 = nI n) (hn4 : n ≤ 4) {d : Int64} (hd : f_L_digest σ = some d) (v2 v3 v4 : Int32) : ∃ σ2 τ2 a b c, f_L_law_b194 xs L K (σ', ρ) v2 v3 v4 (nI n) d 1 = K (σ2, ρ) (v2 + 1) ∧ GS σ2 τ2 a b c := by
  have stay : ∃ σ2 τ2 a b c, f_L_law_b275 xs L K (σ', ρ) v2 v3 v4 1 = K (σ2, ρ) (v2 + 1) ∧ GS σ2 τ2 a b c := ⟨σ', τ', _, _, _, law_tail h' v2 v3 v4, h'⟩
  have undo : Rec τ τ' → ∃ σ2 τ2 a b c, f_L_law_b249 xs L K (σ', ρ) v2 v3 v4 d (nI (min n 3)) = K (σ2, ρ) (v2 + 1) ∧ GS σ2 τ2 a b c := fun hr => by
    obtain ⟨σ2, τ2, a, b, c, e, g⟩ := law_undo (K := K) (xs := xs) (L := L) (ρ := ρ) h h'.1 hr hn hn4 hd v2 v3 v4
    exact ⟨σ2, τ2, a, b, c, e.trans (law_tail g v2 v3 v4), g⟩
  obtain ⟨n1, hn1, e20, m0⟩ := hist_n h'.1
  have core : ∃ σ2 τ2 a b c, f_L_law_b206 xs L K (σ', ρ) v2 v3 v4 (nI n) d 1 (nI (min n 3)) = K (σ2, ρ) (v2 + 1) ∧ GS σ2 τ2 a b c := by
    unfold f_L_law_b206
    rw [if_neg (by decide)]
    by_cases hv : v4 &&& (3072 : Int32) = 0
    · rw [if_pos hv, show f_X4_count (σ', ρ).1 (7 : Int32) = some (nI n1) from r_cnt7.trans (by rw [e20]), Option.bind_some]
      by_cases e : n1 = n
      · rw [if_pos (by rw [e])]
        by_cases e4 : n = 4
        · rw [if_pos (by rw [e4]; rfl)]
          obtain ⟨d', hd'⟩ : ∃ d', f_L_digest σ' = some d' := by
            obtain ⟨d', q1, -⟩ := dig_like h'.1 h'.1 (fun _ _ => rfl)
            exact ⟨d', q1⟩
          rw [show f_L_digest (σ', ρ).1 = _ from hd', Option.bind_some]
          by_cases ed : lg_cmp d' d = 0
          · rw [if_pos ed]; exact stay
          · rw [if_neg ed]
            rcases hs with hs | hs
            · obtain ⟨d2, q1, q2⟩ := dig_like h.1 h'.1 (fun x _ => by rw [hs.2.1])
              rw [hd] at q1; rw [hd'] at q2
              have : d' = d := by rw [Option.some.inj q1, Option.some.inj q2]
              rw [this, lg_same] at ed
              exact absurd rfl ed
            · exact undo hs
        · rw [if_neg (show ¬ nI n = (4 : Int32) by rw [show (4 : Int32) = nI 4 from rfl, nI_eq (by omega) (by omega)]; exact e4)]; exact stay
      · rw [if_neg (by rw [nI_eq (by omega) (by omega)]; exact e)]
        rcases hs with hs | hs
        · rw [hs.1, hn, nI_eq (by omega) (by omega)] at m0
          exact absurd m0.symm e
        · exact undo hs
    · rw [if_neg hv]; exact stay
  unfold f_L_law_b194
  by_cases e4 : n = 4
  · rw [if_pos (by rw [e4]; rfl)]
    rw [show nI (min n 3) = (3 : Int32) by rw [e4]; rfl] at core
    exact core
  · rw [if_neg (show ¬ nI n = (4 : Int32) by rw [show (4 : Int32) = nI 4 from rfl, nI_eq (by omega) (by omega)]; exact e4)]
    rw [show min n 3 = n by omega] at core
    exact core
theorem cell_some (hL : L ≤ 260) {k : Nat} (hk : k < 1000) : ∃ v, f_L_cell xs L (nI k) = some v := by
  unfold f_L_cell
  by_cases h : Int32.ofNat L ≤ nI k
  · rw [if_pos h]; exact ⟨_, rfl⟩
  · rw [if_neg h]
    have : k < L := by
      rw [show Int32.ofNat L = nI L from rfl, nI_leN (by omega) (by omega)] at h; omega
    rw [gd_of (inb_n this (by omega))]
    exact ⟨_, rfl⟩
theorem law_loop (hL : L ≤ 260) : ∀ (m n e : Nat) (σ τ : Sg) (a b c : Nat), m + e = 24 → m < n → GS σ τ a b c → f_L_law_b70 xs L n (σ, ρ) (nI e) = some 1 := by
  intro m
  induction m with
  | zero =>
    intro n e σ τ a b c hm hn h
    obtain ⟨n, rfl⟩ : ∃ z, n = z + 1 := ⟨n - 1, by omega⟩
    have : e = 24 := by omega
    subst this
    rw [f_L_law_b70.eq_2, if_pos (by decide)]
  | succ m ih =>
    intro n e σ τ a b c hm hn h
    obtain ⟨n, rfl⟩ : ∃ z, n = z + 1 := ⟨n - 1, by omega⟩
    obtain ⟨v3, c1⟩ := cell_some (xs := xs) hL (k := 2 * e) (by omega)
    obtain ⟨v4, c2⟩ := cell_some (xs := xs) hL (k := 2 * e + 1) (by omega)
    obtain ⟨s, hs, es⟩ := low_in (σ := σ) (n := 16) (x := v3 >>> ((9 : Int32) &&& 31)) (by omega) (by omega)
    obtain ⟨nh, hnh, e20, m0⟩ := hist_n h.1
    obtain ⟨d, hd, -⟩ := dig_like h.1 h.1 (fun _ _ => rfl)
    have k2 : (2 : Int32) * nI e = nI (2 * e) := by rw [show (2 : Int32) = nI 2 from rfl, pk_mul]
    have cont : ∀ o : Option (Int32 × Sg), EvO τ o → (o.bind fun q => lts (q.2, ρ) fun σ31 => lt q.1 fun r => f_L_law_b194 xs L (f_L_law_b70 xs L n) σ31 (nI e) v3 v4 (nI nh) d r) = some 1 := by
      intro o ho
      obtain ⟨σ', τ', a', b', c', eo, g, hsr⟩ := ho
      rw [eo, Option.bind_some]
      simp only [lts, lt]
      obtain ⟨σ2, τ2, a2, b2, c2', e2, g2⟩ := law_event (K := f_L_law_b70 xs L n) (xs := xs) (L := L) (ρ := ρ) h g hsr m0 hnh hd (nI e) v3 v4
      rw [e2, nI_1]
      exact ih n (e + 1) σ2 τ2 a2 b2 c2' (by omega) (by omega) g2
    rw [f_L_law_b70.eq_2, if_neg (by rw [show (24 : Int32) = nI 24 from rfl, nI_leN (by omega) (by omega)]; omega), k2, c1, Option.bind_some, nI_1, c2, Option.bind_some, show f_L_low (σ, ρ).1 (v3 >>> ((9 : Int32) &&& 31)) (16 : Int32) = _ from es, Option.bind_some, show f_X4_count (σ, ρ).1 (7 : Int32) = some (nI nh) from r_cnt7.trans (by rw [e20]), Option.bind_some, show f_L_digest (σ, ρ).1 = _ from hd, Option.bind_some]
    by_cases h4 : (4 : Int32) ≤ nI s
    · rw [if_pos h4]
      by_cases h7 : (7 : Int32) ≤ nI s
      · rw [if_pos h7]
        by_cases h11 : (11 : Int32) ≤ nI s
        · rw [if_pos h11]; exact cont _ (appeals_ok h _ _ _)
        · rw [if_neg h11]; exact cont _ (writes_ok h _ _)
      · rw [if_neg h7]; exact cont _ (pupils_ok h _ _ _)
    · rw [if_neg h4]; exact cont _ (tools_ok h _ _ _)
end LW
theorem Inv.zero : Inv ((fun _ => 0), (fun _ _ => 0)) ((fun _ => 0), (fun _ _ => 0)) := by
  refine ⟨⟨0, 0, 0, ⟨by omega, by omega, by omega⟩, ⟨rfl, rfl, rfl⟩, ⟨rfl, rfl, rfl⟩, fun i hi => by omega, fun i hi => by omega, fun i hi => by omega, fun i hi => by omega, fun i hi => by omega, fun i hi => by omega, fun i _ _ k _ _ => rfl, fun i _ _ k _ _ => rfl, by decide⟩, ⟨0, 0, by omega, by omega, rfl, rfl, rfl, fun k hk => by omega⟩, Or.inl ⟨rfl, rfl⟩, 0, by omega, rfl, rfl, fun j hj => by omega⟩
theorem read_empty {τ : Sg} (e8 : τ.1 8 = 0) : ∃ τ', f_X5_readPapers τ = some ((-100 : Int32), τ') ∧ τ'.2 0 = τ.2 0 := by
  unfold f_X5_readPapers
  simp only [lts]
  generalize hρ : s1 (s1 τ 9 0) 10 0 = ρ
  have r8 : ρ.1 8 = 0 := by rw [← hρ, s1_ne (by omega), s1_ne (by omega)]; exact e8
  have r9 : ρ.1 9 = 0 := by rw [← hρ, s1_ne (by omega), s1_self]
  have r10 : ρ.1 10 = 0 := by rw [← hρ, s1_self]
  have r2 : ρ.2 = τ.2 := by rw [← hρ]; rfl
  obtain ⟨n, hn⟩ : ∃ n, fuel = n + 1 := ⟨4095, rfl⟩
  have e : f_X5_readsPaper ρ = some ((0 : Int32), s2 ρ 4 (upd (ρ.2 4) 0 (-10000005))) := by
    unfold f_X5_readsPaper f_X5_number
    rw [r8, r9, r10, if_pos (by decide)]
    simp only [lt, Option.bind_some, lts]
    rw [show ((3 : Int32) * 0) = 0 by decide, gd_of (by decide), gd_of (by decide), show ix (0 : Int32) = 0 from rfl, s2_self, upd_self, if_pos rfl]
  rw [hn, f_X5_readPapers_b12.eq_2, if_neg (by decide), e, Option.bind_some]
  simp only [lts, lt]
  rw [if_pos (by trivial), s2_1, r9]
  exact ⟨_, rfl, by rw [s2_ne (by omega), r2]⟩
theorem law_pure {L : Nat} (hL : L ≤ 260) (xs : Nat → Int32) : g_L_law xs L (((fun _ => 0), (fun _ _ => 0)), ((fun _ => 0), (fun _ _ => 0))) = some 1 := by
  generalize hz : (((fun _ => 0), (fun _ _ => 0)) : Sg) = z
  have hI0 : Inv z z := by rw [← hz]; exact Inv.zero
  have z1 : ∀ k, z.1 k = 0 := fun k => by rw [← hz]
  have z2 : ∀ k x, z.2 k x = 0 := fun k x => by rw [← hz]
  -- undo
  have u : f_X5_undo z = some ((-10000005 : Int32), z) := by
    unfold f_X5_undo
    rw [if_pos (z1 0)]
  obtain ⟨σ1, e1, hI1⟩ := (sim_undo hI0).stays u
  -- restore
  have r : f_X5_restore z = some ((-10000005 : Int32), z) := by
    unfold f_X5_restore
    rw [if_pos (z1 1)]
  obtain ⟨σ2, e2, hI2⟩ := (sim_restore hI1).stays r
  have S0 : ∀ {σ : Sg} {τ : Sg}, Inv σ τ → τ.2 0 = z.2 0 → SI σ 0 0 0 (τ.2 0) := fun {σ τ} hI hf => by
    obtain ⟨a, b, c, s⟩ := hI.si
    obtain ⟨rfl, rfl, rfl⟩ := s.counts2 (f := τ.2 0) (n0 := 0) (n1 := 0) (n2 := 0) (by rw [hf, z2]; rfl) (by rw [hf, z2]; rfl) (by rw [hf, z2]; rfl) (by omega) (by omega) (by omega)
    exact s
  -- decide
  have s2' := S0 hI2 rfl
  have d : Stays σ2 z (f_X4_decide σ2) (-10000005) := by
    rcases waiting_s s2' (k := 0) (by omega) with ⟨x, hx, -⟩ | ⟨-, hv⟩
    · omega
    · rcases a_decide hI2 s2' (r := -10000005) hv with ⟨-, h⟩ | ⟨q, p, i, hq, -⟩
      · exact h
      · omega
  obtain ⟨σ3, e3, hI3⟩ := d
  -- readPapers
  obtain ⟨r4, σ4, τ4, e4, e4', hI4⟩ := sim_read hI3
  obtain ⟨τ5, m4, m5⟩ := read_empty (τ := z) (z1 8)
  rw [m4] at e4'
  cases e4'
  have s4 := S0 hI4 m5
  have g4 : GS σ4 τ5 0 0 0 := ⟨hI4, s4, fun q hq => absurd hq (by omega)⟩
  have c5 : f_X4_coincidence σ4 (0 : Int32) (0 : Int32) (0 : Int32) = some (-10000001) := by
    unfold f_X4_coincidence
    rw [lacks_big s4.2.1.1 (by decide), Option.bind_some, if_neg (by decide)]
  unfold g_L_law
  rw [show f_X4_undo (z, z).1 = _ from e1, Option.bind_some]
  simp only [lts, lt]
  rw [if_pos (by trivial), e2, Option.bind_some]
  simp only []
  rw [if_pos (by trivial), e3, Option.bind_some]
  simp only []
  rw [if_pos (by trivial), e4, Option.bind_some]
  simp only []
  rw [if_pos (by trivial), show f_X4_ranked σ4 (0 : Int32) = _ from ranked_n s4, Option.bind_some, if_pos (by trivial), c5, Option.bind_some, if_pos (by trivial)]
  exact law_loop (ρ := z) hL 24 fuel 0 σ4 τ5 0 0 0 (by omega) (by unfold fuel; omega) g4
