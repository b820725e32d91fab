/-! THE LAW, from the state alone. -/
theorem lg_same (x : Int64) : lg_cmp x x = 0 := by simp [lg_cmp]
theorem J.like {f g : Nat → Int32} {a c : Nat} (h : J f a c) (hl : likeF f g) (ha : a ≤ 10) (hc : c ≤ 60) : J g a c := h.keep (fun x _ h2 => (hl x h2).symm) (fun i hi k hk => (hl _ (by omega)).symm) hc (Nat.le_refl _)
section LW
variable {σ τ σ' τ' : Sg} {a b c a' b' c' i p q : Nat} {ρ : Sg} {K : Sg × Sg → Int32 → Option Int32} {xs : Nat → Int32} {L : Nat}
theorem law_354 (h : GS σ τ a b c) (v2 v4 : Int32) : f_L_law_b354 xs L K (σ, ρ) v2 v4 = K (σ, ρ) (v2 + 1) := by
  obtain ⟨⟨ha, hb, hc⟩, -⟩ := id h.2.1
  unfold f_L_law_b354 f_L_law_b383
  rw [show f_X4_count (σ, ρ).1 (1 : Int32) = _ from r_cnt1 h.2.1, Option.bind_some]
  rcases Nat.eq_zero_or_pos b with b0 | b0
  · rw [if_pos (by rw [b0]; decide)]; rfl
  · obtain ⟨p, hp, ep⟩ := low_in (σ := σ) (n := b) (x := v4 >>> ((5 : Int32) &&& 31)) b0 (by omega)
    rw [if_neg (by rw [show (0 : Int32) = nI 0 from rfl, nI_leN (by omega) (by omega)]; omega), Option.bind_some, show f_L_low (σ, ρ).1 (v4 >>> ((5 : Int32) &&& 31)) (nI b) = _ from ep, Option.bind_some, show f_L_would (σ, ρ).1 (nI p) = _ from would_ok h.2.1 h.2.2 hp, Option.bind_some, if_neg (by decide)]; rfl
theorem law_tail (h : GS σ τ a b c) (v2 v3 v4 : Int32) : f_L_law_b275 xs L K (σ, ρ) v2 v3 v4 1 = K (σ, ρ) (v2 + 1) := by
  obtain ⟨⟨ha, hb, hc⟩, -⟩ := id h.2.1
  have w := law_354 (K := K) (xs := xs) (L := L) (ρ := ρ) h v2 v4
  unfold f_L_law_b275
  rw [if_neg (by decide), show f_L_ranks (σ, ρ).1 = _ from ranks_ok h.2.1, Option.bind_some, if_neg (by decide), show f_L_waits (σ, ρ).1 = _ from waits_ok h.2.1, Option.bind_some, if_neg (by decide), show f_L_papers (σ, ρ).1 = _ from papers_ok h.2.1 h.2.2, Option.bind_some]
  simp only [lts, lt]
  rw [if_neg (by decide), r_cnt9, Option.bind_some, if_pos (by trivial), r_cnt0 h.2.1, Option.bind_some]
  rcases Nat.eq_zero_or_pos a with a0 | a0
  · rw [if_pos (by rw [a0]; decide)]
    exact w
  · obtain ⟨i, hi, ei⟩ := low_in (σ := σ) (n := a) (x := v4 >>> ((3 : Int32) &&& 31)) a0 (by omega)
    obtain ⟨m, hm, em⟩ := low_in (σ := σ) (n := 9000) (x := v3 >>> ((2 : Int32) &&& 31)) (by omega) (by omega)
    rw [if_neg (by rw [show (0 : Int32) = nI 0 from rfl, nI_leN (by omega) (by omega)]; omega), Option.bind_some, ei, Option.bind_some, show (9000 : Int32) = nI 9000 from rfl, em, Option.bind_some, show nI m - (1000 : Int32) = iI ((m : Int) - 1000) by rw [nI_iI, show (1000 : Int32) = iI 1000 from rfl, iI_sub], coincides_ok h.2.1 hi ⟨by omega, by omega⟩, Option.bind_some, if_neg (by decide)]
    exact w
theorem hist_n (h : Inv σ τ) : ∃ n : Nat, n ≤ 4 ∧ σ.1 20 = nI n ∧ τ.1 0 = nI n := by
  obtain ⟨-, ⟨n, o, hn, -, e20, -, m0, -⟩, -⟩ := h
  exact ⟨n, hn, e20, m0⟩
/-- what is undone is as it was -/
theorem law_undo (h : GS σ τ a b c) (hI : Inv σ' τ') (hr : Rec τ τ') {n : Nat} (hn : τ.1 0 = nI n) (hn4 : n ≤ 4) {d : Int64} (hd : f_L_digest σ = some d) (v2 v3 v4 : Int32) : ∃ σ2 τ2 a b c, f_L_law_b249 xs L K (σ', ρ) v2 v3 v4 d (nI (min n 3)) = f_L_law_b275 xs L K (σ2, ρ) v2 v3 v4 1 ∧ GS σ2 τ2 a b c := by
  obtain ⟨n', hn', e1, e2, e3⟩ := hr
  have hnn : n' = n := by rw [hn, nI_eq (by omega) (by omega)] at e1; exact e1.symm
  subst hnn
  obtain ⟨σ2, τ2, u1, u2, u3, -⟩ := undo_v (h := min n' 3) hI (by omega) (by rw [e2]; congr 1; omega)
  have hl : likeF (τ.2 0) (τ2.2 0) := fun x hx => by rw [u3 x hx, e3 x hx]
  obtain ⟨d', d1, d2⟩ := dig_like h.1 u2 hl
  have hdd : d' = d := by rw [hd] at d1; exact (Option.some.inj d1).symm
  subst hdd
  obtain ⟨⟨ha, hb, hc⟩, -⟩ := id h.2.1
  refine ⟨σ2, τ2, a, b, c, ?_, ?_⟩
  · unfold f_L_law_b249 f_L_law_b273
    rw [show f_X4_undo (σ', ρ).1 = _ from u1, Option.bind_some]
    simp only [lts, lt]
    rw [if_pos (by trivial), d2, Option.bind_some, lg_same, if_pos (by trivial)]
  · obtain ⟨a', b', c', s⟩ := u2.si
    have s1' := h.2.1.like hl
    obtain ⟨rfl, rfl, rfl⟩ := s1'.counts s
    exact ⟨u2, s, h.2.2.like hl ha hc⟩
theorem law_event (h : GS σ τ a b c) (h' : GS σ' τ' a' b' c') (hs : Same τ τ' ∨ Rec τ τ') {n : Nat} (hn : τ.1 0 = nI n) (hn4 : n ≤ 4) {d : Int64} (hd : f_L_digest σ = some d) (v2 v3 v4 : Int32) : ∃ σ2 τ2 a b c, f_L_law_b194 xs L K (σ', ρ) v2 v3 v4 (nI n) d 1 = K (σ2, ρ) (v2 + 1) ∧ GS σ2 τ2 a b c := by
  have stay : ∃ σ2 τ2 a b c, f_L_law_b275 xs L K (σ', ρ) v2 v3 v4 1 = K (σ2, ρ) (v2 + 1) ∧ GS σ2 τ2 a b c := ⟨σ', τ', _, _, _, law_tail h' v2 v3 v4, h'⟩
  have undo : Rec τ τ' → ∃ σ2 τ2 a b c, f_L_law_b249 xs L K (σ', ρ) v2 v3 v4 d (nI (min n 3)) = K (σ2, ρ) (v2 + 1) ∧ GS σ2 τ2 a b c := fun hr => by
    obtain ⟨σ2, τ2, a, b, c, e, g⟩ := law_undo (K := K) (xs := xs) (L := L) (ρ := ρ) h h'.1 hr hn hn4 hd v2 v3 v4
    exact ⟨σ2, τ2, a, b, c, e.trans (law_tail g v2 v3 v4), g⟩
  obtain ⟨n1, hn1, e20, m0⟩ := hist_n h'.1
  have core : ∃ σ2 τ2 a b c, f_L_law_b206 xs L K (σ', ρ) v2 v3 v4 (nI n) d 1 (nI (min n 3)) = K (σ2, ρ) (v2 + 1) ∧ GS σ2 τ2 a b c := by
    unfold f_L_law_b206
    rw [if_neg (by decide)]
    by_cases hv : v4 &&& (3072 : Int32) = 0
    · rw [if_pos hv, show f_X4_count (σ', ρ).1 (7 : Int32) = some (nI n1) from r_cnt7.trans (by rw [e20]), Option.bind_some]
      by_cases e : n1 = n
      · rw [if_pos (by rw [e])]
        by_cases e4 : n = 4
        · rw [if_pos (by rw [e4]; rfl)]
          obtain ⟨d', hd'⟩ : ∃ d', f_L_digest σ' = some d' := by
            obtain ⟨d', q1, -⟩ := dig_like h'.1 h'.1 (fun _ _ => rfl)
            exact ⟨d', q1⟩
          rw [show f_L_digest (σ', ρ).1 = _ from hd', Option.bind_some]
          by_cases ed : lg_cmp d' d = 0
          · rw [if_pos ed]; exact stay
          · rw [if_neg ed]
            rcases hs with hs | hs
            · obtain ⟨d2, q1, q2⟩ := dig_like h.1 h'.1 (fun x _ => by rw [hs.2.1])
              rw [hd] at q1; rw [hd'] at q2
              have : d' = d := by rw [Option.some.inj q1, Option.some.inj q2]
              rw [this, lg_same] at ed
              exact absurd rfl ed
            · exact undo hs
        · rw [if_neg (show ¬ nI n = (4 : Int32) by rw [show (4 : Int32) = nI 4 from rfl, nI_eq (by omega) (by omega)]; exact e4)]; exact stay
      · rw [if_neg (by rw [nI_eq (by omega) (by omega)]; exact e)]
        rcases hs with hs | hs
        · rw [hs.1, hn, nI_eq (by omega) (by omega)] at m0
          exact absurd m0.symm e
        · exact undo hs
    · rw [if_neg hv]; exact stay
  unfold f_L_law_b194
  by_cases e4 : n = 4
  · rw [if_pos (by rw [e4]; rfl)]
    rw [show nI (min n 3) = (3 : Int32) by rw [e4]; rfl] at core
    exact core
  · rw [if_neg (show ¬ nI n = (4 : Int32) by rw [show (4 : Int32) = nI 4 from rfl, nI_eq (by omega) (by omega)]; exact e4)]
    rw [show min n 3 = n by omega] at core
    exact core
theorem cell_some (hL : L ≤ 260) {k : Nat} (hk : k < 1000) : ∃ v, f_L_cell xs L (nI k) = some v := by
  unfold f_L_cell
  by_cases h : Int32.ofNat L ≤ nI k
  · rw [if_pos h]; exact ⟨_, rfl⟩
  · rw [if_neg h]
    have : k < L := by
      rw [show Int32.ofNat L = nI L from rfl, nI_leN (by omega) (by omega)] at h; omega
    rw [gd_of (inb_n this (by omega))]
    exact ⟨_, rfl⟩
theorem law_loop (hL : L ≤ 260) : ∀ (m n e : Nat) (σ τ : Sg) (a b c : Nat), m + e = 24 → m < n → GS σ τ a b c → f_L_law_b70 xs L n (σ, ρ) (nI e) = some 1 := by
  intro m
  induction m with
  | zero =>
    intro n e σ τ a b c hm hn h
    obtain ⟨n, rfl⟩ : ∃ z, n = z + 1 := ⟨n - 1, by omega⟩
    have : e = 24 := by omega
    subst this
    rw [f_L_law_b70.eq_2, if_pos (by decide)]
  | succ m ih =>
    intro n e σ τ a b c hm hn h
    obtain ⟨n, rfl⟩ : ∃ z, n = z + 1 := ⟨n - 1, by omega⟩
    obtain ⟨v3, c1⟩ := cell_some (xs := xs) hL (k := 2 * e) (by omega)
    obtain ⟨v4, c2⟩ := cell_some (xs := xs) hL (k := 2 * e + 1) (by omega)
    obtain ⟨s, hs, es⟩ := low_in (σ := σ) (n := 16) (x := v3 >>> ((9 : Int32) &&& 31)) (by omega) (by omega)
    obtain ⟨nh, hnh, e20, m0⟩ := hist_n h.1
    obtain ⟨d, hd, -⟩ := dig_like h.1 h.1 (fun _ _ => rfl)
    have k2 : (2 : Int32) * nI e = nI (2 * e) := by rw [show (2 : Int32) = nI 2 from rfl, pk_mul]
    have cont : ∀ o : Option (Int32 × Sg), EvO τ o → (o.bind fun q => lts (q.2, ρ) fun σ31 => lt q.1 fun r => f_L_law_b194 xs L (f_L_law_b70 xs L n) σ31 (nI e) v3 v4 (nI nh) d r) = some 1 := by
      intro o ho
      obtain ⟨σ', τ', a', b', c', eo, g, hsr⟩ := ho
      rw [eo, Option.bind_some]
      simp only [lts, lt]
      obtain ⟨σ2, τ2, a2, b2, c2', e2, g2⟩ := law_event (K := f_L_law_b70 xs L n) (xs := xs) (L := L) (ρ := ρ) h g hsr m0 hnh hd (nI e) v3 v4
      rw [e2, nI_1]
      exact ih n (e + 1) σ2 τ2 a2 b2 c2' (by omega) (by omega) g2
    rw [f_L_law_b70.eq_2, if_neg (by rw [show (24 : Int32) = nI 24 from rfl, nI_leN (by omega) (by omega)]; omega), k2, c1, Option.bind_some, nI_1, c2, Option.bind_some, show f_L_low (σ, ρ).1 (v3 >>> ((9 : Int32) &&& 31)) (16 : Int32) = _ from es, Option.bind_some, show f_X4_count (σ, ρ).1 (7 : Int32) = some (nI nh) from r_cnt7.trans (by rw [e20]), Option.bind_some, show f_L_digest (σ, ρ).1 = _ from hd, Option.bind_some]
    by_cases h4 : (4 : Int32) ≤ nI s
    · rw [if_pos h4]
      by_cases h7 : (7 : Int32) ≤ nI s
      · rw [if_pos h7]
        by_cases h11 : (11 : Int32) ≤ nI s
        · rw [if_pos h11]; exact cont _ (appeals_ok h _ _ _)
        · rw [if_neg h11]; exact cont _ (writes_ok h _ _)
      · rw [if_neg h7]; exact cont _ (pupils_ok h _ _ _)
    · rw [if_neg h4]; exact cont _ (tools_ok h _ _ _)
end LW
