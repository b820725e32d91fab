/-! THE DIGEST: two states that tell alike have one digest; what undo brings back. -/
section DG
variable {σ σ' : Sg} {a b c i p q k : Nat} {f : Nat → Int32}
theorem r_ins_10 (h : SI σ a b c f) (hi : i < a) : f_X4_instrument σ (nI i) (10 : Int32) = some (nI (cntI f c i)) :=
  (r_ins (k := 10) h hi (by omega)).trans (congrArg some (h.2.2.2.1 i hi).2.2.2)
theorem r_pup_67 (h : SI σ a b c f) (hp : p < b) (hk : k = 6 ∨ k = 7) : f_X4_pupil σ (nI p) (nI k) = some (f (84 + 5 * p + (k - 3))) := by
  have h' := h
  obtain ⟨⟨ha, hb, hc⟩, ⟨r0, r1, r2⟩, -⟩ := h
  unfold f_X4_pupil
  rw [lacks_in r1 hp (by omega), Option.bind_some, if_pos rfl, outside_in (hi := (8 : Int32)) (nI_lt0 (by omega)) ((nI_leN (b := 8) (by omega) (by omega)).mpr (by omega)), Option.bind_some, if_pos rfl, if_neg (show ¬ nI k = (5 : Int32) from fun e => by have := (nI_eq (b := 5) (by omega) (by omega)).mp e; omega), if_neg (show ¬ nI k = (8 : Int32) from fun e => by have := (nI_eq (b := 8) (by omega) (by omega)).mp e; omega), cell1 r1 hp hb (by omega), Option.bind_some]
  obtain ⟨-, -, -, q4, q5⟩ := h'.2.2.2.2.1 p hp
  rcases hk with rfl | rfl
  · rw [q4]
  · rw [q5]
def SR (σ σ' : Sg) (a b c : Nat) : Prop := (∀ w, w < 7 → ∃ r, f_X4_count σ (nI w) = some r ∧ f_X4_count σ' (nI w) = some r) ∧ (∀ i, i < a → ∀ w, w < 11 → ∃ r, f_X4_instrument σ (nI i) (nI w) = some r ∧ f_X4_instrument σ' (nI i) (nI w) = some r) ∧ (∀ p, p < b → ∀ w, w < 9 → ∃ r, f_X4_pupil σ (nI p) (nI w) = some r ∧ f_X4_pupil σ' (nI p) (nI w) = some r) ∧ ∀ q, q < c → ∀ w, w < 8 → ∃ r, f_X4_paper σ (nI q) (nI w) = some r ∧ f_X4_paper σ' (nI q) (nI w) = some r
theorem SR.of (h : SI σ a b c f) (h' : SI σ' a b c f) : SR σ σ' a b c := by
  refine ⟨fun w hw => ?_, fun i hi w hw => ?_, fun p hp w hw => ?_, fun q hq w hw => ?_⟩
  · match w, hw with
    | 0, _ => exact ⟨_, r_cnt0 h, r_cnt0 h'⟩
    | 1, _ => exact ⟨_, r_cnt1 h, r_cnt1 h'⟩
    | 2, _ => exact ⟨_, r_cnt2 h, r_cnt2 h'⟩
    | 3, _ => exact ⟨_, r_cnt3 h, r_cnt3 h'⟩
    | 4, _ => exact ⟨_, r_cnt4 h, r_cnt4 h'⟩
    | 5, _ => exact ⟨_, r_cnt5 h, r_cnt5 h'⟩
    | 6, _ => exact ⟨_, r_cnt6 h, r_cnt6 h'⟩
  · rcases Nat.lt_or_ge w 8 with h8 | h8
    · exact ⟨_, r_ins8 h hi h8, r_ins8 h' hi h8⟩
    · have : w = 8 ∨ w = 9 ∨ w = 10 := by omega
      rcases this with rfl | rfl | rfl
      · exact ⟨_, r_ins_8 h hi, r_ins_8 h' hi⟩
      · exact ⟨_, r_ins_9 h hi, r_ins_9 h' hi⟩
      · exact ⟨_, r_ins_10 h hi, r_ins_10 h' hi⟩
  · rcases Nat.lt_or_ge w 3 with h3 | h3
    · exact ⟨_, r_pup3 h hp h3, r_pup3 h' hp h3⟩
    · have : w = 3 ∨ w = 4 ∨ w = 5 ∨ w = 6 ∨ w = 7 ∨ w = 8 := by omega
      rcases this with rfl | rfl | rfl | rfl | rfl | rfl
      · exact ⟨_, r_pup_3 h hp, r_pup_3 h' hp⟩
      · exact ⟨_, r_pup_4 h hp, r_pup_4 h' hp⟩
      · exact ⟨_, (r_pup_5 h hp).trans (rank_v h hp), (r_pup_5 h' hp).trans (rank_v h' hp)⟩
      · exact ⟨_, r_pup_67 h hp (by omega), r_pup_67 h' hp (by omega)⟩
      · exact ⟨_, r_pup_67 h hp (by omega), r_pup_67 h' hp (by omega)⟩
      · exact ⟨_, (r_pup_8 h hp).trans (low_v h p), (r_pup_8 h' hp).trans (low_v h' p)⟩
  · rcases Nat.lt_or_ge w 6 with h6 | h6
    · exact ⟨_, r_pap6 h hq h6, r_pap6 h' hq h6⟩
    · exact ⟨_, r_pap67 h hq (by omega), r_pap67 h' hq (by omega)⟩
def Both (x y : Option Int64) : Prop := ∃ d, x = some d ∧ y = some d
theorem dig_q {K K' : Int64 → Int32 → Option Int64} {v : Nat} (hv : v < 2 ^ 30) (hK : ∀ l, Both (K l (nI (v + 1))) (K' l (nI (v + 1)))) (hr : ∀ w, w < 8 → ∃ r, f_X4_paper σ (nI v) (nI w) = some r ∧ f_X4_paper σ' (nI v) (nI w) = some r) : ∀ (m n w : Nat) (l : Int64), m + w = 8 → m < n → Both (f_L_digest_b141 σ K n l (nI v) (nI w)) (f_L_digest_b141 σ' K' n l (nI v) (nI w)) := by
  intro m
  induction m with
  | zero =>
    intro n w l hm hn
    obtain ⟨n, rfl⟩ : ∃ z, n = z + 1 := ⟨n - 1, by omega⟩
    have : w = 8 := by omega
    subst this
    rw [f_L_digest_b141.eq_2, f_L_digest_b141.eq_2, if_pos (by decide), if_pos (by decide)]
    simp only [lt]
    rw [nI_1]
    exact hK l
  | succ m ih =>
    intro n w l hm hn
    obtain ⟨n, rfl⟩ : ∃ z, n = z + 1 := ⟨n - 1, by omega⟩
    obtain ⟨r, e1, e2⟩ := hr w (by omega)
    have nle : ¬ (8 : Int32) ≤ nI w := by rw [show (8 : Int32) = nI 8 from rfl, nI_leN (by omega) (by omega)]; omega
    rw [f_L_digest_b141.eq_2, f_L_digest_b141.eq_2, if_neg nle, if_neg nle, e1, e2, Option.bind_some, Option.bind_some]
    simp only [lt, ltl]
    rw [nI_1]
    exact ih n (w + 1) _ (by omega) (by omega)
theorem dig_p {K K' : Int64 → Int32 → Option Int64} {v : Nat} (hv : v < 2 ^ 30) (hK : ∀ l, Both (K l (nI (v + 1))) (K' l (nI (v + 1)))) (hr : ∀ w, w < 9 → ∃ r, f_X4_pupil σ (nI v) (nI w) = some r ∧ f_X4_pupil σ' (nI v) (nI w) = some r) : ∀ (m n w : Nat) (l : Int64), m + w = 9 → m < n → Both (f_L_digest_b93 σ K n l (nI v) (nI w)) (f_L_digest_b93 σ' K' n l (nI v) (nI w)) := by
  intro m
  induction m with
  | zero =>
    intro n w l hm hn
    obtain ⟨n, rfl⟩ : ∃ z, n = z + 1 := ⟨n - 1, by omega⟩
    have : w = 9 := by omega
    subst this
    rw [f_L_digest_b93.eq_2, f_L_digest_b93.eq_2, if_pos (by decide), if_pos (by decide)]
    simp only [lt]
    rw [nI_1]
    exact hK l
  | succ m ih =>
    intro n w l hm hn
    obtain ⟨n, rfl⟩ : ∃ z, n = z + 1 := ⟨n - 1, by omega⟩
    obtain ⟨r, e1, e2⟩ := hr w (by omega)
    have nle : ¬ (9 : Int32) ≤ nI w := by rw [show (9 : Int32) = nI 9 from rfl, nI_leN (by omega) (by omega)]; omega
    rw [f_L_digest_b93.eq_2, f_L_digest_b93.eq_2, if_neg nle, if_neg nle, e1, e2, Option.bind_some, Option.bind_some]
    simp only [lt, ltl]
    rw [nI_1]
    exact ih n (w + 1) _ (by omega) (by omega)
theorem dig_i {K K' : Int64 → Int32 → Option Int64} {v : Nat} (hv : v < 2 ^ 30) (hK : ∀ l, Both (K l (nI (v + 1))) (K' l (nI (v + 1)))) (hr : ∀ w, w < 11 → ∃ r, f_X4_instrument σ (nI v) (nI w) = some r ∧ f_X4_instrument σ' (nI v) (nI w) = some r) : ∀ (m n w : Nat) (l : Int64), m + w = 11 → m < n → Both (f_L_digest_b45 σ K n l (nI v) (nI w)) (f_L_digest_b45 σ' K' n l (nI v) (nI w)) := by
  intro m
  induction m with
  | zero =>
    intro n w l hm hn
    obtain ⟨n, rfl⟩ : ∃ z, n = z + 1 := ⟨n - 1, by omega⟩
    have : w = 11 := by omega
    subst this
    rw [f_L_digest_b45.eq_2, f_L_digest_b45.eq_2, if_pos (by decide), if_pos (by decide)]
    simp only [lt]
    rw [nI_1]
    exact hK l
  | succ m ih =>
    intro n w l hm hn
    obtain ⟨n, rfl⟩ : ∃ z, n = z + 1 := ⟨n - 1, by omega⟩
    obtain ⟨r, e1, e2⟩ := hr w (by omega)
    have nle : ¬ (11 : Int32) ≤ nI w := by rw [show (11 : Int32) = nI 11 from rfl, nI_leN (by omega) (by omega)]; omega
    rw [f_L_digest_b45.eq_2, f_L_digest_b45.eq_2, if_neg nle, if_neg nle, e1, e2, Option.bind_some, Option.bind_some]
    simp only [lt, ltl]
    rw [nI_1]
    exact ih n (w + 1) _ (by omega) (by omega)
theorem dig_129 (h : SI σ a b c f) (h' : SI σ' a b c f) : ∀ (m n v : Nat) (l : Int64), m + v = c → m < n → Both (f_L_digest_b129 σ n l (nI v)) (f_L_digest_b129 σ' n l (nI v)) := by
  have hc := h.1.2.2
  have sr := (SR.of h h').2.2.2
  intro m
  induction m with
  | zero =>
    intro n v l hm hn
    obtain ⟨n, rfl⟩ : ∃ z, n = z + 1 := ⟨n - 1, by omega⟩
    have : v = c := by omega
    subst this
    rw [f_L_digest_b129.eq_2, f_L_digest_b129.eq_2, r_cnt2 h, r_cnt2 h', Option.bind_some, Option.bind_some, if_pos (Int32.le_refl _), if_pos (Int32.le_refl _)]
    exact ⟨l, rfl, rfl⟩
  | succ m ih =>
    intro n v l hm hn
    obtain ⟨n, rfl⟩ : ∃ z, n = z + 1 := ⟨n - 1, by omega⟩
    have nle : ¬ nI c ≤ nI v := by rw [nI_leN (by omega) (by omega)]; omega
    rw [f_L_digest_b129.eq_2, f_L_digest_b129.eq_2, r_cnt2 h, r_cnt2 h', Option.bind_some, Option.bind_some, if_neg nle, if_neg nle]
    exact dig_q (by omega) (fun l => ih n (v + 1) l (by omega) (by omega)) (sr v (by omega)) 8 fuel 0 l (by omega) (by unfold fuel; omega)
theorem dig_81 (h : SI σ a b c f) (h' : SI σ' a b c f) : ∀ (m n v : Nat) (l : Int64), m + v = b → m < n → Both (f_L_digest_b81 σ n l (nI v)) (f_L_digest_b81 σ' n l (nI v)) := by
  have hb := h.1.2.1
  have hc := h.1.2.2
  have sr := (SR.of h h').2.2.1
  intro m
  induction m with
  | zero =>
    intro n v l hm hn
    obtain ⟨n, rfl⟩ : ∃ z, n = z + 1 := ⟨n - 1, by omega⟩
    have : v = b := by omega
    subst this
    rw [f_L_digest_b81.eq_2, f_L_digest_b81.eq_2, r_cnt1 h, r_cnt1 h', Option.bind_some, Option.bind_some, if_pos (Int32.le_refl _), if_pos (Int32.le_refl _)]
    exact dig_129 h h' c fuel 0 l (by omega) (by unfold fuel; omega)
  | succ m ih =>
    intro n v l hm hn
    obtain ⟨n, rfl⟩ : ∃ z, n = z + 1 := ⟨n - 1, by omega⟩
    have nle : ¬ nI b ≤ nI v := by rw [nI_leN (by omega) (by omega)]; omega
    rw [f_L_digest_b81.eq_2, f_L_digest_b81.eq_2, r_cnt1 h, r_cnt1 h', Option.bind_some, Option.bind_some, if_neg nle, if_neg nle]
    exact dig_p (by omega) (fun l => ih n (v + 1) l (by omega) (by omega)) (sr v (by omega)) 9 fuel 0 l (by omega) (by unfold fuel; omega)
theorem dig_33 (h : SI σ a b c f) (h' : SI σ' a b c f) : ∀ (m n v : Nat) (l : Int64), m + v = a → m < n → Both (f_L_digest_b33 σ n l (nI v)) (f_L_digest_b33 σ' n l (nI v)) := by
  have ha := h.1.1
  have hb := h.1.2.1
  have sr := (SR.of h h').2.1
  intro m
  induction m with
  | zero =>
    intro n v l hm hn
    obtain ⟨n, rfl⟩ : ∃ z, n = z + 1 := ⟨n - 1, by omega⟩
    have : v = a := by omega
    subst this
    rw [f_L_digest_b33.eq_2, f_L_digest_b33.eq_2, r_cnt0 h, r_cnt0 h', Option.bind_some, Option.bind_some, if_pos (Int32.le_refl _), if_pos (Int32.le_refl _)]
    exact dig_81 h h' b fuel 0 l (by omega) (by unfold fuel; omega)
  | succ m ih =>
    intro n v l hm hn
    obtain ⟨n, rfl⟩ : ∃ z, n = z + 1 := ⟨n - 1, by omega⟩
    have nle : ¬ nI a ≤ nI v := by rw [nI_leN (by omega) (by omega)]; omega
    rw [f_L_digest_b33.eq_2, f_L_digest_b33.eq_2, r_cnt0 h, r_cnt0 h', Option.bind_some, Option.bind_some, if_neg nle, if_neg nle]
    exact dig_i (by omega) (fun l => ih n (v + 1) l (by omega) (by omega)) (sr v (by omega)) 11 fuel 0 l (by omega) (by unfold fuel; omega)
theorem dig_6 (h : SI σ a b c f) (h' : SI σ' a b c f) : ∀ (m n w : Nat) (l : Int64), m + w = 7 → m < n → Both (f_L_digest_b6 σ n l (nI w)) (f_L_digest_b6 σ' n l (nI w)) := by
  have ha := h.1.1
  have sr := (SR.of h h').1
  intro m
  induction m with
  | zero =>
    intro n w l hm hn
    obtain ⟨n, rfl⟩ : ∃ z, n = z + 1 := ⟨n - 1, by omega⟩
    have : w = 7 := by omega
    subst this
    rw [f_L_digest_b6.eq_2, f_L_digest_b6.eq_2, if_pos (by decide), if_pos (by decide)]
    exact dig_33 h h' a fuel 0 l (by omega) (by unfold fuel; omega)
  | succ m ih =>
    intro n w l hm hn
    obtain ⟨n, rfl⟩ : ∃ z, n = z + 1 := ⟨n - 1, by omega⟩
    obtain ⟨r, e1, e2⟩ := sr w (by omega)
    have nle : ¬ (7 : Int32) ≤ nI w := by rw [show (7 : Int32) = nI 7 from rfl, nI_leN (by omega) (by omega)]; omega
    rw [f_L_digest_b6.eq_2, f_L_digest_b6.eq_2, if_neg nle, if_neg nle, e1, e2, Option.bind_some, Option.bind_some]
    simp only [lt, ltl]
    rw [nI_1]
    exact ih n (w + 1) _ (by omega) (by omega)
theorem dig_both (h : SI σ a b c f) (h' : SI σ' a b c f) : Both (f_L_digest σ) (f_L_digest σ') := dig_6 h h' 7 fuel 0 67 (by omega) (by unfold fuel; omega)
end DG
/-! what tells alike -/
def likeF (f g : Nat → Int32) : Prop := ∀ j, j < 624 → f j = g j
theorem SI.like {σ : Sg} {a b c : Nat} {f g : Nat → Int32} (h : SI σ a b c f) (hl : likeF f g) : SI σ a b c g := R3.congr h (fun _ _ => rfl) (fun _ _ => rfl) (fun _ _ => rfl) (fun j hj => (hl j hj).symm)
theorem SI.counts {σ σ' : Sg} {a b c a' b' c' : Nat} {f : Nat → Int32} (h : SI σ a b c f) (h' : SI σ' a' b' c' f) : a' = a ∧ b' = b ∧ c' = c := by
  obtain ⟨⟨ha, hb, hc⟩, -, ⟨f0, f1, f2⟩, -⟩ := h
  obtain ⟨⟨ha', hb', hc'⟩, -, ⟨g0, g1, g2⟩, -⟩ := h'
  rw [f0, nI_eq (by omega) (by omega)] at g0
  rw [f1, nI_eq (by omega) (by omega)] at g1
  rw [f2, nI_eq (by omega) (by omega)] at g2
  exact ⟨g0.symm, g1.symm, g2.symm⟩
theorem dig_like {σ σ' τ τ' : Sg} (h : Inv σ τ) (h' : Inv σ' τ') (hl : likeF (τ.2 0) (τ'.2 0)) : ∃ d, f_L_digest σ = some d ∧ f_L_digest σ' = some d := by
  obtain ⟨a, b, c, s⟩ := h.si
  obtain ⟨a', b', c', s'⟩ := h'.si
  have s2_ := s.like hl
  obtain ⟨rfl, rfl, rfl⟩ := s2_.counts s'
  exact dig_both s2_ s'
theorem undo_v {σ τ : Sg} {h : Nat} (hI : Inv σ τ) (hh : h ≤ 3) (e : τ.1 0 = nI (h + 1)) : ∃ σ' τ', f_X4_undo σ = some (nI h, σ') ∧ Inv σ' τ' ∧ (∀ x, x < 624 → τ'.2 0 x = τ.2 1 (624 * h + x)) ∧ τ'.1 0 = nI h := by
  obtain ⟨r, σ', τ', e1, e2, e3⟩ := sim_undo hI
  have e4 : f_X5_undo τ = some (nI h, s2 (s1 τ 0 (nI h)) 0 (rowA (fun x => (s1 τ 0 (nI h)).2 1 (624 * h + x)) ((s1 τ 0 (nI h)).2 0) 0)) := by
    unfold f_X5_undo
    rw [e, if_neg (nI_ne0 (by omega) (by omega)), nI_pred]
    simp only [lts]
    exact undo_loop (k := h) (by omega) 624 fuel 0 (s1 τ 0 (nI h)) (by omega) (by unfold fuel; omega) s1_self
  rw [e4] at e2
  cases e2
  refine ⟨σ', _, e1, e3, fun x hx => ?_, by rw [s2_1]; exact s1_self⟩
  rw [s2_self, rowA_at hx]
  rfl
