/-! RANKS by the law. -/
theorem or_and_0 {v w : Int32} (h : w &&& 1 = 0) : (v ||| w) &&& 1 = v &&& 1 := by
  apply Int32.toBitVec_inj.mp
  have h2 := congrArg Int32.toBitVec h
  rw [Int32.toBitVec_and] at h2
  rw [Int32.toBitVec_and, Int32.toBitVec_or, Int32.toBitVec_and, BitVec.and_or_distrib_right, h2]
  exact BitVec.or_zero
theorem bit_c : ∀ x, x < 12 → ∀ y, y < 12 → x ≠ y → ((((1 : Int32) <<< (nI y &&& 31)) >>> (nI x &&& 31)) &&& 1) = 0 := by decide +kernel
theorem bit_z : ∀ x, x < 12 → (((0 : Int32) >>> (nI x &&& 31)) &&& 1) = 0 := by decide +kernel
theorem bit_or {x y : Nat} (hx : x < 12) (hy : y < 12) (hne : x ≠ y) {v : Int32} : (((v ||| ((1 : Int32) <<< (nI y &&& 31))) >>> (nI x &&& 31)) &&& 1) = ((v >>> (nI x &&& 31)) &&& 1) := by
  rw [Int32.shiftRight_or]
  exact or_and_0 (bit_c x hx y hy hne)
section RK
variable {σ : Sg} {a b c p q : Nat} {f : Nat → Int32}
def sP (f : Nat → Int32) (c p : Nat) : Nat := (sumI (mks f (nI p)) c).toNatClampNeg
theorem sP_eq (h : SI σ a b c f) (p : Nat) : sumI (mks f (nI p)) c = nI (sP f c p) ∧ sP f c p ≤ 600 := by
  obtain ⟨⟨ha, hb, hc⟩, -, -, -, -, -, -, -, v3, -⟩ := h
  obtain ⟨s, hs, e⟩ := mks_bd v3 (nI p)
  have e2 : sP f c p = s := by unfold sP; rw [e]; exact nI_clamp (by omega)
  exact ⟨by rw [e2]; exact e, by rw [e2]; omega⟩
theorem mP_le (h : SI σ a b c f) (p : Nat) : cntP f c p ≤ 60 := Nat.le_trans (cntB_le _ _) h.1.2.2
abbrev btF (f : Nat → Int32) (c : Nat) : Nat → Nat → Bool := btr (cntP f c) (sP f c)
theorem better_v (h : SI σ a b c f) (hp : p < b) (hq : q < b) : f_X2_isBetter σ (nI p) (nI q) = some (if btF f c p q = true then 1 else 0) := by
  have h' := h
  have c1 := mP_le h' p
  have c2 := mP_le h' q
  obtain ⟨e1, b1⟩ := sP_eq h' p
  obtain ⟨e2, b2⟩ := sP_eq h' q
  obtain ⟨⟨ha, hb, hc⟩, ⟨r0, r1, r2⟩, ⟨f0, f1, f2⟩, t1, t2, -⟩ := h
  obtain ⟨-, p3, p4, -⟩ := t2 p hp
  obtain ⟨-, q3, q4, -⟩ := t2 q hq
  have x3 : f_X3_cell σ 1 (nI p) (3 : Int32) = some (nI (cntP f c p)) := (cell1 (k := 3) r1 hp hb (by omega)).trans (by rw [p3])
  have y3 : f_X3_cell σ 1 (nI q) (3 : Int32) = some (nI (cntP f c q)) := (cell1 (k := 3) r1 hq hb (by omega)).trans (by rw [q3])
  have x4 : f_X3_cell σ 1 (nI p) (4 : Int32) = some (nI (sP f c p)) := (cell1 (k := 4) r1 hp hb (by omega)).trans (by rw [p4, e1])
  have y4 : f_X3_cell σ 1 (nI q) (4 : Int32) = some (nI (sP f c q)) := (cell1 (k := 4) r1 hq hb (by omega)).trans (by rw [q4, e2])
  unfold btF btr
  generalize cntP f c p = m at *
  generalize cntP f c q = n at *
  generalize sP f c p = s at *
  generalize sP f c q = t at *
  unfold f_X2_isBetter f_X2_isBetter_b77
  rw [x3, y3]
  simp only [Option.bind_some]
  rw [x4, y4]
  simp only [Option.bind_some, lt]
  have z : (0 : Int32) = nI 0 := rfl
  have zle : nI m ≤ 0 ↔ m = 0 := by rw [z, nI_leN (by omega) (by omega)]; omega
  have zle2 : nI n ≤ 0 ↔ n = 0 := by rw [z, nI_leN (by omega) (by omega)]; omega
  have meq : nI m = nI n ↔ m = n := nI_eq (by omega) (by omega)
  have mle : nI m ≤ nI n ↔ m ≤ n := nI_leN (by omega) (by omega)
  have ple : nI q ≤ nI p ↔ q ≤ p := nI_leN (by omega) (by omega)
  have k1 : s * n ≤ 600 * 60 := Nat.mul_le_mul b1 c2
  have k2 : t * m ≤ 600 * 60 := Nat.mul_le_mul b2 c1
  rw [pk_mul, pk_mul]
  generalize s * n = u at *
  generalize t * m = w at *
  have ueq : nI u = nI w ↔ u = w := nI_eq (by omega) (by omega)
  have ule : nI u ≤ nI w ↔ u ≤ w := nI_leN (by omega) (by omega)
  simp only [zle, zle2, meq, mle, ple, ueq, ule]
  have tie : (if m = n then (if q ≤ p then (some (0 : Int32)) else (some (1 : Int32))) else (if m ≤ n then (some (0 : Int32)) else (some (1 : Int32)))) = some (if (if m = n then decide (p < q) else decide (n < m)) = true then 1 else 0) := by
    by_cases e : m = n
    · rw [if_pos e, if_pos e]
      by_cases e2 : q ≤ p
      · rw [if_pos e2, if_neg (by rw [decide_eq_true_eq]; omega)]
      · rw [if_neg e2, if_pos (by rw [decide_eq_true_eq]; omega)]
    · rw [if_neg e, if_neg e]
      by_cases e2 : m ≤ n
      · rw [if_pos e2, if_neg (by rw [decide_eq_true_eq]; omega)]
      · rw [if_neg e2, if_pos (by rw [decide_eq_true_eq]; omega)]
  by_cases hm : m = 0
  · rw [if_pos hm, tie, if_pos (Or.inl hm)]
  rw [if_neg hm]
  by_cases hn : n = 0
  · rw [if_pos hn, tie, if_pos (Or.inr (Or.inl hn))]
  rw [if_neg hn]
  by_cases hu : u = w
  · rw [if_pos hu, tie, if_pos (Or.inr (Or.inr hu))]
  rw [if_neg hu, if_neg (show ¬ (m = 0 ∨ n = 0 ∨ u = w) by omega)]
  by_cases hu2 : u ≤ w
  · rw [if_pos hu2, if_neg (by rw [decide_eq_true_eq]; omega)]
  · rw [if_neg hu2, if_pos (by rw [decide_eq_true_eq]; omega)]
abbrev rkF (f : Nat → Int32) (b c p : Nat) : Nat := rkR b (fun _ => true) (btF f c) p
theorem rank_vl (h : SI σ a b c f) (hp : p < b) : ∀ (m n i : Nat), m + i = b → m < n → f_X2_rankOf_b4 σ n (nI p) (nI (cntB (fun y => true && btF f c y p) i)) (nI i) = some (nI (rkF f b c p)) := by
  have h' := h
  obtain ⟨⟨ha, hb, hc⟩, ⟨r0, r1, r2⟩, -⟩ := h
  intro m
  induction m with
  | zero =>
    intro n i hm hn
    obtain ⟨n, rfl⟩ : ∃ z, n = z + 1 := ⟨n - 1, by omega⟩
    have hk : i = b := by omega
    subst hk
    rw [f_X2_rankOf_b4.eq_2]
    unfold f_X3_size
    rw [Option.bind_some, r1, if_pos (Int32.le_refl _)]
    rfl
  | succ m ih =>
    intro n i hm hn
    obtain ⟨n, rfl⟩ : ∃ z, n = z + 1 := ⟨n - 1, by omega⟩
    have nle : ¬ nI b ≤ nI i := by rw [nI_leN (by omega) (by omega)]; omega
    have e := ih n (i + 1) (by omega) (by omega)
    rw [cntB_s] at e
    rw [f_X2_rankOf_b4.eq_2, better_v h' (show i < b by omega) hp]
    unfold f_X3_size f_X2_rankOf_b27
    simp only [Option.bind_some, lt]
    rw [r1, if_neg nle, nI_1, nI_1]
    cases hb2 : btF f c i p
    · rw [hb2, Bool.and_false, if_neg (by decide), Nat.add_zero] at e
      rw [if_pos (by decide)]
      exact e
    · rw [hb2, Bool.and_true, if_pos rfl] at e
      rw [if_neg (by decide)]
      exact e
theorem rank_v (h : SI σ a b c f) (hp : p < b) : f_X2_rankOf σ (nI p) = some (nI (rkF f b c p)) := by
  have hb := h.1.2.1
  exact rank_vl h hp b fuel 0 (by omega) (by unfold fuel; omega)
theorem rk_bd (h : SI σ a b c f) (hp : p < b) : rkF f b c p < b := by
  have := rk_top (btr_ord (cntP f c) (sP f c) b) hp rfl
  rw [cnt_all] at this
  exact this
theorem ranked_vl (h : SI σ a b c f) {x k : Nat} (hx : x < b) (hk : rkF f b c x = k) : ∀ (m n i : Nat), m + i = x → m < n → f_X4_ranked_b9 σ n (nI k) (nI i) = some (nI x) := by
  have h' := h
  have kb := rk_bd h' hx
  obtain ⟨⟨ha, hb, hc⟩, ⟨r0, r1, r2⟩, -⟩ := h
  intro m
  induction m with
  | zero =>
    intro n i hm hn
    obtain ⟨n, rfl⟩ : ∃ z, n = z + 1 := ⟨n - 1, by omega⟩
    have hi : i = x := by omega
    subst hi
    rw [f_X4_ranked_b9.eq_2, rank_v h' hx]
    unfold f_X3_size
    rw [Option.bind_some, r1, if_neg (by rw [nI_leN (by omega) (by omega)]; omega), Option.bind_some, if_pos (by rw [hk])]
  | succ m ih =>
    intro n i hm hn
    obtain ⟨n, rfl⟩ : ∃ z, n = z + 1 := ⟨n - 1, by omega⟩
    have kb2 := rk_bd h' (show i < b by omega)
    have hne : rkF f b c i ≠ k := fun e => by
      have := rk_inj (btr_ord (cntP f c) (sP f c) b) (show i < b by omega) hx rfl rfl (e.trans hk.symm)
      omega
    rw [f_X4_ranked_b9.eq_2, rank_v h' (show i < b by omega)]
    unfold f_X3_size
    simp only [lt]
    rw [Option.bind_some, r1, if_neg (by rw [nI_leN (by omega) (by omega)]; omega), Option.bind_some, if_neg (by rw [nI_eq (by omega) (by omega)]; exact hne), nI_1]
    exact ih n (i + 1) (by omega) (by omega)
theorem ranked_v (h : SI σ a b c f) {x k : Nat} (hx : x < b) (hk : rkF f b c x = k) : f_X4_ranked σ (nI k) = some (nI x) := by
  have hb := h.1.2.1
  have kb := rk_bd h hx
  unfold f_X4_ranked
  rw [if_pos (Int32.not_lt.mp (nI_lt0 (by omega)))]
  exact ranked_vl h hx hk x fuel 0 (by omega) (by unfold fuel; omega)
theorem ranked_nl (h : SI σ a b c f) : ∀ (m n i : Nat), m + i = b → m < n → f_X4_ranked_b9 σ n (nI b) (nI i) = some (-10000005) := by
  have h' := h
  obtain ⟨⟨ha, hb, hc⟩, ⟨r0, r1, r2⟩, -⟩ := h
  intro m
  induction m with
  | zero =>
    intro n i hm hn
    obtain ⟨n, rfl⟩ : ∃ z, n = z + 1 := ⟨n - 1, by omega⟩
    have hi : i = b := by omega
    subst hi
    rw [f_X4_ranked_b9.eq_2]
    unfold f_X3_size
    rw [Option.bind_some, r1, if_pos (Int32.le_refl _)]
  | succ m ih =>
    intro n i hm hn
    obtain ⟨n, rfl⟩ : ∃ z, n = z + 1 := ⟨n - 1, by omega⟩
    have kb2 := rk_bd h' (show i < b by omega)
    rw [f_X4_ranked_b9.eq_2, rank_v h' (show i < b by omega)]
    unfold f_X3_size
    simp only [lt]
    rw [Option.bind_some, r1, if_neg (by rw [nI_leN (by omega) (by omega)]; omega), Option.bind_some, if_neg (by rw [nI_eq (by omega) (by omega)]; omega), nI_1]
    exact ih n (i + 1) (by omega) (by omega)
theorem ranked_n (h : SI σ a b c f) : f_X4_ranked σ (nI b) = some (-10000005) := by
  have hb := h.1.2.1
  unfold f_X4_ranked
  rw [if_pos (Int32.not_lt.mp (nI_lt0 (by omega)))]
  exact ranked_nl h b fuel 0 (by omega) (by unfold fuel; omega)
theorem ranked_m : f_X4_ranked σ (-1 : Int32) = some (-10000002) := by
  unfold f_X4_ranked
  rw [if_neg (by decide)]
/-! one place of the law's walk over the ranks -/
theorem ranks_step (h : SI σ a b c f) {x w k : Nat} {v2 : Int32} {K : Int32 → Int32 → Int32 → Option Int32} (hx : x < b) (hk : rkF f b c x = k) (hw : (k = 0 ∧ w = x) ∨ (w < b ∧ 0 < k ∧ btF f c w x = true)) (hv : ¬ ((v2 >>> (nI x &&& 31)) &&& (1 : Int32)) = 1) :
    f_L_ranks_b38 σ K (nI b) v2 (nI k) (nI x) (nI w) = K (nI b) (v2 ||| ((1 : Int32) <<< (nI x &&& 31))) (nI (k + 1)) := by
  have hb := h.1.2.1
  have kb := rk_bd h hx
  have wb : w < b := by omega
  have c1 := mP_le h w
  have c2 := mP_le h x
  obtain ⟨e1, b1⟩ := sP_eq h w
  obtain ⟨e2, b2⟩ := sP_eq h x
  unfold f_L_ranks_b38 f_L_ranks_b184
  rw [if_neg (nI_lt0 (by omega)), if_neg (by rw [nI_leN (by omega) (by omega)]; omega), if_neg hv, r_pup_5 h hx, rank_v h hx, Option.bind_some, if_pos (by rw [hk]), r_pup_3 h wb, r_pup_3 h hx, r_pup_4 h wb, r_pup_4 h hx, e1, e2]
  simp only [Option.bind_some, lt]
  rw [nI_1]
  have z : (0 : Int32) = nI 0 := rfl
  by_cases k0 : k = 0
  · rw [if_pos (by rw [z, nI_leN (by omega) (by omega)]; omega)]
  rw [if_neg (by rw [z, nI_leN (by omega) (by omega)]; omega)]
  have hbt : btF f c w x = true := by
    rcases hw with hw | hw
    · exact absurd hw.1 k0
    · exact hw.2.2
  unfold btF btr at hbt
  generalize cntP f c w = m at *
  generalize cntP f c x = n at *
  generalize sP f c w = s at *
  generalize sP f c x = t at *
  have k1 : s * n ≤ 600 * 60 := Nat.mul_le_mul b1 c2
  have k2 : t * m ≤ 600 * 60 := Nat.mul_le_mul b2 c1
  rw [pk_mul, pk_mul]
  generalize s * n = u at *
  generalize t * m = v at *
  have zle2 : nI n ≤ 0 ↔ n = 0 := by rw [z, nI_leN (by omega) (by omega)]; omega
  have zeq : nI m = 0 ↔ m = 0 := by rw [z, nI_eq (by omega) (by omega)]
  have meq : nI m = nI n ↔ m = n := nI_eq (by omega) (by omega)
  have mlt : nI m < nI n ↔ m < n := nI_ltN (by omega) (by omega)
  have ple : nI w ≤ nI x ↔ w ≤ x := nI_leN (by omega) (by omega)
  have dz : nI u - nI v = 0 ↔ u = v := by rw [nI_sub, show (0 : Int32) = iI 0 from rfl, iI_eq ⟨by omega, by omega⟩ ⟨by omega, by omega⟩]; omega
  have dlt : nI u - nI v < 0 ↔ u < v := by rw [nI_sub, show (0 : Int32) = iI 0 from rfl, iI_lt ⟨by omega, by omega⟩ ⟨by omega, by omega⟩]; omega
  simp only [zle2, zeq, meq, mlt, ple, dz, dlt]
  by_cases h0 : m = 0 ∨ n = 0 ∨ u = v
  · rw [if_pos h0] at hbt
    by_cases e : m = n
    · rw [if_pos e, decide_eq_true_eq] at hbt
      by_cases n0 : n = 0
      · rw [if_pos n0, if_pos (by omega), if_pos (by omega)]
      · rw [if_neg n0, if_neg (by omega), if_neg (by omega), if_pos (by omega), if_neg (by omega), if_pos e, if_pos (by omega)]
    · rw [if_neg e, decide_eq_true_eq] at hbt
      by_cases n0 : n = 0
      · rw [if_pos n0, if_neg (by omega)]
      · rw [if_neg n0, if_neg (by omega), if_neg (by omega), if_pos (by omega), if_neg (by omega), if_neg e]
  · rw [if_neg h0, decide_eq_true_eq] at hbt
    rw [if_neg (by omega), if_neg (by omega), if_neg (by omega), if_neg (by omega)]
theorem ranks_loop (h : SI σ a b c f) : ∀ (m n k : Nat) (v2 : Int32), m + k = b → m < n → (∀ x, x < b → k ≤ rkF f b c x → ¬ ((v2 >>> (nI x &&& 31)) &&& (1 : Int32)) = 1) → f_L_ranks_b10 σ n (nI b) v2 (nI k) = some 1 := by
  have hb := h.1.2.1
  intro m
  induction m with
  | zero =>
    intro n k v2 hm hn hv
    obtain ⟨n, rfl⟩ : ∃ z, n = z + 1 := ⟨n - 1, by omega⟩
    have hi : k = b := by omega
    subst hi
    rw [f_L_ranks_b10.eq_2, if_pos (Int32.le_refl _), ranked_n h, Option.bind_some, if_pos rfl, ranked_m, Option.bind_some, if_pos rfl]
  | succ m ih =>
    intro n k v2 hm hn hv
    obtain ⟨n, rfl⟩ : ∃ z, n = z + 1 := ⟨n - 1, by omega⟩
    have ord := btr_ord (cntP f c) (sP f c) b
    obtain ⟨x, hx, -, hk⟩ := rk_at ord (k := k) (by rw [cnt_all]; omega)
    have next : ∀ y, y < b → k + 1 ≤ rkF f b c y → ¬ (((v2 ||| ((1 : Int32) <<< (nI x &&& 31))) >>> (nI y &&& 31)) &&& (1 : Int32)) = 1 := by
      intro y hy hr
      rw [bit_or (by omega) (by omega) (fun e => by rw [e] at hr; have : rkF f b c x = k := hk; omega)]
      exact hv y hy (by omega)
    rw [f_L_ranks_b10.eq_2, if_neg (by rw [nI_leN (by omega) (by omega)]; omega), ranked_v h hx hk, Option.bind_some]
    by_cases k0 : k = 0
    · subst k0
      rw [if_pos (show nI 0 ≤ 0 by decide), ranks_step h hx hk (Or.inl ⟨rfl, rfl⟩) (hv x hx (by have : rkF f b c x = 0 := hk; omega))]
      exact ih n 1 _ (by omega) (by omega) next
    · obtain ⟨w, hw, -, hk2⟩ := rk_at ord (k := k - 1) (by rw [cnt_all]; omega)
      rw [if_neg (by rw [show (0 : Int32) = nI 0 from rfl, nI_leN (by omega) (by omega)]; omega), show nI k - (1 : Int32) = nI (k - 1) by
        rw [show nI k = nI ((k - 1) + 1) by rw [show k - 1 + 1 = k by omega], nI_pred], ranked_v h hw hk2, Option.bind_some, ranks_step h hx hk (Or.inr ⟨hw, by omega, rk_rel ord hw hx rfl rfl (by have e1 : rkR b (fun _ => true) (btr (cntP f c) (sP f c)) x = k := hk; have e2 : rkR b (fun _ => true) (btr (cntP f c) (sP f c)) w = k - 1 := hk2; omega)⟩) (hv x hx (by have : rkF f b c x = k := hk; omega))]
      exact ih n (k + 1) _ (by omega) (by omega) next
theorem ranks_ok (h : SI σ a b c f) : f_L_ranks σ = some 1 := by
  have hb := h.1.2.1
  unfold f_L_ranks
  rw [r_cnt1 h, Option.bind_some]
  exact ranks_loop h b fuel 0 0 (by omega) (by unfold fuel; omega) (fun x hx _ => by rw [bit_z x (by omega)]; decide)
end RK
