/-! WHAT THE LAW READS: the answers by the numbers. -/
def SI (σ : Sg) (a b c : Nat) (f : Nat → Int32) : Prop := R3 a b c (σ.1 0) (σ.1 1) (σ.1 2) (σ.2 0) (σ.2 1) (σ.2 2) f
theorem Inv.si {σ τ : Sg} (h : Inv σ τ) : ∃ a b c, SI σ a b c (τ.2 0) := h.1
section RD
variable {σ τ : Sg} {a b c i k p q : Nat} {f : Nat → Int32}
theorem r_ins (h : SI σ a b c f) (hi : i < a) (hk : k < 11) : f_X4_instrument σ (nI i) (nI k) = some (σ.2 0 (i * 11 + k)) := by
  obtain ⟨⟨ha, hb, hc⟩, ⟨r0, r1, r2⟩, -⟩ := h
  unfold f_X4_instrument
  rw [lacks_in r0 hi (by omega), Option.bind_some, if_pos rfl, outside_in (hi := (10 : Int32)) (nI_lt0 (by omega)) ((nI_leN (b := 10) (by omega) (by omega)).mpr (by omega)), Option.bind_some, if_pos rfl, cell0 r0 hi ha hk, Option.bind_some]
theorem r_ins8 (h : SI σ a b c f) (hi : i < a) (hk : k < 8) : f_X4_instrument σ (nI i) (nI k) = some (f (4 + 8 * i + k)) := by
  rw [r_ins h hi (by omega)]
  exact congrArg some ((h.2.2.2.1 i hi).1 k hk)
theorem r_ins_8 (h : SI σ a b c f) (hi : i < a) : f_X4_instrument σ (nI i) (8 : Int32) = some (f (4 + 8 * i + 2) * (f (4 + 8 * i) * f (4 + 8 * i + 1))) :=
  (r_ins (k := 8) h hi (by omega)).trans (congrArg some (h.2.2.2.1 i hi).2.1)
theorem r_ins_9 (h : SI σ a b c f) (hi : i < a) : f_X4_instrument σ (nI i) (9 : Int32) = some ((f (4 + 8 * i) + (if f (4 + 8 * i + 3) = 1 then 1 else -1)) * f (4 + 8 * i + 1)) :=
  (r_ins (k := 9) h hi (by omega)).trans (congrArg some (h.2.2.2.1 i hi).2.2.1)
theorem r_pup3 (h : SI σ a b c f) (hp : p < b) (hk : k < 3) : f_X4_pupil σ (nI p) (nI k) = some (f (84 + 5 * p + k)) := by
  have h' := h
  obtain ⟨⟨ha, hb, hc⟩, ⟨r0, r1, r2⟩, -⟩ := h
  unfold f_X4_pupil
  rw [lacks_in r1 hp (by omega), Option.bind_some, if_pos rfl, outside_in (hi := (8 : Int32)) (nI_lt0 (by omega)) ((nI_leN (b := 8) (by omega) (by omega)).mpr (by omega)), Option.bind_some, if_pos rfl, if_neg (show ¬ nI k = (5 : Int32) from fun e => by have := (nI_eq (b := 5) (by omega) (by omega)).mp e; omega), if_neg (show ¬ nI k = (8 : Int32) from fun e => by have := (nI_eq (b := 8) (by omega) (by omega)).mp e; omega), R3.pup h' hp hk, Option.bind_some]
theorem r_pup_c (h : SI σ a b c f) (hp : p < b) (hk : k = 3 ∨ k = 4) : f_X4_pupil σ (nI p) (nI k) = some (σ.2 1 (p * 9 + k)) := by
  obtain ⟨⟨ha, hb, hc⟩, ⟨r0, r1, r2⟩, -⟩ := h
  unfold f_X4_pupil
  rw [lacks_in r1 hp (by omega), Option.bind_some, if_pos rfl, outside_in (hi := (8 : Int32)) (nI_lt0 (by omega)) ((nI_leN (b := 8) (by omega) (by omega)).mpr (by omega)), Option.bind_some, if_pos rfl, if_neg (show ¬ nI k = (5 : Int32) from fun e => by have := (nI_eq (b := 5) (by omega) (by omega)).mp e; omega), if_neg (show ¬ nI k = (8 : Int32) from fun e => by have := (nI_eq (b := 8) (by omega) (by omega)).mp e; omega), cell1 r1 hp hb (by omega), Option.bind_some]
theorem r_pup_3 (h : SI σ a b c f) (hp : p < b) : f_X4_pupil σ (nI p) (3 : Int32) = some (nI (cntP f c p)) :=
  (r_pup_c (k := 3) h hp (by omega)).trans (congrArg some (h.2.2.2.2.1 p hp).2.1)
theorem r_pup_4 (h : SI σ a b c f) (hp : p < b) : f_X4_pupil σ (nI p) (4 : Int32) = some (sumI (mks f (nI p)) c) :=
  (r_pup_c (k := 4) h hp (by omega)).trans (congrArg some (h.2.2.2.2.1 p hp).2.2.1)
theorem r_pup_5 (h : SI σ a b c f) (hp : p < b) : f_X4_pupil σ (nI p) (5 : Int32) = f_X2_rankOf σ (nI p) := by
  obtain ⟨⟨ha, hb, hc⟩, ⟨r0, r1, r2⟩, -⟩ := h
  unfold f_X4_pupil
  rw [lacks_in r1 hp (by omega), Option.bind_some, if_pos rfl, outside_in (hi := (8 : Int32)) (by decide) (by decide), Option.bind_some, if_pos rfl, if_pos rfl]
  cases f_X2_rankOf σ (nI p) <;> rfl
theorem r_pup_8 (h : SI σ a b c f) (hp : p < b) : f_X4_pupil σ (nI p) (8 : Int32) = f_X2_lowestMark σ (nI p) := by
  obtain ⟨⟨ha, hb, hc⟩, ⟨r0, r1, r2⟩, -⟩ := h
  unfold f_X4_pupil
  rw [lacks_in r1 hp (by omega), Option.bind_some, if_pos rfl, outside_in (hi := (8 : Int32)) (by decide) (by decide), Option.bind_some, if_pos rfl, if_neg (by decide), if_pos rfl]
  cases f_X2_lowestMark σ (nI p) <;> rfl
theorem r_pap6 (h : SI σ a b c f) (hq : q < c) (hk : k < 6) : f_X4_paper σ (nI q) (nI k) = some (f (144 + 8 * q + k)) := by
  have h' := h
  obtain ⟨⟨ha, hb, hc⟩, ⟨r0, r1, r2⟩, -⟩ := h
  unfold f_X4_paper
  rw [lacks_in r2 hq (by omega), Option.bind_some, if_pos rfl, outside_in (hi := (7 : Int32)) (nI_lt0 (by omega)) ((nI_leN (b := 7) (by omega) (by omega)).mpr (by omega)), Option.bind_some, if_pos rfl, R3.pap h' hq hk, Option.bind_some]
theorem r_pap67 (h : SI σ a b c f) (hq : q < c) (hk : k = 6 ∨ k = 7) : f_X4_paper σ (nI q) (nI k) = some (if f (144 + 8 * q + 5) = 0 then -10000005 else f (144 + 8 * q + k)) := by
  have h' := h
  obtain ⟨⟨ha, hb, hc⟩, ⟨r0, r1, r2⟩, -⟩ := h
  unfold f_X4_paper
  rw [lacks_in r2 hq (by omega), Option.bind_some, if_pos rfl, outside_in (hi := (7 : Int32)) (nI_lt0 (by omega)) ((nI_leN (b := 7) (by omega) (by omega)).mpr (by omega)), Option.bind_some, if_pos rfl, R3.pap6 h' hq hk, Option.bind_some]
theorem r_pap_none (h : SI σ a b c f) : f_X4_paper σ (nI c) (0 : Int32) = some (-10000001) := by
  obtain ⟨⟨ha, hb, hc⟩, ⟨r0, r1, r2⟩, -⟩ := h
  unfold f_X4_paper
  rw [lacks_big r2 (Int32.le_refl _), Option.bind_some, if_neg (by decide)]
theorem r_cnt0 (h : SI σ a b c f) : f_X4_count σ (0 : Int32) = some (nI a) := by
  obtain ⟨-, ⟨r0, r1, r2⟩, -⟩ := h
  unfold f_X4_count f_X3_size
  rw [if_pos rfl, Option.bind_some, r0]
theorem r_cnt1 (h : SI σ a b c f) : f_X4_count σ (1 : Int32) = some (nI b) := by
  obtain ⟨-, ⟨r0, r1, r2⟩, -⟩ := h
  unfold f_X4_count f_X3_size
  rw [if_neg (by decide), if_pos rfl, Option.bind_some, r1]
theorem r_cnt2 (h : SI σ a b c f) : f_X4_count σ (2 : Int32) = some (nI c) := by
  obtain ⟨-, ⟨r0, r1, r2⟩, -⟩ := h
  unfold f_X4_count f_X3_size
  rw [if_neg (by decide), if_neg (by decide), if_pos rfl, Option.bind_some, r2]
def cntS (f : Nat → Int32) (s : Int32) (c : Nat) : Nat := cntB (fun q => decide (f (144 + 8 * q + 5) = s)) c
theorem r_rows (h : SI σ a b c f) (s : Int32) : f_X3_rowsWith σ 2 (5 : Int32) s = some (nI (cntS f s c)) := by
  obtain ⟨⟨ha, hb, hc⟩, ⟨r0, r1, r2⟩, -, -, -, t3, -⟩ := h
  rw [show (5 : Int32) = nI 5 from rfl, rowsWith_in (t := 2) r2 hc (show 5 < 8 by omega)]
  congr 2
  exact cntB_congr c fun q hq => by
    have e : σ.2 2 (q * tcolN 2 + 5) = f (144 + 8 * q + 5) := (t3 q hq).1 5 (by omega)
    rw [e]
theorem r_cnt3 (h : SI σ a b c f) : f_X4_count σ (3 : Int32) = some (nI (cntS f 1 c)) := by
  unfold f_X4_count
  rw [if_neg (by decide), if_neg (by decide), if_neg (by decide), if_pos rfl, r_rows h, Option.bind_some]
theorem r_cnt4 (h : SI σ a b c f) : f_X4_count σ (4 : Int32) = some (nI (cntS f 2 c)) := by
  unfold f_X4_count
  rw [if_neg (by decide), if_neg (by decide), if_neg (by decide), if_neg (by decide), if_pos rfl, r_rows h, Option.bind_some]
theorem r_cnt5 (h : SI σ a b c f) : f_X4_count σ (5 : Int32) = some (nI (cntS f 3 c)) := by
  unfold f_X4_count
  rw [if_neg (by decide), if_neg (by decide), if_neg (by decide), if_neg (by decide), if_neg (by decide), if_pos rfl, r_rows h, Option.bind_some]
theorem r_cnt6 (h : SI σ a b c f) : f_X4_count σ (6 : Int32) = some (sumI (fun q => f (144 + 8 * q + 4)) c) := by
  obtain ⟨⟨ha, hb, hc⟩, ⟨r0, r1, r2⟩, -, -, -, t3, -⟩ := h
  unfold f_X4_count
  rw [if_neg (by decide), if_neg (by decide), if_neg (by decide), if_neg (by decide), if_neg (by decide), if_neg (by decide), if_pos rfl, show (4 : Int32) = nI 4 from rfl, sumOf_in (t := 2) r2 hc (show 4 < 8 by omega), Option.bind_some]
  congr 1
  exact sumI_congr c fun q hq => (t3 q hq).1 4 (by omega)
theorem r_cnt7 : f_X4_count σ (7 : Int32) = some (σ.1 20) := by
  unfold f_X4_count f_X0_size
  rw [if_neg (by decide), if_neg (by decide), if_neg (by decide), if_neg (by decide), if_neg (by decide), if_neg (by decide), if_neg (by decide), if_pos rfl, Option.bind_some]
theorem r_cnt9 : f_X4_count σ (9 : Int32) = some (-10000002) := by
  unfold f_X4_count
  rw [if_neg (by decide), if_neg (by decide), if_neg (by decide), if_neg (by decide), if_neg (by decide), if_neg (by decide), if_neg (by decide), if_neg (by decide), if_neg (by decide)]
theorem low_in {n : Nat} {x : Int32} (hn : 0 < n) (hn2 : n < 2 ^ 31) : ∃ m : Nat, m < n ∧ f_L_low σ x (nI n) = some (nI m) := by
  unfold f_L_low
  obtain ⟨z, hz, e⟩ := pk_andE x (m := (2147483647 : Int32)) 31 (by decide)
  rw [gd_of (by rw [bne_iff_ne]; exact nI_ne0 hn hn2), e, pk_rem hz hn hn2]
  exact ⟨z % n, Nat.mod_lt _ hn, rfl⟩
end RD
