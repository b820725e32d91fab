/-! readPapers. -/
section PAPERS
variable {σ τ : Sg} {a b c r r' p p' n : Nat} {g g' h h' : Nat → Int32}
theorem drafts_loop (T : Txt σ τ n) : ∀ (m nX nM r p : Nat) (g h : Nat → Int32) (v1 : Int32), m + r = 11 → m < nX → m + 1 < nM → 6 * r ≤ p → p ≤ n → rel r g h → v1 = nI r →
    (∃ p' rX rM g' h', p' ≤ n ∧ f_X1_readDrafts_b14 nX (xs σ r p g) v1 = some (nI p', xs σ rX p' g') ∧ f_X5_readPapers_b12 nM (ms τ r p h) 1 = some ((-100 : Int32) - nI p', ms τ rM p' h')) ∨
    (∃ p' r' g' h', 1 ≤ r' ∧ r' ≤ 11 ∧ rel r' g' h' ∧ f_X1_readDrafts_b14 nX (xs σ r p g) v1 = some (-1, xs σ r' p' g') ∧ f_X5_readPapers_b12 nM (ms τ r p h) 1 = f_X5_readPapers_b71 fuel (ms τ r' p' h') 0) := by
  have T' := T
  obtain ⟨hn, e1, e2, e3⟩ := T
  intro m
  induction m with
  | zero => intro nX nM r p g h v1 hm hX hM h6 hp; omega
  | succ m ih =>
    intro nX nM r p g h v1 hm hX hM h6 hp hrel hv
    subst hv
    obtain ⟨nX, rfl⟩ : ∃ z, nX = z + 1 := ⟨nX - 1, by omega⟩
    obtain ⟨nM, rfl⟩ : ∃ z, nM = z + 1 + 1 := ⟨nM - 2, by omega⟩
    rw [f_X1_readDrafts_b14.eq_2, f_X5_readPapers_b12.eq_2, if_neg (show ¬ (11 : Int32) ≤ nI r by rw [show (11 : Int32) = nI 11 from rfl, nI_leN (by omega) (by omega)]; omega), if_neg (show ¬ (1 : Int32) = 0 by decide)]
    rcases draft_eq T' hp (show r ≤ 10 by omega) hrel with ⟨p', r1, r2, g', h', hp', x1, m1⟩ | ⟨p', g', h', hp5, hpn, x1, hrel', m1⟩
    · rw [x1, m1]
      simp only [Option.bind_some, lt, lts]
      rw [if_pos trivial, if_pos trivial, xs_23, ms_9]
      exact Or.inl ⟨p', r1, r2, g', h', hp', rfl, rfl⟩
    rw [x1, m1]
    simp only [Option.bind_some, lt, lts]
    rw [if_neg (show ¬ (1 : Int32) = 0 by decide), xs_23, xs_1 (by omega) (by omega), e1, ms_9, ms_1 (by omega) (by omega), e2]
    rcases Nat.lt_or_ge p' n with hlt | hge
    rotate_left
    · have : p' = n := by omega
      subst this
      rw [if_pos (Or.inl rfl), if_neg (show ¬ (1 : Int32) = 0 by decide), if_neg (show ¬ nI p' < nI p' from Int32.lt_irrefl), if_pos (Int32.le_refl _)]
      unfold f_X5_readPapers_b47 f_X5_readPapers_b62
      rw [if_pos rfl]
      simp only [lts]
      rw [ms_9, Int32.add_zero, ms_p, f_X5_readPapers_b12.eq_2, if_pos rfl]
      exact Or.inr ⟨p', r + 1, g', h', by omega, by omega, hrel', rfl, rfl⟩
    rw [if_pos (show nI p' < nI n from (nI_ltN (by omega) (by omega)).mpr hlt), if_neg (show ¬ nI n ≤ nI p' by rw [nI_leN (by omega) (by omega)]; omega)]
    rcases sign_eq (r := r + 1) (r' := r + 1) (g := g') (h := h') T' hpn (59 : Int32) with ⟨x2, -, x3⟩ | ⟨-, x3, x2, -⟩
    · have hno : ¬ (p' = n ∨ τ.2 3 p' = 59) := by
        rintro (q | q)
        · omega
        · rcases x3 with x3 | ⟨-, x3⟩
          · omega
          · exact x3 q
      rw [x2, if_neg hno, if_pos (show (0 : Int32) = 0 from rfl)]
      simp only [Option.bind_some]
      rw [if_pos trivial, xs_23]
      exact Or.inl ⟨p', _, _, _, _, hpn, rfl, rfl⟩
    · rw [x2, if_pos (Or.inr x3), if_neg (show ¬ (1 : Int32) = 0 by decide)]
      simp only [Option.bind_some]
      rw [if_neg (show ¬ (1 : Int32) = 0 by decide)]
      unfold f_X5_readPapers_b47 f_X5_readPapers_b62
      rw [if_neg (show ¬ (1 : Int32) = 0 by decide)]
      simp only [lts]
      rw [ms_9, nI_1, nI_1, ms_p]
      exact ih nX (nM + 1) (r + 1) (p' + 1) g' h' _ (by omega) (by omega) (by omega) (by omega) (by omega) hrel' rfl
/-- a row whose pupil and instrument are there -/
def vrow (h : Nat → Int32) (a b j : Nat) : Prop := ∃ P I : Nat, P < b ∧ I < a ∧ h (3 * j) = nI P ∧ h (3 * j + 1) = nI I
theorem three (i : Nat) : (3 : Int32) * nI i = nI (3 * i) := by rw [show (3 : Int32) = nI 3 from rfl, pk_mul]
theorem three1 (i : Nat) : (3 : Int32) * nI i + (1 : Int32) = nI (3 * i + 1) := by rw [three, nI_1]
theorem three2 (i : Nat) : (3 : Int32) * nI i + (2 : Int32) = nI (3 * i + 2) := by rw [three, show (2 : Int32) = nI 2 from rfl, nI_add]
theorem err1 {X M : Sg} (hR : R3 a b c (X.1 0) (X.1 1) (X.1 2) (X.2 0) (X.2 1) (X.2 2) (M.2 0)) (hr : r ≤ 11) (x18 : X.1 18 = nI r) (m10 : M.1 10 = nI r) (hrel : rel r (X.2 18) (M.2 4)) :
    ∀ (m nX nM i : Nat), m + i = r → m < nX → m < nM →
    (f_X2_errorOf_b8 X nX (nI i) = some (-10000001) ∧ f_X5_readPapers_b71 nM M (nI i) = some (-10000001, M)) ∨
    (f_X2_errorOf_b8 X nX (nI i) = f_X2_errorOf_b59 X fuel 0 ∧ f_X5_readPapers_b71 nM M (nI i) = f_X5_readPapers_b122 fuel M 0 ∧ ∀ j, i ≤ j → j < r → vrow (M.2 4) a b j) := by
  have h' := hR
  obtain ⟨⟨ha, hb, hc⟩, ⟨r0, r1, r2⟩, ⟨f0, f1, f2⟩, -⟩ := hR
  intro m
  induction m with
  | zero =>
    intro nX nM i hm hX hM
    obtain ⟨nX, rfl⟩ : ∃ z, nX = z + 1 := ⟨nX - 1, by omega⟩
    obtain ⟨nM, rfl⟩ : ∃ z, nM = z + 1 := ⟨nM - 1, by omega⟩
    have : i = r := by omega
    subst this
    rw [f_X2_errorOf_b8.eq_2, f_X5_readPapers_b71.eq_2]
    unfold f_X3_size
    rw [Option.bind_some, x18, m10, if_pos (Int32.le_refl _), if_pos (Int32.le_refl _)]
    exact Or.inr ⟨rfl, rfl, fun j h1 h2 => by omega⟩
  | succ m ih =>
    intro nX nM i hm hX hM
    obtain ⟨nX, rfl⟩ : ∃ z, nX = z + 1 := ⟨nX - 1, by omega⟩
    obtain ⟨nM, rfl⟩ : ∃ z, nM = z + 1 := ⟨nM - 1, by omega⟩
    have nle : ¬ nI r ≤ nI i := by rw [nI_leN (by omega) (by omega)]; omega
    have c18 : ∀ k, k < 3 → f_X3_cell X 18 (nI i) (nI k) = some (M.2 4 (3 * i + k)) := fun k hk => by
      rw [show f_X3_cell X 18 (nI i) (nI k) = some (X.2 18 (i * 3 + k)) from cell_in (t := 18) x18 (by omega) hr hk, hrel i (by omega) k hk]
    rw [f_X2_errorOf_b8.eq_2, f_X5_readPapers_b71.eq_2]
    unfold f_X3_size
    rw [Option.bind_some, x18, m10, if_neg nle, if_neg nle, show f_X3_cell X 18 (nI i) (0 : Int32) = _ from c18 0 (by omega), show f_X3_cell X 18 (nI i) (1 : Int32) = _ from c18 1 (by omega), three1, three, gd_of (inb_n (by omega) (by omega)), ix_n (by omega), ix_n (by omega)]
    simp only [Option.bind_some]
    rw [show 3 * i + 0 = 3 * i from rfl]
    rcases in_ix (M.2 4 (3 * i)) b (by omega) with hp | hp | ⟨P, hP, eP⟩
    · rw [lacks_neg hp, noScholar_neg hp, Option.bind_some, Option.bind_some, if_neg (by decide), if_neg (by decide)]
      exact Or.inl ⟨rfl, rfl⟩
    · rw [lacks_big r1 hp, noScholar_big f1 (by omega) hp, Option.bind_some, Option.bind_some, if_neg (by decide), if_neg (by decide)]
      exact Or.inl ⟨rfl, rfl⟩
    rw [eP, lacks_in r1 hP (by omega), noScholar_in f1 hP (by omega), Option.bind_some, Option.bind_some, if_pos rfl, if_pos rfl, gd_of (inb_n (by omega) (by omega))]
    rcases in_ix (M.2 4 (3 * i + 1)) a (by omega) with hp | hp | ⟨I, hI, eI⟩
    · rw [lacks_neg hp, noTool_neg hp, Option.bind_some, Option.bind_some, if_neg (by decide), if_neg (by decide)]
      exact Or.inl ⟨rfl, rfl⟩
    · rw [lacks_big r0 hp, noTool_big f0 (by omega) hp, Option.bind_some, Option.bind_some, if_neg (by decide), if_neg (by decide)]
      exact Or.inl ⟨rfl, rfl⟩
    rw [eI, lacks_in r0 hI (by omega), noTool_in f0 hI (by omega), Option.bind_some, Option.bind_some, if_pos rfl, if_pos rfl]
    simp only [lt]
    rw [nI_1]
    rcases ih nX nM (i + 1) (by omega) (by omega) (by omega) with h1 | ⟨h1, h2, h3⟩
    · exact Or.inl h1
    · refine Or.inr ⟨h1, h2, fun j hj hj2 => ?_⟩
      by_cases e : j = i
      · subst e; exact ⟨P, I, hP, hI, eP, eI⟩
      · exact h3 j (by omega) hj2
/-- a row whose setting is one of its instrument -/
def wrow (h : Nat → Int32) (j : Nat) : Prop := ∃ x : Int, h (3 * j + 2) = iI x ∧ (0 ≤ x ∧ x ≤ 500000)
theorem err2 {X M : Sg} (hR : R3 a b c (X.1 0) (X.1 1) (X.1 2) (X.2 0) (X.2 1) (X.2 2) (M.2 0)) (hr : r ≤ 11) (x18 : X.1 18 = nI r) (m10 : M.1 10 = nI r) (hrel : rel r (X.2 18) (M.2 4)) (hv : ∀ j, j < r → vrow (M.2 4) a b j) :
    ∀ (m nX nM i : Nat), m + i = r → m < nX → m < nM →
    (∃ e, (e = -10000002 ∨ e = -10000003) ∧ f_X2_errorOf_b59 X nX (nI i) = some e ∧ f_X5_readPapers_b122 nM M (nI i) = some (e, M)) ∨
    (c + r ≤ 60 ∧ f_X2_errorOf_b59 X nX (nI i) = some 0 ∧ f_X5_readPapers_b122 nM M (nI i) = (f_X5_record M).bind (fun σ7 => f_X5_readPapers_b193 fuel σ7 (0 : Int32) (0 : Int32)) ∧ ∀ j, i ≤ j → j < r → wrow (M.2 4) j) := by
  have h' := hR
  obtain ⟨⟨ha, hb, hc⟩, ⟨r0, r1, r2⟩, ⟨f0, f1, f2⟩, -⟩ := hR
  intro m
  induction m with
  | zero =>
    intro nX nM i hm hX hM
    obtain ⟨nX, rfl⟩ : ∃ z, nX = z + 1 := ⟨nX - 1, by omega⟩
    obtain ⟨nM, rfl⟩ : ∃ z, nM = z + 1 := ⟨nM - 1, by omega⟩
    have : i = r := by omega
    subst this
    rw [f_X2_errorOf_b59.eq_2, f_X5_readPapers_b122.eq_2]
    unfold f_X3_size f_X3_hasRoomFor
    simp only [Option.bind_some]
    rw [x18, m10, if_pos (Int32.le_refl _), if_pos (Int32.le_refl _), r2, i2, x2, f2, nI_add, show tlim 2 = nI 60 from rfl, nI_sub]
    simp only [id_eq]
    have hlt : iI (((60 : Nat) : Int) - (c : Int)) < nI i ↔ 60 < c + i := by
      rw [nI_iI, iI_lt ⟨by omega, by omega⟩ ⟨by omega, by omega⟩]; omega
    have hle : nI (c + i) ≤ (60 : Int32) ↔ c + i ≤ 60 := by
      rw [show (60 : Int32) = nI 60 from rfl, nI_leN (by omega) (by omega)]
    by_cases hroom : c + i ≤ 60
    · rw [if_neg (fun q => by have := hlt.mp q; omega), if_pos (hle.mpr hroom), Option.bind_some, if_neg (show ¬ (1 : Int32) = 0 by decide)]
      exact Or.inr ⟨hroom, rfl, rfl, fun j h1 h2 => by omega⟩
    · rw [if_pos (hlt.mpr (by omega)), if_neg (fun q => hroom (hle.mp q)), Option.bind_some, if_pos rfl]
      exact Or.inl ⟨_, Or.inr rfl, rfl, rfl⟩
  | succ m ih =>
    intro nX nM i hm hX hM
    obtain ⟨nX, rfl⟩ : ∃ z, nX = z + 1 := ⟨nX - 1, by omega⟩
    obtain ⟨nM, rfl⟩ : ∃ z, nM = z + 1 := ⟨nM - 1, by omega⟩
    have nle : ¬ nI r ≤ nI i := by rw [nI_leN (by omega) (by omega)]; omega
    have c18 : ∀ k, k < 3 → f_X3_cell X 18 (nI i) (nI k) = some (M.2 4 (3 * i + k)) := fun k hk => by
      rw [show f_X3_cell X 18 (nI i) (nI k) = some (X.2 18 (i * 3 + k)) from cell_in (t := 18) x18 (by omega) hr hk, hrel i (by omega) k hk]
    obtain ⟨P, I, hP, hI, eP, eI⟩ := hv i (by omega)
    rw [f_X2_errorOf_b59.eq_2, f_X5_readPapers_b122.eq_2]
    unfold f_X3_size
    rw [Option.bind_some, x18, m10, if_neg nle, if_neg nle, show f_X3_cell X 18 (nI i) (1 : Int32) = _ from c18 1 (by omega), show f_X3_cell X 18 (nI i) (2 : Int32) = _ from c18 2 (by omega), three1, three2, gd_of (inb_n (by omega) (by omega)), gd_of (inb_n (by omega) (by omega)), ix_n (by omega), ix_n (by omega)]
    simp only [Option.bind_some]
    rw [eI]
    rcases setting_eq h' hI (M.2 4 (3 * i + 2)) with ⟨g1, g2, x, ex, hx⟩ | ⟨g1, g2⟩
    rotate_left
    · rw [g1, g2, Option.bind_some, Option.bind_some, if_neg (by decide), if_pos rfl]
      exact Or.inl ⟨_, Or.inl rfl, rfl, rfl⟩
    rw [g1, g2, Option.bind_some, Option.bind_some, if_pos rfl, if_neg (show ¬ (1 : Int32) = 0 by decide)]
    simp only [lt]
    rw [nI_1]
    rcases ih nX nM (i + 1) (by omega) (by omega) (by omega) with h1 | ⟨h1, h2, h3, h4⟩
    · exact Or.inl h1
    · refine Or.inr ⟨h1, h2, h3, fun j hj hj2 => ?_⟩
      by_cases e : j = i
      · subst e; exact ⟨x, ex, hx⟩
      · exact h4 j (by omega) hj2
theorem write_loop {gg hh : Nat → Int32} (hr : r ≤ 11) (hrel : rel r gg hh) (hv : ∀ j, j < r → vrow hh a b j) (hw : ∀ j, j < r → wrow hh j) (hroom : c + r ≤ 60) : ∀ (m nX nM i : Nat) (v : Int32) (X M : Sg), m + i = r → m < nX → m < nM →
    R3 a b (c + i) (X.1 0) (X.1 1) (X.1 2) (X.2 0) (X.2 1) (X.2 2) (M.2 0) → X.1 18 = nI r → X.2 18 = gg → M.1 10 = nI r → M.2 4 = hh →
    ∃ v' X' M', f_X4_readPapers_b58 nX X v (nI i) = some (v', X') ∧ f_X5_readPapers_b193 nM M v (nI i) = some (v', M') ∧ R3 a b (c + r) (X'.1 0) (X'.1 1) (X'.1 2) (X'.2 0) (X'.2 1) (X'.2 2) (M'.2 0) ∧ fX X X' ∧ fM M M' := by
  intro m
  induction m with
  | zero =>
    intro nX nM i v X M hm hX hM hR x18 xg m10 mh
    obtain ⟨nX, rfl⟩ : ∃ z, nX = z + 1 := ⟨nX - 1, by omega⟩
    obtain ⟨nM, rfl⟩ : ∃ z, nM = z + 1 := ⟨nM - 1, by omega⟩
    have : i = r := by omega
    subst this
    rw [f_X4_readPapers_b58.eq_2, f_X5_readPapers_b193.eq_2]
    unfold f_X3_size
    rw [Option.bind_some, x18, m10, if_pos (Int32.le_refl _), if_pos (Int32.le_refl _)]
    exact ⟨v, X, M, rfl, rfl, hR, fX_rf, fM_rf⟩
  | succ m ih =>
    intro nX nM i v X M hm hX hM hR x18 xg m10 mh
    obtain ⟨nX, rfl⟩ : ∃ z, nX = z + 1 := ⟨nX - 1, by omega⟩
    obtain ⟨nM, rfl⟩ : ∃ z, nM = z + 1 := ⟨nM - 1, by omega⟩
    have nle : ¬ nI r ≤ nI i := by rw [nI_leN (by omega) (by omega)]; omega
    have c18 : ∀ k, k < 3 → f_X3_cell X 18 (nI i) (nI k) = some (hh (3 * i + k)) := fun k hk => by
      rw [show f_X3_cell X 18 (nI i) (nI k) = some (X.2 18 (i * 3 + k)) from cell_in (t := 18) x18 (by omega) hr hk, xg, hrel i (by omega) k hk]
    obtain ⟨P, I, hP, hI, eP, eI⟩ := hv i (by omega)
    obtain ⟨x, ex, hx⟩ := hw i (by omega)
    rw [f_X4_readPapers_b58.eq_2, f_X5_readPapers_b193.eq_2]
    unfold f_X3_size
    rw [Option.bind_some, x18, m10, if_neg nle, if_neg nle, show f_X3_cell X 18 (nI i) (0 : Int32) = _ from c18 0 (by omega), show f_X3_cell X 18 (nI i) (1 : Int32) = _ from c18 1 (by omega), show f_X3_cell X 18 (nI i) (2 : Int32) = _ from c18 2 (by omega), three1, three2, three, gd_of (inb_n (by omega) (by omega)), gd_of (inb_n (by omega) (by omega)), gd_of (inb_n (by omega) (by omega)), ix_n (by omega), ix_n (by omega), ix_n (by omega), mh]
    simp only [Option.bind_some]
    rw [show 3 * i + 0 = 3 * i from rfl, eP, eI, ex]
    obtain ⟨mk, X1, M1, -, g1, g2, g3, g4, g5⟩ := paper_ok hR (by omega) hP hI hx
    rw [g1, g2]
    simp only [Option.bind_some, lt, lts]
    rw [nI_1]
    obtain ⟨v', X', M', k1, k2, k3, k4, k5⟩ := ih nX nM (i + 1) (v + nI mk) X1 M1 (by omega) (by omega) (by omega) g3 (by rw [g4.1 18 (by omega)]; exact x18) (by rw [g4.2 18 (by omega)]; exact xg) (by rw [g5.1 10 (by omega)]; exact m10) (by rw [g5.2 4 (by omega)]; exact mh)
    exact ⟨v', X', M', k1, k2, k3, fX_tr g4 k4, fM_tr g5 k5⟩
theorem sxn_xs : sxn σ (xs σ r p g) := ⟨fun k _ h2 h3 => xs_1 h2 h3, fun k _ h2 => xs_2 h2⟩
theorem smn_ms : smn τ (ms τ r p h) := ⟨fun k hk => ms_1 (by omega) (by omega), fun k hk => ms_2 (by omega)⟩
theorem sim_read (hI : Inv σ τ) : Sim (f_X4_readPapers σ) (f_X5_readPapers τ) := by
  obtain ⟨a, b, c, hR⟩ := hI.1.get
  have hIn : ∀ {r p r' p' : Nat} {g h : Nat → Int32}, Inv (xs σ r p g) (ms τ r' p' h) := fun {r p r' p' g h} => hI.act sxn_xs smn_ms (iNow.mk hR (xs_1 (by omega) (by omega)) (xs_1 (by omega) (by omega)) (xs_1 (by omega) (by omega)) (xs_2 (by omega)) (xs_2 (by omega)) (xs_2 (by omega)) (ms_2 (by omega)))
  have hRn : ∀ {r p r' p' : Nat} {g h : Nat → Int32}, R3 a b c ((xs σ r p g).1 0) ((xs σ r p g).1 1) ((xs σ r p g).1 2) ((xs σ r p g).2 0) ((xs σ r p g).2 1) ((xs σ r p g).2 2) ((ms τ r' p' h).2 0) := fun {r p r' p' g h} => by
    rw [xs_1 (by omega) (by omega), xs_1 (by omega) (by omega), xs_1 (by omega) (by omega), xs_2 (by omega), xs_2 (by omega), xs_2 (by omega), ms_2 (by omega)]; exact hR
  obtain ⟨n, hn, e22, e8, ht⟩ := hI.2.2.2
  have T : Txt σ τ n := ⟨hn, e22, e8, ht⟩
  have x00 : s1 (s1 σ 18 (0 : Int32)) 23 (0 : Int32) = xs σ 0 0 (σ.2 18) := by
    have : s2 (s1 (s1 σ 18 (0 : Int32)) 23 (0 : Int32)) 18 (σ.2 18) = s1 (s1 σ 18 (0 : Int32)) 23 (0 : Int32) := s2_id _ 18
    exact this.symm
  have m00 : s1 (s1 τ 9 (0 : Int32)) 10 (0 : Int32) = ms τ 0 0 (τ.2 4) := by
    rw [s1_comm (k := 9) (j := 10) (by omega)]
    have : s2 (s1 (s1 τ 10 (0 : Int32)) 9 (0 : Int32)) 4 (τ.2 4) = s1 (s1 τ 10 (0 : Int32)) 9 (0 : Int32) := s2_id _ 4
    exact this.symm
  unfold f_X4_readPapers f_X5_readPapers f_X1_readDrafts f_X3_clear f_X1_drafts
  simp only [Option.bind_some, lt, lts]
  rw [x00, m00]
  rcases drafts_loop T 11 fuel fuel 0 0 (σ.2 18) (τ.2 4) (0 : Int32) (by omega) (by unfold fuel; omega) (by unfold fuel; omega) (by omega) (by omega) (fun j hj => by omega) rfl with ⟨p', rX, rM, g', h', hp', x1, m1⟩ | ⟨p', r', g', h', hr1, hr2, hrel, x1, m1⟩
  · rw [x1, m1]
    simp only [Option.bind_some]
    have : ¬ nI p' = (-1 : Int32) := fun e => by
      have h1 : (nI p').toInt = (-1 : Int32).toInt := by rw [e]
      rw [nI_iI, iI_toInt (by omega) (by omega)] at h1
      have h2 : (-1 : Int32).toInt = -1 := rfl
      omega
    rw [if_neg this]
    exact ⟨_, xs σ rX p' g', ms τ rM p' h', rfl, rfl, hIn⟩
  rw [x1, m1]
  simp only [Option.bind_some]
  rw [if_pos trivial, gd_of (by decide)]
  have hrel2 : rel r' ((xs σ r' p' g').2 18) ((ms τ r' p' h').2 4) := by rw [xs_t, ms_t]; exact hrel
  unfold f_X2_errorOf
  rcases err1 (X := xs σ r' p' g') (M := ms τ r' p' h') hRn hr2 xs_18 ms_10 hrel2 r' fuel fuel 0 (by omega) (by unfold fuel; omega) (by unfold fuel; omega) with ⟨k1, k2⟩ | ⟨k1, k2, hv⟩
  · rw [show f_X2_errorOf_b8 (xs σ r' p' g') fuel (0 : Int32) = _ from k1, show f_X5_readPapers_b71 fuel (ms τ r' p' h') (0 : Int32) = _ from k2, Option.bind_some, if_neg (by decide)]
    exact ⟨_, xs σ r' p' g', ms τ r' p' h', rfl, rfl, hIn⟩
  rw [show f_X2_errorOf_b8 (xs σ r' p' g') fuel (0 : Int32) = _ from k1, show f_X5_readPapers_b71 fuel (ms τ r' p' h') (0 : Int32) = _ from k2]
  rcases err2 (X := xs σ r' p' g') (M := ms τ r' p' h') hRn hr2 xs_18 ms_10 hrel2 (fun j hj => hv j (by omega) hj) r' fuel fuel 0 (by omega) (by unfold fuel; omega) (by unfold fuel; omega) with ⟨e, he, k1, k2⟩ | ⟨hroom, k1, k2, hw⟩
  · rw [show f_X2_errorOf_b59 (xs σ r' p' g') fuel (0 : Int32) = _ from k1, show f_X5_readPapers_b122 fuel (ms τ r' p' h') (0 : Int32) = _ from k2, Option.bind_some, if_neg (by rcases he with rfl | rfl <;> decide)]
    exact ⟨_, xs σ r' p' g', ms τ r' p' h', rfl, rfl, hIn⟩
  rw [show f_X2_errorOf_b59 (xs σ r' p' g') fuel (0 : Int32) = _ from k1, show f_X5_readPapers_b122 fuel (ms τ r' p' h') (0 : Int32) = _ from k2, Option.bind_some, if_pos rfl]
  obtain ⟨σ1, τ1, p1, p2, hI1, hR1, q0, q1, q2, q3, q4, -⟩ := rec2 (hIn (r := r') (p := p') (r' := r') (p' := p') (g := g') (h := h')) hRn
  rw [p1, p2, Option.bind_some, Option.bind_some]
  obtain ⟨v', X', M', k1, k2, k3, k4, k5⟩ := write_loop (c := c) hr2 hrel (fun j hj => by have := hv j (by omega) hj; rw [ms_t] at this; exact this) (fun j hj => by have := hw j (by omega) hj; rw [ms_t] at this; exact this) hroom r' fuel fuel 0 0 σ1 τ1 (by omega) (by unfold fuel; omega) (by unfold fuel; omega) hR1 (by rw [q3, xs_18]) (by rw [q4, xs_t]) (by rw [q1 10 (by omega), ms_10]) (by rw [q2 4 (by omega), ms_t])
  rw [show f_X4_readPapers_b58 fuel σ1 (0 : Int32) (0 : Int32) = _ from k1, show f_X5_readPapers_b193 fuel τ1 (0 : Int32) (0 : Int32) = _ from k2]
  exact ⟨v', X', M', rfl, rfl, hI1.act k4.sxn k5.smn ⟨a, b, c + r', k3⟩⟩
end PAPERS
