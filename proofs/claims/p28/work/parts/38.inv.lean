/-! WHAT HOLDS between the class's state and the reference's. -/
def cntI (f : Nat → Int32) (c i : Nat) : Nat := cntB (fun q => decide (f (144 + 8 * q + 1) = nI i)) c
def cntP (f : Nat → Int32) (c p : Nat) : Nat := cntB (fun q => decide (f (144 + 8 * q) = nI p)) c
def insV (f : Nat → Int32) (i : Nat) : Prop := (∃ (N U Ln : Nat) (z : Int) (g tr : Nat), insOK f i N U Ln z g tr) ∧ (f (4 + 8 * i + 3) = 0 ∨ f (4 + 8 * i + 3) = 1) ∧ (f (4 + 8 * i + 7) = 0 ∨ f (4 + 8 * i + 7) = 1)
def pupV (f : Nat → Int32) (p : Nat) : Prop := ∃ (e : Int) (h k : Nat), f (84 + 5 * p) = iI e ∧ (-50 ≤ e ∧ e ≤ 50) ∧ f (84 + 5 * p + 1) = nI h ∧ h < 16 ∧ f (84 + 5 * p + 2) = nI k ∧ k < 8
def papV (f : Nat → Int32) (a b q : Nat) : Prop := ∃ (p i : Nat) (x : Int) (k s : Nat), f (144 + 8 * q) = nI p ∧ p < b ∧ f (144 + 8 * q + 1) = nI i ∧ i < a ∧ f (144 + 8 * q + 2) = iI x ∧ (0 ≤ x ∧ x ≤ 500000) ∧ f (144 + 8 * q + 4) = nI k ∧ k ≤ 10 ∧ f (144 + 8 * q + 5) = nI s ∧ s ≤ 3 ∧
  (s ≠ 0 → ∃ (cs : Nat) (hp : Int), f (144 + 8 * q + 6) = nI cs ∧ (1 ≤ cs ∧ cs ≤ 3) ∧ f (144 + 8 * q + 7) = iI hp ∧ (-10 ≤ hp ∧ hp ≤ 10) ∧ (s = 1 → 0 ≤ (k : Int) + hp ∧ (k : Int) + hp ≤ 10))
def tabI (ct f : Nat → Int32) (a c : Nat) : Prop := ∀ i, i < a → (∀ k, k < 8 → ct (i * 11 + k) = f (4 + 8 * i + k)) ∧ ct (i * 11 + 8) = f (4 + 8 * i + 2) * (f (4 + 8 * i) * f (4 + 8 * i + 1)) ∧ ct (i * 11 + 9) = (f (4 + 8 * i) + (if f (4 + 8 * i + 3) = 1 then 1 else -1)) * f (4 + 8 * i + 1) ∧ ct (i * 11 + 10) = nI (cntI f c i)
def tabP (cp f : Nat → Int32) (b c : Nat) : Prop := ∀ p, p < b → (∀ k, k < 3 → cp (p * 9 + k) = f (84 + 5 * p + k)) ∧ cp (p * 9 + 3) = nI (cntP f c p) ∧ cp (p * 9 + 4) = sumI (mks f (nI p)) c ∧ cp (p * 9 + 6) = f (84 + 5 * p + 3) ∧ cp (p * 9 + 7) = f (84 + 5 * p + 4)
def tabQ (cq f : Nat → Int32) (c : Nat) : Prop := ∀ q, q < c → (∀ k, k < 6 → cq (q * 8 + k) = f (144 + 8 * q + k)) ∧ ∀ k, (k = 6 ∨ k = 7) → cq (q * 8 + k) = (if f (144 + 8 * q + 5) = 0 then -10000005 else f (144 + 8 * q + k))
/-- the papers in appeal -/
def cntA (f : Nat → Int32) (c : Nat) : Nat := cntB (fun q => decide (f (144 + 8 * q + 5) = 1)) c
def rowV (f : Nat → Int32) (a b c : Nat) : Prop := (∀ i, i < a → insV f i) ∧ (∀ p, p < b → pupV f p) ∧ (∀ q, q < c → papV f a b q) ∧ (∀ i, a ≤ i → i < 10 → ∀ k, 4 ≤ k → k < 8 → f (4 + 8 * i + k) = 0) ∧ (∀ p, b ≤ p → p < 12 → ∀ k, 2 ≤ k → k < 5 → f (84 + 5 * p + k) = 0) ∧ cntA f c ≤ 20
def R3 (a b c : Nat) (rt rp rq : Int32) (ct cp cq f : Nat → Int32) : Prop :=
  (a ≤ 10 ∧ b ≤ 12 ∧ c ≤ 60) ∧ (rt = nI a ∧ rp = nI b ∧ rq = nI c) ∧ (f 0 = nI a ∧ f 1 = nI b ∧ f 2 = nI c) ∧ tabI ct f a c ∧ tabP cp f b c ∧ tabQ cq f c ∧ rowV f a b c
def RS (σ : Sg) (s : Nat) (f : Nat → Int32) : Prop := ∃ a b c, R3 a b c (σ.1 (3 * s)) (σ.1 (3 * s + 1)) (σ.1 (3 * s + 2)) (σ.2 (3 * s)) (σ.2 (3 * s + 1)) (σ.2 (3 * s + 2)) f
theorem cntI_congr {f g : Nat → Int32} {c i : Nat} (hc : c ≤ 60) (h : ∀ j, j < 624 → f j = g j) : cntI f c i = cntI g c i := cntB_congr c fun q hq => by rw [h _ (by omega)]
theorem cntP_congr {f g : Nat → Int32} {c i : Nat} (hc : c ≤ 60) (h : ∀ j, j < 624 → f j = g j) : cntP f c i = cntP g c i := cntB_congr c fun q hq => by rw [h _ (by omega)]
theorem cntA_congr {f g : Nat → Int32} {c : Nat} (hc : c ≤ 60) (h : ∀ j, j < 624 → f j = g j) : cntA f c = cntA g c := cntB_congr c fun q hq => by rw [h _ (by omega)]
theorem sumM_congr {f g : Nat → Int32} {c : Nat} {v : Int32} (hc : c ≤ 60) (h : ∀ j, j < 624 → f j = g j) : sumI (mks f v) c = sumI (mks g v) c := sumI_congr c fun q hq => by unfold mks; rw [h _ (by omega), h _ (by omega)]
theorem R3.congr {a b c : Nat} {rt rp rq : Int32} {ct cp cq f ct' cp' cq' f' : Nat → Int32} (h : R3 a b c rt rp rq ct cp cq f) (h1 : ∀ j, j < 110 → ct' j = ct j) (h2 : ∀ j, j < 108 → cp' j = cp j) (h3 : ∀ j, j < 480 → cq' j = cq j) (h4 : ∀ j, j < 624 → f' j = f j) : R3 a b c rt rp rq ct' cp' cq' f' := by
  obtain ⟨⟨ha, hb, hc⟩, hr, ⟨f0, f1, f2⟩, t1, t2, t3, v1, v2, v3, v4, v5, v6⟩ := h
  refine ⟨⟨ha, hb, hc⟩, hr, ⟨by rw [h4 _ (by omega)]; exact f0, by rw [h4 _ (by omega)]; exact f1, by rw [h4 _ (by omega)]; exact f2⟩, fun i hi => ?_, fun p hp => ?_, fun q hq => ?_, fun i hi => ?_, fun p hp => ?_, fun q hq => ?_, fun i hi hi2 k hk hk2 => ?_, fun p hp hp2 k hk hk2 => ?_, by rw [cntA_congr hc h4]; exact v6⟩
  · obtain ⟨q1, q2, q3, q4⟩ := t1 i hi
    refine ⟨fun k hk => ?_, ?_, ?_, ?_⟩
    · rw [h1 _ (by omega), h4 _ (by omega)]; exact q1 k hk
    · rw [h1 _ (by omega), h4 _ (by omega), h4 _ (by omega), h4 _ (by omega)]; exact q2
    · rw [h1 _ (by omega), h4 _ (by omega), h4 _ (by omega), h4 _ (by omega)]; exact q3
    · rw [h1 _ (by omega), cntI_congr hc h4]; exact q4
  · obtain ⟨q1, q2, q3, q4, q5⟩ := t2 p hp
    refine ⟨fun k hk => ?_, ?_, ?_, ?_, ?_⟩
    · rw [h2 _ (by omega), h4 _ (by omega)]; exact q1 k hk
    · rw [h2 _ (by omega), cntP_congr hc h4]; exact q2
    · rw [h2 _ (by omega), sumM_congr hc h4]; exact q3
    · rw [h2 _ (by omega), h4 _ (by omega)]; exact q4
    · rw [h2 _ (by omega), h4 _ (by omega)]; exact q5
  · obtain ⟨q1, q2⟩ := t3 q hq
    refine ⟨fun k hk => ?_, fun k hk => ?_⟩
    · rw [h3 _ (by omega), h4 _ (by omega)]; exact q1 k hk
    · rw [h3 _ (by omega), h4 _ (by omega), h4 _ (by omega)]; exact q2 k hk
  · obtain ⟨⟨N, U, Ln, z, g, tr, q1, q2, q3, q4, q5, q6, q7⟩, q8, q9⟩ := v1 i hi
    refine ⟨⟨N, U, Ln, z, g, tr, ?_, ?_, ?_, ?_, ?_, ?_, q7⟩, ?_, ?_⟩ <;> rw [h4 _ (by omega)] <;> assumption
  · obtain ⟨e, hh, k, q1, q2, q3, q4, q5, q6⟩ := v2 p hp
    exact ⟨e, hh, k, by rw [h4 _ (by omega)]; exact q1, q2, by rw [h4 _ (by omega)]; exact q3, q4, by rw [h4 _ (by omega)]; exact q5, q6⟩
  · obtain ⟨p, i, x, k, s, q1, q2, q3, q4, q5, q6, q7, q8, q9, q10, q11⟩ := v3 q hq
    refine ⟨p, i, x, k, s, by rw [h4 _ (by omega)]; exact q1, q2, by rw [h4 _ (by omega)]; exact q3, q4, by rw [h4 _ (by omega)]; exact q5, q6, by rw [h4 _ (by omega)]; exact q7, q8, by rw [h4 _ (by omega)]; exact q9, q10, fun hs => ?_⟩
    obtain ⟨cs, hp, r1, r2, r3, r4⟩ := q11 hs
    exact ⟨cs, hp, by rw [h4 _ (by omega)]; exact r1, r2, by rw [h4 _ (by omega)]; exact r3, r4⟩
  · rw [h4 _ (by omega)]; exact v4 i hi hi2 k hk hk2
  · rw [h4 _ (by omega)]; exact v5 p hp hp2 k hk hk2
/-- the parts of the invariant -/
def iNow (σ τ : Sg) : Prop := RS σ 0 (τ.2 0)
def iHist (σ τ : Sg) : Prop := ∃ h o : Nat, h ≤ 4 ∧ o < 4 ∧ σ.1 20 = nI h ∧ σ.1 19 = nI o ∧ τ.1 0 = nI h ∧ ∀ k, k < h → RS σ (2 + (o + k) % 4) (fun x => τ.2 1 (624 * k + x))
def iSnap (σ τ : Sg) : Prop := (σ.1 21 = 0 ∧ τ.1 1 = 0) ∨ (σ.1 21 = 1 ∧ τ.1 1 = 1 ∧ RS σ 1 (τ.2 2))
def iText (σ τ : Sg) : Prop := ∃ n : Nat, n ≤ 60 ∧ σ.1 22 = nI n ∧ τ.1 8 = nI n ∧ ∀ j, j < n → σ.2 19 j = τ.2 3 j ∧ isch (σ.2 19 j) = true
def Inv (σ τ : Sg) : Prop := iNow σ τ ∧ iHist σ τ ∧ iSnap σ τ ∧ iText σ τ
/-- what an act on the present state leaves alone -/
def sxn (σ σ' : Sg) : Prop := (∀ k, 3 ≤ k → k ≠ 18 → k ≠ 23 → σ'.1 k = σ.1 k) ∧ ∀ k, 3 ≤ k → k ≠ 18 → σ'.2 k = σ.2 k
def smn (τ τ' : Sg) : Prop := (∀ k, (k < 2 ∨ k = 8) → τ'.1 k = τ.1 k) ∧ ∀ k, (1 ≤ k ∧ k ≤ 3) → τ'.2 k = τ.2 k
theorem sxn_rf {σ : Sg} : sxn σ σ := ⟨fun _ _ _ _ => rfl, fun _ _ _ => rfl⟩
theorem smn_rf {σ : Sg} : smn σ σ := ⟨fun _ _ => rfl, fun _ _ => rfl⟩
theorem sxn_tr {σ τ ρ : Sg} (h : sxn σ τ) (h2 : sxn τ ρ) : sxn σ ρ := ⟨fun k a b c => (h2.1 k a b c).trans (h.1 k a b c), fun k a b => (h2.2 k a b).trans (h.2 k a b)⟩
theorem smn_tr {σ τ ρ : Sg} (h : smn σ τ) (h2 : smn τ ρ) : smn σ ρ := ⟨fun k a => (h2.1 k a).trans (h.1 k a), fun k a => (h2.2 k a).trans (h.2 k a)⟩
theorem sxn_s2 {σ : Sg} {t : Nat} {f : Nat → Int32} (h : t < 3 ∨ t = 18) : sxn σ (s2 σ t f) := ⟨fun _ _ _ _ => rfl, fun k a b => s2_ne (by omega)⟩
theorem sxn_s1 {σ : Sg} {t : Nat} {v : Int32} (h : t < 3 ∨ t = 18 ∨ t = 23) : sxn σ (s1 σ t v) := ⟨fun k a b c => s1_ne (by omega), fun _ _ _ => rfl⟩
theorem smn_s2 {σ : Sg} {t : Nat} {f : Nat → Int32} (h : t = 0 ∨ 3 < t) : smn σ (s2 σ t f) := ⟨fun _ _ => rfl, fun k a => s2_ne (by omega)⟩
theorem smn_s1 {σ : Sg} {t : Nat} {v : Int32} (h : 2 ≤ t ∧ t ≠ 8) : smn σ (s1 σ t v) := ⟨fun k a => s1_ne (by omega), fun _ _ => rfl⟩
theorem smn_scr {σ τ : Sg} (h : scr σ τ) : smn σ τ := ⟨fun k a => h.2 k (by omega), fun k a => by rw [h.1]⟩
theorem RS.same {σ σ' : Sg} {s : Nat} {f : Nat → Int32} (h : RS σ s f) (h1 : ∀ k, k < 3 → σ'.1 (3 * s + k) = σ.1 (3 * s + k)) (h2 : ∀ k, k < 3 → σ'.2 (3 * s + k) = σ.2 (3 * s + k)) : RS σ' s f := by
  unfold RS at h ⊢
  have a0 := h1 0 (by omega)
  have a1 := h1 1 (by omega)
  have a2 := h1 2 (by omega)
  have b0 := h2 0 (by omega)
  have b1 := h2 1 (by omega)
  have b2 := h2 2 (by omega)
  rw [Nat.add_zero] at a0 b0
  rw [a0, a1, a2, b0, b1, b2]; exact h
theorem Inv.act {σ τ σ' τ' : Sg} (h : Inv σ τ) (hx : sxn σ σ') (hm : smn τ τ') (hn : iNow σ' τ') : Inv σ' τ' := by
  obtain ⟨-, ⟨hh, o, h1, h2, h3, h4, h5, h6⟩, hs, n, t1, t2, t3, t4⟩ := h
  refine ⟨hn, ⟨hh, o, h1, h2, by rw [hx.1 20 (by omega) (by omega) (by omega)]; exact h3, by rw [hx.1 19 (by omega) (by omega) (by omega)]; exact h4, by rw [hm.1 0 (by omega)]; exact h5, fun k hk => ?_⟩, ?_, n, t1, by rw [hx.1 22 (by omega) (by omega) (by omega)]; exact t2, by rw [hm.1 8 (by omega)]; exact t3, fun j hj => ?_⟩
  · have e : τ'.2 1 = τ.2 1 := hm.2 1 (by omega)
    rw [e]
    exact (h6 k hk).same (fun j hj => hx.1 _ (by omega) (by omega) (by omega)) (fun j hj => hx.2 _ (by omega) (by omega))
  · rcases hs with ⟨a, b⟩ | ⟨a, b, c⟩
    · left; exact ⟨by rw [hx.1 21 (by omega) (by omega) (by omega)]; exact a, by rw [hm.1 1 (by omega)]; exact b⟩
    · right; exact ⟨by rw [hx.1 21 (by omega) (by omega) (by omega)]; exact a, by rw [hm.1 1 (by omega)]; exact b, by rw [hm.2 2 (by omega)]; exact c.same (fun j hj => hx.1 _ (by omega) (by omega) (by omega)) (fun j hj => hx.2 _ (by omega) (by omega))⟩
  · rw [hx.2 19 (by omega) (by omega), hm.2 3 (by omega)]; exact t4 j hj
