/-! THE LAW: both systems side by side, and the script. -/
def YL (G : va_G) (cls : Cls) (ax am : Nat → Nat) (A : Nat → Prop) : Sys (Sg × Sg) := (G, (fun σ => mkw 49 ax (cellX cls ax σ.1) ++ mkw 6 am (cellM cls am σ.2)), A, tyO cls)
theorem P_left {G : va_G} {w1 w2 : va_W} {H : Heap} (h : va_P G vwCl (w1 ++ w2) H) : va_P G vwCl w1 H := fun k q hk => h k q (by
  have hl := (List.getElem?_eq_some_iff.mp hk).1
  rw [List.getElem?_append_left hl]; exact hk)
theorem P_right {G : va_G} {w1 w2 : va_W} {H : Heap} (h : va_P G vwCl (w1 ++ w2) H) : va_P G vwCl w2 H := fun k q hk => h (w1.length + k) q (by
  rw [List.getElem?_append_right (by omega), Nat.add_sub_cancel_left]; exact hk)
theorem mkw_len {n : Nat} {ad : Nat → Nat} {cf : Nat → va_E} : (mkw n ad cf).length = n := by simp [mkw]
theorem D_cross {A : Nat → Prop} {n m : Nat} {ad bd : Nat → Nat} {cf df : Nat → va_E} (h : va_D A (mkw n ad cf ++ mkw m bd df)) {i j : Nat} (hi : i < n) (hj : j < m) : ad i ≠ bd j := by
  intro e
  have h1 : (mkw n ad cf ++ mkw m bd df)[i]? = some (ad i, cf i) := by
    rw [List.getElem?_append_left (by rw [mkw_len]; exact hi)]; exact mkw_at hi
  have h2 : (mkw n ad cf ++ mkw m bd df)[n + j]? = some (bd j, df j) := by
    rw [List.getElem?_append_right (by rw [mkw_len]; omega), mkw_len, Nat.add_sub_cancel_left]; exact mkw_at hj
  have := h.1 i (n + j) _ _ h1 h2 e
  omega
theorem D_inL {A : Nat → Prop} {n m : Nat} {ad bd : Nat → Nat} {cf df : Nat → va_E} (h : va_D A (mkw n ad cf ++ mkw m bd df)) {i : Nat} (hi : i < n) : A (ad i) := by
  have h1 : (mkw n ad cf ++ mkw m bd df)[i]? = some (ad i, cf i) := by
    rw [List.getElem?_append_left (by rw [mkw_len]; exact hi)]; exact mkw_at hi
  exact h.2 i _ h1
theorem D_inR {A : Nat → Prop} {n m : Nat} {ad bd : Nat → Nat} {cf df : Nat → va_E} (h : va_D A (mkw n ad cf ++ mkw m bd df)) {j : Nat} (hj : j < m) : A (bd j) := by
  have h2 : (mkw n ad cf ++ mkw m bd df)[n + j]? = some (bd j, df j) := by
    rw [List.getElem?_append_right (by rw [mkw_len]; omega), mkw_len, Nat.add_sub_cancel_left]; exact mkw_at hj
  exact h.2 _ _ h2
section LAW
variable {α β : Type} {Γ : Cx} {G : va_G} {cls : Cls} {ax am : Nat → Nat} {A : Nat → Prop} {q : α → State → Prop} {cc : ByteArray} {own : String} {nL : Nat} {ret : Option FieldType} {fr lo : Nat} {pc : Nat} {ls : List (Nat × Value)} {st : List Value} {σ : Sg × Sg} {o : Option α}
theorem X_sld {τ : Type} {Y : Sys τ} {σ : τ} (hC : CX Γ Y cc own nL ret fr lo) {b L : Nat} {xs : Nat → Int32} {i : Int32} (hX : va_X b L xs Γ.1.2.2.2.2.1 Γ.1.2.2.2.2.1.heap) (hbl : b < Γ.1.2.2.2.2.1.heap.size) (hbA : ¬ Y.2.2.1 b) (d : decode cc pc = .ok (.iaload, 1)) (k : WX Γ Y q nL (pc + 1) ls (.int (xs (ix i)) :: st) σ o) : WX Γ Y q nL pc ls (.int i :: .ref b :: st) σ (gd (inb i L) o) :=
  X_gd fun hi => fun a ha H locs la hP hS hL => va_sld hC.1 hC.2.1 hX hbl hbA hS (inb_in hi) d (k a ha H locs la hP hS hL)
theorem X_slen {τ : Type} {Y : Sys τ} {σ : τ} (hC : CX Γ Y cc own nL ret fr lo) {b L : Nat} {xs : Nat → Int32} (hX : va_X b L xs Γ.1.2.2.2.2.1 Γ.1.2.2.2.2.1.heap) (hbl : b < Γ.1.2.2.2.2.1.heap.size) (hbA : ¬ Y.2.2.1 b) (d : decode cc pc = .ok (.arraylength, 1)) (k : WX Γ Y q nL (pc + 1) ls (.int (Int32.ofNat L) :: st) σ o) : WX Γ Y q nL pc ls (.ref b :: st) σ o :=
  fun a ha H locs la hP hS hL => va_slen hC.1 hC.2.1 hX hbl hbA hS d (k a ha H locs la hP hS hL)
/-- behind a call of a part of the world -/
theorem L_after {Y : Sys Sg} {fin : β → Option Value × Sg} {a0 : β} {a : α} {rest st0 : List Value} {av : Array Value} {H : Heap} {locs : List Loc} {la : Array Slot} {σ' : Sg × Sg} {W0 : va_W} (hS : va_S A Γ.1.2.2.2.2.1.heap H locs) (hL : lv_has la nL ls)
    (hin : ∀ z, Y.2.2.1 z → A z) (hW0 : va_P G vwCl W0 H) (hsep : ∀ (k : Nat) (z : Nat × va_E), W0[k]? = some z → ¬ Y.2.2.1 z.1)
    (hback : ∀ H1, va_P Y.1 vwCl (Y.2.1 (fin a0).2) H1 → va_P G vwCl W0 H1 → va_P G vwCl ((YL G cls ax am A).2.1 σ') H1)
    (hr : va_Run Γ.1.1 Γ.1.2.1 Γ.1.2.2.1 Γ.1.2.2.2.1 Γ.1.2.2.2.2.1 Γ.1.2.2.2.2.2 Γ.2.1 Γ.2.2.1 Γ.2.2.2.1 Γ.2.2.2.2.1 H locs Γ.2.2.2.2.2.1 Γ.2.2.2.2.2.2 0 0 (F0 Γ.1.2.2.2.2.2 pc la st0) rest (QX Y (fin a0) av) Y.2.2.1)
    (k : WX Γ (YL G cls ax am A) q nL (pc + 3) ls ((fin a0).1.toList ++ rest) σ' (some a)) :
    W Γ.1.1 Γ.1.2.1 Γ.1.2.2.1 Γ.1.2.2.2.1 Γ.1.2.2.2.2.1 Γ.1.2.2.2.2.2 Γ.2.1 Γ.2.2.1 Γ.2.2.2.1 Γ.2.2.2.2.1 H locs Γ.2.2.2.2.2.1 Γ.2.2.2.2.2.2 (q a) (F0 Γ.1.2.2.2.2.2 pc la st0) := by
  intro T hT X
  obtain ⟨v, st₀, t, T', L, h0, X', hL2, e1, e2, ⟨hv, ⟨hP1, -, -⟩, hF⟩, stp⟩ := hr T hT X
  have hv' : (fin a0).1 = v := (Outcome.returned.inj hv).symm
  subst hv'
  have hh : T'.heap = t.heap := e1
  have hk1 : ∀ z : Nat, z < H.size → ¬ Y.2.2.1 z → t.heap[z]? = H[z]? := fun z g1 g2 => by rw [hF.2 z (by rw [h0]; exact g1) g2, h0]
  have hP2 : va_P G vwCl W0 t.heap := fun k z hk => (hW0 k z hk).kept (hk1 z.1 (hW0 k z hk).lt (hsep k z hk))
  obtain ⟨t2, a1, b1⟩ := k a rfl T'.heap (locs ++ L) la (by rw [hh]; exact hback t.heap hP1 hP2)
    ⟨by rw [hh]; exact Nat.le_trans hS.1 (by rw [← h0]; exact hF.1), fun z g1 g2 => by rw [hh, hk1 z (Nat.lt_of_lt_of_le g1 hS.1) (fun h => g2 (hin z h))]; exact hS.2.1 z g1 g2, fun z hz => by
      rcases List.mem_append.mp hz with h | h
      · exact hS.2.2 z h
      · exact hin _ (hL2 z h)⟩ hL T' rfl X'
  exact ⟨t2, stp t2 a1, b1⟩
theorem L_callX {y : MethodName} {idx n fr' lo' ka : Nat} {b : ByteArray} {ret' : Option FieldType} {argv rest : List Value} {fin : β → Option Value × Sg} {o' : Option β} {f : β → Option α} (hC : CX Γ (YL G cls ax am A) cc own nL ret fr lo)
    (hM : MT Γ.1.2.1 (YX G cls ax) y (.code y b n ret' :: gw) fr' lo' (.ref (ax 25) :: argv) fin σ.1 o') (hg : GoodIn gw (wsV own idx RX4 y (.code y b n ret' :: gw))) (hy : y.cls = RX4) (hk : argv.length = ka) (hok : okm y ka = true) (hr : fr' + 1 ≤ fr ∧ 8 + (n + 11) + lo' ≤ lo) (d : decode cc pc = .ok (.invokevirtual idx, 3)) (hst : st = argv.reverse ++ .ref (ax 25) :: rest) (hrm : (rest.map fun v => v.category).sum ≤ 8)
    (k : ∀ a0, WX Γ (YL G cls ax am A) q nL (pc + 3) ls ((fin a0).1.toList ++ rest) ((fin a0).2, σ.2) (f a0)) : WX Γ (YL G cls ax am A) q nL pc ls st σ (o'.bind f) := by
  intro a ha H locs la hP hS hL
  obtain ⟨a0, h0, h1⟩ := Option.bind_eq_some_iff.mp ha
  have hok := okc_of hk hok hr
  simp only [okc, Bool.and_eq_true, decide_eq_true_eq] at hok
  obtain ⟨hx, hb, hml, hown, hts, hK, hn, hD, hlk, hrt, e1, e2, e3, e4⟩ := hC
  have hPx : va_P G vwCl ((YX G cls ax).2.1 σ.1) H := P_left hP
  have hPm : va_P G vwCl (mkw 6 am (cellM cls am σ.2)) H := P_right hP
  refine L_after (fin := fin) (a0 := a0) (Y := YX G cls ax) (σ' := ((fin a0).2, σ.2)) hS hL (fun z hz => ?_) hPm (fun j z hz hc => ?_) (fun H1 g1 g2 => va_P.app g1 g2)
    (va_runV (C := RX4) (As := argv) (rest := rest) ⟨hx, hb, hml, hown, hts⟩ (hM a0 h0) (cwV argv.length hts hg rfl rfl rfl ⟨hy, hok.1⟩ ⟨by rw [e1]; exact hok.2.1, by rw [e2]; exact hok.2.2⟩) ⟨PX_blind _, va_recv (ci := 4) (q := (RX4, TX4, 5)) hK hPx rfl (wX (by omega) cX_vs), fun U hU hW => ⟨rfl, PX_start (Y := YX G cls ax) hPx hK hn hU hW⟩⟩ rfl rfl hL.1 hst (lv_room hrm) d ⟨e3, e4⟩) (fun a' ha' => ?_)
  · obtain ⟨j, hj, rfl⟩ := hz
    exact D_inL (hD σ) hj
  · obtain ⟨l1, rfl⟩ := mkw_get hz
    obtain ⟨i, hi, e⟩ := hc
    exact D_cross (hD σ) hi l1 e.symm
  · cases ha'
    exact k a0 a h1
theorem L_callM {y : MethodName} {idx n fr' lo' ka : Nat} {b : ByteArray} {ret' : Option FieldType} {argv rest : List Value} {fin : β → Option Value × Sg} {o' : Option β} {f : β → Option α} (hC : CX Γ (YL G cls ax am A) cc own nL ret fr lo)
    (hM : MT Γ.1.2.1 (YM G cls am) y (.code y b n ret' :: gw) fr' lo' (.ref (am 0) :: argv) fin σ.2 o') (hg : GoodIn gw (wsV own idx RX5 y (.code y b n ret' :: gw))) (hy : y.cls = RX5) (hk : argv.length = ka) (hok : okm y ka = true) (hr : fr' + 1 ≤ fr ∧ 8 + (n + 11) + lo' ≤ lo) (d : decode cc pc = .ok (.invokevirtual idx, 3)) (hst : st = argv.reverse ++ .ref (am 0) :: rest) (hrm : (rest.map fun v => v.category).sum ≤ 8)
    (k : ∀ a0, WX Γ (YL G cls ax am A) q nL (pc + 3) ls ((fin a0).1.toList ++ rest) (σ.1, (fin a0).2) (f a0)) : WX Γ (YL G cls ax am A) q nL pc ls st σ (o'.bind f) := by
  intro a ha H locs la hP hS hL
  obtain ⟨a0, h0, h1⟩ := Option.bind_eq_some_iff.mp ha
  have hok := okc_of hk hok hr
  simp only [okc, Bool.and_eq_true, decide_eq_true_eq] at hok
  obtain ⟨hx, hb, hml, hown, hts, hK, hn, hD, hlk, hrt, e1, e2, e3, e4⟩ := hC
  have hPx : va_P G vwCl (mkw 49 ax (cellX cls ax σ.1)) H := P_left hP
  have hPm : va_P G vwCl ((YM G cls am).2.1 σ.2) H := P_right hP
  refine L_after (fin := fin) (a0 := a0) (Y := YM G cls am) (σ' := (σ.1, (fin a0).2)) hS hL (fun z hz => ?_) hPx (fun j z hz hc => ?_) (fun H1 g1 g2 => va_P.app g2 g1)
    (va_runV (C := RX5) (As := argv) (rest := rest) ⟨hx, hb, hml, hown, hts⟩ (hM a0 h0) (cwV argv.length hts hg rfl rfl rfl ⟨hy, hok.1⟩ ⟨by rw [e1]; exact hok.2.1, by rw [e2]; exact hok.2.2⟩) ⟨PX_blind _, va_recv (ci := 5) (q := (RX5, TX5, 16)) hK hPm rfl (wM (by omega) cM_ob), fun U hU hW => ⟨rfl, PX_start (Y := YM G cls am) hPm hK hn hU hW⟩⟩ rfl rfl hL.1 hst (lv_room hrm) d ⟨e3, e4⟩) (fun a' ha' => ?_)
  · obtain ⟨j, hj, rfl⟩ := hz
    exact D_inR (hD σ) hj
  · obtain ⟨l1, rfl⟩ := mkw_get hz
    obtain ⟨i, hi, e⟩ := hc
    exact D_cross (hD σ) l1 hi e
  · cases ha'
    exact k a0 a h1
end LAW
