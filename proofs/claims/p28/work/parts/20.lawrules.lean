/-! THE LAW'S METHODS: longs; the class's world beside arrays of the law's own; the script. -/
def ltl {α : Type} (e : Int64) (k : Int64 → Option α) : Option α := k e
abbrev fiL {τ : Type} (σ : τ) : Int64 → Option Value × τ := fun r => (some (.long r), σ)
section LONGS
variable {τ α : Type} {Γ : Cx} {Y : Sys τ} {q : α → State → Prop} {cc : ByteArray} {own : String} {nL : Nat} {ret : Option FieldType} {fr lo : Nat} {pc : Nat} {ls : List (Nat × Value)} {st : List Value} {σ : τ} {o : Option α}
theorem X_ltl {e : Int64} {f : Int64 → Option α} (k : ∀ x : Int64, WX Γ Y q nL pc ls (.long x :: st) σ (f x)) : WX Γ Y q nL pc ls (.long e :: st) σ (ltl e f) := k e
theorem X_ldc2 (hC : CX Γ Y cc own nL ret fr lo) {idx : Nat} {v : Int64} (w : Cond.constantLong own idx v ∈ gw) (d : decode cc pc = .ok (.ldc2_w idx, 3)) (k : WX Γ Y q nL (pc + 3) ls (.long v :: st) σ o) : WX Γ Y q nL pc ls st σ o :=
  fun a ha H locs la hP hS hL => lv_ldc2 hC.1 hC.2.1 hC.2.2.2.1 (hC.2.2.2.2.1 _ w) d (k a ha H locs la hP hS hL)
theorem X_ladd (hC : CX Γ Y cc own nL ret fr lo) {x y : Int64} (d : decode cc pc = .ok (.ladd, 1)) (k : WX Γ Y q nL (pc + 1) ls (.long (x + y) :: st) σ o) : WX Γ Y q nL pc ls (.long y :: .long x :: st) σ o :=
  fun a ha H locs la hP hS hL => lv_ladd hC.1 hC.2.1 d (k a ha H locs la hP hS hL)
theorem X_lmul (hC : CX Γ Y cc own nL ret fr lo) {x y : Int64} (d : decode cc pc = .ok (.lmul, 1)) (k : WX Γ Y q nL (pc + 1) ls (.long (x * y) :: st) σ o) : WX Γ Y q nL pc ls (.long y :: .long x :: st) σ o :=
  fun a ha H locs la hP hS hL => lv_lmul hC.1 hC.2.1 d (k a ha H locs la hP hS hL)
theorem X_i2l (hC : CX Γ Y cc own nL ret fr lo) {x : Int32} (d : decode cc pc = .ok (.i2l, 1)) (k : WX Γ Y q nL (pc + 1) ls (.long (Int32.toInt64 x) :: st) σ o) : WX Γ Y q nL pc ls (.int x :: st) σ o :=
  fun a ha H locs la hP hS hL => lv_i2l hC.1 hC.2.1 d rfl (k a ha H locs la hP hS hL)
theorem X_lcmp (hC : CX Γ Y cc own nL ret fr lo) {x y : Int64} (d : decode cc pc = .ok (.lcmp, 1)) (k : WX Γ Y q nL (pc + 1) ls (.int (lg_cmp x y) :: st) σ o) : WX Γ Y q nL pc ls (.long y :: .long x :: st) σ o :=
  fun a ha H locs la hP hS hL => W.lcmp hC.1 hC.2.1 d (k a ha H locs la hP hS hL)
theorem X_lload_n (hC : CX Γ Y cc own nL ret fr lo) {i : Fin 4} {x : Int64} (j : Nat) (hj : ls[j]? = some ((i : Nat), .long x)) (d : decode cc pc = .ok (.lload_n i, 1)) (k : WX Γ Y q nL (pc + 1) ls (.long x :: st) σ o) : WX Γ Y q nL pc ls st σ o :=
  fun a ha H locs la hP hS hL => lv_lload_n hC.1 hC.2.1 d rfl (lv_at hL j hj) (k a ha H locs la hP hS hL)
theorem X_lload (hC : CX Γ Y cc own nL ret fr lo) {i : Nat} {x : Int64} (j : Nat) (hj : ls[j]? = some (i, .long x)) (d : decode cc pc = .ok (.lload i, 2)) (k : WX Γ Y q nL (pc + 2) ls (.long x :: st) σ o) : WX Γ Y q nL pc ls st σ o :=
  fun a ha H locs la hP hS hL => lv_lload hC.1 hC.2.1 d (lv_at hL j hj) (k a ha H locs la hP hS hL)
theorem X_lstore_n (hC : CX Γ Y cc own nL ret fr lo) {i : Fin 4} {x : Int64} {ls' : List (Nat × Value)} (d : decode cc pc = .ok (.lstore_n i, 1)) (hn : (i : Nat) + 1 < nL) (hl : ((i : Nat), Value.long x) :: ls.filter (fun q => !(q.1 == (i : Nat)) && (!(q.1 == (i : Nat) + 1) && !(q.1 + 1 == (i : Nat) && q.2.category == 2))) = ls') (k : WX Γ Y q nL (pc + 1) ls' st σ o) : WX Γ Y q nL pc ls (.long x :: st) σ o :=
  fun a ha H locs la hP hS hL => lv_lstore_n hC.1 hC.2.1 d rfl hL hn hl (fun la' hL' => k a ha H locs la' hP hS hL')
theorem X_lstore (hC : CX Γ Y cc own nL ret fr lo) {i : Nat} {x : Int64} {ls' : List (Nat × Value)} (d : decode cc pc = .ok (.lstore i, 2)) (hn : i + 1 < nL) (hl : (i, Value.long x) :: ls.filter (fun q => !(q.1 == i) && (!(q.1 == i + 1) && !(q.1 + 1 == i && q.2.category == 2))) = ls') (k : WX Γ Y q nL (pc + 2) ls' st σ o) : WX Γ Y q nL pc ls (.long x :: st) σ o :=
  fun a ha H locs la hP hS hL => lv_lstore hC.1 hC.2.1 d hL hn hl (fun la' hL' => k a ha H locs la' hP hS hL')
theorem X_lret {fin : α → Option Value × τ} {a : α} {v : Int64} (hC : CX Γ Y cc own nL (some .long) fr lo) (h0 : Γ.2.2.2.2.2.1 = 0) (h1 : Γ.2.2.2.2.2.2 = 0) (d : decode cc pc = .ok (.lreturn, 1)) (hf : fin a = (some (.long v), σ)) : WX Γ Y (qf Γ Y fin) nL pc ls [.long v] σ (some a) :=
  X_end hf hC h0 h1 fun H locs la hq hl => W.lret hC.1 hC.2.1 hC.2.2.2.2.2.2.2.2.2.1 hq hl d hC.2.2.2.2.2.2.2.2.1
theorem X_statQ {y : MethodName} {idx n fr' lo' ka : Nat} {b : ByteArray} {ret' : Option FieldType} {argv rest : List Value} {o' : Option Int64} {f : Int64 → Option α} (hC : CX Γ Y cc own nL ret fr lo)
    (hM : MT Γ.1.2.1 Y y (.code y b n ret' :: gw) fr' lo' argv (fiL σ) σ o') (hg : GoodIn gw (va_wsS own idx y (.code y b n ret' :: gw))) (hk : argv.length = ka) (hok : okm y ka = true) (hr : fr' + 1 ≤ fr ∧ 8 + (n + 11) + lo' ≤ lo) (d : decode cc pc = .ok (.invokestatic idx, 3)) (hst : st = argv.reverse ++ rest) (hrm : (rest.map fun v => v.category).sum ≤ 8)
    (k : ∀ r : Int64, WX Γ Y q nL (pc + 3) ls (.long r :: rest) σ (f r)) : WX Γ Y q nL pc ls st σ (o'.bind f) :=
  X_stat hC hM hg (okc_of hk hok hr) d hst hrm k
theorem X_statS {y : MethodName} {idx n fr' lo' ka : Nat} {b : ByteArray} {ret' : Option FieldType} {argv rest : List Value} {o' : Option (Int32 × τ)} {f : Int32 × τ → Option α} (hC : CX Γ Y cc own nL ret fr lo)
    (hM : MT Γ.1.2.1 Y y (.code y b n ret' :: gw) fr' lo' argv fiS σ o') (hg : GoodIn gw (va_wsS own idx y (.code y b n ret' :: gw))) (hk : argv.length = ka) (hok : okm y ka = true) (hr : fr' + 1 ≤ fr ∧ 8 + (n + 11) + lo' ≤ lo) (d : decode cc pc = .ok (.invokestatic idx, 3)) (hst : st = argv.reverse ++ rest) (hrm : (rest.map fun v => v.category).sum ≤ 8)
    (k : ∀ r : Int32 × τ, WX Γ Y q nL (pc + 3) ls (.int r.1 :: rest) r.2 (f r)) : WX Γ Y q nL pc ls st σ (o'.bind f) :=
  X_stat hC hM hg (okc_of hk hok hr) d hst hrm k
end LONGS
/-- the law's arrays -/
def cellR (cls : Cls) (σ : Sg) (k : Nat) : va_E := .inl (cls.1, (if k = 3 then 4 else 12), .inl (σ.2 k))
def YL (G : va_G) (cls : Cls) (ax : Nat → Nat) (nA : Nat) (am : Nat → Nat) (A : Nat → Prop) : Sys (Sg × Sg) := (G, (fun σ => mkw 49 ax (cellX cls ax σ.1) ++ mkw nA am (cellR cls σ.2)), A, tyO cls)
def setc (Γ : Cx) (C S : Nat) : Cx := (Γ.1, (Γ.2.1, Γ.2.2.1, Γ.2.2.2.1, Γ.2.2.2.2.1, C, S))
theorem CX.set {τ : Type} {Γ : Cx} {Y : Sys τ} {cc : ByteArray} {own : String} {nL : Nat} {ret : Option FieldType} {fr lo : Nat} (h : CX Γ Y cc own nL ret fr lo) {C S : Nat} (h1 : C ≤ Γ.1.2.2.2.1.cells) (h2 : S ≤ Γ.1.2.2.2.1.slots) : CX (setc Γ C S) Y cc own nL ret fr lo := by
  obtain ⟨hx, hb, hml, hown, hts, hK, hn, hD, hlk, hrt, e1, e2, e3, e4⟩ := h
  exact ⟨hx, hb, hml, hown, hts, hK, hn, hD, hlk, hrt, e1, e2, h1, h2⟩
theorem P_left {G : va_G} {w1 w2 : va_W} {H : Heap} (h : va_P G vwCl (w1 ++ w2) H) : va_P G vwCl w1 H := fun k q hk => h k q (by
  have hl := (List.getElem?_eq_some_iff.mp hk).1
  rw [List.getElem?_append_left hl]; exact hk)
theorem P_right {G : va_G} {w1 w2 : va_W} {H : Heap} (h : va_P G vwCl (w1 ++ w2) H) : va_P G vwCl w2 H := fun k q hk => h (w1.length + k) q (by
  rw [List.getElem?_append_right (by omega), Nat.add_sub_cancel_left]; exact hk)
theorem mkw_len {n : Nat} {ad : Nat → Nat} {cf : Nat → va_E} : (mkw n ad cf).length = n := by simp [mkw]
theorem D_cross {A : Nat → Prop} {n m : Nat} {ad bd : Nat → Nat} {cf df : Nat → va_E} (h : va_D A (mkw n ad cf ++ mkw m bd df)) {i j : Nat} (hi : i < n) (hj : j < m) : ad i ≠ bd j := by
  intro e
  have h1 : (mkw n ad cf ++ mkw m bd df)[i]? = some (ad i, cf i) := by
    rw [List.getElem?_append_left (by rw [mkw_len]; exact hi)]; exact mkw_at hi
  have h2 : (mkw n ad cf ++ mkw m bd df)[n + j]? = some (bd j, df j) := by
    rw [List.getElem?_append_right (by rw [mkw_len]; omega), mkw_len, Nat.add_sub_cancel_left]; exact mkw_at hj
  have := h.1 i (n + j) _ _ h1 h2 e
  omega
theorem D_inL {A : Nat → Prop} {n m : Nat} {ad bd : Nat → Nat} {cf df : Nat → va_E} (h : va_D A (mkw n ad cf ++ mkw m bd df)) {i : Nat} (hi : i < n) : A (ad i) := by
  have h1 : (mkw n ad cf ++ mkw m bd df)[i]? = some (ad i, cf i) := by
    rw [List.getElem?_append_left (by rw [mkw_len]; exact hi)]; exact mkw_at hi
  exact h.2 i _ h1
theorem D_inR {A : Nat → Prop} {n m : Nat} {ad bd : Nat → Nat} {cf df : Nat → va_E} (h : va_D A (mkw n ad cf ++ mkw m bd df)) {j : Nat} (hj : j < m) : A (bd j) := by
  have h2 : (mkw n ad cf ++ mkw m bd df)[n + j]? = some (bd j, df j) := by
    rw [List.getElem?_append_right (by rw [mkw_len]; omega), mkw_len, Nat.add_sub_cancel_left]; exact mkw_at hj
  exact h.2 _ _ h2
section LAW
variable {α β : Type} {Γ : Cx} {G : va_G} {cls : Cls} {ax am : Nat → Nat} {nA : Nat} {A : Nat → Prop} {q : α → State → Prop} {cc : ByteArray} {own : String} {nL : Nat} {ret : Option FieldType} {fr lo : Nat} {pc : Nat} {ls : List (Nat × Value)} {st : List Value} {σ : Sg × Sg} {o : Option α}
theorem X_sld {τ : Type} {Y : Sys τ} {σ : τ} (hC : CX Γ Y cc own nL ret fr lo) {b L : Nat} {xs : Nat → Int32} {i : Int32} (hX : va_X b L xs Γ.1.2.2.2.2.1 Γ.1.2.2.2.2.1.heap) (hbl : b < Γ.1.2.2.2.2.1.heap.size) (hbA : ¬ Y.2.2.1 b) (d : decode cc pc = .ok (.iaload, 1)) (k : WX Γ Y q nL (pc + 1) ls (.int (xs (ix i)) :: st) σ o) : WX Γ Y q nL pc ls (.int i :: .ref b :: st) σ (gd (inb i L) o) :=
  X_gd fun hi => fun a ha H locs la hP hS hL => va_sld hC.1 hC.2.1 hX hbl hbA hS (inb_in hi) d (k a ha H locs la hP hS hL)
theorem X_slen {τ : Type} {Y : Sys τ} {σ : τ} (hC : CX Γ Y cc own nL ret fr lo) {b L : Nat} {xs : Nat → Int32} (hX : va_X b L xs Γ.1.2.2.2.2.1 Γ.1.2.2.2.2.1.heap) (hbl : b < Γ.1.2.2.2.2.1.heap.size) (hbA : ¬ Y.2.2.1 b) (d : decode cc pc = .ok (.arraylength, 1)) (k : WX Γ Y q nL (pc + 1) ls (.int (Int32.ofNat L) :: st) σ o) : WX Γ Y q nL pc ls (.ref b :: st) σ o :=
  fun a ha H locs la hP hS hL => va_slen hC.1 hC.2.1 hX hbl hbA hS d (k a ha H locs la hP hS hL)
def QXF {τ : Type} (Y : Sys τ) (Fr : Nat → Prop) (r : Option Value × τ) : Array Value → State → Outcome → State → Prop := fun _ st oc t => oc = .returned r.1 ∧ PX Y r.2 t ∧ va_F Fr st t
/-- behind a call of a part of the world -/
theorem L_after {Y : Sys Sg} {mc ms : Nat} {fin : β → Option Value × Sg} {a0 : β} {a : α} {rest st0 : List Value} {av : Array Value} {H : Heap} {locs : List Loc} {la : Array Slot} {σ' : Sg × Sg} {W0 : va_W} (Fr : Nat → Prop) (hS : va_S A Γ.1.2.2.2.2.1.heap H locs) (hL : lv_has la nL ls)
    (hin : ∀ z, Fr z → A z) (hW0 : va_P G vwCl W0 H) (hsep : ∀ (k : Nat) (z : Nat × va_E), W0[k]? = some z → ¬ Fr z.1)
    (hback : ∀ H1, va_P Y.1 vwCl (Y.2.1 (fin a0).2) H1 → va_P G vwCl W0 H1 → va_P G vwCl ((YL G cls ax nA am A).2.1 σ') H1)
    (hr : va_Run Γ.1.1 Γ.1.2.1 Γ.1.2.2.1 Γ.1.2.2.2.1 Γ.1.2.2.2.2.1 Γ.1.2.2.2.2.2 Γ.2.1 Γ.2.2.1 Γ.2.2.2.1 Γ.2.2.2.2.1 H locs Γ.2.2.2.2.2.1 Γ.2.2.2.2.2.2 mc ms (F0 Γ.1.2.2.2.2.2 pc la st0) rest (QXF Y Fr (fin a0) av) Fr)
    (k : WX (setc Γ (Γ.2.2.2.2.2.1 + mc) (Γ.2.2.2.2.2.2 + ms)) (YL G cls ax nA am A) q nL (pc + 3) ls ((fin a0).1.toList ++ rest) σ' (some a)) :
    W Γ.1.1 Γ.1.2.1 Γ.1.2.2.1 Γ.1.2.2.2.1 Γ.1.2.2.2.2.1 Γ.1.2.2.2.2.2 Γ.2.1 Γ.2.2.1 Γ.2.2.2.1 Γ.2.2.2.2.1 H locs Γ.2.2.2.2.2.1 Γ.2.2.2.2.2.2 (q a) (F0 Γ.1.2.2.2.2.2 pc la st0) := by
  intro T hT X
  obtain ⟨v, st₀, t, T', L, h0, X', hL2, e1, e2, ⟨hv, ⟨hP1, -, -⟩, hF⟩, stp⟩ := hr T hT X
  have hv' : (fin a0).1 = v := (Outcome.returned.inj hv).symm
  subst hv'
  have hh : T'.heap = t.heap := e1
  have hk1 : ∀ z : Nat, z < H.size → ¬ Fr z → t.heap[z]? = H[z]? := fun z g1 g2 => by rw [hF.2 z (by rw [h0]; exact g1) g2, h0]
  have hP2 : va_P G vwCl W0 t.heap := fun k z hk => (hW0 k z hk).kept (hk1 z.1 (hW0 k z hk).lt (hsep k z hk))
  obtain ⟨t2, a1, b1⟩ := k a rfl T'.heap (locs ++ L) la (by rw [hh]; exact hback t.heap hP1 hP2)
    ⟨by rw [hh]; exact Nat.le_trans hS.1 (by rw [← h0]; exact hF.1), fun z g1 g2 => by rw [hh, hk1 z (Nat.lt_of_lt_of_le g1 hS.1) (fun h => g2 (hin z h))]; exact hS.2.1 z g1 g2, fun z hz => by
      rcases List.mem_append.mp hz with h | h
      · exact hS.2.2 z h
      · exact hin _ (hL2 z h)⟩ hL T' rfl X'
  exact ⟨t2, stp t2 a1, b1⟩
theorem L_callX {y : MethodName} {idx n fr' lo' ka : Nat} {b : ByteArray} {ret' : Option FieldType} {argv rest : List Value} {fin : β → Option Value × Sg} {o' : Option β} {f : β → Option α} (hC : CX Γ (YL G cls ax nA am A) cc own nL ret fr lo)
    (hM : MT Γ.1.2.1 (YX G cls ax) y (.code y b n ret' :: gw) fr' lo' (.ref (ax 25) :: argv) fin σ.1 o') (hg : GoodIn gw (wsV own idx RX4 y (.code y b n ret' :: gw))) (hy : y.cls = RX4) (hk : argv.length = ka) (hok : okm y ka = true) (hr : fr' + 1 ≤ fr ∧ 8 + (n + 11) + lo' ≤ lo) (d : decode cc pc = .ok (.invokevirtual idx, 3)) (hst : st = argv.reverse ++ .ref (ax 25) :: rest) (hrm : (rest.map fun v => v.category).sum ≤ 8)
    (k : ∀ a0, WX Γ (YL G cls ax nA am A) q nL (pc + 3) ls ((fin a0).1.toList ++ rest) ((fin a0).2, σ.2) (f a0)) : WX Γ (YL G cls ax nA am A) q nL pc ls st σ (o'.bind f) := by
  intro a ha H locs la hP hS hL
  obtain ⟨a0, h0, h1⟩ := Option.bind_eq_some_iff.mp ha
  have hok := okc_of hk hok hr
  simp only [okc, Bool.and_eq_true, decide_eq_true_eq] at hok
  obtain ⟨hx, hb, hml, hown, hts, hK, hn, hD, hlk, hrt, e1, e2, e3, e4⟩ := hC
  have hPx : va_P G vwCl ((YX G cls ax).2.1 σ.1) H := P_left hP
  have hPm : va_P G vwCl (mkw nA am (cellR cls σ.2)) H := P_right hP
  refine L_after (fin := fin) (a0 := a0) (Y := YX G cls ax) (mc := 0) (ms := 0) (σ' := ((fin a0).2, σ.2)) (AX 49 ax) hS hL (fun z hz => ?_) hPm (fun j z hz hc => ?_) (fun H1 g1 g2 => va_P.app g1 g2)
    (va_runV (C := RX4) (As := argv) (rest := rest) ⟨hx, hb, hml, hown, hts⟩ (hM a0 h0) (cwV argv.length hts hg rfl rfl rfl ⟨hy, hok.1⟩ ⟨by rw [e1]; exact hok.2.1, by rw [e2]; exact hok.2.2⟩) ⟨PX_blind _, va_recv (ci := 4) (q := (RX4, TX4, 5)) hK hPx rfl (wX (by omega) cX_vs), fun U hU hW => ⟨rfl, PX_start (Y := YX G cls ax) hPx hK hn hU hW⟩⟩ rfl rfl hL.1 hst (lv_room hrm) d ⟨e3, e4⟩) (fun a' ha' => ?_)
  · obtain ⟨j, hj, rfl⟩ := hz
    exact D_inL (hD σ) hj
  · obtain ⟨l1, rfl⟩ := mkw_get hz
    obtain ⟨i, hi, e⟩ := hc
    exact D_cross (hD σ) hi l1 e.symm
  · cases ha'
    exact k a0 a h1
/-- a contract that makes cells -/
def MTp {τ β : Type} (l : Launch) (Y : Sys τ) (y : MethodName) (ws : List Cond) (fr lo mc ms : Nat) (argv : List Value) (fin : β → Option Value × τ) (σ : τ) (o : Option β) : Prop :=
  ∀ sz a, o = some a → Met l y ws (rmc fr mc ms lo) (va_Pc argv (fun U => U.heap.size = sz ∧ PX Y σ U)) (QXF Y (fun z => Y.2.2.1 z ∨ sz ≤ z) (fin a)) mc ms (fun z => Y.2.2.1 z ∨ sz ≤ z)
theorem PX_blindB {τ : Type} {Y : Sys τ} {σ : τ} {U : State} {g : JFrame} {mk : MethodId} {a : Array Value} (h : PX Y σ U) : PX Y σ (U.calling g mk a) := ⟨h.1, va_K.moved (u := U) (U := U.calling g mk a) (Vm.Alike.refl U.vm) h.2.1, nests.same (u := U) (U := U.calling g mk a) rfl h.2.2⟩
theorem L_statG {y : MethodName} {idx n fr' lo' ka mc ms : Nat} {b : ByteArray} {ret' : Option FieldType} {argv rest : List Value} {fin : β → Option Value × Sg} {o' : Option β} {f : β → Option α} (hC : CX Γ (YL G cls ax nA am A) cc own nL ret fr lo)
    (hM : MTp Γ.1.2.1 (YX G cls ax) y (.code y b n ret' :: gw) fr' lo' mc ms argv fin σ.1 o') (hg : GoodIn gw (va_wsS own idx y (.code y b n ret' :: gw))) (hk : argv.length = ka) (hok : okm y ka = true) (hr : fr' + 1 ≤ fr ∧ 8 + (n + 11) + lo' ≤ lo) (hroom : Γ.2.2.2.2.2.1 + mc ≤ Γ.1.2.2.2.1.cells ∧ Γ.2.2.2.2.2.2 + ms ≤ Γ.1.2.2.2.1.slots) (hAn : ∀ z, Γ.1.2.2.2.2.1.heap.size ≤ z → A z) (d : decode cc pc = .ok (.invokestatic idx, 3)) (hst : st = argv.reverse ++ rest) (hrm : (rest.map fun v => v.category).sum ≤ 8)
    (k : ∀ a0, WX (setc Γ (Γ.2.2.2.2.2.1 + mc) (Γ.2.2.2.2.2.2 + ms)) (YL G cls ax nA am A) q nL (pc + 3) ls ((fin a0).1.toList ++ rest) ((fin a0).2, σ.2) (f a0)) : WX Γ (YL G cls ax nA am A) q nL pc ls st σ (o'.bind f) := by
  intro a ha H locs la hP hS hL
  obtain ⟨a0, h0, h1⟩ := Option.bind_eq_some_iff.mp ha
  have hok := okc_of hk hok hr
  simp only [okc, Bool.and_eq_true, decide_eq_true_eq] at hok
  obtain ⟨hx, hb, hml, hown, hts, hK, hn, hD, hlk, hrt, e1, e2, e3, e4⟩ := hC
  have hPx : va_P G vwCl ((YX G cls ax).2.1 σ.1) H := P_left hP
  have hPm : va_P G vwCl (mkw nA am (cellR cls σ.2)) H := P_right hP
  refine L_after (fin := fin) (a0 := a0) (Y := YX G cls ax) (mc := mc) (ms := ms) (σ' := ((fin a0).2, σ.2)) (fun z => AX 49 ax z ∨ H.size ≤ z) hS hL (fun z hz => ?_) hPm (fun j z hz hc => ?_) (fun H1 g1 g2 => va_P.app g1 g2)
    (va_runS (As := argv) (rest := rest) ⟨hx, hb, hml, hown, hts⟩ (hM H.size a0 h0) (va_cwS argv.length hts hg rfl rfl rfl hok.1 ⟨by rw [e1]; exact hok.2.1, by rw [e2]; exact hok.2.2⟩) ⟨fun a U g mk h => ⟨h.1, h.2.1, PX_blindB h.2.2⟩, fun U hU hW => ⟨rfl, by rw [hU], PX_start (Y := YX G cls ax) hPx hK hn hU hW⟩⟩ rfl rfl hL.1 hst (lv_room hrm) d hroom) (fun a' ha' => ?_)
  · rcases hz with ⟨j, hj, rfl⟩ | hz
    · exact D_inL (hD σ) hj
    · exact hAn z (Nat.le_trans hS.1 hz)
  · have hlt := (hPm j z hz).lt
    obtain ⟨l1, rfl⟩ := mkw_get hz
    rcases hc with ⟨i, hi, e⟩ | hc
    · exact D_cross (hD σ) hi l1 e.symm
    · exact absurd hlt (Nat.not_lt.mpr hc)
  · cases ha'
    exact k a0 a h1
theorem L_stat {y : MethodName} {idx n fr' lo' ka : Nat} {b : ByteArray} {ret' : Option FieldType} {argv rest : List Value} {fin : β → Option Value × Sg} {o' : Option β} {f : β → Option α} (hC : CX Γ (YL G cls ax nA am A) cc own nL ret fr lo)
    (hM : MT Γ.1.2.1 (YX G cls ax) y (.code y b n ret' :: gw) fr' lo' argv fin σ.1 o') (hg : GoodIn gw (va_wsS own idx y (.code y b n ret' :: gw))) (hk : argv.length = ka) (hok : okm y ka = true) (hr : fr' + 1 ≤ fr ∧ 8 + (n + 11) + lo' ≤ lo) (d : decode cc pc = .ok (.invokestatic idx, 3)) (hst : st = argv.reverse ++ rest) (hrm : (rest.map fun v => v.category).sum ≤ 8)
    (k : ∀ a0, WX Γ (YL G cls ax nA am A) q nL (pc + 3) ls ((fin a0).1.toList ++ rest) ((fin a0).2, σ.2) (f a0)) : WX Γ (YL G cls ax nA am A) q nL pc ls st σ (o'.bind f) := by
  intro a ha H locs la hP hS hL
  obtain ⟨a0, h0, h1⟩ := Option.bind_eq_some_iff.mp ha
  have hok := okc_of hk hok hr
  simp only [okc, Bool.and_eq_true, decide_eq_true_eq] at hok
  obtain ⟨hx, hb, hml, hown, hts, hK, hn, hD, hlk, hrt, e1, e2, e3, e4⟩ := hC
  have hPx : va_P G vwCl ((YX G cls ax).2.1 σ.1) H := P_left hP
  have hPm : va_P G vwCl (mkw nA am (cellR cls σ.2)) H := P_right hP
  refine L_after (fin := fin) (a0 := a0) (Y := YX G cls ax) (mc := 0) (ms := 0) (σ' := ((fin a0).2, σ.2)) (AX 49 ax) hS hL (fun z hz => ?_) hPm (fun j z hz hc => ?_) (fun H1 g1 g2 => va_P.app g1 g2)
    (va_runS (As := argv) (rest := rest) ⟨hx, hb, hml, hown, hts⟩ (hM a0 h0) (va_cwS argv.length hts hg rfl rfl rfl hok.1 ⟨by rw [e1]; exact hok.2.1, by rw [e2]; exact hok.2.2⟩) ⟨PX_blind _, fun U hU hW => ⟨rfl, PX_start (Y := YX G cls ax) hPx hK hn hU hW⟩⟩ rfl rfl hL.1 hst (lv_room hrm) d ⟨e3, e4⟩) (fun a' ha' => ?_)
  · obtain ⟨j, hj, rfl⟩ := hz
    exact D_inL (hD σ) hj
  · obtain ⟨l1, rfl⟩ := mkw_get hz
    obtain ⟨i, hi, e⟩ := hc
    exact D_cross (hD σ) hi l1 e.symm
  · cases ha'
    exact k a0 a h1
/-- the script's reader -/
def YS (G : va_G) (cls : Cls) : Sys Sg := (G, (fun _ => []), (fun _ => False), tyO cls)
def PSc (G : va_G) (cls : Cls) (b L : Nat) (xs : Nat → Int32) (U : State) : Prop := va_K G vwCl (tyO cls) U ∧ nests U ∧ va_X b L xs U U.heap ∧ b < U.heap.size
def MTs (l : Launch) (G : va_G) (cls : Cls) (y : MethodName) (ws : List Cond) (fr lo : Nat) (b L : Nat) (xs : Nat → Int32) (argv : List Value) (σ : Sg) (o : Option Int32) : Prop :=
  ∀ a, o = some a → Met l y ws (rmk fr lo) (va_Pc argv (PSc G cls b L xs)) (QX (YS G cls) (fiP σ a)) 0 0 (fun _ => False)
theorem MTs.of {l : Launch} {G : va_G} {cls : Cls} {y : MethodName} {own : String} {cb : ByteArray} {n : Nat} {ret : Option FieldType} {fr lo b L : Nat} {xs : Nat → Int32} {argv : List Value} {σ : Sg} {o : Option Int32} (hy : plainName y.cls = true) (hown : y.cls = own) (hlen : (lg_sl argv).length ≤ n)
    (body : ∀ Γ : Cx, Γ.2.2.2.2.2.1 = 0 → Γ.2.2.2.2.2.2 = 0 → va_X b L xs Γ.1.2.2.2.2.1 Γ.1.2.2.2.2.1.heap → b < Γ.1.2.2.2.2.1.heap.size → CX Γ (YS G cls) cb own n ret fr lo → WX Γ (YS G cls) (qf Γ (YS G cls) (fiP σ)) n 0 (lv_args 0 argv) [] σ o) : MTs l G cls y (.code y cb n ret :: gw) fr lo b L xs argv σ o := by
  intro a ha
  refine Met.ofW (cc := cb) (maxL := n) (ret := ret) hy rfl ?_
  intro p e s m args below meth c s₁ B hml hv
  obtain ⟨rfl, hK, hn, hX, hb⟩ := hv
  have hts := atoms_spec (ws := .code y cb n ret :: gw) B.pre
  have hf : s.vm.findClass own = some m.cls := hown ▸ findClass_of_methodNamed B.named
  have hl := lv_entry argv (n := n) hlen
  rw [lg_entry_eq]
  exact body ((p, l, e, rmk fr lo, s, m), (argv.toArray, below, meth, c, 0, 0)) rfl rfl hX hb ⟨B.exec, B.bytes, hml, hf, fun w hw => hts w (List.mem_cons_of_mem _ hw), hK, hn, fun _ => ⟨fun i j p q h1 h2 h3 => by simp [YS] at h1, fun k q h1 => by simp [YS] at h1⟩, B.notSynchronized, B.returns, rfl, rfl, Nat.le_refl 0, Nat.le_refl 0⟩ a ha s.heap [] _ (fun k q h => by simp [YS] at h) va_S.rf hl
theorem PSc_blind {b L : Nat} {xs : Nat → Int32} (argv : List Value) : FrameBlind (va_Pc argv (PSc G cls b L xs)) := fun a U g mk h => ⟨h.1, va_K.moved (u := U) (U := U.calling g mk a) (Vm.Alike.refl U.vm) h.2.1, nests.same (u := U) (U := U.calling g mk a) rfl h.2.2.1, va_X.moved (u := U) (U := U.calling g mk a) (Vm.Alike.refl U.vm) h.2.2.2.1, h.2.2.2.2⟩
theorem L_cell {y : MethodName} {idx n fr' lo' ka b0 L : Nat} {xs : Nat → Int32} {b : ByteArray} {ret' : Option FieldType} {argv rest : List Value} {o' : Option Int32} {f : Int32 → Option α} (hC : CX Γ (YL G cls ax nA am A) cc own nL ret fr lo)
    (hX : va_X b0 L xs Γ.1.2.2.2.2.1 Γ.1.2.2.2.2.1.heap) (hbl : b0 < Γ.1.2.2.2.2.1.heap.size) (hbA : ¬ A b0)
    (hM : MTs Γ.1.2.1 G cls y (.code y b n ret' :: gw) fr' lo' b0 L xs argv σ.1 o') (hg : GoodIn gw (va_wsS own idx y (.code y b n ret' :: gw))) (hk : argv.length = ka) (hok : okm y ka = true) (hr : fr' + 1 ≤ fr ∧ 8 + (n + 11) + lo' ≤ lo) (d : decode cc pc = .ok (.invokestatic idx, 3)) (hst : st = argv.reverse ++ rest) (hrm : (rest.map fun v => v.category).sum ≤ 8)
    (k : ∀ r : Int32, WX Γ (YL G cls ax nA am A) q nL (pc + 3) ls (.int r :: rest) σ (f r)) : WX Γ (YL G cls ax nA am A) q nL pc ls st σ (o'.bind f) := by
  intro a ha H locs la hP hS hL
  obtain ⟨a0, h0, h1⟩ := Option.bind_eq_some_iff.mp ha
  have hok := okc_of hk hok hr
  simp only [okc, Bool.and_eq_true, decide_eq_true_eq] at hok
  obtain ⟨hx, hb, hml, hown, hts, hK, hn, hD, hlk, hrt, e1, e2, e3, e4⟩ := hC
  refine L_after (fin := fiP σ.1) (a0 := a0) (Y := YS G cls) (mc := 0) (ms := 0) (σ' := σ) (fun _ => False) hS hL (fun z hz => hz.elim) hP (fun j z hz hc => hc) (fun H1 g1 g2 => g2)
    (va_runS (As := argv) (rest := rest) ⟨hx, hb, hml, hown, hts⟩ (hM a0 h0) (va_cwS argv.length hts hg rfl rfl rfl hok.1 ⟨by rw [e1]; exact hok.2.1, by rw [e2]; exact hok.2.2⟩) ⟨PSc_blind _, fun U hU hW => ⟨rfl, va_K.moved hW.alike hK, hn.warm hW, va_X.moved hW.alike (by rw [hU]; exact hX.kept (hS.2.1 b0 hbl hbA)), by rw [hU]; exact Nat.lt_of_lt_of_le hbl hS.1⟩⟩ rfl rfl hL.1 hst (lv_room hrm) d ⟨e3, e4⟩) (fun a' ha' => ?_)
  cases ha'
  exact k a0 a h1
end LAW
section LAW2
variable {α : Type} {Γ : Cx} {G : va_G} {cls : Cls} {ax am : Nat → Nat} {nA : Nat} {A : Nat → Prop} {q : α → State → Prop} {cc : ByteArray} {own : String} {nL : Nat} {ret : Option FieldType} {fr lo : Nat} {pc : Nat} {ls : List (Nat × Value)} {st : List Value} {σ : Sg × Sg} {o : Option α}
variable {y : MethodName} {idx n fr' lo' ka : Nat} {b : ByteArray} {ret' : Option FieldType} {argv rest : List Value}
theorem L_XP {o' : Option Int32} {f : Int32 → Option α} (hC : CX Γ (YL G cls ax nA am A) cc own nL ret fr lo)
    (hM : MT Γ.1.2.1 (YX G cls ax) y (.code y b n ret' :: gw) fr' lo' (.ref (ax 25) :: argv) (fiP σ.1) σ.1 o') (hg : GoodIn gw (wsV own idx RX4 y (.code y b n ret' :: gw))) (hy : y.cls = RX4) (hk : argv.length = ka) (hok : okm y ka = true) (hr : fr' + 1 ≤ fr ∧ 8 + (n + 11) + lo' ≤ lo) (d : decode cc pc = .ok (.invokevirtual idx, 3)) (hst : st = argv.reverse ++ .ref (ax 25) :: rest) (hrm : (rest.map fun v => v.category).sum ≤ 8)
    (k : ∀ r : Int32, WX Γ (YL G cls ax nA am A) q nL (pc + 3) ls (.int r :: rest) σ (f r)) : WX Γ (YL G cls ax nA am A) q nL pc ls st σ (o'.bind f) := L_callX hC hM hg hy hk hok hr d hst hrm k
theorem L_XS {o' : Option (Int32 × Sg)} {f : (Int32 × Sg) → Option α} (hC : CX Γ (YL G cls ax nA am A) cc own nL ret fr lo)
    (hM : MT Γ.1.2.1 (YX G cls ax) y (.code y b n ret' :: gw) fr' lo' (.ref (ax 25) :: argv) fiS σ.1 o') (hg : GoodIn gw (wsV own idx RX4 y (.code y b n ret' :: gw))) (hy : y.cls = RX4) (hk : argv.length = ka) (hok : okm y ka = true) (hr : fr' + 1 ≤ fr ∧ 8 + (n + 11) + lo' ≤ lo) (d : decode cc pc = .ok (.invokevirtual idx, 3)) (hst : st = argv.reverse ++ .ref (ax 25) :: rest) (hrm : (rest.map fun v => v.category).sum ≤ 8)
    (k : ∀ r : (Int32 × Sg), WX Γ (YL G cls ax nA am A) q nL (pc + 3) ls (.int r.1 :: rest) (r.2, σ.2) (f r)) : WX Γ (YL G cls ax nA am A) q nL pc ls st σ (o'.bind f) := L_callX hC hM hg hy hk hok hr d hst hrm k
theorem L_TP {o' : Option Int32} {f : Int32 → Option α} (hC : CX Γ (YL G cls ax nA am A) cc own nL ret fr lo)
    (hM : MT Γ.1.2.1 (YX G cls ax) y (.code y b n ret' :: gw) fr' lo' argv (fiP σ.1) σ.1 o') (hg : GoodIn gw (va_wsS own idx y (.code y b n ret' :: gw))) (hk : argv.length = ka) (hok : okm y ka = true) (hr : fr' + 1 ≤ fr ∧ 8 + (n + 11) + lo' ≤ lo) (d : decode cc pc = .ok (.invokestatic idx, 3)) (hst : st = argv.reverse ++ rest) (hrm : (rest.map fun v => v.category).sum ≤ 8)
    (k : ∀ r : Int32, WX Γ (YL G cls ax nA am A) q nL (pc + 3) ls (.int r :: rest) σ (f r)) : WX Γ (YL G cls ax nA am A) q nL pc ls st σ (o'.bind f) := L_stat hC hM hg hk hok hr d hst hrm k
theorem L_TS {o' : Option (Int32 × Sg)} {f : (Int32 × Sg) → Option α} (hC : CX Γ (YL G cls ax nA am A) cc own nL ret fr lo)
    (hM : MT Γ.1.2.1 (YX G cls ax) y (.code y b n ret' :: gw) fr' lo' argv fiS σ.1 o') (hg : GoodIn gw (va_wsS own idx y (.code y b n ret' :: gw))) (hk : argv.length = ka) (hok : okm y ka = true) (hr : fr' + 1 ≤ fr ∧ 8 + (n + 11) + lo' ≤ lo) (d : decode cc pc = .ok (.invokestatic idx, 3)) (hst : st = argv.reverse ++ rest) (hrm : (rest.map fun v => v.category).sum ≤ 8)
    (k : ∀ r : (Int32 × Sg), WX Γ (YL G cls ax nA am A) q nL (pc + 3) ls (.int r.1 :: rest) (r.2, σ.2) (f r)) : WX Γ (YL G cls ax nA am A) q nL pc ls st σ (o'.bind f) := L_stat hC hM hg hk hok hr d hst hrm k
theorem L_TQ {o' : Option Int64} {f : Int64 → Option α} (hC : CX Γ (YL G cls ax nA am A) cc own nL ret fr lo)
    (hM : MT Γ.1.2.1 (YX G cls ax) y (.code y b n ret' :: gw) fr' lo' argv (fiL σ.1) σ.1 o') (hg : GoodIn gw (va_wsS own idx y (.code y b n ret' :: gw))) (hk : argv.length = ka) (hok : okm y ka = true) (hr : fr' + 1 ≤ fr ∧ 8 + (n + 11) + lo' ≤ lo) (d : decode cc pc = .ok (.invokestatic idx, 3)) (hst : st = argv.reverse ++ rest) (hrm : (rest.map fun v => v.category).sum ≤ 8)
    (k : ∀ r : Int64, WX Γ (YL G cls ax nA am A) q nL (pc + 3) ls (.long r :: rest) σ (f r)) : WX Γ (YL G cls ax nA am A) q nL pc ls st σ (o'.bind f) := L_stat hC hM hg hk hok hr d hst hrm k
theorem L_PS {mc ms : Nat} {o' : Option (Int32 × Sg)} {f : Int32 × Sg → Option α} (hC : CX Γ (YL G cls ax nA am A) cc own nL ret fr lo)
    (hM : MTp Γ.1.2.1 (YX G cls ax) y (.code y b n ret' :: gw) fr' lo' mc ms argv fiS σ.1 o') (hg : GoodIn gw (va_wsS own idx y (.code y b n ret' :: gw))) (hk : argv.length = ka) (hok : okm y ka = true) (hr : fr' + 1 ≤ fr ∧ 8 + (n + 11) + lo' ≤ lo) (hroom : Γ.2.2.2.2.2.1 + mc ≤ Γ.1.2.2.2.1.cells ∧ Γ.2.2.2.2.2.2 + ms ≤ Γ.1.2.2.2.1.slots) (hAn : ∀ z, Γ.1.2.2.2.2.1.heap.size ≤ z → A z) (d : decode cc pc = .ok (.invokestatic idx, 3)) (hst : st = argv.reverse ++ rest) (hrm : (rest.map fun v => v.category).sum ≤ 8)
    (k : ∀ r : Int32 × Sg, WX (setc Γ (Γ.2.2.2.2.2.1 + mc) (Γ.2.2.2.2.2.2 + ms)) (YL G cls ax nA am A) q nL (pc + 3) ls (.int r.1 :: rest) (r.2, σ.2) (f r)) : WX Γ (YL G cls ax nA am A) q nL pc ls st σ (o'.bind f) := L_statG hC hM hg hk hok hr hroom hAn d hst hrm k
end LAW2
/-! the law's arrays -/
section ARRS
variable {G : va_G} {cls : Cls} {ax am : Nat → Nat} {nA : Nat} {A : Nat → Prop} {σ : Sg × Sg}
theorem wR {k : Nat} (hk : k < nA) : ((YL G cls ax nA am A).2.1 σ)[49 + k]? = some (am k, cellR cls σ.2 k) := by
  show (mkw 49 ax (cellX cls ax σ.1) ++ mkw nA am (cellR cls σ.2))[49 + k]? = _
  rw [List.getElem?_append_right (by rw [mkw_len]; omega), mkw_len, Nat.add_sub_cancel_left]
  exact mkw_at hk
theorem sR {k : Nat} (hk : k < nA) (f : Nat → Int32) : ((YL G cls ax nA am A).2.1 σ).set (49 + k) (am k, .inl (cls.1, (if k = 3 then 4 else 12), .inl f)) = (YL G cls ax nA am A).2.1 (σ.1, s2 σ.2 k f) := by
  show (mkw 49 ax (cellX cls ax σ.1) ++ mkw nA am (cellR cls σ.2)).set (49 + k) _ = mkw 49 ax (cellX cls ax σ.1) ++ mkw nA am (cellR cls (s2 σ.2 k f))
  rw [List.set_append_right _ _ (by rw [mkw_len]; omega), mkw_len, Nat.add_sub_cancel_left]
  congr 1
  refine mkw_set hk ?_ (fun j hj hne => ?_)
  · unfold cellR; rw [s2_self]
  · unfold cellR; rw [s2_ne hne]
theorem wR0 (hk : 0 < nA) : ((YL G cls ax nA am A).2.1 σ)[49]? = some (am 0, .inl (cls.1, 12, .inl (σ.2.2 0))) := wR hk
theorem sR0 (hk : 0 < nA) (f : Nat → Int32) : ((YL G cls ax nA am A).2.1 σ).set 49 (am 0, .inl (cls.1, 12, .inl f)) = (YL G cls ax nA am A).2.1 (σ.1, s2 σ.2 0 f) := sR hk f
theorem wR1 (hk : 1 < nA) : ((YL G cls ax nA am A).2.1 σ)[50]? = some (am 1, .inl (cls.1, 12, .inl (σ.2.2 1))) := wR hk
theorem sR1 (hk : 1 < nA) (f : Nat → Int32) : ((YL G cls ax nA am A).2.1 σ).set 50 (am 1, .inl (cls.1, 12, .inl f)) = (YL G cls ax nA am A).2.1 (σ.1, s2 σ.2 1 f) := sR hk f
theorem wR2 (hk : 2 < nA) : ((YL G cls ax nA am A).2.1 σ)[51]? = some (am 2, .inl (cls.1, 12, .inl (σ.2.2 2))) := wR hk
theorem sR2 (hk : 2 < nA) (f : Nat → Int32) : ((YL G cls ax nA am A).2.1 σ).set 51 (am 2, .inl (cls.1, 12, .inl f)) = (YL G cls ax nA am A).2.1 (σ.1, s2 σ.2 2 f) := sR hk f
theorem wR3 (hk : 3 < nA) : ((YL G cls ax nA am A).2.1 σ)[52]? = some (am 3, .inl (cls.1, 4, .inl (σ.2.2 3))) := wR hk
theorem sR3 (hk : 3 < nA) (f : Nat → Int32) : ((YL G cls ax nA am A).2.1 σ).set 52 (am 3, .inl (cls.1, 4, .inl f)) = (YL G cls ax nA am A).2.1 (σ.1, s2 σ.2 3 f) := sR hk f
end ARRS
/-! the law's room -/
def rmL (Γ : Cx) (n : Nat) : Prop := Γ.2.2.2.2.2.1 + 4 * n ≤ 600000 ∧ Γ.2.2.2.2.2.2 + 40 * n ≤ 7302250
theorem rmL_e {Γ : Cx} {n : Nat} (h : rmL Γ n) : Γ.2.2.2.2.2.1 ≤ 600000 ∧ Γ.2.2.2.2.2.2 ≤ 7302250 := ⟨Nat.le_trans (Nat.le_add_right _ _) h.1, Nat.le_trans (Nat.le_add_right _ _) h.2⟩
theorem rmL_r {Γ : Cx} {n : Nat} (hR : Γ.1.2.2.2.1 = room_1) (h : rmL Γ (n + 1)) : Γ.2.2.2.2.2.1 + 4 ≤ Γ.1.2.2.2.1.cells ∧ Γ.2.2.2.2.2.2 + 40 ≤ Γ.1.2.2.2.1.slots := by
  rw [hR]
  have h1 := h.1
  have h2 := h.2
  exact ⟨show _ ≤ 600000 by omega, show _ ≤ 7302250 by omega⟩
theorem rmL_s {Γ : Cx} {n : Nat} (h : rmL Γ (n + 1)) : rmL (setc Γ (Γ.2.2.2.2.2.1 + 4) (Γ.2.2.2.2.2.2 + 40)) n := by
  have h1 := h.1
  have h2 := h.2
  exact ⟨show Γ.2.2.2.2.2.1 + 4 + 4 * n ≤ 600000 by omega, show Γ.2.2.2.2.2.2 + 40 + 40 * n ≤ 7302250 by omega⟩
