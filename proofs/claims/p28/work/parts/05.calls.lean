/-! CALLS: a callee's contract, and the goal behind the call. -/
theorem gV {own C : String} {idx n : Nat} {y : MethodName} {b : ByteArray} {ret : Option FieldType} (h1 : Cond.methodLink own idx y ∈ gw) (h2 : Cond.instanceMethod y ∈ gw) (h3 : Cond.selects C y y ∈ gw) (h4 : Cond.initialized C ∈ gw) (h5 : Cond.code y b n ret ∈ gw) : GoodIn gw (wsV own idx C y (.code y b n ret :: gw)) := by
  have key : ∀ w ∈ wsV own idx C y (.code y b n ret :: gw), w ∈ gw := by
    intro w hw
    simp only [wsV, List.cons_append, List.nil_append, List.mem_cons] at hw
    rcases hw with rfl | rfl | rfl | rfl | rfl | hw
    · exact h1
    · exact h2
    · exact h3
    · exact h4
    · exact h5
    · exact hw
  exact fun w hw => ⟨key w hw, gw_good (key w hw)⟩
theorem gSt {own : String} {idx n : Nat} {y : MethodName} {b : ByteArray} {ret : Option FieldType} (h1 : Cond.methodLink own idx y ∈ gw) (h2 : Cond.static y ∈ gw) (h4 : Cond.initialized y.cls ∈ gw) (h5 : Cond.code y b n ret ∈ gw) : GoodIn gw (va_wsS own idx y (.code y b n ret :: gw)) := by
  have key : ∀ w ∈ va_wsS own idx y (.code y b n ret :: gw), w ∈ gw := by
    intro w hw
    simp only [va_wsS, List.cons_append, List.nil_append, List.mem_cons] at hw
    rcases hw with rfl | rfl | rfl | rfl | hw
    · exact h1
    · exact h2
    · exact h4
    · exact h5
    · exact hw
  exact fun w hw => ⟨key w hw, gw_good (key w hw)⟩
theorem gC {n : Nat} {y : MethodName} {b : ByteArray} {ret : Option FieldType} (h5 : Cond.code y b n ret ∈ gw) : GoodIn gw (.code y b n ret :: gw) := by
  intro w hw
  rcases List.mem_cons.mp hw with rfl | hw
  · exact ⟨h5, gw_good h5⟩
  · exact ⟨hw, gw_good hw⟩
/-- what a callee must fit: its name, its arguments, its room -/
def okc (y : MethodName) (k n fr' lo' fr lo : Nat) : Bool := decide (y.cls ≠ "java/lang/invoke/MethodHandle" ∧ y.cls ≠ "java/lang/invoke/VarHandle" ∧ (parseMethodDescriptor y.desc).map (fun d => d.parameters.length) = some k) && decide (fr' + 1 ≤ fr ∧ 8 + (n + 11) + lo' ≤ lo)
section CALLS
variable {τ α β : Type} {Γ : Cx} {Y : Sys τ} {q : α → State → Prop} {cc : ByteArray} {own : String} {nL : Nat} {ret : Option FieldType} {fr lo : Nat} {pc : Nat} {ls : List (Nat × Value)} {st : List Value} {σ : τ} {o : Option α}
theorem PX_blind (argv : List Value) : FrameBlind (va_Pc argv (PX Y σ)) := fun a U g mk h => ⟨h.1, h.2.1, va_K.moved (u := U) (U := U.calling g mk a) (Vm.Alike.refl U.vm) h.2.2.1, nests.same (u := U) (U := U.calling g mk a) rfl h.2.2.2⟩
theorem PX_start {s U : State} {H : Heap} (hP : va_P Y.1 vwCl (Y.2.1 σ) H) (hK : va_K Y.1 vwCl Y.2.2.2 s) (hn : nests s) (hU : U.heap = H) (hW : s.WarmedH U.vm) : PX Y σ U := ⟨by rw [hU]; exact hP, va_K.moved hW.alike hK, hn.warm hW⟩
/-- the goal behind a call -/
theorem X_after {fin : β → Option Value × τ} {a0 : β} {a : α} {rest st0 : List Value} {av : Array Value} {H : Heap} {locs : List Loc} {la : Array Slot} (hS : va_S Y.2.2.1 Γ.1.2.2.2.2.1.heap H locs) (hL : lv_has la nL ls)
    (hr : va_Run Γ.1.1 Γ.1.2.1 Γ.1.2.2.1 Γ.1.2.2.2.1 Γ.1.2.2.2.2.1 Γ.1.2.2.2.2.2 Γ.2.1 Γ.2.2.1 Γ.2.2.2.1 Γ.2.2.2.2.1 H locs Γ.2.2.2.2.2.1 Γ.2.2.2.2.2.2 0 0 (F0 Γ.1.2.2.2.2.2 pc la st0) rest (QX Y (fin a0) av) Y.2.2.1)
    (k : WX Γ Y q nL (pc + 3) ls ((fin a0).1.toList ++ rest) (fin a0).2 (some a)) :
    W Γ.1.1 Γ.1.2.1 Γ.1.2.2.1 Γ.1.2.2.2.1 Γ.1.2.2.2.2.1 Γ.1.2.2.2.2.2 Γ.2.1 Γ.2.2.1 Γ.2.2.2.1 Γ.2.2.2.2.1 H locs Γ.2.2.2.2.2.1 Γ.2.2.2.2.2.2 (q a) (F0 Γ.1.2.2.2.2.2 pc la st0) := by
  intro T hT X
  obtain ⟨v, st₀, t, T', L, h0, X', hL2, e1, e2, ⟨hv, ⟨hP1, -, -⟩, hF⟩, stp⟩ := hr T hT X
  have hv' : (fin a0).1 = v := (Outcome.returned.inj hv).symm
  subst hv'
  have hh : T'.heap = t.heap := e1
  obtain ⟨t2, a1, b1⟩ := k a rfl T'.heap (locs ++ L) la (by rw [hh]; exact hP1)
    ⟨by rw [hh]; exact Nat.le_trans hS.1 (by rw [← h0]; exact hF.1), fun z h1 h2 => by rw [hh, hF.2 z (by rw [h0]; exact Nat.lt_of_lt_of_le h1 hS.1) h2, h0]; exact hS.2.1 z h1 h2, fun z hz => by
      rcases List.mem_append.mp hz with h | h
      · exact hS.2.2 z h
      · exact hL2 z h⟩ hL T' rfl X'
  exact ⟨t2, stp t2 a1, b1⟩
theorem X_call {y : MethodName} {C : String} {T : u_T} {N ci idx n q0 b0 fr' lo' : Nat} {b : ByteArray} {ret' : Option FieldType} {fs : List Value} {argv rest : List Value} {fin : β → Option Value × τ} {o' : Option β} {f : β → Option α} (hC : CX Γ Y cc own nL ret fr lo)
    (hM : MT Γ.1.2.1 Y y (.code y b n ret' :: gw) fr' lo' (.ref b0 :: argv) fin σ o') (hg : GoodIn gw (wsV own idx C y (.code y b n ret' :: gw))) (hy : y.cls = C) (hw : (Y.2.1 σ)[q0]? = some (b0, .inr (ci, fs))) (hc : vwCl[ci]? = some (C, T, N)) (hok : okc y argv.length n fr' lo' fr lo = true) (d : decode cc pc = .ok (.invokevirtual idx, 3)) (hst : st = argv.reverse ++ .ref b0 :: rest) (hrm : (rest.map fun v => v.category).sum ≤ 8)
    (k : ∀ a0, WX Γ Y q nL (pc + 3) ls ((fin a0).1.toList ++ rest) (fin a0).2 (f a0)) : WX Γ Y q nL pc ls st σ (o'.bind f) := by
  intro a ha H locs la hP hS hL
  obtain ⟨a0, h0, h1⟩ := Option.bind_eq_some_iff.mp ha
  simp only [okc, Bool.and_eq_true, decide_eq_true_eq] at hok
  obtain ⟨hx, hb, hml, hown, hts, hK, hn, hD, hlk, hrt, e1, e2, e3, e4⟩ := hC
  refine X_after (fin := fin) hS hL (va_runV (C := C) (As := argv) (rest := rest) ⟨hx, hb, hml, hown, hts⟩ (hM a0 h0) (cwV argv.length hts hg rfl rfl rfl ⟨hy, hok.1⟩ ⟨by rw [e1]; exact hok.2.1, by rw [e2]; exact hok.2.2⟩) ⟨PX_blind _, va_recv hK hP hc hw, fun U hU hW => ⟨rfl, PX_start hP hK hn hU hW⟩⟩ rfl rfl hL.1 hst (lv_room hrm) d ⟨e3, e4⟩) (fun a' ha' => ?_)
  cases ha'
  exact k a0 a h1
theorem X_stat {y : MethodName} {idx n fr' lo' : Nat} {b : ByteArray} {ret' : Option FieldType} {argv rest : List Value} {fin : β → Option Value × τ} {o' : Option β} {f : β → Option α} (hC : CX Γ Y cc own nL ret fr lo)
    (hM : MT Γ.1.2.1 Y y (.code y b n ret' :: gw) fr' lo' argv fin σ o') (hg : GoodIn gw (va_wsS own idx y (.code y b n ret' :: gw))) (hok : okc y argv.length n fr' lo' fr lo = true) (d : decode cc pc = .ok (.invokestatic idx, 3)) (hst : st = argv.reverse ++ rest) (hrm : (rest.map fun v => v.category).sum ≤ 8)
    (k : ∀ a0, WX Γ Y q nL (pc + 3) ls ((fin a0).1.toList ++ rest) (fin a0).2 (f a0)) : WX Γ Y q nL pc ls st σ (o'.bind f) := by
  intro a ha H locs la hP hS hL
  obtain ⟨a0, h0, h1⟩ := Option.bind_eq_some_iff.mp ha
  simp only [okc, Bool.and_eq_true, decide_eq_true_eq] at hok
  obtain ⟨hx, hb, hml, hown, hts, hK, hn, hD, hlk, hrt, e1, e2, e3, e4⟩ := hC
  refine X_after (fin := fin) hS hL (va_runS (As := argv) (rest := rest) ⟨hx, hb, hml, hown, hts⟩ (hM a0 h0) (va_cwS argv.length hts hg rfl rfl rfl hok.1 ⟨by rw [e1]; exact hok.2.1, by rw [e2]; exact hok.2.2⟩) ⟨PX_blind _, fun U hU hW => ⟨rfl, PX_start hP hK hn hU hW⟩⟩ rfl rfl hL.1 hst (lv_room hrm) d ⟨e3, e4⟩) (fun a' ha' => ?_)
  cases ha'
  exact k a0 a h1
theorem X_statN {y : MethodName} {host : String} {idx n fr' lo' : Nat} {b : ByteArray} {ret' : Option FieldType} {argv rest : List Value} {fin : β → Option Value × τ} {o' : Option β} {f : β → Option α} (hC : CX Γ Y cc own nL ret fr lo)
    (hM : MT Γ.1.2.1 Y y (.code y b n ret' :: gw) fr' lo' argv fin σ o') (hN : ∀ U, nests U → va_Nw (.methodLinkNest own idx y host) U) (h5 : Cond.code y b n ret' ∈ gw) (h2 : Cond.static y ∈ gw) (h4 : Cond.initialized y.cls ∈ gw) (hok : okc y argv.length n fr' lo' fr lo = true) (d : decode cc pc = .ok (.invokestatic idx, 3)) (hst : st = argv.reverse ++ rest) (hrm : (rest.map fun v => v.category).sum ≤ 8)
    (k : ∀ a0, WX Γ Y q nL (pc + 3) ls ((fin a0).1.toList ++ rest) (fin a0).2 (f a0)) : WX Γ Y q nL pc ls st σ (o'.bind f) := by
  intro a ha H locs la hP hS hL
  obtain ⟨a0, h0, h1⟩ := Option.bind_eq_some_iff.mp ha
  simp only [okc, Bool.and_eq_true, decide_eq_true_eq] at hok
  obtain ⟨hx, hb, hml, hown, hts, hK, hn, hD, hlk, hrt, e1, e2, e3, e4⟩ := hC
  refine X_after (fin := fin) hS hL (va_runSN (As := argv) (rest := rest) ⟨hx, hb, hml, hown, hts⟩ (hM a0 h0) ⟨va_cnB argv.length hts (gC h5) rfl rfl rfl (hN _ hn) (hts _ h4) hok.1 ⟨by rw [e1]; exact hok.2.1, by rw [e2]; exact hok.2.2⟩, hts _ h2, trivial⟩ ⟨PX_blind _, fun U hU hW => ⟨rfl, PX_start hP hK hn hU hW⟩⟩ rfl rfl hL.1 hst (lv_room hrm) d ⟨e3, e4⟩) (fun a' ha' => ?_)
  cases ha'
  exact k a0 a h1
abbrev fiP (σ : τ) : Int32 → Option Value × τ := fun r => (some (.int r), σ)
abbrev fiS : Int32 × τ → Option Value × τ := fun q => (some (.int q.1), q.2)
abbrev fvS : τ → Option Value × τ := fun σ => (none, σ)
/-- the returns of a method -/
theorem X_end {fin : α → Option Value × τ} {a : α} {v : Option Value} (hf : fin a = (v, σ)) (hC : CX Γ Y cc own nL ret fr lo) (h0 : Γ.2.2.2.2.2.1 = 0) (h1 : Γ.2.2.2.2.2.2 = 0)
    (k : ∀ (H : Heap) (locs : List Loc) (la : Array Slot), (∀ t : State, t.heap = H → Γ.1.2.2.2.2.1.WarmedH t.vm → QX Y (fin a) Γ.2.1 Γ.1.2.2.2.2.1 (.returned v) t) → (∀ z ∈ locs, Y.2.2.1 z.base) →
      W Γ.1.1 Γ.1.2.1 Γ.1.2.2.1 Γ.1.2.2.2.1 Γ.1.2.2.2.2.1 Γ.1.2.2.2.2.2 Γ.2.1 Γ.2.2.1 Γ.2.2.2.1 Γ.2.2.2.2.1 H locs 0 0 (qf Γ Y fin a) (F0 Γ.1.2.2.2.2.2 pc la st)) : WX Γ Y (qf Γ Y fin) nL pc ls st σ (some a) := by
  intro a' ha' H locs la hP hS hL
  cases ha'
  rw [h0, h1]
  obtain ⟨hx, hb, hml, hown, hts, hK, hn, hD, hlk, hrt, e1, e2, e3, e4⟩ := hC
  exact k H locs la (fun t ht hW => ⟨by rw [hf], ⟨by rw [hf, ht]; exact hP, va_K.moved hW.alike hK, hn.warm hW⟩, hS.F ht⟩) hS.2.2
theorem X_iret {fin : α → Option Value × τ} {a : α} {v : Int32} (hC : CX Γ Y cc own nL (some .int) fr lo) (h0 : Γ.2.2.2.2.2.1 = 0) (h1 : Γ.2.2.2.2.2.2 = 0) (d : decode cc pc = .ok (.ireturn, 1)) (hf : fin a = (some (.int v), σ)) : WX Γ Y (qf Γ Y fin) nL pc ls [.int v] σ (some a) :=
  X_end hf hC h0 h1 fun H locs la hq hl => W.iret hC.1 hC.2.1 hC.2.2.2.2.2.2.2.2.2.1 hq hl d hC.2.2.2.2.2.2.2.2.1
theorem X_zret {fin : α → Option Value × τ} {a : α} {v : Int32} {ty : FieldType} (hC : CX Γ Y cc own nL (some ty) fr lo) (h0 : Γ.2.2.2.2.2.1 = 0) (h1 : Γ.2.2.2.2.2.2 = 0) (hv : narrow ty (.int v) = .int v) (d : decode cc pc = .ok (.ireturn, 1)) (hf : fin a = (some (.int v), σ)) : WX Γ Y (qf Γ Y fin) nL pc ls [.int v] σ (some a) :=
  X_end hf hC h0 h1 fun H locs la hq hl => W.zret hC.1 hC.2.1 hC.2.2.2.2.2.2.2.2.2.1 hv hq hl d hC.2.2.2.2.2.2.2.2.1
theorem X_vret {fin : α → Option Value × τ} {a : α} (hC : CX Γ Y cc own nL none fr lo) (h0 : Γ.2.2.2.2.2.1 = 0) (h1 : Γ.2.2.2.2.2.2 = 0) (d : decode cc pc = .ok (.return_, 1)) (hf : fin a = (none, σ)) : WX Γ Y (qf Γ Y fin) nL pc ls [] σ (some a) :=
  X_end hf hC h0 h1 fun H locs la hq hl => W.vret hC.1 hC.2.1 hC.2.2.2.2.2.2.2.2.2.1 hq hl d hC.2.2.2.2.2.2.2.2.1
theorem X_aret {fin : α → Option Value × τ} {a : α} {b : Nat} {nm : String} (hC : CX Γ Y cc own nL (some (.object nm)) fr lo) (h0 : Γ.2.2.2.2.2.1 = 0) (h1 : Γ.2.2.2.2.2.2 = 0) (d : decode cc pc = .ok (.areturn, 1)) (hf : fin a = (some (.ref b), σ)) : WX Γ Y (qf Γ Y fin) nL pc ls [.ref b] σ (some a) :=
  X_end hf hC h0 h1 fun H locs la hq hl => W.aret hC.1 hC.2.1 hC.2.2.2.2.2.2.2.2.2.1 (Or.inl ⟨nm, rfl⟩) (Or.inr ⟨b, rfl⟩) hq hl d hC.2.2.2.2.2.2.2.2.1
theorem nch {v : Int32} (h : isch v = true) : narrow .char (.int v) = .int v := by
  have h2 := of_decide_eq_true h
  rw [← h2]
  exact pk_nc v
theorem nz {v : Int32} (h : isz v = true) : narrow .boolean (.int v) = .int v := by
  have h2 := of_decide_eq_true h
  rcases h2 with rfl | rfl <;> rfl
end CALLS
