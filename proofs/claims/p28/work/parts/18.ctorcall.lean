/-! CONSTRUCTORS: calls of constructors, returns. -/
section NC
variable {Γ : Cx} {G : va_G} {cls : Cls} {A : Nat → Prop} {q : State → Prop} {cc : ByteArray} {own : String} {nL fr mc ms lo pc : Nat} {ls : List (Nat × Value)} {st : List Value} {ws : va_W} {ce sl : Nat}
theorem PN_blind {h0 sz : Nat} {e0 : va_E} (argv : List Value) : FrameBlind (va_Pc argv (PN G cls h0 e0 sz)) := fun a U g mk h => ⟨h.1, h.2.1, h.2.2.1, va_K.moved (u := U) (U := U.calling g mk a) (Vm.Alike.refl U.vm) h.2.2.2.1, h.2.2.2.2.calling⟩
theorem N_after {h0 mc' ms' : Nat} {e0 : va_E} {R : va_W → Prop} {wr : va_W} {rest st0 : List Value} {av : Array Value} {H : Heap} {locs : List Loc} {la : Array Slot} (p0 : Nat) (isR : List Nat) (h1 : ws[p0]? = some (h0, e0)) (hR : isR.map (fun i => ws[i]?) = wr.map some) (hn : va_nd isR = true) (hdis : p0 ∉ isR) (hA : ∀ q : Nat, Γ.1.2.2.2.2.1.heap.size ≤ q → A q) (hP : va_P G vwCl ws H) (hD : va_D A ws) (hS : va_S A Γ.1.2.2.2.2.1.heap H locs) (hL : lv_has la nL ls)
    (hr : va_Run Γ.1.1 Γ.1.2.1 Γ.1.2.2.1 Γ.1.2.2.2.1 Γ.1.2.2.2.2.1 Γ.1.2.2.2.2.2 Γ.2.1 Γ.2.2.1 Γ.2.2.2.1 Γ.2.2.2.2.1 H locs ce sl mc' ms' (F0 Γ.1.2.2.2.2.2 pc la st0) rest (QN G R (va_A [(h0, e0)] H.size) av) (va_A [(h0, e0)] H.size))
    (k : ∀ w, R w → WN Γ G A q nL (pc + 3) ls rest (wr ++ w) (ce + mc') (sl + ms')) :
    W Γ.1.1 Γ.1.2.1 Γ.1.2.2.1 Γ.1.2.2.2.1 Γ.1.2.2.2.2.1 Γ.1.2.2.2.2.2 Γ.2.1 Γ.2.2.1 Γ.2.2.2.1 Γ.2.2.2.2.1 H locs ce sl q (F0 Γ.1.2.2.2.2.2 pc la st0) := by
  intro T hT X
  obtain ⟨v, st₀, t, T', L, h0', X', hL2, e1, e2, ⟨hv, ⟨w, hw, hP1, hD1⟩, hF⟩, stp⟩ := hr T hT X
  have hv' : v = none := Outcome.returned.inj hv
  subst hv'
  have hh : T'.heap = t.heap := e1
  have hFc : ∀ q, va_A [(h0, e0)] H.size q → A q := va_free hD hS hA [p0] (by simp [h1])
  have hk1 : ∀ q : Nat, q < H.size → ¬ va_A [(h0, e0)] H.size q → t.heap[q]? = H[q]? := fun z g1 g2 => by rw [hF.2 z (by rw [h0']; exact g1) g2, h0']
  obtain ⟨hP2, hD2⟩ := va_join (wr := wr) (w1 := w) hP hD [p0] isR (by simp [h1]) hR hn (fun i hi hc => by simp at hc; subst hc; exact hdis hi) hk1 hFc hP1 hD1
  obtain ⟨t2, a1, b1⟩ := k w hw T'.heap (locs ++ L) la (by rw [hh]; exact hP2) hD2
    ⟨by rw [hh]; exact Nat.le_trans hS.1 (by rw [← h0']; exact hF.1), fun z g1 g2 => by rw [hh, hk1 z (Nat.lt_of_lt_of_le g1 hS.1) (fun h => g2 (hFc z h))]; exact hS.2.1 z g1 g2, fun z hz => by
      rcases List.mem_append.mp hz with h | h
      · exact hS.2.2 z h
      · exact hFc _ (hL2 z h)⟩ hL T' rfl X'
  exact ⟨t2, stp t2 a1, b1⟩
theorem N_call {y : MethodName} {idx n fr' mc' ms' lo' h0 ka : Nat} {b : ByteArray} {e0 : va_E} {as rest : List Value} {R : va_W → Prop} {wr : va_W} (p0 : Nat) (isR : List Nat) (hC : CN Γ G cls A cc own nL fr mc ms lo)
    (hM : NT Γ.1.2.1 G cls y (.code y b n none :: gw) fr' mc' ms' lo' h0 e0 as R) (h1 : ws[p0]? = some (h0, e0)) (hR : isR.map (fun i => ws[i]?) = wr.map some) (hn : va_nd isR = true) (hdis : p0 ∉ isR)
    (w1 : Cond.methodLink own idx y ∈ gw) (w2 : Cond.instanceMethod y ∈ gw) (w3 : Cond.initialized y.cls ∈ gw) (w4 : Cond.code y b n none ∈ gw) (hy : y.name = "<init>") (hk : as.length = ka) (hok : okm y ka = true) (hr : fr' + 1 ≤ fr ∧ 8 + (n + 11) + lo' ≤ lo) (he : ce + mc' ≤ mc ∧ sl + ms' ≤ ms) (d : decode cc pc = .ok (.invokespecial idx, 3)) (hst : st = as.reverse ++ .ref h0 :: rest) (hrm : (rest.map fun v => v.category).sum ≤ 8)
    (k : ∀ w, R w → WN Γ G A q nL (pc + 3) ls rest (wr ++ w) (ce + mc') (sl + ms')) : WN Γ G A q nL pc ls st ws ce sl := by
  intro H locs la hP hD hS hL
  have hok := okc_of hk hok hr
  simp only [okc, Bool.and_eq_true, decide_eq_true_eq] at hok
  obtain ⟨hx, hb, hml, hown, hts, hK, hN, hA, hlk, e1, e2, e3, e4⟩ := hC
  have hP1 : va_P G vwCl [(h0, e0)] H := hP.sub [p0] (by simp [h1])
  exact N_after p0 isR h1 hR hn hdis hA hP hD hS hL (va_runI (As := as) (rest := rest) ⟨hx, hb, hml, hown, hts⟩ (hM H.size) (cwI as.length hts (gC w4) rfl rfl rfl (hts _ w3) (hts _ w1) (hts _ w2) hy hok.1 ⟨by rw [e1]; exact hok.2.1, by rw [e4]; exact hok.2.2⟩) ⟨PN_blind _, fun U hU hW => ⟨rfl, by rw [hU], by rw [hU]; exact hP1, va_K.moved hW.alike hK, hN.warm hW⟩⟩ rfl rfl hL.1 hst (lv_room hrm) d ⟨by rw [e2]; exact he.1, by rw [e3]; exact he.2⟩) k
theorem N_callN {y : MethodName} {host : String} {idx n fr' mc' ms' lo' h0 ka : Nat} {b : ByteArray} {e0 : va_E} {as rest : List Value} {R : va_W → Prop} {wr : va_W} (p0 : Nat) (isR : List Nat) (hC : CN Γ G cls A cc own nL fr mc ms lo)
    (hM : NT Γ.1.2.1 G cls y (.code y b n none :: gw) fr' mc' ms' lo' h0 e0 as R) (h1 : ws[p0]? = some (h0, e0)) (hR : isR.map (fun i => ws[i]?) = wr.map some) (hn : va_nd isR = true) (hdis : p0 ∉ isR)
    (hNs : ∀ U, nestC U → va_Nw (.methodLinkNest own idx y host) U) (w2 : Cond.instanceMethod y ∈ gw) (w3 : Cond.initialized y.cls ∈ gw) (w4 : Cond.code y b n none ∈ gw) (hy : y.name = "<init>") (hk : as.length = ka) (hok : okm y ka = true) (hr : fr' + 1 ≤ fr ∧ 8 + (n + 11) + lo' ≤ lo) (he : ce + mc' ≤ mc ∧ sl + ms' ≤ ms) (d : decode cc pc = .ok (.invokespecial idx, 3)) (hst : st = as.reverse ++ .ref h0 :: rest) (hrm : (rest.map fun v => v.category).sum ≤ 8)
    (k : ∀ w, R w → WN Γ G A q nL (pc + 3) ls rest (wr ++ w) (ce + mc') (sl + ms')) : WN Γ G A q nL pc ls st ws ce sl := by
  intro H locs la hP hD hS hL
  have hok := okc_of hk hok hr
  simp only [okc, Bool.and_eq_true, decide_eq_true_eq] at hok
  obtain ⟨hx, hb, hml, hown, hts, hK, hN, hA, hlk, e1, e2, e3, e4⟩ := hC
  have hP1 : va_P G vwCl [(h0, e0)] H := hP.sub [p0] (by simp [h1])
  exact N_after p0 isR h1 hR hn hdis hA hP hD hS hL (va_runIN (As := as) (rest := rest) ⟨hx, hb, hml, hown, hts⟩ (hM H.size) ⟨va_cnB as.length hts (gC w4) rfl rfl rfl (hNs _ hN) (hts _ w3) hok.1 ⟨by rw [e1]; exact hok.2.1, by rw [e4]; exact hok.2.2⟩, hy, hts _ w2⟩ ⟨PN_blind _, fun U hU hW => ⟨rfl, by rw [hU], by rw [hU]; exact hP1, va_K.moved hW.alike hK, hN.warm hW⟩⟩ rfl rfl hL.1 hst (lv_room hrm) d ⟨by rw [e2]; exact he.1, by rw [e3]; exact he.2⟩) k
theorem N_vret {R : va_W → Prop} (hC : CN Γ G cls A cc own nL fr mc ms lo) (hr : Γ.2.2.2.1.sig.returnType = none) (d : decode cc pc = .ok (.return_, 1)) (hw : R ws) : WN Γ G A (MQ Γ.2.2.1 (QN G R A) Γ.2.1 Γ.1.2.2.2.2.1 ce sl A) nL pc ls [] ws ce sl := by
  intro H locs la hP hD hS hL
  exact W.vret hC.1 hC.2.1 hr (fun t ht hW => ⟨rfl, ⟨ws, hw, by rw [ht]; exact hP, hD⟩, hS.F ht⟩) hS.2.2 d hC.2.2.2.2.2.2.2.2.1
theorem N_eq {ws' : va_W} {ce' sl' : Nat} (h : ws = ws') (h1 : ce = ce') (h2 : sl = sl') (k : WN Γ G A q nL pc ls st ws' ce' sl') : WN Γ G A q nL pc ls st ws ce sl := by
  subst h; subst h1; subst h2; exact k
end NC
