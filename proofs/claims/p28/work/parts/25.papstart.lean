/-! papers: its four arrays, then its walk. -/
theorem okm_L_papers : okm yL_papers 1 = true := by decide +kernel
def sg00 : Sg := (fun _ => 0, fun _ _ => 0)
def f_L_papers (σ : Sg) : Option (Int32 × Sg) := g_L_papers (σ, sg00)
def CP (Γ : Cx) (G : va_G) (cls : Cls) (A : Nat → Prop) (cc : ByteArray) (own : String) (nL : Nat) (fr mc ms lo : Nat) : Prop :=
  Γ.1.1.tables.exec = Jvm.exec ∧ Γ.2.2.2.2.1.code = cc ∧ Γ.2.2.2.2.1.maxLocals = nL ∧ Γ.1.2.2.2.2.1.vm.findClass own = some Γ.1.2.2.2.2.2.cls ∧ (∀ w ∈ gw, w.before Γ.2.1 Γ.1.2.2.2.2.1 = true) ∧
  va_K G vwCl (tyO cls) Γ.1.2.2.2.2.1 ∧ (∀ q : Nat, Γ.1.2.2.2.2.1.heap.size ≤ q → A q) ∧ Γ.1.2.2.2.1.cells = mc ∧ Γ.1.2.2.2.1.slots = ms
section PST
variable {Γ : Cx} {G : va_G} {cls : Cls} {A : Nat → Prop} {q : State → Prop} {cc : ByteArray} {own : String} {nL fr mc ms lo pc : Nat} {ls : List (Nat × Value)} {st : List Value} {ws : va_W} {ce sl : Nat}
theorem P_iconst (hC : CP Γ G cls A cc own nL fr mc ms lo) {n : Int} {v : Int32} (hv : Int32.ofInt n = v) (d : decode cc pc = .ok (.iconst n, 1)) (k : WN Γ G A q nL (pc + 1) ls (.int v :: st) ws ce sl) : WN Γ G A q nL pc ls st ws ce sl :=
  fun H locs la hP hD hS hL => lv_iconst hC.1 hC.2.1 d hv (k H locs la hP hD hS hL)
theorem P_bipush (hC : CP Γ G cls A cc own nL fr mc ms lo) {n : Int} {v : Int32} (hv : (Int8.ofInt n).toInt32 = v) (d : decode cc pc = .ok (.bipush n, 2)) (k : WN Γ G A q nL (pc + 2) ls (.int v :: st) ws ce sl) : WN Γ G A q nL pc ls st ws ce sl :=
  fun H locs la hP hD hS hL => lv_bipush hC.1 hC.2.1 d hv (k H locs la hP hD hS hL)
theorem P_astore_n (hC : CP Γ G cls A cc own nL fr mc ms lo) {i : Fin 4} {x : Nat} {ls' : List (Nat × Value)} (d : decode cc pc = .ok (.astore_n i, 1)) (hn : (i : Nat) < nL) (hl : ((i : Nat), Value.ref x) :: ls.filter (fun q => !(q.1 == (i : Nat)) && !(q.1 + 1 == (i : Nat) && q.2.category == 2)) = ls') (k : WN Γ G A q nL (pc + 1) ls' st ws ce sl) : WN Γ G A q nL pc ls (.ref x :: st) ws ce sl :=
  fun H locs la hP hD hS hL => lv_astore_n hC.1 hC.2.1 d rfl hL hn hl (fun la' hL' => k H locs la' hP hD hS hL')
theorem P_astore (hC : CP Γ G cls A cc own nL fr mc ms lo) {i : Nat} {x : Nat} {ls' : List (Nat × Value)} (d : decode cc pc = .ok (.astore i, 2)) (hn : i < nL) (hl : (i, Value.ref x) :: ls.filter (fun q => !(q.1 == i) && !(q.1 + 1 == i && q.2.category == 2)) = ls') (k : WN Γ G A q nL (pc + 2) ls' st ws ce sl) : WN Γ G A q nL pc ls (.ref x :: st) ws ce sl :=
  fun H locs la hP hD hS hL => lv_astore hC.1 hC.2.1 d hL hn hl (fun la' hL' => k H locs la' hP hD hS hL')
theorem P_newi (hC : CP Γ G cls A cc own nL fr mc ms lo) {n : Int32} {N : Nat} (w1 : Cond.arrayClass .int ∈ gw) (hn : inb n (N + 1) = true) (hN : ix n = N) (hb : N * 4 ≤ 536870912) (he : ce + 1 ≤ mc ∧ sl + N ≤ ms) (d : decode cc pc = .ok (.newarray .int, 2)) (k : ∀ b : Nat, WN Γ G A q nL (pc + 2) ls (.ref b :: st) (ws ++ [(b, .inl (cls.1, N, .inl (fun _ => 0)))]) (ce + 1) (sl + N)) : WN Γ G A q nL pc ls (.int n :: st) ws ce sl := by
  intro H locs la hP hD hS hL
  have hts := hC.2.2.2.2.1
  obtain ⟨-, -, -, -, -, hK, hA, e2, e3⟩ := id hC
  have hn0 : ¬ n < 0 := Int32.not_lt.mpr (of_decide_eq_true hn).1
  refine va_newa (atype := .int) (ty := .int) (a0 := (N, .inl (fun _ => 0))) (N' := N) hC.1 hC.2.1 (hts _ w1) rfl hK hP hD hS hA (fun _ => rfl) hn0 hN hb (by rw [e2]; exact he.1) (by rw [e3]; exact he.2) d (fun b cA H1 hK1 hP1 hD1 hS1 => ?_)
  have hc : cA = cls.1 := ra_int (Or.inl rfl) (hK1.2 3 (cA, .int) rfl).2 (hK.2 0 (cls.1, .int) rfl).2
  subst hc
  exact k b H1 locs la hP1 hD1 hS1 hL
end PST
def qf4 {τ α : Type} (Γ : Cx) (Y : Sys τ) (Fr : Nat → Prop) (fin : α → Option Value × τ) : α → State → Prop := fun a => MQ Γ.2.2.1 (QXF Y Fr (fin a)) Γ.2.1 Γ.1.2.2.2.2.1 4 40 Fr
theorem mkw_4 {am : Nat → Nat} {cf : Nat → va_E} : mkw 4 am cf = [(am 0, cf 0), (am 1, cf 1), (am 2, cf 2), (am 3, cf 3)] := rfl
set_option maxHeartbeats 4000000 in
set_option maxRecDepth 100000 in
theorem c_L_papers (l : Launch) (G : va_G) (cls : Cls) (ax : Nat → Nat) (hix : inj 49 ax) (σ : Sg) : MTp l (YX G cls ax) yL_papers (.code yL_papers cL_papers 13 (some .boolean) :: gw) 5 115 4 40 [.ref (ax 25)] fiS σ (f_L_papers σ) := by
  intro sz a ha
  refine Met.ofW (cc := cL_papers) (maxL := 13) (ret := some .boolean) (by decide) rfl ?_
  intro p e s m args below meth c s₁ B hml hv
  obtain ⟨rfl, rfl, hP, hK, hn⟩ := hv
  have hts := atoms_spec (ws := .code yL_papers cL_papers 13 (some .boolean) :: gw) B.pre
  have hf : s.vm.findClass RL = some m.cls := findClass_of_methodNamed B.named
  have hl := lv_entry [.ref (ax 25)] (n := 13) (Nat.le_of_ble_eq_true rfl)
  rw [lg_entry_eq]
  generalize hΓ : (((p, l, e, rmc 5 4 40 115, s, m), (#[Value.ref (ax 25)], below, meth, c, 4, 40)) : Cx) = Γ
  have hC : CP Γ G cls (fun z => AX 49 ax z ∨ s.heap.size ≤ z) cL_papers RL 13 5 4 40 115 := by
    rw [← hΓ]
    exact ⟨B.exec, B.bytes, hml, hf, fun w hw => hts w (List.mem_cons_of_mem _ hw), hK, fun _ h => Or.inr h, rfl, rfl⟩
  have key : WN Γ G (fun z => AX 49 ax z ∨ s.heap.size ≤ z) (qf4 Γ (YX G cls ax) (fun z => AX 49 ax z ∨ s.heap.size ≤ z) fiS a) 13 0 [(0, .ref (ax 25))] [] (mkw 49 ax (cellX cls ax σ)) 0 0 := by
    refine P_bipush (v := 12) hC (by decide) dL_papers_0 ?_
    refine P_newi (N := 12) hC tw_45 (by decide) (by decide) (by decide) ⟨by decide, by decide⟩ dL_papers_2 (fun a1 => ?_)
    refine P_astore_n (ls' := [(1, .ref a1), (0, .ref (ax 25))]) hC dL_papers_4 (by decide) rfl ?_
    refine P_bipush (v := 12) hC (by decide) dL_papers_5 ?_
    refine P_newi (N := 12) hC tw_45 (by decide) (by decide) (by decide) ⟨by decide, by decide⟩ dL_papers_7 (fun a2 => ?_)
    refine P_astore_n (ls' := [(2, .ref a2), (1, .ref a1), (0, .ref (ax 25))]) hC dL_papers_9 (by decide) rfl ?_
    refine P_bipush (v := 12) hC (by decide) dL_papers_10 ?_
    refine P_newi (N := 12) hC tw_45 (by decide) (by decide) (by decide) ⟨by decide, by decide⟩ dL_papers_12 (fun a3 => ?_)
    refine P_astore_n (ls' := [(3, .ref a3), (2, .ref a2), (1, .ref a1), (0, .ref (ax 25))]) hC dL_papers_14 (by decide) rfl ?_
    refine P_iconst (v := 4) hC (by decide) dL_papers_15 ?_
    refine P_newi (N := 4) hC tw_45 (by decide) (by decide) (by decide) ⟨by decide, by decide⟩ dL_papers_16 (fun a4 => ?_)
    refine P_astore (ls' := [(4, .ref a4), (3, .ref a3), (2, .ref a2), (1, .ref a1), (0, .ref (ax 25))]) hC dL_papers_18 (by decide) rfl ?_
    intro H locs la hP hD hS hLa
    generalize ham : (fun k => match k with | 0 => a1 | 1 => a2 | 2 => a3 | _ => a4 : Nat → Nat) = am
    have hW : ∀ τ : Sg × Sg, (YL G cls ax 4 am (fun z => AX 49 ax z ∨ s.heap.size ≤ z)).2.1 τ = mkw 49 ax (cellX cls ax τ.1) ++ mkw 4 am (cellR cls τ.2) := fun _ => rfl
    have hw0 : mkw 49 ax (cellX cls ax σ) ++ [(a1, .inl (cls.1, 12, .inl (fun _ => 0)))] ++ [(a2, .inl (cls.1, 12, .inl (fun _ => 0)))] ++ [(a3, .inl (cls.1, 12, .inl (fun _ => 0)))] ++ [(a4, .inl (cls.1, 4, .inl (fun _ => 0)))] = (YL G cls ax 4 am (fun z => AX 49 ax z ∨ s.heap.size ≤ z)).2.1 (σ, sg00) := by
      rw [hW, mkw_4, ← ham, List.append_assoc, List.append_assoc, List.append_assoc]
      rfl
    rw [hw0] at hP hD
    have hDD : ∀ τ : Sg × Sg, va_D (fun z => AX 49 ax z ∨ s.heap.size ≤ z) ((YL G cls ax 4 am (fun z => AX 49 ax z ∨ s.heap.size ≤ z)).2.1 τ) := by
      intro τ
      have e : ((YL G cls ax 4 am (fun z => AX 49 ax z ∨ s.heap.size ≤ z)).2.1 τ).map Prod.fst = ((YL G cls ax 4 am (fun z => AX 49 ax z ∨ s.heap.size ≤ z)).2.1 (σ, sg00)).map Prod.fst := by
        rw [hW, hW]; simp [mkw, List.map_append, List.map_map, Function.comp_def]
      have get : ∀ (i : Nat) (z : Nat × va_E), ((YL G cls ax 4 am (fun z => AX 49 ax z ∨ s.heap.size ≤ z)).2.1 τ)[i]? = some z → ∃ w, ((YL G cls ax 4 am (fun z => AX 49 ax z ∨ s.heap.size ≤ z)).2.1 (σ, sg00))[i]? = some (z.1, w) := by
        intro i z hz
        have h1 : (((YL G cls ax 4 am (fun z => AX 49 ax z ∨ s.heap.size ≤ z)).2.1 τ).map Prod.fst)[i]? = some z.1 := by rw [List.getElem?_map, hz]; rfl
        rw [e, List.getElem?_map] at h1
        cases hc : ((YL G cls ax 4 am (fun z => AX 49 ax z ∨ s.heap.size ≤ z)).2.1 (σ, sg00))[i]? with
        | none => rw [hc] at h1; cases h1
        | some w => rw [hc] at h1; exact ⟨w.2, by rw [show w = (w.1, w.2) from rfl, show w.1 = z.1 from Option.some.inj h1]⟩
      refine ⟨fun i j x y h1 h2 h3 => ?_, fun k x h1 => ?_⟩
      · obtain ⟨w1, g1⟩ := get i x h1
        obtain ⟨w2, g2⟩ := get j y h2
        exact hD.1 i j (x.1, w1) (y.1, w2) g1 g2 h3
      · obtain ⟨w1, g1⟩ := get k x h1
        exact hD.2 k (x.1, w1) g1
    have hCX : CX Γ (YL G cls ax 4 am (fun z => AX 49 ax z ∨ s.heap.size ≤ z)) cL_papers RL 13 (some .boolean) 5 115 := by
      rw [← hΓ]
      exact ⟨B.exec, B.bytes, hml, hf, fun w hw => hts w (List.mem_cons_of_mem _ hw), hK, hn, hDD, B.notSynchronized, B.returns, rfl, rfl, Nat.le_refl 4, Nat.le_refl 40⟩
    have hend : ∀ (pc : Nat) (ls : List (Nat × Value)) (τ : Sg × Sg), decode cL_papers pc = .ok (.ireturn, 1) → WX Γ (YL G cls ax 4 am (fun z => AX 49 ax z ∨ s.heap.size ≤ z)) (qf4 Γ (YX G cls ax) (fun z => AX 49 ax z ∨ s.heap.size ≤ z) fiS) 13 pc ls [.int 1] τ (some (1, τ.1)) := by
      intro pc ls τ d a' ha' H' locs' la' hP' hS' hL'
      cases ha'
      rw [← hΓ] at hS' ⊢
      have hP1 : va_P G vwCl (mkw 49 ax (cellX cls ax τ.1)) H' := P_left hP'
      refine W.zret B.exec B.bytes B.returns rfl (fun t ht hW => ⟨rfl, ⟨by rw [ht]; exact hP1, va_K.moved hW.alike hK, hn.warm hW⟩, hS'.F ht⟩) (fun z hz => hS'.2.2 z hz) d B.notSynchronized
    have hgo := L_L_papers (q := qf4 Γ (YX G cls ax) (fun z => AX 49 ax z ∨ s.heap.size ≤ z) fiS) (Γ := Γ) G cls ax am (fun z => AX 49 ax z ∨ s.heap.size ≤ z) hix hCX hend (σ, sg00) a ha H locs la hP hS (lv_sub hLa [4, 3, 2, 1, 0] (by rw [← ham]; rfl))
    rw [← hΓ] at hgo ⊢
    exact hgo
  have hk := key s.heap [] _ hP (va_D.weaken (YX_D (cls := cls) (G := G) hix σ) (fun k z h1 h2 => Or.inl h2)) (by rw [← hΓ]; exact va_S.rf) hl
  rw [← hΓ] at hk
  exact hk
