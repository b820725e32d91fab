/-! CONSTRUCTORS: a walk over a growing list of cells. -/
def nestC (U : State) : Prop := va_Nw (.methodLinkNest RX4 11 yX2_init RX4) U ∧ va_Nw (.methodLinkNest RX4 28 yX1_init RX4) U ∧ va_Nw (.methodLinkNest RX0 17 yX2_init RX4) U ∧ va_AO RX2 U
theorem nestC.warm {s U : State} (hW : s.WarmedH U.vm) (h : nestC s) : nestC U := ⟨h.1.warmM hW, h.2.1.warmM hW, h.2.2.1.warmM hW, va_AO.moved hW.alike h.2.2.2⟩
theorem nestC.calling {U : State} {g : JFrame} {mk : MethodId} {a : Array Value} (h : nestC U) : nestC (U.calling g mk a) := ⟨h.1.same rfl rfl, h.2.1.same rfl rfl, h.2.2.1.same rfl rfl, va_AO.moved (Vm.Alike.refl U.vm) h.2.2.2⟩
def rmc (fr mc ms lo : Nat) : Room := { frames := fr, cells := mc, slots := ms, locals := lo }
/-- what holds of a new object's world behind its constructor -/
def QN (G : va_G) (R : va_W → Prop) (A : Nat → Prop) : Array Value → State → Outcome → State → Prop := fun _ st oc t => oc = .returned none ∧ (∃ w, R w ∧ va_P G vwCl w t.heap ∧ va_D A w) ∧ va_F A st t
def PN (G : va_G) (cls : Cls) (h0 : Nat) (e0 : va_E) (sz : Nat) (U : State) : Prop := U.heap.size = sz ∧ va_P G vwCl [(h0, e0)] U.heap ∧ va_K G vwCl (tyO cls) U ∧ nestC U
def NT (l : Launch) (G : va_G) (cls : Cls) (y : MethodName) (ws : List Cond) (fr mc ms lo : Nat) (h0 : Nat) (e0 : va_E) (as : List Value) (R : va_W → Prop) : Prop :=
  ∀ sz, Met l y ws (rmc fr mc ms lo) (va_Pc (.ref h0 :: as) (PN G cls h0 e0 sz)) (QN G R (va_A [(h0, e0)] sz)) mc ms (va_A [(h0, e0)] sz)
def WN (Γ : Cx) (G : va_G) (A : Nat → Prop) (q : State → Prop) (nL : Nat) (pc : Nat) (ls : List (Nat × Value)) (st : List Value) (ws : va_W) (ce sl : Nat) : Prop :=
  ∀ (H : Heap) (locs : List Loc) (la : Array Slot), va_P G vwCl ws H → va_D A ws → va_S A Γ.1.2.2.2.2.1.heap H locs → lv_has la nL ls →
    W Γ.1.1 Γ.1.2.1 Γ.1.2.2.1 Γ.1.2.2.2.1 Γ.1.2.2.2.2.1 Γ.1.2.2.2.2.2 Γ.2.1 Γ.2.2.1 Γ.2.2.2.1 Γ.2.2.2.2.1 H locs ce sl q (F0 Γ.1.2.2.2.2.2 pc la st)
def CN (Γ : Cx) (G : va_G) (cls : Cls) (A : Nat → Prop) (cc : ByteArray) (own : String) (nL : Nat) (fr mc ms lo : Nat) : Prop :=
  Γ.1.1.tables.exec = Jvm.exec ∧ Γ.2.2.2.2.1.code = cc ∧ Γ.2.2.2.2.1.maxLocals = nL ∧ Γ.1.2.2.2.2.1.vm.findClass own = some Γ.1.2.2.2.2.2.cls ∧ (∀ w ∈ gw, w.before Γ.2.1 Γ.1.2.2.2.2.1 = true) ∧
  va_K G vwCl (tyO cls) Γ.1.2.2.2.2.1 ∧ nestC Γ.1.2.2.2.2.1 ∧ (∀ q : Nat, Γ.1.2.2.2.2.1.heap.size ≤ q → A q) ∧ Γ.2.2.2.1.locks = false ∧ Γ.1.2.2.2.1.frames = fr ∧ Γ.1.2.2.2.1.cells = mc ∧ Γ.1.2.2.2.1.slots = ms ∧ Γ.1.2.2.2.1.locals = lo
theorem NT.of {l : Launch} {G : va_G} {cls : Cls} {y : MethodName} {own : String} {b : ByteArray} {n fr mc ms lo h0 : Nat} {e0 : va_E} {as : List Value} {R : va_W → Prop} (hy : plainName y.cls = true) (hown : y.cls = own) (hlen : (lg_sl (.ref h0 :: as)).length ≤ n)
    (body : ∀ (Γ : Cx) (A : Nat → Prop), Γ.1.2.1 = l → Γ.2.2.2.1.sig.returnType = none → (y.name = "<init>" → Γ.2.2.2.1.name = "<init>") → CN Γ G cls A b own n fr mc ms lo → WN Γ G A (MQ Γ.2.2.1 (QN G R A) Γ.2.1 Γ.1.2.2.2.2.1 mc ms A) n 0 (lv_args 0 (.ref h0 :: as)) [] [(h0, e0)] 0 0) : NT l G cls y (.code y b n none :: gw) fr mc ms lo h0 e0 as R := by
  intro sz
  refine Met.ofW (cc := b) (maxL := n) (ret := none) hy rfl ?_
  intro p e s m args below meth c s₁ B hml hv
  obtain ⟨rfl, hsz, hP, hK, hn⟩ := hv
  have hts := atoms_spec (ws := .code y b n none :: gw) B.pre
  have hf : s.vm.findClass own = some m.cls := hown ▸ findClass_of_methodNamed B.named
  have hl := lv_entry (.ref h0 :: as) (n := n) hlen
  rw [lg_entry_eq]
  subst hsz
  have hD : va_D (va_A [(h0, e0)] s.heap.size) [(h0, e0)] := by
    refine ⟨fun i j p q h1 h2 e => ?_, fun k q hk => va_A.in hk⟩
    have l1 := (List.getElem?_eq_some_iff.mp h1).1
    have l2 := (List.getElem?_eq_some_iff.mp h2).1
    simp at l1 l2
    omega
  exact body ((p, l, e, rmc fr mc ms lo, s, m), ((Value.ref h0 :: as).toArray, below, meth, c, 0, 0)) (va_A [(h0, e0)] s.heap.size) rfl B.returns (fun h => (name_of_methodNamed B.named B.method).1.trans h) ⟨B.exec, B.bytes, hml, hf, fun w hw => hts w (List.mem_cons_of_mem _ hw), hK, hn, fun q h => Or.inr h, B.notSynchronized, rfl, rfl, rfl, rfl⟩ s.heap [] _ hP hD va_S.rf hl
section NR
variable {Γ : Cx} {G : va_G} {cls : Cls} {A : Nat → Prop} {q : State → Prop} {cc : ByteArray} {own : String} {nL fr mc ms lo pc : Nat} {ls : List (Nat × Value)} {st : List Value} {ws : va_W} {ce sl : Nat}
theorem N_iconst (hC : CN Γ G cls A cc own nL fr mc ms lo) {n : Int} {v : Int32} (hv : Int32.ofInt n = v) (d : decode cc pc = .ok (.iconst n, 1)) (k : WN Γ G A q nL (pc + 1) ls (.int v :: st) ws ce sl) : WN Γ G A q nL pc ls st ws ce sl :=
  fun H locs la hP hD hS hL => lv_iconst hC.1 hC.2.1 d hv (k H locs la hP hD hS hL)
theorem N_bipush (hC : CN Γ G cls A cc own nL fr mc ms lo) {n : Int} {v : Int32} (hv : (Int8.ofInt n).toInt32 = v) (d : decode cc pc = .ok (.bipush n, 2)) (k : WN Γ G A q nL (pc + 2) ls (.int v :: st) ws ce sl) : WN Γ G A q nL pc ls st ws ce sl :=
  fun H locs la hP hD hS hL => lv_bipush hC.1 hC.2.1 d hv (k H locs la hP hD hS hL)
theorem N_sipush (hC : CN Γ G cls A cc own nL fr mc ms lo) {n : Int} {v : Int32} (hv : (Int16.ofInt n).toInt32 = v) (d : decode cc pc = .ok (.sipush n, 3)) (k : WN Γ G A q nL (pc + 3) ls (.int v :: st) ws ce sl) : WN Γ G A q nL pc ls st ws ce sl :=
  fun H locs la hP hD hS hL => lv_sipush hC.1 hC.2.1 d hv (k H locs la hP hD hS hL)
theorem N_iload_n (hC : CN Γ G cls A cc own nL fr mc ms lo) {i : Fin 4} {x : Int32} (j : Nat) (hj : ls[j]? = some ((i : Nat), .int x)) (d : decode cc pc = .ok (.iload_n i, 1)) (k : WN Γ G A q nL (pc + 1) ls (.int x :: st) ws ce sl) : WN Γ G A q nL pc ls st ws ce sl :=
  fun H locs la hP hD hS hL => lv_iload_n hC.1 hC.2.1 d rfl (lv_at hL j hj) (k H locs la hP hD hS hL)
theorem N_aload_n (hC : CN Γ G cls A cc own nL fr mc ms lo) {i : Fin 4} {x : Nat} (j : Nat) (hj : ls[j]? = some ((i : Nat), .ref x)) (d : decode cc pc = .ok (.aload_n i, 1)) (k : WN Γ G A q nL (pc + 1) ls (.ref x :: st) ws ce sl) : WN Γ G A q nL pc ls st ws ce sl :=
  fun H locs la hP hD hS hL => lv_aload_n hC.1 hC.2.1 d rfl (lv_at hL j hj) (k H locs la hP hD hS hL)
theorem N_istore_n (hC : CN Γ G cls A cc own nL fr mc ms lo) {i : Fin 4} {x : Int32} {ls' : List (Nat × Value)} (d : decode cc pc = .ok (.istore_n i, 1)) (hn : (i : Nat) < nL) (hl : ((i : Nat), Value.int x) :: ls.filter (fun q => !(q.1 == (i : Nat)) && !(q.1 + 1 == (i : Nat) && q.2.category == 2)) = ls') (k : WN Γ G A q nL (pc + 1) ls' st ws ce sl) : WN Γ G A q nL pc ls (.int x :: st) ws ce sl :=
  fun H locs la hP hD hS hL => lv_istore_n hC.1 hC.2.1 d rfl hL hn hl (fun la' hL' => k H locs la' hP hD hS hL')
theorem N_iinc (hC : CN Γ G cls A cc own nL fr mc ms lo) {i : Nat} {n : Int} {x v : Int32} {ls' : List (Nat × Value)} (j : Nat) (d : decode cc pc = .ok (.iinc i n, 3)) (hj : ls[j]? = some (i, .int x)) (hv : x + Int32.ofInt n = v) (hn : i < nL) (hl : (i, Value.int v) :: ls.filter (fun q => !(q.1 == i) && !(q.1 + 1 == i && q.2.category == 2)) = ls') (k : WN Γ G A q nL (pc + 3) ls' st ws ce sl) : WN Γ G A q nL pc ls st ws ce sl :=
  fun H locs la hP hD hS hL => lv_iinc hC.1 hC.2.1 d hL hj hv hn hl (fun la' hL' => k H locs la' hP hD hS hL')
theorem N_imul (hC : CN Γ G cls A cc own nL fr mc ms lo) {x y : Int32} (d : decode cc pc = .ok (.imul, 1)) (k : WN Γ G A q nL (pc + 1) ls (.int (x * y) :: st) ws ce sl) : WN Γ G A q nL pc ls (.int y :: .int x :: st) ws ce sl :=
  fun H locs la hP hD hS hL => lv_imul hC.1 hC.2.1 d (k H locs la hP hD hS hL)
theorem N_dup (hC : CN Γ G cls A cc own nL fr mc ms lo) {v : Value} (hv : v.category = 1) (d : decode cc pc = .ok (.dup, 1)) (k : WN Γ G A q nL (pc + 1) ls (v :: v :: st) ws ce sl) : WN Γ G A q nL pc ls (v :: st) ws ce sl :=
  fun H locs la hP hD hS hL => lv_dup hC.1 hC.2.1 d hv (k H locs la hP hD hS hL)
theorem N_goto (hC : CN Γ G cls A cc own nL fr mc ms lo) {off : Int} (tgt : Nat) (d : decode cc pc = .ok (.goto off, 3)) (ht : (pc : Int) + off = (tgt : Int)) (k : WN Γ G A q nL tgt ls st ws ce sl) : WN Γ G A q nL pc ls st ws ce sl :=
  fun H locs la hP hD hS hL => lv_goto hC.1 hC.2.1 d ht (k H locs la hP hD hS hL)
theorem N_icmp_ge (hC : CN Γ G cls A cc own nL fr mc ms lo) {x y : Int32} {off : Int} (tgt : Nat) (d : decode cc pc = .ok (.if_icmp .ge off, 3)) (ht : (pc : Int) + off = (tgt : Int)) (kt : y ≤ x → WN Γ G A q nL tgt ls st ws ce sl) (kf : ¬ y ≤ x → WN Γ G A q nL (pc + 3) ls st ws ce sl) : WN Γ G A q nL pc ls (.int y :: .int x :: st) ws ce sl :=
  fun H locs la hP hD hS hL => lv_icmp_ge hC.1 hC.2.1 d ht (fun h => kt h H locs la hP hD hS hL) (fun h => kf h H locs la hP hD hS hL)
theorem N_mmax (hC : CN Γ G cls A cc own nL fr mc ms lo) {idx : Nat} {x y : Int32} (w1 : Cond.methodLink own idx Lib.Math.max.name ∈ gw) (w2 : Cond.static Lib.Math.max.name ∈ gw) (w3 : Cond.initialized "java/lang/Math" ∈ gw) (w4 : Cond.code Lib.Math.max.name Lib.Math.max.code 2 (some .int) ∈ gw) (hfr : 1 ≤ fr) (hlo : (st.map fun v => v.category).sum + 13 ≤ lo) (he : ce ≤ mc ∧ sl ≤ ms) (d : decode cc pc = .ok (.invokestatic idx, 3)) (k : WN Γ G A q nL (pc + 3) ls (.int (if x < y then y else x) :: st) ws ce sl) : WN Γ G A q nL pc ls (.int y :: .int x :: st) ws ce sl := by
  intro H locs la hP hD hS hL
  have hts := hC.2.2.2.2.1
  obtain ⟨-, -, -, -, -, -, -, -, -, e1, e2, e3, e4⟩ := id hC
  exact va_mmax hC.1 hC.2.1 (by rw [hC.2.2.1]; exact hL.1.symm) hC.2.2.2.1 (hts _ w1) (hts _ w2) (hts _ w3) (hts _ w4) (by rw [e1]; exact hfr) (by rw [e4]; exact hlo) (by rw [e2]; exact he.1) (by rw [e3]; exact he.2) d (k H locs la hP hD hS hL)
theorem N_getf (hC : CN Γ G cls A cc own nL fr mc ms lo) {C : String} {T : u_T} {N ci idx q0 b : Nat} {fs : List Value} {v : Value} (kf : Nat) (hw : ws[q0]? = some (b, .inr (ci, fs))) (hc : vwCl[ci]? = some (C, T, N)) (hin : ∀ w ∈ u_ws C T N, w ∈ gw) (hk : kf < N) (hl : Cond.fieldLink own idx C (T kf).2.1 (T kf).2.2.1 ∈ gw) (hT : (T kf).1 = C) (hv : fs[kf]? = some v) (d : decode cc pc = .ok (.getfield idx, 3)) (k : WN Γ G A q nL (pc + 3) ls (v :: st) ws ce sl) : WN Γ G A q nL pc ls (.ref b :: st) ws ce sl :=
  fun H locs la hP hD hS hL => va_get hC.1 hC.2.1 (fun w hw => hC.2.2.2.2.1 w hw) hin hC.2.2.2.1 hC.2.2.2.2.2.1 hP q0 hw hc kf hk (hC.2.2.2.2.1 _ hl) (fun _ h => by rw [← hT]; exact h) hv d (k H locs la hP hD hS hL)
theorem N_putf (hC : CN Γ G cls A cc own nL fr mc ms lo) {C : String} {T : u_T} {N ci idx q0 b : Nat} {fs : List Value} {v : Value} {ty0 : Nat → FieldType} {ty : FieldType} (ws' : va_W) (kf : Nat) (hw : ws[q0]? = some (b, .inr (ci, fs))) (hc : vwCl[ci]? = some (C, T, N)) (hin : ∀ w ∈ u_ws C T N, w ∈ gw) (hty : ∀ k, k < N → parseFieldDescriptor (T k).2.2.1 = some (ty0 k)) (hnm : ∀ a, a < N → ∀ b, b < N → a ≠ b → (T a).2.1 ≠ (T b).2.1) (hk : kf < N) (hl : Cond.fieldLink own idx C (T kf).2.1 (T kf).2.2.1 ∈ gw) (hT : (T kf).1 = C) (hfin : (T kf).2.2.2 = false) (hd : parseFieldDescriptor (T kf).2.2.1 = some ty) (hn : narrow ty v = v) (hfit : fits ty v = true) (hlen : kf < fs.length) (hs : ws.set q0 (b, .inr (ci, fs.set kf v)) = ws') (d : decode cc pc = .ok (.putfield idx, 3)) (k : WN Γ G A q nL (pc + 3) ls st ws' ce sl) : WN Γ G A q nL pc ls (v :: .ref b :: st) ws ce sl :=
  fun H locs la hP hD hS hL => va_put hC.1 hC.2.1 (fun w hw => hC.2.2.2.2.1 w hw) hin ty0 hty hnm hC.2.2.2.1 hC.2.2.2.2.2.1 hP hD hS q0 hw hc kf hk (hC.2.2.2.2.1 _ hl) (fun _ h => by rw [← hT]; exact h) hfin hd hn hfit hlen d (fun H1 locs1 hP1 hD1 hS1 => k H1 locs1 la (hs ▸ hP1) (hs ▸ hD1) hS1 hL)
theorem N_putF (hC : CN Γ G cls A cc own nL fr mc ms lo) (hini : Γ.2.2.2.1.name = "<init>") {T : u_T} {N ci idx q0 b : Nat} {fs : List Value} {v : Value} {ty0 : Nat → FieldType} {ty : FieldType} (ws' : va_W) (kf : Nat) (hw : ws[q0]? = some (b, .inr (ci, fs))) (hc : vwCl[ci]? = some (own, T, N)) (hin : ∀ w ∈ u_ws own T N, w ∈ gw) (hty : ∀ k, k < N → parseFieldDescriptor (T k).2.2.1 = some (ty0 k)) (hnm : ∀ a, a < N → ∀ b, b < N → a ≠ b → (T a).2.1 ≠ (T b).2.1) (hk : kf < N) (hl : Cond.fieldLink own idx own (T kf).2.1 (T kf).2.2.1 ∈ gw) (hT : (T kf).1 = own) (hfin : (T kf).2.2.2 = true) (hd : parseFieldDescriptor (T kf).2.2.1 = some ty) (hn : narrow ty v = v) (hfit : fits ty v = true) (hlen : kf < fs.length) (hs : ws.set q0 (b, .inr (ci, fs.set kf v)) = ws') (d : decode cc pc = .ok (.putfield idx, 3)) (k : WN Γ G A q nL (pc + 3) ls st ws' ce sl) : WN Γ G A q nL pc ls (v :: .ref b :: st) ws ce sl :=
  fun H locs la hP hD hS hL => va_putF hC.1 hC.2.1 (fun w hw => hC.2.2.2.2.1 w hw) hin ty0 hty hnm hC.2.2.2.1 hC.2.2.2.2.2.1 hP hD hS q0 hw hc kf hk (hC.2.2.2.2.1 _ hl) (fun _ h => by rw [← hT]; exact h) hfin hini hT hd hn hfit hlen d (fun H1 locs1 hP1 hD1 hS1 => k H1 locs1 la (hs ▸ hP1) (hs ▸ hD1) hS1 hL)
theorem N_alen (hC : CN Γ G cls A cc own nL fr mc ms lo) {q0 t0 b : Nat} {cA : ClassId} {x : vp_A} {ty : FieldType} (hw : ws[q0]? = some (b, .inl (cA, x))) (ht : (tyO cls)[t0]? = some (cA, ty)) {v : Int32} (hv : Int32.ofNat x.1 = v) (d : decode cc pc = .ok (.arraylength, 1)) (k : WN Γ G A q nL (pc + 1) ls (.int v :: st) ws ce sl) : WN Γ G A q nL pc ls (.ref b :: st) ws ce sl :=
  fun H locs la hP hD hS hL => va_alen hC.1 hC.2.1 hC.2.2.2.2.2.1 hP q0 t0 hw ht hv d (k H locs la hP hD hS hL)
theorem N_aast (hC : CN Γ G cls A cc own nL fr mc ms lo) {q0 qk ci b v n : Nat} {cA : ClassId} {r : vw_C} {vs : List Value} {f : Nat → Option Nat} {i : Int32} (ws' : va_W) (t0 : Nat) (hw : ws[q0]? = some (b, .inl (cA, n, .inr (.inr (.inr (.inr f)))))) (ht : (tyO cls)[t0]? = some (cA, .object r.1)) (hv : ws[qk]? = some (v, .inr (ci, vs))) (hc : vwCl[ci]? = some r) (hin : inb i n = true) (hs : ws.set q0 (b, .inl (cA, n, .inr (.inr (.inr (.inr (va_up f (ix i) (some v))))))) = ws') (d : decode cc pc = .ok (.aastore, 1)) (k : WN Γ G A q nL (pc + 1) ls st ws' ce sl) : WN Γ G A q nL pc ls (.ref v :: .int i :: .ref b :: st) ws ce sl :=
  fun H locs la hP hD hS hL => va_astq hC.1 hC.2.1 hC.2.2.2.2.2.1 hP hD hS q0 t0 qk ci hw ht hv hc (inb_in hin) d (fun H1 locs1 hP1 hD1 hS1 => k H1 locs1 la (hs ▸ hP1) (hs ▸ hD1) hS1 hL)
theorem N_new (hC : CN Γ G cls A cc own nL fr mc ms lo) {C : String} {T : u_T} {N ci idx : Nat} {ty : Nat → FieldType} {fs : List Value} (hin : ∀ w ∈ u_ws C T N, w ∈ gw) (hty : ∀ k, k < N → parseFieldDescriptor (T k).2.2.1 = some (ty k)) (w1 : Cond.classLink own idx C ∈ gw) (w2 : Cond.instantiable C N ∈ gw) (w3 : Cond.initialized C ∈ gw) (hc : vwCl[ci]? = some (C, T, N)) (hfs : ∀ j, j < N → defaultValue (ty j) = vp_V fs j) (he : ce + 1 ≤ mc ∧ sl + N ≤ ms) (d : decode cc pc = .ok (.new idx, 3)) (k : ∀ b : Nat, WN Γ G A q nL (pc + 3) ls (.ref b :: st) (ws ++ [(b, .inr (ci, fs))]) (ce + 1) (sl + N)) : WN Γ G A q nL pc ls st ws ce sl := by
  intro H locs la hP hD hS hL
  have hts := hC.2.2.2.2.1
  obtain ⟨-, -, -, -, -, -, -, hA, -, e1, e2, e3, e4⟩ := id hC
  exact va_new hC.1 hC.2.1 hts hin ty hty hC.2.2.2.1 (hts _ w1) (hts _ w2) (hts _ w3) hC.2.2.2.2.2.1 hP hD hS hA hc hfs (by rw [e2]; exact he.1) (by rw [e3]; exact he.2) d (fun b H1 hP1 hD1 hS1 => k b H1 locs la hP1 hD1 hS1 hL)
theorem ra_int {s : State} {c1 c2 : ClassId} {ty : FieldType} (hty : ty = .int ∨ ty = .char) (h1 : va_RA s c1 ty) (h2 : va_RA s c2 ty) : c1 = c2 := by
  rcases hty with rfl | rfl
  · exact Option.some.inj (Eq.trans (Eq.symm (show s.vm.findClass _ = some c1 from h1)) (show s.vm.findClass _ = some c2 from h2))
  · exact Option.some.inj (Eq.trans (Eq.symm (show s.vm.findClass _ = some c1 from h1)) (show s.vm.findClass _ = some c2 from h2))
theorem N_newi (hC : CN Γ G cls A cc own nL fr mc ms lo) {n : Int32} {N : Nat} (w1 : Cond.arrayClass .int ∈ gw) (hn : inb n (N + 1) = true) (hN : ix n = N) (hb : N * 4 ≤ 536870912) (he : ce + 1 ≤ mc ∧ sl + N ≤ ms) (d : decode cc pc = .ok (.newarray .int, 2)) (k : ∀ b : Nat, WN Γ G A q nL (pc + 2) ls (.ref b :: st) (ws ++ [(b, .inl (cls.1, N, .inl (fun _ => 0)))]) (ce + 1) (sl + N)) : WN Γ G A q nL pc ls (.int n :: st) ws ce sl := by
  intro H locs la hP hD hS hL
  have hts := hC.2.2.2.2.1
  obtain ⟨-, -, -, -, -, hK, -, hA, -, e1, e2, e3, e4⟩ := id hC
  have hn0 : ¬ n < 0 := Int32.not_lt.mpr (of_decide_eq_true hn).1
  refine va_newa (atype := .int) (ty := .int) (a0 := (N, .inl (fun _ => 0))) (N' := N) hC.1 hC.2.1 (hts _ w1) rfl hK hP hD hS hA (fun _ => rfl) hn0 hN hb (by rw [e2]; exact he.1) (by rw [e3]; exact he.2) d (fun b cA H1 hK1 hP1 hD1 hS1 => ?_)
  have hc : cA = cls.1 := ra_int (Or.inl rfl) (hK1.2 3 (cA, .int) rfl).2 (hK.2 0 (cls.1, .int) rfl).2
  subst hc
  exact k b H1 locs la hP1 hD1 hS1 hL
theorem N_newc (hC : CN Γ G cls A cc own nL fr mc ms lo) {n : Int32} {N : Nat} (w1 : Cond.arrayClass .char ∈ gw) (hn : inb n (N + 1) = true) (hN : ix n = N) (hb : N * 2 ≤ 536870912) (he : ce + 1 ≤ mc ∧ sl + N ≤ ms) (d : decode cc pc = .ok (.newarray .char, 2)) (k : ∀ b : Nat, WN Γ G A q nL (pc + 2) ls (.ref b :: st) (ws ++ [(b, .inl (cls.2.1, N, .inl (fun _ => 0)))]) (ce + 1) (sl + N)) : WN Γ G A q nL pc ls (.int n :: st) ws ce sl := by
  intro H locs la hP hD hS hL
  have hts := hC.2.2.2.2.1
  obtain ⟨-, -, -, -, -, hK, -, hA, -, e1, e2, e3, e4⟩ := id hC
  have hn0 : ¬ n < 0 := Int32.not_lt.mpr (of_decide_eq_true hn).1
  refine va_newa (atype := .char) (ty := .char) (a0 := (N, .inl (fun _ => 0))) (N' := N) hC.1 hC.2.1 (hts _ w1) rfl hK hP hD hS hA (fun _ => rfl) hn0 hN hb (by rw [e2]; exact he.1) (by rw [e3]; exact he.2) d (fun b cA H1 hK1 hP1 hD1 hS1 => ?_)
  have hc : cA = cls.2.1 := ra_int (Or.inr rfl) (hK1.2 3 (cA, .char) rfl).2 (hK.2 1 (cls.2.1, .char) rfl).2
  subst hc
  exact k b H1 locs la hP1 hD1 hS1 hL
theorem N_newq (hC : CN Γ G cls A cc own nL fr mc ms lo) {idx : Nat} {n : Int32} {N : Nat} (w1 : Cond.classLink own idx RX2 ∈ gw) (hn : inb n (N + 1) = true) (hN : ix n = N) (hb : N * 4 ≤ 536870912) (he : ce + 1 ≤ mc ∧ sl + N ≤ ms) (d : decode cc pc = .ok (.anewarray idx, 3)) (k : ∀ b : Nat, WN Γ G A q nL (pc + 3) ls (.ref b :: st) (ws ++ [(b, .inl (cls.2.2, N, .inr (.inr (.inr (.inr (fun _ => none))))))]) (ce + 1) (sl + N)) : WN Γ G A q nL pc ls (.int n :: st) ws ce sl := by
  intro H locs la hP hD hS hL
  have hts := hC.2.2.2.2.1
  obtain ⟨-, -, -, -, -, hK, hNC, hA, -, e1, e2, e3, e4⟩ := id hC
  have hn0 : ¬ n < 0 := Int32.not_lt.mpr (of_decide_eq_true hn).1
  refine va_newq (N' := N) hC.1 hC.2.1 hC.2.2.2.1 (hts _ w1) hNC.2.2.2 hK hP hD hS hA hn0 hN hb (by rw [e2]; exact he.1) (by rw [e3]; exact he.2) d (fun b cA H1 hK1 hP1 hD1 hS1 => ?_)
  have hc : cA = cls.2.2 := by
    obtain ⟨_, _, _, _, _, h1⟩ := (hK1.2 3 (cA, .object RX2) rfl).2
    obtain ⟨_, _, _, _, _, h2⟩ := (hK.2 2 (cls.2.2, .object RX2) rfl).2
    exact Option.some.inj (h1.symm.trans h2)
  subst hc
  exact k b H1 locs la hP1 hD1 hS1 hL
theorem N_objInit (hC : CN Γ G cls A cc own nL fr mc ms lo) {idx b : Nat} (w1 : Cond.methodLink own idx Lib.objectInit ∈ gw) (w2 : Cond.instanceMethod Lib.objectInit ∈ gw) (w3 : Cond.code Lib.objectInit ⟨#[0xb1]⟩ 1 none ∈ gw) (hfr : 1 ≤ fr) (hlo : (st.map fun v => v.category).sum + 12 ≤ lo) (d : decode cc pc = .ok (.invokespecial idx, 3)) (k : WN Γ G A q nL (pc + 3) ls st ws ce sl) : WN Γ G A q nL pc ls (.ref b :: st) ws ce sl := by
  intro H locs la hP hD hS hL
  have hts := hC.2.2.2.2.1
  obtain ⟨-, -, hml, -, -, -, -, -, -, e1, e2, e3, e4⟩ := id hC
  refine W.objInit hC.1 hC.2.1 hC.2.2.2.1 (hts _ w1) (hts _ w2) (hts _ w3) rfl (by rw [hml]; exact hL.1) rfl d (by rw [e1]; exact hfr) (by rw [e4]; show 2 * 0 + _ + 12 ≤ _; omega) ?_
  exact k H locs la hP hD hS hL
end NR
