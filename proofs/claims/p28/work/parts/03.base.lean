/-! BASE: a judgement over pure states. A system's whole heap is a list of cells that a pure state tells ('wf'); WX: from this place, locals, stack and pure state the machine comes to what the pure outcome o says (none: nothing is said). -/
abbrev Sg : Type := (Nat → Int32) × (Nat → Nat → Int32)
def gw : List Cond := lw_tbl.filter goodWord
theorem gw_in {w : Cond} (h : w ∈ lw_tbl) (g : goodWord w = true) : w ∈ gw := List.mem_filter.mpr ⟨h, g⟩
theorem gw_good {w : Cond} (h : w ∈ gw) : (w.onTables && w.keeps) = true ∨ ∃ ty, w = .arrayClass ty := good_of_word (List.mem_filter.mp h).2
theorem gw_tab {i : Nat} {w : Cond} (h : tables_1[i]? = some w) (g : goodWord w = true) : w ∈ gw := gw_in (List.mem_append_right _ (List.mem_of_getElem? h)) g
theorem gw_sel {i : Nat} {w : Cond} (h : (k2_sels lw_privs)[i]? = some w) (g : goodWord w = true) : w ∈ gw := gw_in (List.mem_append_left _ (List.mem_of_getElem? h)) g
def rmk (fr lo : Nat) : Room := { frames := fr, cells := 0, slots := 0, locals := lo }
def nests (U : State) : Prop := va_Nw (.methodLinkNest RX2 42 yX4_outside RX4) U ∧ va_Nw (.methodLinkNest RX2 49 yX4_trapBit RX4) U ∧ va_Nw (.methodLinkNest RX2 53 yX4_has RX4) U ∧ va_Nw (.methodLinkNest RX2 60 yX4_quotient RX4) U ∧ va_Nw (.methodLinkNest RX2 63 yX4_nearestFraction RX4) U
theorem nests.warm {s U : State} (hW : s.WarmedH U.vm) (h : nests s) : nests U := ⟨h.1.warmM hW, h.2.1.warmM hW, h.2.2.1.warmM hW, h.2.2.2.1.warmM hW, h.2.2.2.2.warmM hW⟩
theorem nests.same {u U : State} (hv : u.vm = U.vm) (h : nests u) : nests U := ⟨h.1.same rfl hv, h.2.1.same rfl hv, h.2.2.1.same rfl hv, h.2.2.2.1.same rfl hv, h.2.2.2.2.same rfl hv⟩
/-- a system: the numbers of its classes and slots, its world by its pure state, its addresses, its array classes -/
abbrev Sys (τ : Type) : Type := va_G × (τ → va_W) × (Nat → Prop) × List (ClassId × FieldType)
/-- a method's frame of reference -/
abbrev Cx : Type := (Program × Launch × Env × Room × State × MethodId) × (Array Value × List Frame × Method × Code × Nat × Nat)
section BASE
variable {τ α β : Type}
def PX (Y : Sys τ) (σ : τ) (U : State) : Prop := va_P Y.1 vwCl (Y.2.1 σ) U.heap ∧ va_K Y.1 vwCl Y.2.2.2 U ∧ nests U
def QX (Y : Sys τ) (r : Option Value × τ) : Array Value → State → Outcome → State → Prop := fun _ st oc t => oc = .returned r.1 ∧ PX Y r.2 t ∧ va_F Y.2.2.1 st t
def MT (l : Launch) (Y : Sys τ) (y : MethodName) (ws : List Cond) (fr lo : Nat) (argv : List Value) (fin : α → Option Value × τ) (σ : τ) (o : Option α) : Prop :=
  ∀ a, o = some a → Met l y ws (rmk fr lo) (va_Pc argv (PX Y σ)) (QX Y (fin a)) 0 0 Y.2.2.1
def WX (Γ : Cx) (Y : Sys τ) (q : α → State → Prop) (nL : Nat) (pc : Nat) (ls : List (Nat × Value)) (st : List Value) (σ : τ) (o : Option α) : Prop :=
  ∀ a, o = some a → ∀ (H : Heap) (locs : List Loc) (la : Array Slot), va_P Y.1 vwCl (Y.2.1 σ) H → va_S Y.2.2.1 Γ.1.2.2.2.2.1.heap H locs → lv_has la nL ls →
    W Γ.1.1 Γ.1.2.1 Γ.1.2.2.1 Γ.1.2.2.2.1 Γ.1.2.2.2.2.1 Γ.1.2.2.2.2.2 Γ.2.1 Γ.2.2.1 Γ.2.2.2.1 Γ.2.2.2.2.1 H locs Γ.2.2.2.2.2.1 Γ.2.2.2.2.2.2 (q a) (F0 Γ.1.2.2.2.2.2 pc la st)
def qf (Γ : Cx) (Y : Sys τ) (fin : α → Option Value × τ) : α → State → Prop := fun a => MQ Γ.2.2.1 (QX Y (fin a)) Γ.2.1 Γ.1.2.2.2.2.1 0 0 Y.2.2.1
def CX (Γ : Cx) (Y : Sys τ) (cc : ByteArray) (own : String) (nL : Nat) (ret : Option FieldType) (fr lo : Nat) : Prop :=
  Γ.1.1.tables.exec = Jvm.exec ∧ Γ.2.2.2.2.1.code = cc ∧ Γ.2.2.2.2.1.maxLocals = nL ∧ Γ.1.2.2.2.2.1.vm.findClass own = some Γ.1.2.2.2.2.2.cls ∧ (∀ w ∈ gw, w.before Γ.2.1 Γ.1.2.2.2.2.1 = true) ∧
  va_K Y.1 vwCl Y.2.2.2 Γ.1.2.2.2.2.1 ∧ nests Γ.1.2.2.2.2.1 ∧ (∀ σ, va_D Y.2.2.1 (Y.2.1 σ)) ∧ Γ.2.2.2.1.locks = false ∧ Γ.2.2.2.1.sig.returnType = ret ∧ Γ.1.2.2.2.1.frames = fr ∧ Γ.1.2.2.2.1.locals = lo ∧ Γ.2.2.2.2.2.1 ≤ Γ.1.2.2.2.1.cells ∧ Γ.2.2.2.2.2.2 ≤ Γ.1.2.2.2.1.slots
/-- a contract out of a walk -/
theorem MT.of {l : Launch} {Y : Sys τ} {y : MethodName} {own : String} {b : ByteArray} {n : Nat} {ret : Option FieldType} {fr lo : Nat} {argv : List Value} {fin : α → Option Value × τ} {σ : τ} {o : Option α} (hy : plainName y.cls = true) (hD : ∀ σ, va_D Y.2.2.1 (Y.2.1 σ)) (hown : y.cls = own) (hlen : (lg_sl argv).length ≤ n)
    (body : ∀ Γ : Cx, Γ.1.2.1 = l → Γ.2.2.2.2.2.1 = 0 → Γ.2.2.2.2.2.2 = 0 → CX Γ Y b own n ret fr lo → WX Γ Y (qf Γ Y fin) n 0 (lv_args 0 argv) [] σ o) : MT l Y y (.code y b n ret :: gw) fr lo argv fin σ o := by
  intro a ha
  refine Met.ofW (cc := b) (maxL := n) (ret := ret) hy rfl ?_
  intro p e s m args below meth c s₁ B hml hv
  obtain ⟨rfl, hP, hK, hn⟩ := hv
  have hts := atoms_spec (ws := .code y b n ret :: gw) B.pre
  have hf : s.vm.findClass own = some m.cls := hown ▸ findClass_of_methodNamed B.named
  have hl := lv_entry argv (n := n) hlen
  rw [lg_entry_eq]
  exact body ((p, l, e, rmk fr lo, s, m), (argv.toArray, below, meth, c, 0, 0)) rfl rfl rfl ⟨B.exec, B.bytes, hml, hf, fun w hw => hts w (List.mem_cons_of_mem _ hw), hK, hn, hD, B.notSynchronized, B.returns, rfl, rfl, Nat.le_refl 0, Nat.le_refl 0⟩ a ha s.heap [] _ hP va_S.rf hl
end BASE
