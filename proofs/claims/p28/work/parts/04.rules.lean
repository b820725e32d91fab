/-! RULES: an instruction, a rule, over pure states. -/
def gd {α : Type} (b : Bool) (o : Option α) : Option α := if b = true then o else none
def lt {α : Type} (e : Int32) (k : Int32 → Option α) : Option α := k e
def inb (i : Int32) (n : Nat) : Bool := decide (0 ≤ i ∧ i.toNatClampNeg < n)
abbrev ix (i : Int32) : Nat := i.toNatClampNeg
theorem inb_in {i : Int32} {n : Nat} (h : inb i n = true) : vp_in i n := by
  have h2 := of_decide_eq_true h
  intro q
  rcases q with q | q
  · exact absurd q (Int32.not_lt.mpr h2.1)
  · omega
def isch (v : Int32) : Bool := decide ((v.toUInt32 % 65536).toInt32 = v)
def isz (v : Int32) : Bool := decide (v = 0 ∨ v = 1)
section RULES
variable {τ α : Type} {Γ : Cx} {Y : Sys τ} {q : α → State → Prop} {cc : ByteArray} {own : String} {nL : Nat} {ret : Option FieldType} {fr lo : Nat} {pc : Nat} {ls : List (Nat × Value)} {st : List Value} {σ : τ} {o : Option α}
theorem X_none : WX Γ Y q nL pc ls st σ none := fun _ h => by cases h
theorem X_gd {b : Bool} (k : b = true → WX Γ Y q nL pc ls st σ o) : WX Γ Y q nL pc ls st σ (gd b o) := by
  intro a ha
  unfold gd at ha
  by_cases hb : b = true
  · rw [if_pos hb] at ha
    exact k hb a ha
  · rw [if_neg hb] at ha
    cases ha
theorem X_ite {c : Prop} [inst : Decidable c] {o1 o2 : Option α} (kt : c → WX Γ Y q nL pc ls st σ o1) (kf : ¬ c → WX Γ Y q nL pc ls st σ o2) : WX Γ Y q nL pc ls st σ (if c then o1 else o2) := by
  intro a ha
  by_cases hc : c
  · rw [if_pos hc] at ha
    exact kt hc a ha
  · rw [if_neg hc] at ha
    exact kf hc a ha
theorem X_lt {e : Int32} {f : Int32 → Option α} (k : ∀ x : Int32, WX Γ Y q nL pc ls (.int x :: st) σ (f x)) : WX Γ Y q nL pc ls (.int e :: st) σ (lt e f) := k e
theorem X_sub {ls' : List (Nat × Value)} (ks : List Nat) (hl : lv_pick ls ks = ls') (k : WX Γ Y q nL pc ls' st σ o) : WX Γ Y q nL pc ls st σ o := fun a ha H locs la hP hS hL => k a ha H locs la hP hS (lv_sub hL ks hl)
theorem X_iconst (hC : CX Γ Y cc own nL ret fr lo) {n : Int} {v : Int32} (hv : Int32.ofInt n = v) (d : decode cc pc = .ok (.iconst n, 1)) (k : WX Γ Y q nL (pc + 1) ls (.int v :: st) σ o) : WX Γ Y q nL pc ls (st) σ o :=
  fun a ha H locs la hP hS hL => lv_iconst hC.1 hC.2.1 d hv (k a ha H locs la hP hS hL)
theorem X_bipush (hC : CX Γ Y cc own nL ret fr lo) {n : Int} {v : Int32} (hv : (Int8.ofInt n).toInt32 = v) (d : decode cc pc = .ok (.bipush n, 2)) (k : WX Γ Y q nL (pc + 2) ls (.int v :: st) σ o) : WX Γ Y q nL pc ls (st) σ o :=
  fun a ha H locs la hP hS hL => lv_bipush hC.1 hC.2.1 d hv (k a ha H locs la hP hS hL)
theorem X_sipush (hC : CX Γ Y cc own nL ret fr lo) {n : Int} {v : Int32} (hv : (Int16.ofInt n).toInt32 = v) (d : decode cc pc = .ok (.sipush n, 3)) (k : WX Γ Y q nL (pc + 3) ls (.int v :: st) σ o) : WX Γ Y q nL pc ls (st) σ o :=
  fun a ha H locs la hP hS hL => lv_sipush hC.1 hC.2.1 d hv (k a ha H locs la hP hS hL)
theorem X_ldc (hC : CX Γ Y cc own nL ret fr lo) {idx : Nat} {v : Int32} (w : Cond.constant own idx v ∈ gw) (d : decode cc pc = .ok (.ldc idx, 2)) (k : WX Γ Y q nL (pc + 2) ls (.int v :: st) σ o) : WX Γ Y q nL pc ls (st) σ o :=
  fun a ha H locs la hP hS hL => lv_ldc hC.1 hC.2.1 hC.2.2.2.1 (hC.2.2.2.2.1 _ w) d (k a ha H locs la hP hS hL)
theorem X_ldcw (hC : CX Γ Y cc own nL ret fr lo) {idx : Nat} {v : Int32} (w : Cond.constant own idx v ∈ gw) (d : decode cc pc = .ok (.ldc_w idx, 3)) (k : WX Γ Y q nL (pc + 3) ls (.int v :: st) σ o) : WX Γ Y q nL pc ls (st) σ o :=
  fun a ha H locs la hP hS hL => lv_ldcw hC.1 hC.2.1 hC.2.2.2.1 (hC.2.2.2.2.1 _ w) d (k a ha H locs la hP hS hL)
theorem X_iload_n (hC : CX Γ Y cc own nL ret fr lo) {i : Fin 4} {x : Int32} (j : Nat) (hj : ls[j]? = some ((i : Nat), .int x)) (d : decode cc pc = .ok (.iload_n i, 1)) (k : WX Γ Y q nL (pc + 1) ls (.int x :: st) σ o) : WX Γ Y q nL pc ls (st) σ o :=
  fun a ha H locs la hP hS hL => lv_iload_n hC.1 hC.2.1 d rfl (lv_at hL j hj) (k a ha H locs la hP hS hL)
theorem X_aload_n (hC : CX Γ Y cc own nL ret fr lo) {i : Fin 4} {x : Nat} (j : Nat) (hj : ls[j]? = some ((i : Nat), .ref x)) (d : decode cc pc = .ok (.aload_n i, 1)) (k : WX Γ Y q nL (pc + 1) ls (.ref x :: st) σ o) : WX Γ Y q nL pc ls (st) σ o :=
  fun a ha H locs la hP hS hL => lv_aload_n hC.1 hC.2.1 d rfl (lv_at hL j hj) (k a ha H locs la hP hS hL)
theorem X_iload (hC : CX Γ Y cc own nL ret fr lo) {i : Nat} {x : Int32} (j : Nat) (hj : ls[j]? = some (i, .int x)) (d : decode cc pc = .ok (.iload i, 2)) (k : WX Γ Y q nL (pc + 2) ls (.int x :: st) σ o) : WX Γ Y q nL pc ls (st) σ o :=
  fun a ha H locs la hP hS hL => lv_iload hC.1 hC.2.1 d (lv_at hL j hj) (k a ha H locs la hP hS hL)
theorem X_aload (hC : CX Γ Y cc own nL ret fr lo) {i : Nat} {x : Nat} (j : Nat) (hj : ls[j]? = some (i, .ref x)) (d : decode cc pc = .ok (.aload i, 2)) (k : WX Γ Y q nL (pc + 2) ls (.ref x :: st) σ o) : WX Γ Y q nL pc ls (st) σ o :=
  fun a ha H locs la hP hS hL => lv_aload hC.1 hC.2.1 d (lv_at hL j hj) (k a ha H locs la hP hS hL)
theorem X_istore_n (hC : CX Γ Y cc own nL ret fr lo) {i : Fin 4} {x : Int32} {ls' : List (Nat × Value)} (d : decode cc pc = .ok (.istore_n i, 1)) (hn : (i : Nat) < nL) (hl : ((i : Nat), Value.int x) :: ls.filter (fun q => !(q.1 == (i : Nat)) && !(q.1 + 1 == (i : Nat) && q.2.category == 2)) = ls') (k : WX Γ Y q nL (pc + 1) ls' st σ o) : WX Γ Y q nL pc ls (.int x :: st) σ o :=
  fun a ha H locs la hP hS hL => lv_istore_n hC.1 hC.2.1 d rfl hL hn hl (fun la' hL' => k a ha H locs la' hP hS hL')
theorem X_astore_n (hC : CX Γ Y cc own nL ret fr lo) {i : Fin 4} {x : Nat} {ls' : List (Nat × Value)} (d : decode cc pc = .ok (.astore_n i, 1)) (hn : (i : Nat) < nL) (hl : ((i : Nat), Value.ref x) :: ls.filter (fun q => !(q.1 == (i : Nat)) && !(q.1 + 1 == (i : Nat) && q.2.category == 2)) = ls') (k : WX Γ Y q nL (pc + 1) ls' st σ o) : WX Γ Y q nL pc ls (.ref x :: st) σ o :=
  fun a ha H locs la hP hS hL => lv_astore_n hC.1 hC.2.1 d rfl hL hn hl (fun la' hL' => k a ha H locs la' hP hS hL')
theorem X_istore (hC : CX Γ Y cc own nL ret fr lo) {i : Nat} {x : Int32} {ls' : List (Nat × Value)} (d : decode cc pc = .ok (.istore i, 2)) (hn : (i : Nat) < nL) (hl : ((i : Nat), Value.int x) :: ls.filter (fun q => !(q.1 == (i : Nat)) && !(q.1 + 1 == (i : Nat) && q.2.category == 2)) = ls') (k : WX Γ Y q nL (pc + 2) ls' st σ o) : WX Γ Y q nL pc ls (.int x :: st) σ o :=
  fun a ha H locs la hP hS hL => lv_istore hC.1 hC.2.1 d hL hn hl (fun la' hL' => k a ha H locs la' hP hS hL')
theorem X_astore (hC : CX Γ Y cc own nL ret fr lo) {i : Nat} {x : Nat} {ls' : List (Nat × Value)} (d : decode cc pc = .ok (.astore i, 2)) (hn : (i : Nat) < nL) (hl : ((i : Nat), Value.ref x) :: ls.filter (fun q => !(q.1 == (i : Nat)) && !(q.1 + 1 == (i : Nat) && q.2.category == 2)) = ls') (k : WX Γ Y q nL (pc + 2) ls' st σ o) : WX Γ Y q nL pc ls (.ref x :: st) σ o :=
  fun a ha H locs la hP hS hL => lv_astore hC.1 hC.2.1 d hL hn hl (fun la' hL' => k a ha H locs la' hP hS hL')
theorem X_iinc (hC : CX Γ Y cc own nL ret fr lo) {i : Nat} {n : Int} {x w : Int32} {f : Int32 → Option α} {ls' : Int32 → List (Nat × Value)} (j : Nat) (d : decode cc pc = .ok (.iinc i n, 3)) (hj : ls[j]? = some (i, .int x)) (hw : Int32.ofInt n = w) (hn : i < nL) (hl : ∀ y : Int32, (i, Value.int y) :: ls.filter (fun q => !(q.1 == i) && !(q.1 + 1 == i && q.2.category == 2)) = ls' y) (k : ∀ y : Int32, WX Γ Y q nL (pc + 3) (ls' y) st σ (f y)) : WX Γ Y q nL pc ls st σ (lt (x + w) f) :=
  fun a ha H locs la hP hS hL => lv_iinc (v := x + w) hC.1 hC.2.1 d hL hj (by rw [hw]) hn (hl (x + w)) (fun la' hL' => k (x + w) a ha H locs la' hP hS hL')
theorem X_iadd (hC : CX Γ Y cc own nL ret fr lo) {x y : Int32} (d : decode cc pc = .ok (.iadd, 1)) (k : WX Γ Y q nL (pc + 1) ls (.int (x + y) :: st) σ o) : WX Γ Y q nL pc ls (.int y :: .int x :: st) σ o :=
  fun a ha H locs la hP hS hL => lv_iadd hC.1 hC.2.1 d (k a ha H locs la hP hS hL)
theorem X_isub (hC : CX Γ Y cc own nL ret fr lo) {x y : Int32} (d : decode cc pc = .ok (.isub, 1)) (k : WX Γ Y q nL (pc + 1) ls (.int (x - y) :: st) σ o) : WX Γ Y q nL pc ls (.int y :: .int x :: st) σ o :=
  fun a ha H locs la hP hS hL => lv_isub hC.1 hC.2.1 d (k a ha H locs la hP hS hL)
theorem X_imul (hC : CX Γ Y cc own nL ret fr lo) {x y : Int32} (d : decode cc pc = .ok (.imul, 1)) (k : WX Γ Y q nL (pc + 1) ls (.int (x * y) :: st) σ o) : WX Γ Y q nL pc ls (.int y :: .int x :: st) σ o :=
  fun a ha H locs la hP hS hL => lv_imul hC.1 hC.2.1 d (k a ha H locs la hP hS hL)
theorem X_iand (hC : CX Γ Y cc own nL ret fr lo) {x y : Int32} (d : decode cc pc = .ok (.iand, 1)) (k : WX Γ Y q nL (pc + 1) ls (.int (x &&& y) :: st) σ o) : WX Γ Y q nL pc ls (.int y :: .int x :: st) σ o :=
  fun a ha H locs la hP hS hL => lv_iand hC.1 hC.2.1 d (k a ha H locs la hP hS hL)
theorem X_ior (hC : CX Γ Y cc own nL ret fr lo) {x y : Int32} (d : decode cc pc = .ok (.ior, 1)) (k : WX Γ Y q nL (pc + 1) ls (.int (x ||| y) :: st) σ o) : WX Γ Y q nL pc ls (.int y :: .int x :: st) σ o :=
  fun a ha H locs la hP hS hL => lv_ior hC.1 hC.2.1 d (k a ha H locs la hP hS hL)
theorem X_ixor (hC : CX Γ Y cc own nL ret fr lo) {x y : Int32} (d : decode cc pc = .ok (.ixor, 1)) (k : WX Γ Y q nL (pc + 1) ls (.int (x ^^^ y) :: st) σ o) : WX Γ Y q nL pc ls (.int y :: .int x :: st) σ o :=
  fun a ha H locs la hP hS hL => lv_ixor hC.1 hC.2.1 d (k a ha H locs la hP hS hL)
theorem X_ishl (hC : CX Γ Y cc own nL ret fr lo) {x y : Int32} (d : decode cc pc = .ok (.ishl, 1)) (k : WX Γ Y q nL (pc + 1) ls (.int (x <<< (y &&& 31)) :: st) σ o) : WX Γ Y q nL pc ls (.int y :: .int x :: st) σ o :=
  fun a ha H locs la hP hS hL => lv_ishl hC.1 hC.2.1 d (k a ha H locs la hP hS hL)
theorem X_ishr (hC : CX Γ Y cc own nL ret fr lo) {x y : Int32} (d : decode cc pc = .ok (.ishr, 1)) (k : WX Γ Y q nL (pc + 1) ls (.int (x >>> (y &&& 31)) :: st) σ o) : WX Γ Y q nL pc ls (.int y :: .int x :: st) σ o :=
  fun a ha H locs la hP hS hL => lv_ishr hC.1 hC.2.1 d (k a ha H locs la hP hS hL)
theorem X_iushr (hC : CX Γ Y cc own nL ret fr lo) {x y : Int32} (d : decode cc pc = .ok (.iushr, 1)) (k : WX Γ Y q nL (pc + 1) ls (.int ((x.toUInt32 >>> (y.toUInt32 &&& Int32.toUInt32 31)).toInt32) :: st) σ o) : WX Γ Y q nL pc ls (.int y :: .int x :: st) σ o :=
  fun a ha H locs la hP hS hL => lv_iushr hC.1 hC.2.1 d rfl (k a ha H locs la hP hS hL)
theorem X_ineg (hC : CX Γ Y cc own nL ret fr lo) {x : Int32} (d : decode cc pc = .ok (.ineg, 1)) (k : WX Γ Y q nL (pc + 1) ls (.int (-x) :: st) σ o) : WX Γ Y q nL pc ls (.int x :: st) σ o :=
  fun a ha H locs la hP hS hL => lv_ineg hC.1 hC.2.1 d (k a ha H locs la hP hS hL)
theorem X_i2c (hC : CX Γ Y cc own nL ret fr lo) {x : Int32} (d : decode cc pc = .ok (.i2c, 1)) (k : WX Γ Y q nL (pc + 1) ls (.int ((x.toUInt32 % 65536).toInt32) :: st) σ o) : WX Γ Y q nL pc ls (.int x :: st) σ o :=
  fun a ha H locs la hP hS hL => lv_i2c hC.1 hC.2.1 d rfl (k a ha H locs la hP hS hL)
theorem X_idiv (hC : CX Γ Y cc own nL ret fr lo) {x y : Int32} (d : decode cc pc = .ok (.idiv, 1)) (k : WX Γ Y q nL (pc + 1) ls (.int (x / y) :: st) σ o) : WX Γ Y q nL pc ls (.int y :: .int x :: st) σ (gd (y != 0) o) :=
  X_gd fun hy => fun a ha H locs la hP hS hL => lv_idiv hC.1 hC.2.1 d (bne_iff_ne.mp hy) (k a ha H locs la hP hS hL)
theorem X_irem (hC : CX Γ Y cc own nL ret fr lo) {x y : Int32} (d : decode cc pc = .ok (.irem, 1)) (k : WX Γ Y q nL (pc + 1) ls (.int (x - x / y * y) :: st) σ o) : WX Γ Y q nL pc ls (.int y :: .int x :: st) σ (gd (y != 0) o) :=
  X_gd fun hy => fun a ha H locs la hP hS hL => lv_irem hC.1 hC.2.1 d (bne_iff_ne.mp hy) (k a ha H locs la hP hS hL)
theorem X_dup (hC : CX Γ Y cc own nL ret fr lo) {v : Value} (hv : v.category = 1) (d : decode cc pc = .ok (.dup, 1)) (k : WX Γ Y q nL (pc + 1) ls (v :: v :: st) σ o) : WX Γ Y q nL pc ls (v :: st) σ o :=
  fun a ha H locs la hP hS hL => lv_dup hC.1 hC.2.1 d hv (k a ha H locs la hP hS hL)
theorem X_pop (hC : CX Γ Y cc own nL ret fr lo) {v : Value} (hv : v.category = 1) (d : decode cc pc = .ok (.pop, 1)) (k : WX Γ Y q nL (pc + 1) ls (st) σ o) : WX Γ Y q nL pc ls (v :: st) σ o :=
  fun a ha H locs la hP hS hL => lv_pop hC.1 hC.2.1 d hv (k a ha H locs la hP hS hL)
theorem X_dup2 (hC : CX Γ Y cc own nL ret fr lo) {v w : Value} (hv : v.category = 1) (hw : w.category = 1) (d : decode cc pc = .ok (.dup2, 1)) (k : WX Γ Y q nL (pc + 1) ls (v :: w :: v :: w :: st) σ o) : WX Γ Y q nL pc ls (v :: w :: st) σ o :=
  fun a ha H locs la hP hS hL => lv_dup2_11 hC.1 hC.2.1 d hv hw (k a ha H locs la hP hS hL)
theorem X_goto (hC : CX Γ Y cc own nL ret fr lo) {off : Int} (tgt : Nat) (d : decode cc pc = .ok (.goto off, 3)) (ht : (pc : Int) + off = (tgt : Int)) (k : WX Γ Y q nL tgt ls st σ o) : WX Γ Y q nL pc ls st σ o :=
  fun a ha H locs la hP hS hL => lv_goto hC.1 hC.2.1 d ht (k a ha H locs la hP hS hL)
theorem X_ifnonnull (hC : CX Γ Y cc own nL ret fr lo) {x : Nat} {off : Int} (tgt : Nat) (d : decode cc pc = .ok (.ifnonnull off, 3)) (ht : (pc : Int) + off = (tgt : Int)) (k : WX Γ Y q nL tgt ls st σ o) : WX Γ Y q nL pc ls (.ref x :: st) σ o :=
  fun a ha H locs la hP hS hL => lv_ifnonnull hC.1 hC.2.1 d ht (k a ha H locs la hP hS hL)
theorem X_ifnull (hC : CX Γ Y cc own nL ret fr lo) {x : Nat} {off : Int} (d : decode cc pc = .ok (.ifnull off, 3)) (k : WX Γ Y q nL (pc + 3) ls st σ o) : WX Γ Y q nL pc ls (.ref x :: st) σ o :=
  fun a ha H locs la hP hS hL => lv_ifnull hC.1 hC.2.1 d (k a ha H locs la hP hS hL)
theorem X_icmp_eq (hC : CX Γ Y cc own nL ret fr lo) {x y : Int32} {off : Int} {o1 o2 : Option α} (tgt : Nat) (d : decode cc pc = .ok (.if_icmp .eq off, 3)) (ht : (pc : Int) + off = (tgt : Int)) (kt : x = y → WX Γ Y q nL tgt ls st σ o1) (kf : ¬ (x = y) → WX Γ Y q nL (pc + 3) ls st σ o2) : WX Γ Y q nL pc ls (.int y :: .int x :: st) σ (if x = y then o1 else o2) :=
  X_ite (fun h => fun a ha H locs la hP hS hL => lv_icmp_eq hC.1 hC.2.1 d ht (fun h2 => kt h2 a ha H locs la hP hS hL) (fun h2 => absurd h h2)) (fun h => fun a ha H locs la hP hS hL => lv_icmp_eq hC.1 hC.2.1 d ht (fun h2 => absurd h2 h) (fun h2 => kf h2 a ha H locs la hP hS hL))
theorem X_if_eq (hC : CX Γ Y cc own nL ret fr lo) {x : Int32} {off : Int} {o1 o2 : Option α} (tgt : Nat) (d : decode cc pc = .ok (.ifCond .eq off, 3)) (ht : (pc : Int) + off = (tgt : Int)) (kt : x = 0 → WX Γ Y q nL tgt ls st σ o1) (kf : ¬ (x = 0) → WX Γ Y q nL (pc + 3) ls st σ o2) : WX Γ Y q nL pc ls (.int x :: st) σ (if x = 0 then o1 else o2) :=
  X_ite (fun h => fun a ha H locs la hP hS hL => lv_if_eq hC.1 hC.2.1 d ht (fun h2 => kt h2 a ha H locs la hP hS hL) (fun h2 => absurd h h2)) (fun h => fun a ha H locs la hP hS hL => lv_if_eq hC.1 hC.2.1 d ht (fun h2 => absurd h2 h) (fun h2 => kf h2 a ha H locs la hP hS hL))
theorem X_icmp_ne (hC : CX Γ Y cc own nL ret fr lo) {x y : Int32} {off : Int} {o1 o2 : Option α} (tgt : Nat) (d : decode cc pc = .ok (.if_icmp .ne off, 3)) (ht : (pc : Int) + off = (tgt : Int)) (kt : ¬ x = y → WX Γ Y q nL tgt ls st σ o1) (kf : x = y → WX Γ Y q nL (pc + 3) ls st σ o2) : WX Γ Y q nL pc ls (.int y :: .int x :: st) σ (if x = y then o2 else o1) :=
  X_ite (fun h => fun a ha H locs la hP hS hL => lv_icmp_ne hC.1 hC.2.1 d ht (fun h2 => absurd h h2) (fun h2 => kf h a ha H locs la hP hS hL)) (fun h => fun a ha H locs la hP hS hL => lv_icmp_ne hC.1 hC.2.1 d ht (fun h2 => kt h2 a ha H locs la hP hS hL) (fun h2 => absurd h2 h))
theorem X_if_ne (hC : CX Γ Y cc own nL ret fr lo) {x : Int32} {off : Int} {o1 o2 : Option α} (tgt : Nat) (d : decode cc pc = .ok (.ifCond .ne off, 3)) (ht : (pc : Int) + off = (tgt : Int)) (kt : ¬ x = 0 → WX Γ Y q nL tgt ls st σ o1) (kf : x = 0 → WX Γ Y q nL (pc + 3) ls st σ o2) : WX Γ Y q nL pc ls (.int x :: st) σ (if x = 0 then o2 else o1) :=
  X_ite (fun h => fun a ha H locs la hP hS hL => lv_if_ne hC.1 hC.2.1 d ht (fun h2 => absurd h h2) (fun h2 => kf h a ha H locs la hP hS hL)) (fun h => fun a ha H locs la hP hS hL => lv_if_ne hC.1 hC.2.1 d ht (fun h2 => kt h2 a ha H locs la hP hS hL) (fun h2 => absurd h2 h))
theorem X_icmp_lt (hC : CX Γ Y cc own nL ret fr lo) {x y : Int32} {off : Int} {o1 o2 : Option α} (tgt : Nat) (d : decode cc pc = .ok (.if_icmp .lt off, 3)) (ht : (pc : Int) + off = (tgt : Int)) (kt : x < y → WX Γ Y q nL tgt ls st σ o1) (kf : ¬ (x < y) → WX Γ Y q nL (pc + 3) ls st σ o2) : WX Γ Y q nL pc ls (.int y :: .int x :: st) σ (if x < y then o1 else o2) :=
  X_ite (fun h => fun a ha H locs la hP hS hL => lv_icmp_lt hC.1 hC.2.1 d ht (fun h2 => kt h2 a ha H locs la hP hS hL) (fun h2 => absurd h h2)) (fun h => fun a ha H locs la hP hS hL => lv_icmp_lt hC.1 hC.2.1 d ht (fun h2 => absurd h2 h) (fun h2 => kf h2 a ha H locs la hP hS hL))
theorem X_if_lt (hC : CX Γ Y cc own nL ret fr lo) {x : Int32} {off : Int} {o1 o2 : Option α} (tgt : Nat) (d : decode cc pc = .ok (.ifCond .lt off, 3)) (ht : (pc : Int) + off = (tgt : Int)) (kt : x < 0 → WX Γ Y q nL tgt ls st σ o1) (kf : ¬ (x < 0) → WX Γ Y q nL (pc + 3) ls st σ o2) : WX Γ Y q nL pc ls (.int x :: st) σ (if x < 0 then o1 else o2) :=
  X_ite (fun h => fun a ha H locs la hP hS hL => lv_if_lt hC.1 hC.2.1 d ht (fun h2 => kt h2 a ha H locs la hP hS hL) (fun h2 => absurd h h2)) (fun h => fun a ha H locs la hP hS hL => lv_if_lt hC.1 hC.2.1 d ht (fun h2 => absurd h2 h) (fun h2 => kf h2 a ha H locs la hP hS hL))
theorem X_icmp_ge (hC : CX Γ Y cc own nL ret fr lo) {x y : Int32} {off : Int} {o1 o2 : Option α} (tgt : Nat) (d : decode cc pc = .ok (.if_icmp .ge off, 3)) (ht : (pc : Int) + off = (tgt : Int)) (kt : y ≤ x → WX Γ Y q nL tgt ls st σ o1) (kf : ¬ (y ≤ x) → WX Γ Y q nL (pc + 3) ls st σ o2) : WX Γ Y q nL pc ls (.int y :: .int x :: st) σ (if y ≤ x then o1 else o2) :=
  X_ite (fun h => fun a ha H locs la hP hS hL => lv_icmp_ge hC.1 hC.2.1 d ht (fun h2 => kt h2 a ha H locs la hP hS hL) (fun h2 => absurd h h2)) (fun h => fun a ha H locs la hP hS hL => lv_icmp_ge hC.1 hC.2.1 d ht (fun h2 => absurd h2 h) (fun h2 => kf h2 a ha H locs la hP hS hL))
theorem X_if_ge (hC : CX Γ Y cc own nL ret fr lo) {x : Int32} {off : Int} {o1 o2 : Option α} (tgt : Nat) (d : decode cc pc = .ok (.ifCond .ge off, 3)) (ht : (pc : Int) + off = (tgt : Int)) (kt : 0 ≤ x → WX Γ Y q nL tgt ls st σ o1) (kf : ¬ (0 ≤ x) → WX Γ Y q nL (pc + 3) ls st σ o2) : WX Γ Y q nL pc ls (.int x :: st) σ (if 0 ≤ x then o1 else o2) :=
  X_ite (fun h => fun a ha H locs la hP hS hL => lv_if_ge hC.1 hC.2.1 d ht (fun h2 => kt h2 a ha H locs la hP hS hL) (fun h2 => absurd h h2)) (fun h => fun a ha H locs la hP hS hL => lv_if_ge hC.1 hC.2.1 d ht (fun h2 => absurd h2 h) (fun h2 => kf h2 a ha H locs la hP hS hL))
theorem X_icmp_gt (hC : CX Γ Y cc own nL ret fr lo) {x y : Int32} {off : Int} {o1 o2 : Option α} (tgt : Nat) (d : decode cc pc = .ok (.if_icmp .gt off, 3)) (ht : (pc : Int) + off = (tgt : Int)) (kt : y < x → WX Γ Y q nL tgt ls st σ o1) (kf : ¬ (y < x) → WX Γ Y q nL (pc + 3) ls st σ o2) : WX Γ Y q nL pc ls (.int y :: .int x :: st) σ (if y < x then o1 else o2) :=
  X_ite (fun h => fun a ha H locs la hP hS hL => lv_icmp_gt hC.1 hC.2.1 d ht (fun h2 => kt h2 a ha H locs la hP hS hL) (fun h2 => absurd h h2)) (fun h => fun a ha H locs la hP hS hL => lv_icmp_gt hC.1 hC.2.1 d ht (fun h2 => absurd h2 h) (fun h2 => kf h2 a ha H locs la hP hS hL))
theorem X_if_gt (hC : CX Γ Y cc own nL ret fr lo) {x : Int32} {off : Int} {o1 o2 : Option α} (tgt : Nat) (d : decode cc pc = .ok (.ifCond .gt off, 3)) (ht : (pc : Int) + off = (tgt : Int)) (kt : 0 < x → WX Γ Y q nL tgt ls st σ o1) (kf : ¬ (0 < x) → WX Γ Y q nL (pc + 3) ls st σ o2) : WX Γ Y q nL pc ls (.int x :: st) σ (if 0 < x then o1 else o2) :=
  X_ite (fun h => fun a ha H locs la hP hS hL => lv_if_gt hC.1 hC.2.1 d ht (fun h2 => kt h2 a ha H locs la hP hS hL) (fun h2 => absurd h h2)) (fun h => fun a ha H locs la hP hS hL => lv_if_gt hC.1 hC.2.1 d ht (fun h2 => absurd h2 h) (fun h2 => kf h2 a ha H locs la hP hS hL))
theorem X_icmp_le (hC : CX Γ Y cc own nL ret fr lo) {x y : Int32} {off : Int} {o1 o2 : Option α} (tgt : Nat) (d : decode cc pc = .ok (.if_icmp .le off, 3)) (ht : (pc : Int) + off = (tgt : Int)) (kt : x ≤ y → WX Γ Y q nL tgt ls st σ o1) (kf : ¬ (x ≤ y) → WX Γ Y q nL (pc + 3) ls st σ o2) : WX Γ Y q nL pc ls (.int y :: .int x :: st) σ (if x ≤ y then o1 else o2) :=
  X_ite (fun h => fun a ha H locs la hP hS hL => lv_icmp_le hC.1 hC.2.1 d ht (fun h2 => kt h2 a ha H locs la hP hS hL) (fun h2 => absurd h h2)) (fun h => fun a ha H locs la hP hS hL => lv_icmp_le hC.1 hC.2.1 d ht (fun h2 => absurd h2 h) (fun h2 => kf h2 a ha H locs la hP hS hL))
theorem X_if_le (hC : CX Γ Y cc own nL ret fr lo) {x : Int32} {off : Int} {o1 o2 : Option α} (tgt : Nat) (d : decode cc pc = .ok (.ifCond .le off, 3)) (ht : (pc : Int) + off = (tgt : Int)) (kt : x ≤ 0 → WX Γ Y q nL tgt ls st σ o1) (kf : ¬ (x ≤ 0) → WX Γ Y q nL (pc + 3) ls st σ o2) : WX Γ Y q nL pc ls (.int x :: st) σ (if x ≤ 0 then o1 else o2) :=
  X_ite (fun h => fun a ha H locs la hP hS hL => lv_if_le hC.1 hC.2.1 d ht (fun h2 => kt h2 a ha H locs la hP hS hL) (fun h2 => absurd h h2)) (fun h => fun a ha H locs la hP hS hL => lv_if_le hC.1 hC.2.1 d ht (fun h2 => absurd h2 h) (fun h2 => kf h2 a ha H locs la hP hS hL))
theorem X_tableIn (hC : CX Γ Y cc own nL ret fr lo) {dflt lw hi : Int} {offs : Array Int} {len : Nat} {x : Int32} {v off : Int} (tgt : Nat) (d : decode cc pc = .ok (.tableswitch dflt lw hi offs, len)) (hv : x.toInt = v) (h1 : ¬ v < lw) (h2 : ¬ hi < v) (ho : offs[(v - lw).toNat]? = some off) (ht : (pc : Int) + off = (tgt : Int)) (k : WX Γ Y q nL tgt ls st σ o) : WX Γ Y q nL pc ls (.int x :: st) σ o :=
  fun a ha H locs la hP hS hL => lv_tableIn hC.1 hC.2.1 d (by rw [hv]; exact h1) (by rw [hv]; exact h2) (by rw [hv]; exact ho) ht (k a ha H locs la hP hS hL)
theorem X_tableOut (hC : CX Γ Y cc own nL ret fr lo) {dflt lw hi : Int} {offs : Array Int} {len : Nat} {x : Int32} (tgt : Nat) (d : decode cc pc = .ok (.tableswitch dflt lw hi offs, len)) (h : x.toInt < lw ∨ hi < x.toInt) (ht : (pc : Int) + dflt = (tgt : Int)) (k : WX Γ Y q nL tgt ls st σ o) : WX Γ Y q nL pc ls (.int x :: st) σ o :=
  fun a ha H locs la hP hS hL => lv_tableOut hC.1 hC.2.1 d h ht (k a ha H locs la hP hS hL)
theorem X_lookup (hC : CX Γ Y cc own nL ret fr lo) {dflt : Int} {ps : Array (Int × Int)} {len : Nat} {x : Int32} {off : Int} (tgt : Nat) (d : decode cc pc = .ok (.lookupswitch dflt ps, len)) (hp : (ps.toList.zip (ps.toList.drop 1)).all (fun (a, next) => a.1 < next.1) = true) (ho : Op.lookupswitch.offset ps.toList dflt x.toInt = off) (ht : (pc : Int) + off = (tgt : Int)) (k : WX Γ Y q nL tgt ls st σ o) : WX Γ Y q nL pc ls (.int x :: st) σ o :=
  fun a ha H locs la hP hS hL => lv_lookup hC.1 hC.2.1 d hp ho ht (k a ha H locs la hP hS hL)
/-- reads and writes of cells -/
theorem X_getf (hC : CX Γ Y cc own nL ret fr lo) {C : String} {T : u_T} {N ci idx q0 b : Nat} {fs : List Value} {v : Value} (kf : Nat) (hw : (Y.2.1 σ)[q0]? = some (b, .inr (ci, fs))) (hc : vwCl[ci]? = some (C, T, N)) (hin : ∀ w ∈ u_ws C T N, w ∈ gw) (hk : kf < N) (hl : Cond.fieldLink own idx C (T kf).2.1 (T kf).2.2.1 ∈ gw) (hT : (T kf).1 = C) (hv : fs[kf]? = some v) (d : decode cc pc = .ok (.getfield idx, 3)) (k : WX Γ Y q nL (pc + 3) ls (v :: st) σ o) : WX Γ Y q nL pc ls (.ref b :: st) σ o :=
  fun a ha H locs la hP hS hL => va_get hC.1 hC.2.1 (fun w hw => hC.2.2.2.2.1 w hw) hin hC.2.2.2.1 hC.2.2.2.2.2.1 hP q0 hw hc kf hk (hC.2.2.2.2.1 _ hl) (fun _ h => by rw [← hT]; exact h) hv d (k a ha H locs la hP hS hL)
theorem X_putf (hC : CX Γ Y cc own nL ret fr lo) {C : String} {T : u_T} {N ci idx q0 b : Nat} {fs : List Value} {v : Value} {ty0 : Nat → FieldType} {ty : FieldType} {σ' : τ} (kf : Nat) (hw : (Y.2.1 σ)[q0]? = some (b, .inr (ci, fs))) (hc : vwCl[ci]? = some (C, T, N)) (hin : ∀ w ∈ u_ws C T N, w ∈ gw) (hty : ∀ k, k < N → parseFieldDescriptor (T k).2.2.1 = some (ty0 k)) (hnm : ∀ a, a < N → ∀ b, b < N → a ≠ b → (T a).2.1 ≠ (T b).2.1) (hk : kf < N) (hl : Cond.fieldLink own idx C (T kf).2.1 (T kf).2.2.1 ∈ gw) (hT : (T kf).1 = C) (hfin : (T kf).2.2.2 = false) (hd : parseFieldDescriptor (T kf).2.2.1 = some ty) (hn : narrow ty v = v) (hfit : fits ty v = true) (hlen : kf < fs.length) (hs : (Y.2.1 σ).set q0 (b, .inr (ci, fs.set kf v)) = Y.2.1 σ') (d : decode cc pc = .ok (.putfield idx, 3)) (k : WX Γ Y q nL (pc + 3) ls st σ' o) : WX Γ Y q nL pc ls (v :: .ref b :: st) σ o :=
  fun a ha H locs la hP hS hL => va_put hC.1 hC.2.1 (fun w hw => hC.2.2.2.2.1 w hw) hin ty0 hty hnm hC.2.2.2.1 hC.2.2.2.2.2.1 hP (hC.2.2.2.2.2.2.2.1 σ) hS q0 hw hc kf hk (hC.2.2.2.2.1 _ hl) (fun _ h => by rw [← hT]; exact h) hfin hd hn hfit hlen d (fun H1 locs1 hP1 _ hS1 => k a ha H1 locs1 la (hs ▸ hP1) hS1 hL)
theorem X_iald (hC : CX Γ Y cc own nL ret fr lo) {q0 t0 b n : Nat} {cA : ClassId} {f : Nat → Int32} {i : Int32} (hw : (Y.2.1 σ)[q0]? = some (b, .inl (cA, n, .inl f))) (ht : Y.2.2.2[t0]? = some (cA, .int)) (d : decode cc pc = .ok (.iaload, 1)) (k : WX Γ Y q nL (pc + 1) ls (.int (f (ix i)) :: st) σ o) : WX Γ Y q nL pc ls (.int i :: .ref b :: st) σ (gd (inb i n) o) :=
  X_gd fun hi => fun a ha H locs la hP hS hL => va_iald hC.1 hC.2.1 hC.2.2.2.2.2.1 hP q0 t0 hw ht (inb_in hi) d (k a ha H locs la hP hS hL)
theorem X_cald (hC : CX Γ Y cc own nL ret fr lo) {q0 t0 b n : Nat} {cA : ClassId} {f : Nat → Int32} {i : Int32} (hw : (Y.2.1 σ)[q0]? = some (b, .inl (cA, n, .inl f))) (ht : Y.2.2.2[t0]? = some (cA, .char)) (d : decode cc pc = .ok (.caload, 1)) (k : WX Γ Y q nL (pc + 1) ls (.int (f (ix i)) :: st) σ o) : WX Γ Y q nL pc ls (.int i :: .ref b :: st) σ (gd (inb i n) o) :=
  X_gd fun hi => fun a ha H locs la hP hS hL => va_cald hC.1 hC.2.1 hC.2.2.2.2.2.1 hP q0 t0 hw ht (inb_in hi) d (k a ha H locs la hP hS hL)
theorem X_aald (hC : CX Γ Y cc own nL ret fr lo) {q0 t0 b n v : Nat} {C : String} {cA : ClassId} {f : Nat → Option Nat} {i : Int32} (hw : (Y.2.1 σ)[q0]? = some (b, .inl (cA, n, .inr (.inr (.inr (.inr f)))))) (ht : Y.2.2.2[t0]? = some (cA, .object C)) (hf : f (ix i) = some v) (d : decode cc pc = .ok (.aaload, 1)) (k : WX Γ Y q nL (pc + 1) ls (.ref v :: st) σ o) : WX Γ Y q nL pc ls (.int i :: .ref b :: st) σ (gd (inb i n) o) :=
  X_gd fun hi => fun a ha H locs la hP hS hL => va_aldq hC.1 hC.2.1 hC.2.2.2.2.2.1 hP q0 t0 hw ht (inb_in hi) d (by rw [hf]; exact k a ha H locs la hP hS hL)
theorem X_alen (hC : CX Γ Y cc own nL ret fr lo) {q0 t0 b : Nat} {cA : ClassId} {x : vp_A} {ty : FieldType} (hw : (Y.2.1 σ)[q0]? = some (b, .inl (cA, x))) (ht : Y.2.2.2[t0]? = some (cA, ty)) {v : Int32} (hv : Int32.ofNat x.1 = v) (d : decode cc pc = .ok (.arraylength, 1)) (k : WX Γ Y q nL (pc + 1) ls (.int v :: st) σ o) : WX Γ Y q nL pc ls (.ref b :: st) σ o :=
  fun a ha H locs la hP hS hL => va_alen hC.1 hC.2.1 hC.2.2.2.2.2.1 hP q0 t0 hw ht hv d (k a ha H locs la hP hS hL)
theorem X_iast (hC : CX Γ Y cc own nL ret fr lo) {q0 t0 b n : Nat} {cA : ClassId} {f : Nat → Int32} {i x : Int32} {σ' : τ} (hw : (Y.2.1 σ)[q0]? = some (b, .inl (cA, n, .inl f))) (ht : Y.2.2.2[t0]? = some (cA, .int)) (hs : (Y.2.1 σ).set q0 (b, .inl (cA, n, .inl (upd f (ix i) x))) = Y.2.1 σ') (d : decode cc pc = .ok (.iastore, 1)) (k : WX Γ Y q nL (pc + 1) ls st σ' o) : WX Γ Y q nL pc ls (.int x :: .int i :: .ref b :: st) σ (gd (inb i n) o) :=
  X_gd fun hi => fun a ha H locs la hP hS hL => va_iast hC.1 hC.2.1 hC.2.2.2.2.2.1 hP (hC.2.2.2.2.2.2.2.1 σ) hS q0 t0 hw ht (inb_in hi) d (fun H1 locs1 hP1 _ hS1 => k a ha H1 locs1 la (hs ▸ hP1) hS1 hL)
theorem X_cast (hC : CX Γ Y cc own nL ret fr lo) {q0 t0 b n : Nat} {cA : ClassId} {f : Nat → Int32} {i x : Int32} {σ' : τ} (hw : (Y.2.1 σ)[q0]? = some (b, .inl (cA, n, .inl f))) (ht : Y.2.2.2[t0]? = some (cA, .char)) (hs : (Y.2.1 σ).set q0 (b, .inl (cA, n, .inl (upd f (ix i) (vp_nar .char x)))) = Y.2.1 σ') (d : decode cc pc = .ok (.castore, 1)) (k : WX Γ Y q nL (pc + 1) ls st σ' o) : WX Γ Y q nL pc ls (.int x :: .int i :: .ref b :: st) σ (gd (inb i n) o) :=
  X_gd fun hi => fun a ha H locs la hP hS hL => va_cast hC.1 hC.2.1 hC.2.2.2.2.2.1 hP (hC.2.2.2.2.2.2.2.1 σ) hS q0 t0 hw ht (inb_in hi) d (fun H1 locs1 hP1 _ hS1 => k a ha H1 locs1 la (hs ▸ hP1) hS1 hL)
def cpy_ok (sp dp n : Int32) (n0 n1 : Nat) : Bool := decide (0 ≤ sp ∧ 0 ≤ dp ∧ 0 ≤ n ∧ ix sp + ix n ≤ n0 ∧ ix dp + ix n ≤ n1)
theorem X_copyi (hC : CX Γ Y cc own nL ret fr lo) {idx q0 q1 t0 b0 b n0 n1 : Nat} {cA : ClassId} {f g : Nat → Int32} {sp dp n : Int32} {σ' : τ} (w1 : Cond.methodLink own idx arraycopyName ∈ gw) (w2 : Cond.native arraycopyName ∈ gw) (w3 : Cond.static arraycopyName ∈ gw) (w4 : Cond.initialized "java/lang/System" ∈ gw) (hw0 : (Y.2.1 σ)[q0]? = some (b0, .inl (cA, n0, .inl f))) (hw1 : (Y.2.1 σ)[q1]? = some (b, .inl (cA, n1, .inl g))) (ht : Y.2.2.2[t0]? = some (cA, .int)) (hfr : 1 ≤ fr) (hlo : (st.map fun v => v.category).sum + (nativeFrameWords "java/lang/System" "arraycopy" 5 + 11) ≤ lo)
    (hs : (Y.2.1 σ).set q1 (b, .inl (cA, n1, .inl (va_cpy f g (ix sp) (ix dp) (ix n)))) = Y.2.1 σ') (d : decode cc pc = .ok (.invokestatic idx, 3)) (k : WX Γ Y q nL (pc + 3) ls st σ' o) : WX Γ Y q nL pc ls (.int n :: .int dp :: .ref b :: .int sp :: .ref b0 :: st) σ (gd (cpy_ok sp dp n n0 n1) o) := by
  refine X_gd fun hi => fun a ha H locs la hP hS hL => ?_
  obtain ⟨g1, g2, g3, g4, g5⟩ := of_decide_eq_true hi
  have hts := hC.2.2.2.2.1
  obtain ⟨-, -, -, -, -, -, -, -, -, -, e1, e2, -⟩ := id hC
  exact va_copyi hC.1 hC.2.1 (by rw [hC.2.2.1]; exact hL.1.symm) hC.2.2.2.1 (hts _ w1) (hts _ w2) (hts _ w3) (hts _ w4) hC.2.2.2.2.2.1 hP (hC.2.2.2.2.2.2.2.1 σ) hS q0 q1 t0 t0 hw0 hw1 ht ht rfl (Int32.not_lt.mpr g1) (Int32.not_lt.mpr g2) (Int32.not_lt.mpr g3) g4 g5 (fun _ _ => rfl) (by rw [e1]; exact hfr) (by rw [e2]; exact hlo) d (fun H1 locs1 hP1 _ hS1 => k a ha H1 locs1 la (hs ▸ hP1) hS1 hL)
theorem X_mmax (hC : CX Γ Y cc own nL ret fr lo) {idx : Nat} {x y : Int32} (w1 : Cond.methodLink own idx Lib.Math.max.name ∈ gw) (w2 : Cond.static Lib.Math.max.name ∈ gw) (w3 : Cond.initialized "java/lang/Math" ∈ gw) (w4 : Cond.code Lib.Math.max.name Lib.Math.max.code 2 (some .int) ∈ gw) (hfr : 1 ≤ fr) (hlo : (st.map fun v => v.category).sum + 13 ≤ lo) (d : decode cc pc = .ok (.invokestatic idx, 3)) (k : WX Γ Y q nL (pc + 3) ls (.int (if x < y then y else x) :: st) σ o) : WX Γ Y q nL pc ls (.int y :: .int x :: st) σ o := by
  intro a ha H locs la hP hS hL
  have hts := hC.2.2.2.2.1
  obtain ⟨-, -, -, -, -, -, -, -, -, -, e1, e2, e3, e4⟩ := id hC
  exact va_mmax hC.1 hC.2.1 (by rw [hC.2.2.1]; exact hL.1.symm) hC.2.2.2.1 (hts _ w1) (hts _ w2) (hts _ w3) (hts _ w4) (by rw [e1]; exact hfr) (by rw [e2]; exact hlo) e3 e4 d (k a ha H locs la hP hS hL)
theorem X_mmin (hC : CX Γ Y cc own nL ret fr lo) {idx : Nat} {x y : Int32} (w1 : Cond.methodLink own idx Lib.Math.min.name ∈ gw) (w2 : Cond.static Lib.Math.min.name ∈ gw) (w3 : Cond.initialized "java/lang/Math" ∈ gw) (w4 : Cond.code Lib.Math.min.name Lib.Math.min.code 2 (some .int) ∈ gw) (hfr : 1 ≤ fr) (hlo : (st.map fun v => v.category).sum + 13 ≤ lo) (d : decode cc pc = .ok (.invokestatic idx, 3)) (k : WX Γ Y q nL (pc + 3) ls (.int (if y < x then y else x) :: st) σ o) : WX Γ Y q nL pc ls (.int y :: .int x :: st) σ o := by
  intro a ha H locs la hP hS hL
  have hts := hC.2.2.2.2.1
  obtain ⟨-, -, -, -, -, -, -, -, -, -, e1, e2, e3, e4⟩ := id hC
  exact va_mmin hC.1 hC.2.1 (by rw [hC.2.2.1]; exact hL.1.symm) hC.2.2.2.1 (hts _ w1) (hts _ w2) (hts _ w3) (hts _ w4) (by rw [e1]; exact hfr) (by rw [e2]; exact hlo) e3 e4 d (k a ha H locs la hP hS hL)
theorem X_mabs (hC : CX Γ Y cc own nL ret fr lo) {idx : Nat} {x : Int32} (w1 : Cond.methodLink own idx Lib.Math.abs.name ∈ gw) (w2 : Cond.static Lib.Math.abs.name ∈ gw) (w3 : Cond.initialized "java/lang/Math" ∈ gw) (w4 : Cond.code Lib.Math.abs.name Lib.Math.abs.code 1 (some .int) ∈ gw) (hfr : 1 ≤ fr) (hlo : (st.map fun v => v.category).sum + 13 ≤ lo) (d : decode cc pc = .ok (.invokestatic idx, 3)) (k : WX Γ Y q nL (pc + 3) ls (.int (if 0 ≤ x then x else 0 - x) :: st) σ o) : WX Γ Y q nL pc ls (.int x :: st) σ o := by
  intro a ha H locs la hP hS hL
  have hts := hC.2.2.2.2.1
  obtain ⟨-, -, -, -, -, -, -, -, -, -, e1, e2, e3, e4⟩ := id hC
  exact va_mabs hC.1 hC.2.1 (by rw [hC.2.2.1]; exact hL.1.symm) hC.2.2.2.1 (hts _ w1) (hts _ w2) (hts _ w3) (hts _ w4) (by rw [e1]; exact hfr) (by rw [e2]; exact hlo) e3 e4 d (k a ha H locs la hP hS hL)
end RULES
