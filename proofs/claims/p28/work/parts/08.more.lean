/-! MORE RULES: named states, calls by kind. -/
def lts {τ α : Type} (e : τ) (k : τ → Option α) : Option α := k e
abbrev fiR (ad : Nat → Nat) (σ : Sg) : Nat → Option Value × Sg := fun k => (some (.ref (ad k)), σ)
def fuel : Nat := 4096
def okm (y : MethodName) (k : Nat) : Bool := decide (y.cls ≠ "java/lang/invoke/MethodHandle" ∧ y.cls ≠ "java/lang/invoke/VarHandle" ∧ (parseMethodDescriptor y.desc).map (fun d => d.parameters.length) = some k)
theorem okc_of {y : MethodName} {j k n fr' lo' fr lo : Nat} (hk : j = k) (h : okm y k = true) (hr : fr' + 1 ≤ fr ∧ 8 + (n + 11) + lo' ≤ lo) : okc y j n fr' lo' fr lo = true := by
  subst hk
  unfold okc
  rw [Bool.and_eq_true]
  exact ⟨h, decide_eq_true hr⟩
section MORE
variable {τ α β : Type} {Γ : Cx} {Y : Sys τ} {q : α → State → Prop} {cc : ByteArray} {own : String} {nL : Nat} {ret : Option FieldType} {fr lo : Nat} {pc : Nat} {ls : List (Nat × Value)} {st : List Value} {σ : τ} {o : Option α}
theorem X_lts {e : τ} {f : τ → Option α} (k : ∀ σ' : τ, WX Γ Y q nL pc ls st σ' (f σ')) : WX Γ Y q nL pc ls st e (lts e f) := k e
section V
variable {y : MethodName} {C : String} {T : u_T} {N ci idx n q0 b0 fr' lo' ka : Nat} {b : ByteArray} {ret' : Option FieldType} {fs : List Value} {argv rest : List Value}
theorem X_callP {o' : Option Int32} {f : Int32 → Option α} (hC : CX Γ Y cc own nL ret fr lo)
    (hM : MT Γ.1.2.1 Y y (.code y b n ret' :: gw) fr' lo' (.ref b0 :: argv) (fiP σ) σ o') (hg : GoodIn gw (wsV own idx C y (.code y b n ret' :: gw))) (hy : y.cls = C) (hw : (Y.2.1 σ)[q0]? = some (b0, .inr (ci, fs))) (hc : vwCl[ci]? = some (C, T, N)) (hk : argv.length = ka) (hok : okm y ka = true) (hr : fr' + 1 ≤ fr ∧ 8 + (n + 11) + lo' ≤ lo) (d : decode cc pc = .ok (.invokevirtual idx, 3)) (hst : st = argv.reverse ++ .ref b0 :: rest) (hrm : (rest.map fun v => v.category).sum ≤ 8)
    (k : ∀ r : Int32, WX Γ Y q nL (pc + 3) ls (.int r :: rest) σ (f r)) : WX Γ Y q nL pc ls st σ (o'.bind f) :=
  X_call hC hM hg hy hw hc (okc_of hk hok hr) d hst hrm k
theorem X_callS {o' : Option (Int32 × τ)} {f : Int32 × τ → Option α} (hC : CX Γ Y cc own nL ret fr lo)
    (hM : MT Γ.1.2.1 Y y (.code y b n ret' :: gw) fr' lo' (.ref b0 :: argv) fiS σ o') (hg : GoodIn gw (wsV own idx C y (.code y b n ret' :: gw))) (hy : y.cls = C) (hw : (Y.2.1 σ)[q0]? = some (b0, .inr (ci, fs))) (hc : vwCl[ci]? = some (C, T, N)) (hk : argv.length = ka) (hok : okm y ka = true) (hr : fr' + 1 ≤ fr ∧ 8 + (n + 11) + lo' ≤ lo) (d : decode cc pc = .ok (.invokevirtual idx, 3)) (hst : st = argv.reverse ++ .ref b0 :: rest) (hrm : (rest.map fun v => v.category).sum ≤ 8)
    (k : ∀ r : Int32 × τ, WX Γ Y q nL (pc + 3) ls (.int r.1 :: rest) r.2 (f r)) : WX Γ Y q nL pc ls st σ (o'.bind f) :=
  X_call hC hM hg hy hw hc (okc_of hk hok hr) d hst hrm k
theorem X_callV {o' : Option τ} {f : τ → Option α} (hC : CX Γ Y cc own nL ret fr lo)
    (hM : MT Γ.1.2.1 Y y (.code y b n ret' :: gw) fr' lo' (.ref b0 :: argv) fvS σ o') (hg : GoodIn gw (wsV own idx C y (.code y b n ret' :: gw))) (hy : y.cls = C) (hw : (Y.2.1 σ)[q0]? = some (b0, .inr (ci, fs))) (hc : vwCl[ci]? = some (C, T, N)) (hk : argv.length = ka) (hok : okm y ka = true) (hr : fr' + 1 ≤ fr ∧ 8 + (n + 11) + lo' ≤ lo) (d : decode cc pc = .ok (.invokevirtual idx, 3)) (hst : st = argv.reverse ++ .ref b0 :: rest) (hrm : (rest.map fun v => v.category).sum ≤ 8)
    (k : ∀ σ' : τ, WX Γ Y q nL (pc + 3) ls rest σ' (f σ')) : WX Γ Y q nL pc ls st σ (o'.bind f) :=
  X_call hC hM hg hy hw hc (okc_of hk hok hr) d hst hrm k
theorem X_statP {o' : Option Int32} {f : Int32 → Option α} (hC : CX Γ Y cc own nL ret fr lo)
    (hM : MT Γ.1.2.1 Y y (.code y b n ret' :: gw) fr' lo' argv (fiP σ) σ o') (hg : GoodIn gw (va_wsS own idx y (.code y b n ret' :: gw))) (hk : argv.length = ka) (hok : okm y ka = true) (hr : fr' + 1 ≤ fr ∧ 8 + (n + 11) + lo' ≤ lo) (d : decode cc pc = .ok (.invokestatic idx, 3)) (hst : st = argv.reverse ++ rest) (hrm : (rest.map fun v => v.category).sum ≤ 8)
    (k : ∀ r : Int32, WX Γ Y q nL (pc + 3) ls (.int r :: rest) σ (f r)) : WX Γ Y q nL pc ls st σ (o'.bind f) :=
  X_stat hC hM hg (okc_of hk hok hr) d hst hrm k
theorem X_statNP {host : String} {o' : Option Int32} {f : Int32 → Option α} (hC : CX Γ Y cc own nL ret fr lo)
    (hM : MT Γ.1.2.1 Y y (.code y b n ret' :: gw) fr' lo' argv (fiP σ) σ o') (hN : ∀ U, nests U → va_Nw (.methodLinkNest own idx y host) U) (h5 : Cond.code y b n ret' ∈ gw) (h2 : Cond.static y ∈ gw) (h4 : Cond.initialized y.cls ∈ gw) (hk : argv.length = ka) (hok : okm y ka = true) (hr : fr' + 1 ≤ fr ∧ 8 + (n + 11) + lo' ≤ lo) (d : decode cc pc = .ok (.invokestatic idx, 3)) (hst : st = argv.reverse ++ rest) (hrm : (rest.map fun v => v.category).sum ≤ 8)
    (k : ∀ r : Int32, WX Γ Y q nL (pc + 3) ls (.int r :: rest) σ (f r)) : WX Γ Y q nL pc ls st σ (o'.bind f) :=
  X_statN hC hM hN h5 h2 h4 (okc_of hk hok hr) d hst hrm k
end V
end MORE
section CALLR
variable {α : Type} {Γ : Cx} {Y : Sys Sg} {q : α → State → Prop} {cc : ByteArray} {own : String} {nL : Nat} {ret : Option FieldType} {fr lo : Nat} {pc : Nat} {ls : List (Nat × Value)} {st : List Value} {σ : Sg} {ad : Nat → Nat}
theorem X_callR {y : MethodName} {C : String} {T : u_T} {N ci idx n q0 b0 fr' lo' ka : Nat} {b : ByteArray} {ret' : Option FieldType} {fs : List Value} {argv rest : List Value} {o' : Option Nat} {f : Nat → Option α} (hC : CX Γ Y cc own nL ret fr lo)
    (hM : MT Γ.1.2.1 Y y (.code y b n ret' :: gw) fr' lo' (.ref b0 :: argv) (fiR ad σ) σ o') (hg : GoodIn gw (wsV own idx C y (.code y b n ret' :: gw))) (hy : y.cls = C) (hw : (Y.2.1 σ)[q0]? = some (b0, .inr (ci, fs))) (hc : vwCl[ci]? = some (C, T, N)) (hk : argv.length = ka) (hok : okm y ka = true) (hr : fr' + 1 ≤ fr ∧ 8 + (n + 11) + lo' ≤ lo) (d : decode cc pc = .ok (.invokevirtual idx, 3)) (hst : st = argv.reverse ++ .ref b0 :: rest) (hrm : (rest.map fun v => v.category).sum ≤ 8)
    (k : ∀ r : Nat, WX Γ Y q nL (pc + 3) ls (.ref (ad r) :: rest) σ (f r)) : WX Γ Y q nL pc ls st σ (o'.bind f) :=
  X_call hC hM hg hy hw hc (okc_of hk hok hr) d hst hrm k
end CALLR
section CX2
variable {cls : Cls} {ad : Nat → Nat} {σ : Sg}
theorem cX_now : cellX cls ad σ 19 = .inr (2, [.ref (ad 0), .ref (ad 1), .ref (ad 2)]) := rfl
theorem cX_stc {c : Nat} (h : 19 ≤ c) (h2 : c < 25) : cellX cls ad σ c = .inr (2, [.ref (ad (3 * (c - 19))), .ref (ad (3 * (c - 19) + 1)), .ref (ad (3 * (c - 19) + 2))]) := by
  unfold cellX
  rw [if_neg (by omega), if_pos h2]
end CX2
theorem hinX0 : ∀ w ∈ u_ws RX0 TX0 3, w ∈ gw := by decide +kernel
theorem hinX1 : ∀ w ∈ u_ws RX1 TX1 4, w ∈ gw := by decide +kernel
theorem hinX2 : ∀ w ∈ u_ws RX2 TX2 3, w ∈ gw := by decide +kernel
theorem hinX3 : ∀ w ∈ u_ws RX3 TX3 4, w ∈ gw := by decide +kernel
theorem hinX4 : ∀ w ∈ u_ws RX4 TX4 5, w ∈ gw := by decide +kernel
