/-- as Met.ofW, for a method of the JDK that isn't native -/
theorem Met.ofWF {l : Launch} {y : MethodName} {ws ws' : List Cond} {rm : Room} {Pc : Array Value → State → Prop} {Qc : Array Value → State → Outcome → State → Prop} {mc ms : Nat} {free : Addr → Prop} {cc : ByteArray} {maxL : Nat} {ret : Option FieldType}
    (hy : plainFor y = true) (hw : ws = Cond.code y cc maxL ret :: ws')
    (body : ∀ p e s m args below meth c s₁, BodyLoose p l y (headSpec ws rm) cc maxL ret e s m args below meth c s₁ → c.maxLocals = maxL → Pc args s →
      W p l e (headSpec ws rm).room s m args below meth c s.heap [] 0 0 (MQ below Qc args s mc ms free) (entryFrame m args maxL)) : Met l y ws rm Pc Qc mc ms free := by
  refine MetFree.of_bodySF (code := cc) (maxLocals := maxL) (ret := ret) hy ?_ ?_
  · intro args s m h hn
    obtain ⟨meth, c, h1, h2, h3, h4, h5, h6, -, -⟩ := Cond.code_spec hn (atoms_spec (ws := ws) h _ (by rw [hw]; exact List.mem_cons_self))
    exact ⟨meth, c, h1, h2, h3, h4, h5, h6⟩
  · intro p e s m args below meth c s₁ B hml hP _
    have hh0 : s₁.heap = s.heap := by rw [B.state]; rfl
    obtain ⟨t, a1, o, b1, b2, b3⟩ := body p e s m args below meth c s₁ B hml hP s₁ hh0 (Stand.of_body B)
    exact ⟨t, o, a1, b1, b2, ⟨b3.1, b3.2⟩⟩
theorem MT.ofF {τ α : Type} {l : Launch} {Y : Sys τ} {y : MethodName} {own : String} {b : ByteArray} {n : Nat} {ret : Option FieldType} {fr lo : Nat} {argv : List Value} {fin : α → Option Value × τ} {σ : τ} {o : Option α} (hy : plainFor y = true) (hD : ∀ σ, va_D Y.2.2.1 (Y.2.1 σ)) (hown : y.cls = own) (hlen : (lg_sl argv).length ≤ n)
    (body : ∀ Γ : Cx, Γ.1.2.1 = l → Γ.2.2.2.2.2.1 = 0 → Γ.2.2.2.2.2.2 = 0 → CX Γ Y b own n ret fr lo → WX Γ Y (qf Γ Y fin) n 0 (lv_args 0 argv) [] σ o) : MT l Y y (.code y b n ret :: gw) fr lo argv fin σ o := by
  intro a ha
  refine Met.ofWF (cc := b) (maxL := n) (ret := ret) hy rfl ?_
  intro p e s m args below meth c s₁ B hml hv
  obtain ⟨rfl, hP, hK, hn⟩ := hv
  have hts := atoms_spec (ws := .code y b n ret :: gw) B.pre
  have hf : s.vm.findClass own = some m.cls := hown ▸ findClass_of_methodNamed B.named
  have hl := lv_entry argv (n := n) hlen
  rw [lg_entry_eq]
  exact body ((p, l, e, rmk fr lo, s, m), (argv.toArray, below, meth, c, 0, 0)) rfl rfl rfl ⟨B.exec, B.bytes, hml, hf, fun w hw => hts w (List.mem_cons_of_mem _ hw), hK, hn, hD, B.notSynchronized, B.returns, rfl, rfl, Nat.le_refl 0, Nat.le_refl 0⟩ a ha s.heap [] _ hP va_S.rf hl
theorem dX2_copyFrom_0 : decode cX2_copyFrom 0 = .ok (.aload_n 1, 1) := by decide +kernel
theorem dX2_copyFrom_1 : decode cX2_copyFrom 1 = .ok (.ifnonnull 4, 3) := by decide +kernel
theorem dX2_copyFrom_4 : decode cX2_copyFrom 4 = .ok (.return_, 1) := by decide +kernel
theorem dX2_copyFrom_5 : decode cX2_copyFrom 5 = .ok (.aload_n 0, 1) := by decide +kernel
theorem dX2_copyFrom_6 : decode cX2_copyFrom 6 = .ok (.getfield 14, 3) := by decide +kernel
theorem dX2_copyFrom_9 : decode cX2_copyFrom 9 = .ok (.aload_n 1, 1) := by decide +kernel
theorem dX2_copyFrom_10 : decode cX2_copyFrom 10 = .ok (.getfield 14, 3) := by decide +kernel
theorem dX2_copyFrom_13 : decode cX2_copyFrom 13 = .ok (.invokevirtual 26, 3) := by decide +kernel
theorem dX2_copyFrom_16 : decode cX2_copyFrom 16 = .ok (.aload_n 0, 1) := by decide +kernel
theorem dX2_copyFrom_17 : decode cX2_copyFrom 17 = .ok (.getfield 20, 3) := by decide +kernel
theorem dX2_copyFrom_20 : decode cX2_copyFrom 20 = .ok (.aload_n 1, 1) := by decide +kernel
theorem dX2_copyFrom_21 : decode cX2_copyFrom 21 = .ok (.getfield 20, 3) := by decide +kernel
theorem dX2_copyFrom_24 : decode cX2_copyFrom 24 = .ok (.invokevirtual 26, 3) := by decide +kernel
theorem dX2_copyFrom_27 : decode cX2_copyFrom 27 = .ok (.aload_n 0, 1) := by decide +kernel
theorem dX2_copyFrom_28 : decode cX2_copyFrom 28 = .ok (.getfield 23, 3) := by decide +kernel
theorem dX2_copyFrom_31 : decode cX2_copyFrom 31 = .ok (.aload_n 1, 1) := by decide +kernel
theorem dX2_copyFrom_32 : decode cX2_copyFrom 32 = .ok (.getfield 23, 3) := by decide +kernel
theorem dX2_copyFrom_35 : decode cX2_copyFrom 35 = .ok (.invokevirtual 26, 3) := by decide +kernel
theorem dX2_copyFrom_38 : decode cX2_copyFrom 38 = .ok (.return_, 1) := by decide +kernel
def f_X2_copyFrom (σ : Sg) (c d : Nat)  : Option (Sg) := (f_X3_copyFrom σ (3 * (c - 19)) (3 * (d - 19))).bind fun σ1 => (f_X3_copyFrom σ1 (3 * (c - 19) + 1) (3 * (d - 19) + 1)).bind fun σ2 => (f_X3_copyFrom σ2 (3 * (c - 19) + 2) (3 * (d - 19) + 2)).bind fun σ3 => some σ3
theorem okm_X2_copyFrom : okm yX2_copyFrom 1 = true := by decide +kernel
set_option maxHeartbeats 4000000 in
set_option maxRecDepth 100000 in
theorem c_X2_copyFrom (l : Launch) (G : va_G) (cls : Cls) (ad : Nat → Nat) (hi : inj 49 ad) (σ : Sg) (c d : Nat) (hc : 19 ≤ c ∧ c < 25) (hd : 19 ≤ d ∧ d < 25)  : MT l (YX G cls ad) yX2_copyFrom (.code yX2_copyFrom cX2_copyFrom 2 none :: gw) 2 47 [.ref (ad c), .ref (ad d)] fvS σ (f_X2_copyFrom σ c d ) := by
  refine MT.of (own := RX2) (by decide) (YX_D hi) rfl (Nat.le_of_ble_eq_true rfl) fun Γ _ hz0 hz1 hC => ?_
  show WX Γ (YX G cls ad) (qf Γ (YX G cls ad) fvS) 2 0 [(0, .ref (ad c)), (1, .ref (ad d))] [] σ (f_X2_copyFrom σ c d )
  unfold f_X2_copyFrom
  refine X_aload_n hC 1 rfl dX2_copyFrom_0 ?_
  refine X_ifnonnull hC 5 dX2_copyFrom_1 (by decide) ?_
  refine X_aload_n hC 0 rfl dX2_copyFrom_5 ?_
  refine X_getf (C := RX2) (T := TX2) (N := 3) (ci := 2) hC 0 (wX (k := c) (by omega) (cX_stc (by omega) (by omega))) rfl hinX2 (by decide) tw_46 rfl rfl dX2_copyFrom_6 ?_
  refine X_aload_n hC 1 rfl dX2_copyFrom_9 ?_
  refine X_getf (C := RX2) (T := TX2) (N := 3) (ci := 2) hC 0 (wX (k := d) (by omega) (cX_stc (by omega) (by omega))) rfl hinX2 (by decide) tw_46 rfl rfl dX2_copyFrom_10 ?_
  refine X_callV (C := RX3) (T := TX3) (N := 4) (ci := 3) (rest := []) hC (c_X3_copyFrom _ G cls ad hi σ (3 * (c - 19)) (3 * (d - 19)) (by omega) (by omega)) (gV tw_162 tw_163 tw_164 tw_3 tw_165) rfl (wX (k := 3 * (c - 19)) (by omega) (cX_tab (by omega))) rfl rfl okm_X3_copyFrom (by decide) dX2_copyFrom_13 rfl (Nat.le_of_ble_eq_true rfl) (fun σ1 => ?_)
  refine X_aload_n hC 0 rfl dX2_copyFrom_16 ?_
  refine X_getf (C := RX2) (T := TX2) (N := 3) (ci := 2) hC 1 (wX (k := c) (by omega) (cX_stc (by omega) (by omega))) rfl hinX2 (by decide) tw_48 rfl rfl dX2_copyFrom_17 ?_
  refine X_aload_n hC 1 rfl dX2_copyFrom_20 ?_
  refine X_getf (C := RX2) (T := TX2) (N := 3) (ci := 2) hC 1 (wX (k := d) (by omega) (cX_stc (by omega) (by omega))) rfl hinX2 (by decide) tw_48 rfl rfl dX2_copyFrom_21 ?_
  refine X_callV (C := RX3) (T := TX3) (N := 4) (ci := 3) (rest := []) hC (c_X3_copyFrom _ G cls ad hi σ1 (3 * (c - 19) + 1) (3 * (d - 19) + 1) (by omega) (by omega)) (gV tw_162 tw_163 tw_164 tw_3 tw_165) rfl (wX (k := 3 * (c - 19) + 1) (by omega) (cX_tab (by omega))) rfl rfl okm_X3_copyFrom (by decide) dX2_copyFrom_24 rfl (Nat.le_of_ble_eq_true rfl) (fun σ2 => ?_)
  refine X_aload_n hC 0 rfl dX2_copyFrom_27 ?_
  refine X_getf (C := RX2) (T := TX2) (N := 3) (ci := 2) hC 2 (wX (k := c) (by omega) (cX_stc (by omega) (by omega))) rfl hinX2 (by decide) tw_50 rfl rfl dX2_copyFrom_28 ?_
  refine X_aload_n hC 1 rfl dX2_copyFrom_31 ?_
  refine X_getf (C := RX2) (T := TX2) (N := 3) (ci := 2) hC 2 (wX (k := d) (by omega) (cX_stc (by omega) (by omega))) rfl hinX2 (by decide) tw_50 rfl rfl dX2_copyFrom_32 ?_
  refine X_callV (C := RX3) (T := TX3) (N := 4) (ci := 3) (rest := []) hC (c_X3_copyFrom _ G cls ad hi σ2 (3 * (c - 19) + 2) (3 * (d - 19) + 2) (by omega) (by omega)) (gV tw_162 tw_163 tw_164 tw_3 tw_165) rfl (wX (k := 3 * (c - 19) + 2) (by omega) (cX_tab (by omega))) rfl rfl okm_X3_copyFrom (by decide) dX2_copyFrom_35 rfl (Nat.le_of_ble_eq_true rfl) (fun σ3 => ?_)
  exact X_vret hC hz0 hz1 dX2_copyFrom_38 rfl
theorem dX2_newInstrument_0 : decode cX2_newInstrument 0 = .ok (.aload_n 0, 1) := by decide +kernel
theorem dX2_newInstrument_1 : decode cX2_newInstrument 1 = .ok (.getfield 14, 3) := by decide +kernel
theorem dX2_newInstrument_4 : decode cX2_newInstrument 4 = .ok (.invokevirtual 30, 3) := by decide +kernel
theorem dX2_newInstrument_7 : decode cX2_newInstrument 7 = .ok (.istore 5, 2) := by decide +kernel
theorem dX2_newInstrument_9 : decode cX2_newInstrument 9 = .ok (.aload_n 0, 1) := by decide +kernel
theorem dX2_newInstrument_10 : decode cX2_newInstrument 10 = .ok (.getfield 14, 3) := by decide +kernel
theorem dX2_newInstrument_13 : decode cX2_newInstrument 13 = .ok (.iload 5, 2) := by decide +kernel
theorem dX2_newInstrument_15 : decode cX2_newInstrument 15 = .ok (.iconst 0, 1) := by decide +kernel
theorem dX2_newInstrument_16 : decode cX2_newInstrument 16 = .ok (.iload_n 1, 1) := by decide +kernel
theorem dX2_newInstrument_17 : decode cX2_newInstrument 17 = .ok (.invokevirtual 34, 3) := by decide +kernel
theorem dX2_newInstrument_20 : decode cX2_newInstrument 20 = .ok (.aload_n 0, 1) := by decide +kernel
theorem dX2_newInstrument_21 : decode cX2_newInstrument 21 = .ok (.getfield 14, 3) := by decide +kernel
theorem dX2_newInstrument_24 : decode cX2_newInstrument 24 = .ok (.iload 5, 2) := by decide +kernel
theorem dX2_newInstrument_26 : decode cX2_newInstrument 26 = .ok (.iconst 1, 1) := by decide +kernel
theorem dX2_newInstrument_27 : decode cX2_newInstrument 27 = .ok (.iload_n 2, 1) := by decide +kernel
theorem dX2_newInstrument_28 : decode cX2_newInstrument 28 = .ok (.invokevirtual 34, 3) := by decide +kernel
theorem dX2_newInstrument_31 : decode cX2_newInstrument 31 = .ok (.aload_n 0, 1) := by decide +kernel
theorem dX2_newInstrument_32 : decode cX2_newInstrument 32 = .ok (.getfield 14, 3) := by decide +kernel
theorem dX2_newInstrument_35 : decode cX2_newInstrument 35 = .ok (.iload 5, 2) := by decide +kernel
theorem dX2_newInstrument_37 : decode cX2_newInstrument 37 = .ok (.iconst 2, 1) := by decide +kernel
theorem dX2_newInstrument_38 : decode cX2_newInstrument 38 = .ok (.iload_n 3, 1) := by decide +kernel
theorem dX2_newInstrument_39 : decode cX2_newInstrument 39 = .ok (.invokevirtual 34, 3) := by decide +kernel
theorem dX2_newInstrument_42 : decode cX2_newInstrument 42 = .ok (.aload_n 0, 1) := by decide +kernel
theorem dX2_newInstrument_43 : decode cX2_newInstrument 43 = .ok (.getfield 14, 3) := by decide +kernel
theorem dX2_newInstrument_46 : decode cX2_newInstrument 46 = .ok (.iload 5, 2) := by decide +kernel
theorem dX2_newInstrument_48 : decode cX2_newInstrument 48 = .ok (.iconst 3, 1) := by decide +kernel
theorem dX2_newInstrument_49 : decode cX2_newInstrument 49 = .ok (.iload 4, 2) := by decide +kernel
theorem dX2_newInstrument_51 : decode cX2_newInstrument 51 = .ok (.ifCond .eq 7, 3) := by decide +kernel
theorem dX2_newInstrument_54 : decode cX2_newInstrument 54 = .ok (.iconst 1, 1) := by decide +kernel
theorem dX2_newInstrument_55 : decode cX2_newInstrument 55 = .ok (.goto 4, 3) := by decide +kernel
theorem dX2_newInstrument_58 : decode cX2_newInstrument 58 = .ok (.iconst 0, 1) := by decide +kernel
theorem dX2_newInstrument_59 : decode cX2_newInstrument 59 = .ok (.invokevirtual 34, 3) := by decide +kernel
theorem dX2_newInstrument_62 : decode cX2_newInstrument 62 = .ok (.aload_n 0, 1) := by decide +kernel
theorem dX2_newInstrument_63 : decode cX2_newInstrument 63 = .ok (.getfield 14, 3) := by decide +kernel
theorem dX2_newInstrument_66 : decode cX2_newInstrument 66 = .ok (.iload 5, 2) := by decide +kernel
theorem dX2_newInstrument_68 : decode cX2_newInstrument 68 = .ok (.bipush 8, 2) := by decide +kernel
theorem dX2_newInstrument_70 : decode cX2_newInstrument 70 = .ok (.iload_n 3, 1) := by decide +kernel
theorem dX2_newInstrument_71 : decode cX2_newInstrument 71 = .ok (.iload_n 1, 1) := by decide +kernel
theorem dX2_newInstrument_72 : decode cX2_newInstrument 72 = .ok (.imul, 1) := by decide +kernel
theorem dX2_newInstrument_73 : decode cX2_newInstrument 73 = .ok (.iload_n 2, 1) := by decide +kernel
theorem dX2_newInstrument_74 : decode cX2_newInstrument 74 = .ok (.imul, 1) := by decide +kernel
theorem dX2_newInstrument_75 : decode cX2_newInstrument 75 = .ok (.invokevirtual 34, 3) := by decide +kernel
theorem dX2_newInstrument_78 : decode cX2_newInstrument 78 = .ok (.aload_n 0, 1) := by decide +kernel
theorem dX2_newInstrument_79 : decode cX2_newInstrument 79 = .ok (.getfield 14, 3) := by decide +kernel
theorem dX2_newInstrument_82 : decode cX2_newInstrument 82 = .ok (.iload 5, 2) := by decide +kernel
theorem dX2_newInstrument_84 : decode cX2_newInstrument 84 = .ok (.bipush 9, 2) := by decide +kernel
theorem dX2_newInstrument_86 : decode cX2_newInstrument 86 = .ok (.iload 4, 2) := by decide +kernel
theorem dX2_newInstrument_88 : decode cX2_newInstrument 88 = .ok (.ifCond .eq 9, 3) := by decide +kernel
theorem dX2_newInstrument_91 : decode cX2_newInstrument 91 = .ok (.iload_n 1, 1) := by decide +kernel
theorem dX2_newInstrument_92 : decode cX2_newInstrument 92 = .ok (.iconst 1, 1) := by decide +kernel
theorem dX2_newInstrument_93 : decode cX2_newInstrument 93 = .ok (.iadd, 1) := by decide +kernel
theorem dX2_newInstrument_94 : decode cX2_newInstrument 94 = .ok (.goto 6, 3) := by decide +kernel
theorem dX2_newInstrument_97 : decode cX2_newInstrument 97 = .ok (.iload_n 1, 1) := by decide +kernel
theorem dX2_newInstrument_98 : decode cX2_newInstrument 98 = .ok (.iconst 1, 1) := by decide +kernel
theorem dX2_newInstrument_99 : decode cX2_newInstrument 99 = .ok (.isub, 1) := by decide +kernel
theorem dX2_newInstrument_100 : decode cX2_newInstrument 100 = .ok (.iload_n 2, 1) := by decide +kernel
theorem dX2_newInstrument_101 : decode cX2_newInstrument 101 = .ok (.imul, 1) := by decide +kernel
theorem dX2_newInstrument_102 : decode cX2_newInstrument 102 = .ok (.invokevirtual 34, 3) := by decide +kernel
theorem dX2_newInstrument_105 : decode cX2_newInstrument 105 = .ok (.iload 5, 2) := by decide +kernel
theorem dX2_newInstrument_107 : decode cX2_newInstrument 107 = .ok (.ireturn, 1) := by decide +kernel
def f_X2_newInstrument_b100    (σ : Sg) (v2 v5 w0 w1 w2 : Int32) : Option (Int32 × Sg) := (f_X3_put σ 0 w2 w1 (w0 * v2)).bind fun σ10 => some (v5, σ10)
def f_X2_newInstrument_b59    (σ : Sg) (v1 v2 v3 v4 v5 w0 w1 w2 : Int32) : Option (Int32 × Sg) := (f_X3_put σ 0 w2 w1 w0).bind fun σ7 => (f_X3_put σ7 0 v5 (8 : Int32) ((v3 * v1) * v2)).bind fun σ8 => if v4 = 0 then (f_X2_newInstrument_b100 σ8 v2 v5 (v1 - (1 : Int32)) (9 : Int32) v5) else (f_X2_newInstrument_b100 σ8 v2 v5 (v1 + (1 : Int32)) (9 : Int32) v5)
def f_X2_newInstrument (σ : Sg)  (p1 p2 p3 p4 : Int32) : Option (Int32 × Sg) := (f_X3_newRow σ 0).bind fun q11 => lts q11.2 fun σ2 => lt q11.1 fun r1 => (f_X3_put σ2 0 r1 (0 : Int32) p1).bind fun σ3 => (f_X3_put σ3 0 r1 (1 : Int32) p2).bind fun σ4 => (f_X3_put σ4 0 r1 (2 : Int32) p3).bind fun σ5 => if p4 = 0 then (f_X2_newInstrument_b59 σ5 p1 p2 p3 p4 r1 (0 : Int32) (3 : Int32) r1) else (f_X2_newInstrument_b59 σ5 p1 p2 p3 p4 r1 (1 : Int32) (3 : Int32) r1)
set_option maxHeartbeats 4000000 in
set_option maxRecDepth 100000 in
theorem L_X2_newInstrument_b100 {Γ : Cx} (G : va_G) (cls : Cls) (ad : Nat → Nat) (hi : inj 49 ad) (hC : CX Γ (YX G cls ad) cX2_newInstrument RX2 6 (some .int) 3 67) (hz0 : Γ.2.2.2.2.2.1 = 0) (hz1 : Γ.2.2.2.2.2.2 = 0)     (σ : Sg) (v2 v5 w0 w1 w2 : Int32) : WX Γ (YX G cls ad) (qf Γ (YX G cls ad) fiS) 6 100 [(2, .int v2), (5, .int v5)] [.int w0, .int w1, .int w2, .ref (ad 0)] σ (f_X2_newInstrument_b100   σ v2 v5 w0 w1 w2) := by
  unfold f_X2_newInstrument_b100
  refine X_iload_n hC 0 rfl dX2_newInstrument_100 ?_
  refine X_imul hC dX2_newInstrument_101 ?_
  refine X_callV (C := RX3) (T := TX3) (N := 4) (ci := 3) (rest := []) hC (c_X3_put _ G cls ad hi σ 0 (by omega) w2 w1 (w0 * v2)) (gV tw_180 tw_181 tw_182 tw_3 tw_183) rfl (wX (k := 0) (by omega) (cX_tab (by omega))) rfl rfl okm_X3_put (by decide) dX2_newInstrument_102 rfl (Nat.le_of_ble_eq_true rfl) (fun σ10 => ?_)
  refine X_iload hC 1 rfl dX2_newInstrument_105 ?_
  exact X_iret hC hz0 hz1 dX2_newInstrument_107 rfl
set_option maxHeartbeats 4000000 in
set_option maxRecDepth 100000 in
theorem L_X2_newInstrument_b59 {Γ : Cx} (G : va_G) (cls : Cls) (ad : Nat → Nat) (hi : inj 49 ad) (hC : CX Γ (YX G cls ad) cX2_newInstrument RX2 6 (some .int) 3 67) (hz0 : Γ.2.2.2.2.2.1 = 0) (hz1 : Γ.2.2.2.2.2.2 = 0)     (σ : Sg) (v1 v2 v3 v4 v5 w0 w1 w2 : Int32) : WX Γ (YX G cls ad) (qf Γ (YX G cls ad) fiS) 6 59 [(0, .ref (ad 19)), (1, .int v1), (2, .int v2), (3, .int v3), (4, .int v4), (5, .int v5)] [.int w0, .int w1, .int w2, .ref (ad 0)] σ (f_X2_newInstrument_b59   σ v1 v2 v3 v4 v5 w0 w1 w2) := by
  unfold f_X2_newInstrument_b59
  refine X_callV (C := RX3) (T := TX3) (N := 4) (ci := 3) (rest := []) hC (c_X3_put _ G cls ad hi σ 0 (by omega) w2 w1 w0) (gV tw_180 tw_181 tw_182 tw_3 tw_183) rfl (wX (k := 0) (by omega) (cX_tab (by omega))) rfl rfl okm_X3_put (by decide) dX2_newInstrument_59 rfl (Nat.le_of_ble_eq_true rfl) (fun σ7 => ?_)
  refine X_aload_n hC 0 rfl dX2_newInstrument_62 ?_
  refine X_getf (C := RX2) (T := TX2) (N := 3) (ci := 2) hC 0 (wX (k := 19) (by omega) cX_now) rfl hinX2 (by decide) tw_46 rfl rfl dX2_newInstrument_63 ?_
  refine X_iload hC 5 rfl dX2_newInstrument_66 ?_
  refine X_bipush (v := 8) hC (by decide) dX2_newInstrument_68 ?_
  refine X_iload_n hC 3 rfl dX2_newInstrument_70 ?_
  refine X_iload_n hC 1 rfl dX2_newInstrument_71 ?_
  refine X_imul hC dX2_newInstrument_72 ?_
  refine X_iload_n hC 2 rfl dX2_newInstrument_73 ?_
  refine X_imul hC dX2_newInstrument_74 ?_
  refine X_callV (C := RX3) (T := TX3) (N := 4) (ci := 3) (rest := []) hC (c_X3_put _ G cls ad hi σ7 0 (by omega) v5 (8 : Int32) ((v3 * v1) * v2)) (gV tw_180 tw_181 tw_182 tw_3 tw_183) rfl (wX (k := 0) (by omega) (cX_tab (by omega))) rfl rfl okm_X3_put (by decide) dX2_newInstrument_75 rfl (Nat.le_of_ble_eq_true rfl) (fun σ8 => ?_)
  refine X_aload_n hC 0 rfl dX2_newInstrument_78 ?_
  refine X_getf (C := RX2) (T := TX2) (N := 3) (ci := 2) hC 0 (wX (k := 19) (by omega) cX_now) rfl hinX2 (by decide) tw_46 rfl rfl dX2_newInstrument_79 ?_
  refine X_iload hC 5 rfl dX2_newInstrument_82 ?_
  refine X_bipush (v := 9) hC (by decide) dX2_newInstrument_84 ?_
  refine X_iload hC 4 rfl dX2_newInstrument_86 ?_
  refine X_if_eq hC 97 dX2_newInstrument_88 (by decide) (fun h9 => ?_) (fun h9 => ?_)
  · refine X_iload_n hC 1 rfl dX2_newInstrument_97 ?_
    refine X_iconst (v := 1) hC (by decide) dX2_newInstrument_98 ?_
    refine X_isub hC dX2_newInstrument_99 ?_
    exact X_sub [2, 5] rfl (L_X2_newInstrument_b100 G cls ad hi hC hz0 hz1 σ8 v2 v5 (v1 - (1 : Int32)) (9 : Int32) v5)
  · refine X_iload_n hC 1 rfl dX2_newInstrument_91 ?_
    refine X_iconst (v := 1) hC (by decide) dX2_newInstrument_92 ?_
    refine X_iadd hC dX2_newInstrument_93 ?_
    refine X_goto hC 100 dX2_newInstrument_94 (by decide) ?_
    exact X_sub [2, 5] rfl (L_X2_newInstrument_b100 G cls ad hi hC hz0 hz1 σ8 v2 v5 (v1 + (1 : Int32)) (9 : Int32) v5)
theorem okm_X2_newInstrument : okm yX2_newInstrument 4 = true := by decide +kernel
set_option maxHeartbeats 4000000 in
set_option maxRecDepth 100000 in
theorem c_X2_newInstrument (l : Launch) (G : va_G) (cls : Cls) (ad : Nat → Nat) (hi : inj 49 ad) (σ : Sg)   (p1 p2 p3 p4 : Int32) : MT l (YX G cls ad) yX2_newInstrument (.code yX2_newInstrument cX2_newInstrument 6 (some .int) :: gw) 3 67 [.ref (ad 19), .int p1, .int p2, .int p3, .int p4] fiS σ (f_X2_newInstrument σ  p1 p2 p3 p4) := by
  refine MT.of (own := RX2) (by decide) (YX_D hi) rfl (Nat.le_of_ble_eq_true rfl) fun Γ _ hz0 hz1 hC => ?_
  show WX Γ (YX G cls ad) (qf Γ (YX G cls ad) fiS) 6 0 [(0, .ref (ad 19)), (1, .int p1), (2, .int p2), (3, .int p3), (4, .int p4)] [] σ (f_X2_newInstrument σ  p1 p2 p3 p4)
  unfold f_X2_newInstrument
  refine X_aload_n hC 0 rfl dX2_newInstrument_0 ?_
  refine X_getf (C := RX2) (T := TX2) (N := 3) (ci := 2) hC 0 (wX (k := 19) (by omega) cX_now) rfl hinX2 (by decide) tw_46 rfl rfl dX2_newInstrument_1 ?_
  refine X_callS (C := RX3) (T := TX3) (N := 4) (ci := 3) (rest := []) hC (c_X3_newRow _ G cls ad hi σ 0 (by omega)) (gV tw_296 tw_207 tw_208 tw_3 tw_209) rfl (wX (k := 0) (by omega) (cX_tab (by omega))) rfl rfl okm_X3_newRow (by decide) dX2_newInstrument_4 rfl (Nat.le_of_ble_eq_true rfl) (fun q11 => X_lts fun σ2 => X_lt fun r1 => ?_)
  refine X_istore (ls' := [(5, .int r1), (0, .ref (ad 19)), (1, .int p1), (2, .int p2), (3, .int p3), (4, .int p4)]) hC dX2_newInstrument_7 (by decide) rfl ?_
  refine X_aload_n hC 1 rfl dX2_newInstrument_9 ?_
  refine X_getf (C := RX2) (T := TX2) (N := 3) (ci := 2) hC 0 (wX (k := 19) (by omega) cX_now) rfl hinX2 (by decide) tw_46 rfl rfl dX2_newInstrument_10 ?_
  refine X_iload hC 0 rfl dX2_newInstrument_13 ?_
  refine X_iconst (v := 0) hC (by decide) dX2_newInstrument_15 ?_
  refine X_iload_n hC 2 rfl dX2_newInstrument_16 ?_
  refine X_callV (C := RX3) (T := TX3) (N := 4) (ci := 3) (rest := []) hC (c_X3_put _ G cls ad hi σ2 0 (by omega) r1 (0 : Int32) p1) (gV tw_180 tw_181 tw_182 tw_3 tw_183) rfl (wX (k := 0) (by omega) (cX_tab (by omega))) rfl rfl okm_X3_put (by decide) dX2_newInstrument_17 rfl (Nat.le_of_ble_eq_true rfl) (fun σ3 => ?_)
  refine X_aload_n hC 1 rfl dX2_newInstrument_20 ?_
  refine X_getf (C := RX2) (T := TX2) (N := 3) (ci := 2) hC 0 (wX (k := 19) (by omega) cX_now) rfl hinX2 (by decide) tw_46 rfl rfl dX2_newInstrument_21 ?_
  refine X_iload hC 0 rfl dX2_newInstrument_24 ?_
  refine X_iconst (v := 1) hC (by decide) dX2_newInstrument_26 ?_
  refine X_iload_n hC 3 rfl dX2_newInstrument_27 ?_
  refine X_callV (C := RX3) (T := TX3) (N := 4) (ci := 3) (rest := []) hC (c_X3_put _ G cls ad hi σ3 0 (by omega) r1 (1 : Int32) p2) (gV tw_180 tw_181 tw_182 tw_3 tw_183) rfl (wX (k := 0) (by omega) (cX_tab (by omega))) rfl rfl okm_X3_put (by decide) dX2_newInstrument_28 rfl (Nat.le_of_ble_eq_true rfl) (fun σ4 => ?_)
  refine X_aload_n hC 1 rfl dX2_newInstrument_31 ?_
  refine X_getf (C := RX2) (T := TX2) (N := 3) (ci := 2) hC 0 (wX (k := 19) (by omega) cX_now) rfl hinX2 (by decide) tw_46 rfl rfl dX2_newInstrument_32 ?_
  refine X_iload hC 0 rfl dX2_newInstrument_35 ?_
  refine X_iconst (v := 2) hC (by decide) dX2_newInstrument_37 ?_
  refine X_iload_n hC 4 rfl dX2_newInstrument_38 ?_
  refine X_callV (C := RX3) (T := TX3) (N := 4) (ci := 3) (rest := []) hC (c_X3_put _ G cls ad hi σ4 0 (by omega) r1 (2 : Int32) p3) (gV tw_180 tw_181 tw_182 tw_3 tw_183) rfl (wX (k := 0) (by omega) (cX_tab (by omega))) rfl rfl okm_X3_put (by decide) dX2_newInstrument_39 rfl (Nat.le_of_ble_eq_true rfl) (fun σ5 => ?_)
  refine X_aload_n hC 1 rfl dX2_newInstrument_42 ?_
  refine X_getf (C := RX2) (T := TX2) (N := 3) (ci := 2) hC 0 (wX (k := 19) (by omega) cX_now) rfl hinX2 (by decide) tw_46 rfl rfl dX2_newInstrument_43 ?_
  refine X_iload hC 0 rfl dX2_newInstrument_46 ?_
  refine X_iconst (v := 3) hC (by decide) dX2_newInstrument_48 ?_
  refine X_iload hC 5 rfl dX2_newInstrument_49 ?_
  refine X_if_eq hC 58 dX2_newInstrument_51 (by decide) (fun h6 => ?_) (fun h6 => ?_)
  · refine X_iconst (v := 0) hC (by decide) dX2_newInstrument_58 ?_
    exact X_sub [1, 2, 3, 4, 5, 0] rfl (L_X2_newInstrument_b59 G cls ad hi hC hz0 hz1 σ5 p1 p2 p3 p4 r1 (0 : Int32) (3 : Int32) r1)
  · refine X_iconst (v := 1) hC (by decide) dX2_newInstrument_54 ?_
    refine X_goto hC 59 dX2_newInstrument_55 (by decide) ?_
    exact X_sub [1, 2, 3, 4, 5, 0] rfl (L_X2_newInstrument_b59 G cls ad hi hC hz0 hz1 σ5 p1 p2 p3 p4 r1 (1 : Int32) (3 : Int32) r1)
theorem dX2_mainDivision_0 : decode cX2_mainDivision 0 = .ok (.aload_n 0, 1) := by decide +kernel
theorem dX2_mainDivision_1 : decode cX2_mainDivision 1 = .ok (.getfield 14, 3) := by decide +kernel
theorem dX2_mainDivision_4 : decode cX2_mainDivision 4 = .ok (.iload_n 1, 1) := by decide +kernel
theorem dX2_mainDivision_5 : decode cX2_mainDivision 5 = .ok (.iconst 0, 1) := by decide +kernel
theorem dX2_mainDivision_6 : decode cX2_mainDivision 6 = .ok (.invokevirtual 38, 3) := by decide +kernel
theorem dX2_mainDivision_9 : decode cX2_mainDivision 9 = .ok (.aload_n 0, 1) := by decide +kernel
theorem dX2_mainDivision_10 : decode cX2_mainDivision 10 = .ok (.getfield 14, 3) := by decide +kernel
theorem dX2_mainDivision_13 : decode cX2_mainDivision 13 = .ok (.iload_n 1, 1) := by decide +kernel
theorem dX2_mainDivision_14 : decode cX2_mainDivision 14 = .ok (.iconst 1, 1) := by decide +kernel
theorem dX2_mainDivision_15 : decode cX2_mainDivision 15 = .ok (.invokevirtual 38, 3) := by decide +kernel
theorem dX2_mainDivision_18 : decode cX2_mainDivision 18 = .ok (.imul, 1) := by decide +kernel
theorem dX2_mainDivision_19 : decode cX2_mainDivision 19 = .ok (.ireturn, 1) := by decide +kernel
def f_X2_mainDivision (σ : Sg)  (p1 : Int32) : Option (Int32) := (f_X3_cell σ 0 p1 (0 : Int32)).bind fun r1 => (f_X3_cell σ 0 p1 (1 : Int32)).bind fun r2 => some (r1 * r2)
theorem okm_X2_mainDivision : okm yX2_mainDivision 1 = true := by decide +kernel
set_option maxHeartbeats 4000000 in
set_option maxRecDepth 100000 in
theorem c_X2_mainDivision (l : Launch) (G : va_G) (cls : Cls) (ad : Nat → Nat) (hi : inj 49 ad) (σ : Sg)   (p1 : Int32) : MT l (YX G cls ad) yX2_mainDivision (.code yX2_mainDivision cX2_mainDivision 2 (some .int) :: gw) 2 44 [.ref (ad 19), .int p1] (fiP σ) σ (f_X2_mainDivision σ  p1) := by
  refine MT.of (own := RX2) (by decide) (YX_D hi) rfl (Nat.le_of_ble_eq_true rfl) fun Γ _ hz0 hz1 hC => ?_
  show WX Γ (YX G cls ad) (qf Γ (YX G cls ad) (fiP σ)) 2 0 [(0, .ref (ad 19)), (1, .int p1)] [] σ (f_X2_mainDivision σ  p1)
  unfold f_X2_mainDivision
  refine X_aload_n hC 0 rfl dX2_mainDivision_0 ?_
  refine X_getf (C := RX2) (T := TX2) (N := 3) (ci := 2) hC 0 (wX (k := 19) (by omega) cX_now) rfl hinX2 (by decide) tw_46 rfl rfl dX2_mainDivision_1 ?_
  refine X_iload_n hC 1 rfl dX2_mainDivision_4 ?_
  refine X_iconst (v := 0) hC (by decide) dX2_mainDivision_5 ?_
  refine X_callP (C := RX3) (T := TX3) (N := 4) (ci := 3) (rest := []) hC (c_X3_cell _ G cls ad hi σ 0 (by omega) p1 (0 : Int32)) (gV tw_132 tw_133 tw_134 tw_3 tw_135) rfl (wX (k := 0) (by omega) (cX_tab (by omega))) rfl rfl okm_X3_cell (by decide) dX2_mainDivision_6 rfl (Nat.le_of_ble_eq_true rfl) (fun r1 => ?_)
  refine X_aload_n hC 0 rfl dX2_mainDivision_9 ?_
  refine X_getf (C := RX2) (T := TX2) (N := 3) (ci := 2) hC 0 (wX (k := 19) (by omega) cX_now) rfl hinX2 (by decide) tw_46 rfl rfl dX2_mainDivision_10 ?_
  refine X_iload_n hC 1 rfl dX2_mainDivision_13 ?_
  refine X_iconst (v := 1) hC (by decide) dX2_mainDivision_14 ?_
  refine X_callP (C := RX3) (T := TX3) (N := 4) (ci := 3) (rest := [.int r1]) hC (c_X3_cell _ G cls ad hi σ 0 (by omega) p1 (1 : Int32)) (gV tw_132 tw_133 tw_134 tw_3 tw_135) rfl (wX (k := 0) (by omega) (cX_tab (by omega))) rfl rfl okm_X3_cell (by decide) dX2_mainDivision_15 rfl (Nat.le_of_ble_eq_true rfl) (fun r2 => ?_)
  refine X_imul hC dX2_mainDivision_18 ?_
  exact X_iret hC hz0 hz1 dX2_mainDivision_19 rfl
theorem dX4_outside_0 : decode cX4_outside 0 = .ok (.iload_n 0, 1) := by decide +kernel
theorem dX4_outside_1 : decode cX4_outside 1 = .ok (.iload_n 1, 1) := by decide +kernel
theorem dX4_outside_2 : decode cX4_outside 2 = .ok (.if_icmp .lt 8, 3) := by decide +kernel
theorem dX4_outside_5 : decode cX4_outside 5 = .ok (.iload_n 0, 1) := by decide +kernel
theorem dX4_outside_6 : decode cX4_outside 6 = .ok (.iload_n 2, 1) := by decide +kernel
theorem dX4_outside_7 : decode cX4_outside 7 = .ok (.if_icmp .le 7, 3) := by decide +kernel
theorem dX4_outside_10 : decode cX4_outside 10 = .ok (.iconst 1, 1) := by decide +kernel
theorem dX4_outside_11 : decode cX4_outside 11 = .ok (.goto 4, 3) := by decide +kernel
theorem dX4_outside_14 : decode cX4_outside 14 = .ok (.iconst 0, 1) := by decide +kernel
theorem dX4_outside_15 : decode cX4_outside 15 = .ok (.ireturn, 1) := by decide +kernel
def f_X4_outside_b10 (σ : Sg)     : Option (Int32) := some (1 : Int32)
def f_X4_outside (σ : Sg)  (p0 p1 p2 : Int32) : Option (Int32) := if p0 < p1 then (f_X4_outside_b10 σ) else (if p0 ≤ p2 then (some (0 : Int32)) else (f_X4_outside_b10 σ))
set_option maxHeartbeats 4000000 in
set_option maxRecDepth 100000 in
theorem L_X4_outside_b10 {Γ : Cx} (G : va_G) (cls : Cls) (ad : Nat → Nat) (hi : inj 49 ad) (hC : CX Γ (YX G cls ad) cX4_outside RX4 3 (some .boolean) 0 0) (hz0 : Γ.2.2.2.2.2.1 = 0) (hz1 : Γ.2.2.2.2.2.2 = 0) (σ : Sg)      : WX Γ (YX G cls ad) (qf Γ (YX G cls ad) (fiP σ)) 3 10 [] [] σ (f_X4_outside_b10 σ   ) := by
  unfold f_X4_outside_b10
  refine X_iconst (v := 1) hC (by decide) dX4_outside_10 ?_
  refine X_goto hC 15 dX4_outside_11 (by decide) ?_
  exact X_zret hC hz0 hz1 rfl dX4_outside_15 rfl
theorem okm_X4_outside : okm yX4_outside 3 = true := by decide +kernel
set_option maxHeartbeats 4000000 in
set_option maxRecDepth 100000 in
theorem c_X4_outside (l : Launch) (G : va_G) (cls : Cls) (ad : Nat → Nat) (hi : inj 49 ad) (σ : Sg)   (p0 p1 p2 : Int32) : MT l (YX G cls ad) yX4_outside (.code yX4_outside cX4_outside 3 (some .boolean) :: gw) 0 0 [.int p0, .int p1, .int p2] (fiP σ) σ (f_X4_outside σ  p0 p1 p2) := by
  refine MT.of (own := RX4) (by decide) (YX_D hi) rfl (Nat.le_of_ble_eq_true rfl) fun Γ _ hz0 hz1 hC => ?_
  show WX Γ (YX G cls ad) (qf Γ (YX G cls ad) (fiP σ)) 3 0 [(0, .int p0), (1, .int p1), (2, .int p2)] [] σ (f_X4_outside σ  p0 p1 p2)
  unfold f_X4_outside
  refine X_iload_n hC 0 rfl dX4_outside_0 ?_
  refine X_iload_n hC 1 rfl dX4_outside_1 ?_
  refine X_icmp_lt hC 10 dX4_outside_2 (by decide) (fun h1 => ?_) (fun h1 => ?_)
  · exact X_sub [] rfl (L_X4_outside_b10 G cls ad hi hC hz0 hz1 σ)
  · refine X_iload_n hC 0 rfl dX4_outside_5 ?_
    refine X_iload_n hC 2 rfl dX4_outside_6 ?_
    refine X_icmp_le hC 14 dX4_outside_7 (by decide) (fun h2 => ?_) (fun h2 => ?_)
    · refine X_iconst (v := 0) hC (by decide) dX4_outside_14 ?_
      exact X_zret hC hz0 hz1 rfl dX4_outside_15 rfl
    · exact X_sub [] rfl (L_X4_outside_b10 G cls ad hi hC hz0 hz1 σ)
theorem dX2_isNoSetting_0 : decode cX2_isNoSetting 0 = .ok (.iload_n 2, 1) := by decide +kernel
theorem dX2_isNoSetting_1 : decode cX2_isNoSetting 1 = .ok (.iconst 0, 1) := by decide +kernel
theorem dX2_isNoSetting_2 : decode cX2_isNoSetting 2 = .ok (.aload_n 0, 1) := by decide +kernel
theorem dX2_isNoSetting_3 : decode cX2_isNoSetting 3 = .ok (.getfield 14, 3) := by decide +kernel
theorem dX2_isNoSetting_6 : decode cX2_isNoSetting 6 = .ok (.iload_n 1, 1) := by decide +kernel
theorem dX2_isNoSetting_7 : decode cX2_isNoSetting 7 = .ok (.bipush 8, 2) := by decide +kernel
theorem dX2_isNoSetting_9 : decode cX2_isNoSetting 9 = .ok (.invokevirtual 38, 3) := by decide +kernel
theorem dX2_isNoSetting_12 : decode cX2_isNoSetting 12 = .ok (.invokestatic 42, 3) := by decide +kernel
theorem dX2_isNoSetting_15 : decode cX2_isNoSetting 15 = .ok (.ireturn, 1) := by decide +kernel
def f_X2_isNoSetting (σ : Sg)  (p1 p2 : Int32) : Option (Int32) := (f_X3_cell σ 0 p1 (8 : Int32)).bind fun r1 => (f_X4_outside σ p2 (0 : Int32) r1).bind fun r2 => gd (isz r2) (some r2)
theorem okm_X2_isNoSetting : okm yX2_isNoSetting 2 = true := by decide +kernel
set_option maxHeartbeats 4000000 in
set_option maxRecDepth 100000 in
theorem c_X2_isNoSetting (l : Launch) (G : va_G) (cls : Cls) (ad : Nat → Nat) (hi : inj 49 ad) (σ : Sg)   (p1 p2 : Int32) : MT l (YX G cls ad) yX2_isNoSetting (.code yX2_isNoSetting cX2_isNoSetting 3 (some .boolean) :: gw) 2 44 [.ref (ad 19), .int p1, .int p2] (fiP σ) σ (f_X2_isNoSetting σ  p1 p2) := by
  refine MT.of (own := RX2) (by decide) (YX_D hi) rfl (Nat.le_of_ble_eq_true rfl) fun Γ _ hz0 hz1 hC => ?_
  show WX Γ (YX G cls ad) (qf Γ (YX G cls ad) (fiP σ)) 3 0 [(0, .ref (ad 19)), (1, .int p1), (2, .int p2)] [] σ (f_X2_isNoSetting σ  p1 p2)
  unfold f_X2_isNoSetting
  refine X_iload_n hC 2 rfl dX2_isNoSetting_0 ?_
  refine X_iconst (v := 0) hC (by decide) dX2_isNoSetting_1 ?_
  refine X_aload_n hC 0 rfl dX2_isNoSetting_2 ?_
  refine X_getf (C := RX2) (T := TX2) (N := 3) (ci := 2) hC 0 (wX (k := 19) (by omega) cX_now) rfl hinX2 (by decide) tw_46 rfl rfl dX2_isNoSetting_3 ?_
  refine X_iload_n hC 1 rfl dX2_isNoSetting_6 ?_
  refine X_bipush (v := 8) hC (by decide) dX2_isNoSetting_7 ?_
  refine X_callP (C := RX3) (T := TX3) (N := 4) (ci := 3) (rest := [.int (0 : Int32), .int p2]) hC (c_X3_cell _ G cls ad hi σ 0 (by omega) p1 (8 : Int32)) (gV tw_132 tw_133 tw_134 tw_3 tw_135) rfl (wX (k := 0) (by omega) (cX_tab (by omega))) rfl rfl okm_X3_cell (by decide) dX2_isNoSetting_9 rfl (Nat.le_of_ble_eq_true rfl) (fun r1 => ?_)
  refine X_statNP (rest := []) hC (c_X4_outside _ G cls ad hi σ p2 (0 : Int32) r1) (fun _ hn => hn.1) tw_247 tw_246 tw_1 rfl okm_X4_outside (by decide) dX2_isNoSetting_12 rfl (Nat.le_of_ble_eq_true rfl) (fun r2 => ?_)
  exact X_gd (fun h3 => X_zret hC hz0 hz1 (nz h3) dX2_isNoSetting_15 rfl)
theorem dX4_trapBit_0 : decode cX4_trapBit 0 = .ok (.iload_n 0, 1) := by decide +kernel
theorem dX4_trapBit_1 : decode cX4_trapBit 1 = .ok (.ifCond .ne 7, 3) := by decide +kernel
theorem dX4_trapBit_4 : decode cX4_trapBit 4 = .ok (.iconst 0, 1) := by decide +kernel
theorem dX4_trapBit_5 : decode cX4_trapBit 5 = .ok (.goto 8, 3) := by decide +kernel
theorem dX4_trapBit_8 : decode cX4_trapBit 8 = .ok (.iconst 1, 1) := by decide +kernel
theorem dX4_trapBit_9 : decode cX4_trapBit 9 = .ok (.iload_n 0, 1) := by decide +kernel
theorem dX4_trapBit_10 : decode cX4_trapBit 10 = .ok (.iconst 1, 1) := by decide +kernel
theorem dX4_trapBit_11 : decode cX4_trapBit 11 = .ok (.isub, 1) := by decide +kernel
theorem dX4_trapBit_12 : decode cX4_trapBit 12 = .ok (.ishl, 1) := by decide +kernel
theorem dX4_trapBit_13 : decode cX4_trapBit 13 = .ok (.ireturn, 1) := by decide +kernel
def f_X4_trapBit (σ : Sg)  (p0 : Int32) : Option (Int32) := if p0 = 0 then (some (0 : Int32)) else (some ((1 : Int32) <<< ((p0 - (1 : Int32)) &&& 31)))
theorem okm_X4_trapBit : okm yX4_trapBit 1 = true := by decide +kernel
set_option maxHeartbeats 4000000 in
set_option maxRecDepth 100000 in
theorem c_X4_trapBit (l : Launch) (G : va_G) (cls : Cls) (ad : Nat → Nat) (hi : inj 49 ad) (σ : Sg)   (p0 : Int32) : MT l (YX G cls ad) yX4_trapBit (.code yX4_trapBit cX4_trapBit 1 (some .int) :: gw) 0 0 [.int p0] (fiP σ) σ (f_X4_trapBit σ  p0) := by
  refine MT.of (own := RX4) (by decide) (YX_D hi) rfl (Nat.le_of_ble_eq_true rfl) fun Γ _ hz0 hz1 hC => ?_
  show WX Γ (YX G cls ad) (qf Γ (YX G cls ad) (fiP σ)) 1 0 [(0, .int p0)] [] σ (f_X4_trapBit σ  p0)
  unfold f_X4_trapBit
  refine X_iload_n hC 0 rfl dX4_trapBit_0 ?_
  refine X_if_ne hC 8 dX4_trapBit_1 (by decide) (fun h1 => ?_) (fun h1 => ?_)
  · refine X_iconst (v := 1) hC (by decide) dX4_trapBit_8 ?_
    refine X_iload_n hC 0 rfl dX4_trapBit_9 ?_
    refine X_iconst (v := 1) hC (by decide) dX4_trapBit_10 ?_
    refine X_isub hC dX4_trapBit_11 ?_
    refine X_ishl hC dX4_trapBit_12 ?_
    exact X_iret hC hz0 hz1 dX4_trapBit_13 rfl
  · refine X_iconst (v := 0) hC (by decide) dX4_trapBit_4 ?_
    refine X_goto hC 13 dX4_trapBit_5 (by decide) ?_
    exact X_iret hC hz0 hz1 dX4_trapBit_13 rfl
theorem dX4_has_0 : decode cX4_has 0 = .ok (.iload_n 0, 1) := by decide +kernel
theorem dX4_has_1 : decode cX4_has 1 = .ok (.iload_n 1, 1) := by decide +kernel
theorem dX4_has_2 : decode cX4_has 2 = .ok (.iand, 1) := by decide +kernel
theorem dX4_has_3 : decode cX4_has 3 = .ok (.ifCond .eq 7, 3) := by decide +kernel
theorem dX4_has_6 : decode cX4_has 6 = .ok (.iconst 1, 1) := by decide +kernel
theorem dX4_has_7 : decode cX4_has 7 = .ok (.goto 4, 3) := by decide +kernel
theorem dX4_has_10 : decode cX4_has 10 = .ok (.iconst 0, 1) := by decide +kernel
theorem dX4_has_11 : decode cX4_has 11 = .ok (.ireturn, 1) := by decide +kernel
def f_X4_has (σ : Sg)  (p0 p1 : Int32) : Option (Int32) := if (p0 &&& p1) = 0 then (some (0 : Int32)) else (some (1 : Int32))
theorem okm_X4_has : okm yX4_has 2 = true := by decide +kernel
set_option maxHeartbeats 4000000 in
set_option maxRecDepth 100000 in
theorem c_X4_has (l : Launch) (G : va_G) (cls : Cls) (ad : Nat → Nat) (hi : inj 49 ad) (σ : Sg)   (p0 p1 : Int32) : MT l (YX G cls ad) yX4_has (.code yX4_has cX4_has 2 (some .boolean) :: gw) 0 0 [.int p0, .int p1] (fiP σ) σ (f_X4_has σ  p0 p1) := by
  refine MT.of (own := RX4) (by decide) (YX_D hi) rfl (Nat.le_of_ble_eq_true rfl) fun Γ _ hz0 hz1 hC => ?_
  show WX Γ (YX G cls ad) (qf Γ (YX G cls ad) (fiP σ)) 2 0 [(0, .int p0), (1, .int p1)] [] σ (f_X4_has σ  p0 p1)
  unfold f_X4_has
  refine X_iload_n hC 0 rfl dX4_has_0 ?_
  refine X_iload_n hC 1 rfl dX4_has_1 ?_
  refine X_iand hC dX4_has_2 ?_
  refine X_if_eq hC 10 dX4_has_3 (by decide) (fun h1 => ?_) (fun h1 => ?_)
  · refine X_iconst (v := 0) hC (by decide) dX4_has_10 ?_
    exact X_zret hC hz0 hz1 rfl dX4_has_11 rfl
  · refine X_iconst (v := 1) hC (by decide) dX4_has_6 ?_
    refine X_goto hC 11 dX4_has_7 (by decide) ?_
    exact X_zret hC hz0 hz1 rfl dX4_has_11 rfl
theorem dX2_tellAll_0 : decode cX2_tellAll 0 = .ok (.iconst 0, 1) := by decide +kernel
theorem dX2_tellAll_1 : decode cX2_tellAll 1 = .ok (.istore_n 2, 1) := by decide +kernel
theorem dX2_tellAll_2 : decode cX2_tellAll 2 = .ok (.iconst 0, 1) := by decide +kernel
theorem dX2_tellAll_3 : decode cX2_tellAll 3 = .ok (.istore_n 3, 1) := by decide +kernel
theorem dX2_tellAll_4 : decode cX2_tellAll 4 = .ok (.iload_n 3, 1) := by decide +kernel
theorem dX2_tellAll_5 : decode cX2_tellAll 5 = .ok (.aload_n 0, 1) := by decide +kernel
theorem dX2_tellAll_6 : decode cX2_tellAll 6 = .ok (.getfield 20, 3) := by decide +kernel
theorem dX2_tellAll_9 : decode cX2_tellAll 9 = .ok (.invokevirtual 46, 3) := by decide +kernel
theorem dX2_tellAll_12 : decode cX2_tellAll 12 = .ok (.if_icmp .ge 51, 3) := by decide +kernel
theorem dX2_tellAll_15 : decode cX2_tellAll 15 = .ok (.aload_n 0, 1) := by decide +kernel
theorem dX2_tellAll_16 : decode cX2_tellAll 16 = .ok (.getfield 20, 3) := by decide +kernel
theorem dX2_tellAll_19 : decode cX2_tellAll 19 = .ok (.iload_n 3, 1) := by decide +kernel
theorem dX2_tellAll_20 : decode cX2_tellAll 20 = .ok (.iconst 2, 1) := by decide +kernel
theorem dX2_tellAll_21 : decode cX2_tellAll 21 = .ok (.invokevirtual 38, 3) := by decide +kernel
theorem dX2_tellAll_24 : decode cX2_tellAll 24 = .ok (.istore 4, 2) := by decide +kernel
theorem dX2_tellAll_26 : decode cX2_tellAll 26 = .ok (.iload 4, 2) := by decide +kernel
theorem dX2_tellAll_28 : decode cX2_tellAll 28 = .ok (.iload_n 1, 1) := by decide +kernel
theorem dX2_tellAll_29 : decode cX2_tellAll 29 = .ok (.invokestatic 49, 3) := by decide +kernel
theorem dX2_tellAll_32 : decode cX2_tellAll 32 = .ok (.invokestatic 53, 3) := by decide +kernel
theorem dX2_tellAll_35 : decode cX2_tellAll 35 = .ok (.ifCond .ne 22, 3) := by decide +kernel
theorem dX2_tellAll_38 : decode cX2_tellAll 38 = .ok (.aload_n 0, 1) := by decide +kernel
theorem dX2_tellAll_39 : decode cX2_tellAll 39 = .ok (.getfield 20, 3) := by decide +kernel
theorem dX2_tellAll_42 : decode cX2_tellAll 42 = .ok (.iload_n 3, 1) := by decide +kernel
theorem dX2_tellAll_43 : decode cX2_tellAll 43 = .ok (.iconst 2, 1) := by decide +kernel
theorem dX2_tellAll_44 : decode cX2_tellAll 44 = .ok (.iload 4, 2) := by decide +kernel
theorem dX2_tellAll_46 : decode cX2_tellAll 46 = .ok (.iload_n 1, 1) := by decide +kernel
theorem dX2_tellAll_47 : decode cX2_tellAll 47 = .ok (.invokestatic 49, 3) := by decide +kernel
theorem dX2_tellAll_50 : decode cX2_tellAll 50 = .ok (.ior, 1) := by decide +kernel
theorem dX2_tellAll_51 : decode cX2_tellAll 51 = .ok (.invokevirtual 34, 3) := by decide +kernel
theorem dX2_tellAll_54 : decode cX2_tellAll 54 = .ok (.iinc 2 1, 3) := by decide +kernel
theorem dX2_tellAll_57 : decode cX2_tellAll 57 = .ok (.iinc 3 1, 3) := by decide +kernel
theorem dX2_tellAll_60 : decode cX2_tellAll 60 = .ok (.goto (-56), 3) := by decide +kernel
theorem dX2_tellAll_63 : decode cX2_tellAll 63 = .ok (.iload_n 2, 1) := by decide +kernel
theorem dX2_tellAll_64 : decode cX2_tellAll 64 = .ok (.ireturn, 1) := by decide +kernel
def f_X2_tellAll_b57   (K4 : Sg → Int32 → Int32 → Int32 → Option (Int32 × Sg)) (σ : Sg) (v1 v2 v3 : Int32) : Option (Int32 × Sg) := lt (v3 + (1 : Int32)) fun x7 => K4 σ v1 v2 x7
def f_X2_tellAll_b4    : Nat → Sg → Int32 → Int32 → Int32 → Option (Int32 × Sg)
  | 0, _, _, _, _ => none
  | n + 1, σ, v1, v2, v3 => (f_X3_size σ 1).bind fun r1 => if r1 ≤ v3 then (some (v2, σ)) else ((f_X3_cell σ 1 v3 (2 : Int32)).bind fun r3 => (f_X4_trapBit σ v1).bind fun r4 => (f_X4_has σ r3 r4).bind fun r5 => if r5 = 0 then ((f_X4_trapBit σ v1).bind fun r8 => (f_X3_put σ 1 v3 (2 : Int32) (r3 ||| r8)).bind fun σ9 => lt (v2 + (1 : Int32)) fun x10 => f_X2_tellAll_b57 (f_X2_tellAll_b4   n) σ9 v1 x10 v3) else (f_X2_tellAll_b57 (f_X2_tellAll_b4   n) σ v1 v2 v3))
def f_X2_tellAll (σ : Sg)  (p1 : Int32) : Option (Int32 × Sg) := f_X2_tellAll_b4 fuel σ p1 (0 : Int32) (0 : Int32)
set_option maxHeartbeats 4000000 in
set_option maxRecDepth 100000 in
theorem L_X2_tellAll_b57 {Γ : Cx} (G : va_G) (cls : Cls) (ad : Nat → Nat) (hi : inj 49 ad) (hC : CX Γ (YX G cls ad) cX2_tellAll RX2 5 (some .int) 2 45) (hz0 : Γ.2.2.2.2.2.1 = 0) (hz1 : Γ.2.2.2.2.2.2 = 0)    (K4 : Sg → Int32 → Int32 → Int32 → Option (Int32 × Sg)) (hK4 : ∀ (σ : Sg) (v1 v2 v3 : Int32), WX Γ (YX G cls ad) (qf Γ (YX G cls ad) fiS) 5 4 [(0, .ref (ad 19)), (1, .int v1), (2, .int v2), (3, .int v3)] [] σ (K4 σ v1 v2 v3)) (σ : Sg) (v1 v2 v3 : Int32) : WX Γ (YX G cls ad) (qf Γ (YX G cls ad) fiS) 5 57 [(0, .ref (ad 19)), (1, .int v1), (2, .int v2), (3, .int v3)] [] σ (f_X2_tellAll_b57  K4 σ v1 v2 v3) := by
  unfold f_X2_tellAll_b57
  refine X_iinc (ls' := fun x7 => [(3, .int x7), (0, .ref (ad 19)), (1, .int v1), (2, .int v2)]) hC 3 dX2_tellAll_57 rfl (by decide) (by decide) (fun _ => rfl) (fun x7 => ?_)
  refine X_goto hC 4 dX2_tellAll_60 (by decide) ?_
  exact X_sub [1, 2, 3, 0] rfl (hK4 σ v1 v2 x7)
set_option maxHeartbeats 4000000 in
set_option maxRecDepth 100000 in
theorem L_X2_tellAll_b4 {Γ : Cx} (G : va_G) (cls : Cls) (ad : Nat → Nat) (hi : inj 49 ad) (hC : CX Γ (YX G cls ad) cX2_tellAll RX2 5 (some .int) 2 45) (hz0 : Γ.2.2.2.2.2.1 = 0) (hz1 : Γ.2.2.2.2.2.2 = 0)     : ∀ (n : Nat) (σ : Sg) (v1 v2 v3 : Int32), WX Γ (YX G cls ad) (qf Γ (YX G cls ad) fiS) 5 4 [(0, .ref (ad 19)), (1, .int v1), (2, .int v2), (3, .int v3)] [] σ (f_X2_tellAll_b4   n σ v1 v2 v3) := by
  intro n
  induction n with
  | zero => intro σ v1 v2 v3; exact X_none
  | succ n ih =>
    intro σ v1 v2 v3
    rw [f_X2_tellAll_b4.eq_2]
    refine X_iload_n hC 3 rfl dX2_tellAll_4 ?_
    refine X_aload_n hC 0 rfl dX2_tellAll_5 ?_
    refine X_getf (C := RX2) (T := TX2) (N := 3) (ci := 2) hC 1 (wX (k := 19) (by omega) cX_now) rfl hinX2 (by decide) tw_48 rfl rfl dX2_tellAll_6 ?_
    refine X_callP (C := RX3) (T := TX3) (N := 4) (ci := 3) (rest := [.int v3]) hC (c_X3_size _ G cls ad hi σ 1 (by omega)) (gV tw_124 tw_125 tw_126 tw_3 tw_127) rfl (wX (k := 1) (by omega) (cX_tab (by omega))) rfl rfl okm_X3_size (by decide) dX2_tellAll_9 rfl (Nat.le_of_ble_eq_true rfl) (fun r1 => ?_)
    refine X_icmp_ge hC 63 dX2_tellAll_12 (by decide) (fun h2 => ?_) (fun h2 => ?_)
    · refine X_iload_n hC 2 rfl dX2_tellAll_63 ?_
      exact X_iret hC hz0 hz1 dX2_tellAll_64 rfl
    · refine X_aload_n hC 0 rfl dX2_tellAll_15 ?_
      refine X_getf (C := RX2) (T := TX2) (N := 3) (ci := 2) hC 1 (wX (k := 19) (by omega) cX_now) rfl hinX2 (by decide) tw_48 rfl rfl dX2_tellAll_16 ?_
      refine X_iload_n hC 3 rfl dX2_tellAll_19 ?_
      refine X_iconst (v := 2) hC (by decide) dX2_tellAll_20 ?_
      refine X_callP (C := RX3) (T := TX3) (N := 4) (ci := 3) (rest := []) hC (c_X3_cell _ G cls ad hi σ 1 (by omega) v3 (2 : Int32)) (gV tw_132 tw_133 tw_134 tw_3 tw_135) rfl (wX (k := 1) (by omega) (cX_tab (by omega))) rfl rfl okm_X3_cell (by decide) dX2_tellAll_21 rfl (Nat.le_of_ble_eq_true rfl) (fun r3 => ?_)
      refine X_istore (ls' := [(4, .int r3), (0, .ref (ad 19)), (1, .int v1), (2, .int v2), (3, .int v3)]) hC dX2_tellAll_24 (by decide) rfl ?_
      refine X_iload hC 0 rfl dX2_tellAll_26 ?_
      refine X_iload_n hC 2 rfl dX2_tellAll_28 ?_
      refine X_statNP (rest := [.int r3]) hC (c_X4_trapBit _ G cls ad hi σ v1) (fun _ hn => hn.2.1) tw_287 tw_286 tw_1 rfl okm_X4_trapBit (by decide) dX2_tellAll_29 rfl (Nat.le_of_ble_eq_true rfl) (fun r4 => ?_)
      refine X_statNP (rest := []) hC (c_X4_has _ G cls ad hi σ r3 r4) (fun _ hn => hn.2.2.1) tw_284 tw_283 tw_1 rfl okm_X4_has (by decide) dX2_tellAll_32 rfl (Nat.le_of_ble_eq_true rfl) (fun r5 => ?_)
      refine X_if_ne hC 57 dX2_tellAll_35 (by decide) (fun h6 => ?_) (fun h6 => ?_)
      · exact X_sub [1, 2, 3, 4] rfl (L_X2_tellAll_b57 G cls ad hi hC hz0 hz1 (f_X2_tellAll_b4   n) ih σ v1 v2 v3)
      · refine X_aload_n hC 1 rfl dX2_tellAll_38 ?_
        refine X_getf (C := RX2) (T := TX2) (N := 3) (ci := 2) hC 1 (wX (k := 19) (by omega) cX_now) rfl hinX2 (by decide) tw_48 rfl rfl dX2_tellAll_39 ?_
        refine X_iload_n hC 4 rfl dX2_tellAll_42 ?_
        refine X_iconst (v := 2) hC (by decide) dX2_tellAll_43 ?_
        refine X_iload hC 0 rfl dX2_tellAll_44 ?_
        refine X_iload_n hC 2 rfl dX2_tellAll_46 ?_
        refine X_statNP (rest := [.int r3, .int (2 : Int32), .int v3, .ref (ad 1)]) hC (c_X4_trapBit _ G cls ad hi σ v1) (fun _ hn => hn.2.1) tw_287 tw_286 tw_1 rfl okm_X4_trapBit (by decide) dX2_tellAll_47 rfl (Nat.le_of_ble_eq_true rfl) (fun r8 => ?_)
        refine X_ior hC dX2_tellAll_50 ?_
        refine X_callV (C := RX3) (T := TX3) (N := 4) (ci := 3) (rest := []) hC (c_X3_put _ G cls ad hi σ 1 (by omega) v3 (2 : Int32) (r3 ||| r8)) (gV tw_180 tw_181 tw_182 tw_3 tw_183) rfl (wX (k := 1) (by omega) (cX_tab (by omega))) rfl rfl okm_X3_put (by decide) dX2_tellAll_51 rfl (Nat.le_of_ble_eq_true rfl) (fun σ9 => ?_)
        refine X_iinc (ls' := fun x10 => [(2, .int x10), (4, .int r3), (0, .ref (ad 19)), (1, .int v1), (3, .int v3)]) hC 3 dX2_tellAll_54 rfl (by decide) (by decide) (fun _ => rfl) (fun x10 => ?_)
        exact X_sub [2, 3, 0, 4] rfl (L_X2_tellAll_b57 G cls ad hi hC hz0 hz1 (f_X2_tellAll_b4   n) ih σ9 v1 x10 v3)
theorem okm_X2_tellAll : okm yX2_tellAll 1 = true := by decide +kernel
set_option maxHeartbeats 4000000 in
set_option maxRecDepth 100000 in
theorem c_X2_tellAll (l : Launch) (G : va_G) (cls : Cls) (ad : Nat → Nat) (hi : inj 49 ad) (σ : Sg)   (p1 : Int32) : MT l (YX G cls ad) yX2_tellAll (.code yX2_tellAll cX2_tellAll 5 (some .int) :: gw) 2 45 [.ref (ad 19), .int p1] fiS σ (f_X2_tellAll σ  p1) := by
  refine MT.of (own := RX2) (by decide) (YX_D hi) rfl (Nat.le_of_ble_eq_true rfl) fun Γ _ hz0 hz1 hC => ?_
  show WX Γ (YX G cls ad) (qf Γ (YX G cls ad) fiS) 5 0 [(0, .ref (ad 19)), (1, .int p1)] [] σ (f_X2_tellAll σ  p1)
  unfold f_X2_tellAll
  refine X_iconst (v := 0) hC (by decide) dX2_tellAll_0 ?_
  refine X_istore_n (ls' := [(2, .int (0 : Int32)), (0, .ref (ad 19)), (1, .int p1)]) hC dX2_tellAll_1 (by decide) rfl ?_
  refine X_iconst (v := 0) hC (by decide) dX2_tellAll_2 ?_
  refine X_istore_n (ls' := [(3, .int (0 : Int32)), (2, .int (0 : Int32)), (0, .ref (ad 19)), (1, .int p1)]) hC dX2_tellAll_3 (by decide) rfl ?_
  exact X_sub [2, 3, 1, 0] rfl (L_X2_tellAll_b4 G cls ad hi hC hz0 hz1 fuel σ p1 (0 : Int32) (0 : Int32))
theorem dJ9_floorDiv_7cf53_0 : decode cJ9_floorDiv_7cf53 0 = .ok (.iload_n 0, 1) := by decide +kernel
theorem dJ9_floorDiv_7cf53_1 : decode cJ9_floorDiv_7cf53 1 = .ok (.iload_n 1, 1) := by decide +kernel
theorem dJ9_floorDiv_7cf53_2 : decode cJ9_floorDiv_7cf53 2 = .ok (.idiv, 1) := by decide +kernel
theorem dJ9_floorDiv_7cf53_3 : decode cJ9_floorDiv_7cf53 3 = .ok (.istore_n 2, 1) := by decide +kernel
theorem dJ9_floorDiv_7cf53_4 : decode cJ9_floorDiv_7cf53 4 = .ok (.iload_n 0, 1) := by decide +kernel
theorem dJ9_floorDiv_7cf53_5 : decode cJ9_floorDiv_7cf53 5 = .ok (.iload_n 1, 1) := by decide +kernel
theorem dJ9_floorDiv_7cf53_6 : decode cJ9_floorDiv_7cf53 6 = .ok (.ixor, 1) := by decide +kernel
theorem dJ9_floorDiv_7cf53_7 : decode cJ9_floorDiv_7cf53 7 = .ok (.ifCond .ge 14, 3) := by decide +kernel
theorem dJ9_floorDiv_7cf53_10 : decode cJ9_floorDiv_7cf53 10 = .ok (.iload_n 2, 1) := by decide +kernel
theorem dJ9_floorDiv_7cf53_11 : decode cJ9_floorDiv_7cf53 11 = .ok (.iload_n 1, 1) := by decide +kernel
theorem dJ9_floorDiv_7cf53_12 : decode cJ9_floorDiv_7cf53 12 = .ok (.imul, 1) := by decide +kernel
theorem dJ9_floorDiv_7cf53_13 : decode cJ9_floorDiv_7cf53 13 = .ok (.iload_n 0, 1) := by decide +kernel
theorem dJ9_floorDiv_7cf53_14 : decode cJ9_floorDiv_7cf53 14 = .ok (.if_icmp .eq 7, 3) := by decide +kernel
theorem dJ9_floorDiv_7cf53_17 : decode cJ9_floorDiv_7cf53 17 = .ok (.iload_n 2, 1) := by decide +kernel
theorem dJ9_floorDiv_7cf53_18 : decode cJ9_floorDiv_7cf53 18 = .ok (.iconst 1, 1) := by decide +kernel
theorem dJ9_floorDiv_7cf53_19 : decode cJ9_floorDiv_7cf53 19 = .ok (.isub, 1) := by decide +kernel
theorem dJ9_floorDiv_7cf53_20 : decode cJ9_floorDiv_7cf53 20 = .ok (.ireturn, 1) := by decide +kernel
theorem dJ9_floorDiv_7cf53_21 : decode cJ9_floorDiv_7cf53 21 = .ok (.iload_n 2, 1) := by decide +kernel
theorem dJ9_floorDiv_7cf53_22 : decode cJ9_floorDiv_7cf53 22 = .ok (.ireturn, 1) := by decide +kernel
def f_J9_floorDiv_7cf53 (σ : Sg)  (p0 p1 : Int32) : Option (Int32) := gd (p1 != 0) (lt (p0 / p1) fun x1 => if 0 ≤ (p0 ^^^ p1) then (some x1) else (if (x1 * p1) = p0 then (some x1) else (some (x1 - (1 : Int32)))))
theorem okm_J9_floorDiv_7cf53 : okm yJ9_floorDiv_7cf53 2 = true := by decide +kernel
set_option maxHeartbeats 4000000 in
set_option maxRecDepth 100000 in
theorem c_J9_floorDiv_7cf53 (l : Launch) (G : va_G) (cls : Cls) (ad : Nat → Nat) (hi : inj 49 ad) (σ : Sg)   (p0 p1 : Int32) : MT l (YX G cls ad) yJ9_floorDiv_7cf53 (.code yJ9_floorDiv_7cf53 cJ9_floorDiv_7cf53 3 (some .int) :: gw) 0 0 [.int p0, .int p1] (fiP σ) σ (f_J9_floorDiv_7cf53 σ  p0 p1) := by
  refine MT.ofF (own := RJ9) (by decide +kernel) (YX_D hi) rfl (Nat.le_of_ble_eq_true rfl) fun Γ _ hz0 hz1 hC => ?_
  show WX Γ (YX G cls ad) (qf Γ (YX G cls ad) (fiP σ)) 3 0 [(0, .int p0), (1, .int p1)] [] σ (f_J9_floorDiv_7cf53 σ  p0 p1)
  unfold f_J9_floorDiv_7cf53
  refine X_iload_n hC 0 rfl dJ9_floorDiv_7cf53_0 ?_
  refine X_iload_n hC 1 rfl dJ9_floorDiv_7cf53_1 ?_
  refine X_idiv hC dJ9_floorDiv_7cf53_2 ?_
  refine X_lt (fun x1 => ?_)
  refine X_istore_n (ls' := [(2, .int x1), (0, .int p0), (1, .int p1)]) hC dJ9_floorDiv_7cf53_3 (by decide) rfl ?_
  refine X_iload_n hC 1 rfl dJ9_floorDiv_7cf53_4 ?_
  refine X_iload_n hC 2 rfl dJ9_floorDiv_7cf53_5 ?_
  refine X_ixor hC dJ9_floorDiv_7cf53_6 ?_
  refine X_if_ge hC 21 dJ9_floorDiv_7cf53_7 (by decide) (fun h2 => ?_) (fun h2 => ?_)
  · refine X_iload_n hC 0 rfl dJ9_floorDiv_7cf53_21 ?_
    exact X_iret hC hz0 hz1 dJ9_floorDiv_7cf53_22 rfl
  · refine X_iload_n hC 0 rfl dJ9_floorDiv_7cf53_10 ?_
    refine X_iload_n hC 2 rfl dJ9_floorDiv_7cf53_11 ?_
    refine X_imul hC dJ9_floorDiv_7cf53_12 ?_
    refine X_iload_n hC 1 rfl dJ9_floorDiv_7cf53_13 ?_
    refine X_icmp_eq hC 21 dJ9_floorDiv_7cf53_14 (by decide) (fun h3 => ?_) (fun h3 => ?_)
    · refine X_iload_n hC 0 rfl dJ9_floorDiv_7cf53_21 ?_
      exact X_iret hC hz0 hz1 dJ9_floorDiv_7cf53_22 rfl
    · refine X_iload_n hC 0 rfl dJ9_floorDiv_7cf53_17 ?_
      refine X_iconst (v := 1) hC (by decide) dJ9_floorDiv_7cf53_18 ?_
      refine X_isub hC dJ9_floorDiv_7cf53_19 ?_
      exact X_iret hC hz0 hz1 dJ9_floorDiv_7cf53_20 rfl
theorem dX4_quotient_0 : decode cX4_quotient 0 = .ok (.iload_n 1, 1) := by decide +kernel
theorem dX4_quotient_1 : decode cX4_quotient 1 = .ok (.ifCond .le 11, 3) := by decide +kernel
theorem dX4_quotient_4 : decode cX4_quotient 4 = .ok (.iload_n 0, 1) := by decide +kernel
theorem dX4_quotient_5 : decode cX4_quotient 5 = .ok (.iload_n 1, 1) := by decide +kernel
theorem dX4_quotient_6 : decode cX4_quotient 6 = .ok (.invokestatic 188, 3) := by decide +kernel
theorem dX4_quotient_9 : decode cX4_quotient 9 = .ok (.goto 4, 3) := by decide +kernel
theorem dX4_quotient_12 : decode cX4_quotient 12 = .ok (.iconst 0, 1) := by decide +kernel
theorem dX4_quotient_13 : decode cX4_quotient 13 = .ok (.ireturn, 1) := by decide +kernel
def f_X4_quotient (σ : Sg)  (p0 p1 : Int32) : Option (Int32) := if p1 ≤ 0 then (some (0 : Int32)) else ((f_J9_floorDiv_7cf53 σ p0 p1).bind fun r2 => some r2)
theorem okm_X4_quotient : okm yX4_quotient 2 = true := by decide +kernel
set_option maxHeartbeats 4000000 in
set_option maxRecDepth 100000 in
theorem c_X4_quotient (l : Launch) (G : va_G) (cls : Cls) (ad : Nat → Nat) (hi : inj 49 ad) (σ : Sg)   (p0 p1 : Int32) : MT l (YX G cls ad) yX4_quotient (.code yX4_quotient cX4_quotient 2 (some .int) :: gw) 1 22 [.int p0, .int p1] (fiP σ) σ (f_X4_quotient σ  p0 p1) := by
  refine MT.of (own := RX4) (by decide) (YX_D hi) rfl (Nat.le_of_ble_eq_true rfl) fun Γ _ hz0 hz1 hC => ?_
  show WX Γ (YX G cls ad) (qf Γ (YX G cls ad) (fiP σ)) 2 0 [(0, .int p0), (1, .int p1)] [] σ (f_X4_quotient σ  p0 p1)
  unfold f_X4_quotient
  refine X_iload_n hC 1 rfl dX4_quotient_0 ?_
  refine X_if_le hC 12 dX4_quotient_1 (by decide) (fun h1 => ?_) (fun h1 => ?_)
  · refine X_iconst (v := 0) hC (by decide) dX4_quotient_12 ?_
    exact X_iret hC hz0 hz1 dX4_quotient_13 rfl
  · refine X_iload_n hC 0 rfl dX4_quotient_4 ?_
    refine X_iload_n hC 1 rfl dX4_quotient_5 ?_
    refine X_statP (rest := []) hC (c_J9_floorDiv_7cf53 _ G cls ad hi σ p0 p1) (gSt tw_275 tw_276 tw_4 tw_277) rfl okm_J9_floorDiv_7cf53 (by decide) dX4_quotient_6 rfl (Nat.le_of_ble_eq_true rfl) (fun r2 => ?_)
    refine X_goto hC 13 dX4_quotient_9 (by decide) ?_
    exact X_iret hC hz0 hz1 dX4_quotient_13 rfl
theorem dX4_nearestFraction_0 : decode cX4_nearestFraction 0 = .ok (.iload_n 0, 1) := by decide +kernel
theorem dX4_nearestFraction_1 : decode cX4_nearestFraction 1 = .ok (.iload_n 1, 1) := by decide +kernel
theorem dX4_nearestFraction_2 : decode cX4_nearestFraction 2 = .ok (.invokestatic 167, 3) := by decide +kernel
theorem dX4_nearestFraction_5 : decode cX4_nearestFraction 5 = .ok (.istore_n 2, 1) := by decide +kernel
theorem dX4_nearestFraction_6 : decode cX4_nearestFraction 6 = .ok (.iconst 2, 1) := by decide +kernel
theorem dX4_nearestFraction_7 : decode cX4_nearestFraction 7 = .ok (.iload_n 0, 1) := by decide +kernel
theorem dX4_nearestFraction_8 : decode cX4_nearestFraction 8 = .ok (.iload_n 2, 1) := by decide +kernel
theorem dX4_nearestFraction_9 : decode cX4_nearestFraction 9 = .ok (.iload_n 1, 1) := by decide +kernel
theorem dX4_nearestFraction_10 : decode cX4_nearestFraction 10 = .ok (.imul, 1) := by decide +kernel
theorem dX4_nearestFraction_11 : decode cX4_nearestFraction 11 = .ok (.isub, 1) := by decide +kernel
theorem dX4_nearestFraction_12 : decode cX4_nearestFraction 12 = .ok (.imul, 1) := by decide +kernel
theorem dX4_nearestFraction_13 : decode cX4_nearestFraction 13 = .ok (.iload_n 1, 1) := by decide +kernel
theorem dX4_nearestFraction_14 : decode cX4_nearestFraction 14 = .ok (.if_icmp .le 9, 3) := by decide +kernel
theorem dX4_nearestFraction_17 : decode cX4_nearestFraction 17 = .ok (.iload_n 2, 1) := by decide +kernel
theorem dX4_nearestFraction_18 : decode cX4_nearestFraction 18 = .ok (.iconst 1, 1) := by decide +kernel
theorem dX4_nearestFraction_19 : decode cX4_nearestFraction 19 = .ok (.iadd, 1) := by decide +kernel
theorem dX4_nearestFraction_20 : decode cX4_nearestFraction 20 = .ok (.goto 4, 3) := by decide +kernel
theorem dX4_nearestFraction_23 : decode cX4_nearestFraction 23 = .ok (.iload_n 2, 1) := by decide +kernel
theorem dX4_nearestFraction_24 : decode cX4_nearestFraction 24 = .ok (.ireturn, 1) := by decide +kernel
def f_X4_nearestFraction (σ : Sg)  (p0 p1 : Int32) : Option (Int32) := (f_X4_quotient σ p0 p1).bind fun r1 => if ((2 : Int32) * (p0 - (r1 * p1))) ≤ p1 then (some r1) else (some (r1 + (1 : Int32)))
theorem okm_X4_nearestFraction : okm yX4_nearestFraction 2 = true := by decide +kernel
set_option maxHeartbeats 4000000 in
set_option maxRecDepth 100000 in
theorem c_X4_nearestFraction (l : Launch) (G : va_G) (cls : Cls) (ad : Nat → Nat) (hi : inj 49 ad) (σ : Sg)   (p0 p1 : Int32) : MT l (YX G cls ad) yX4_nearestFraction (.code yX4_nearestFraction cX4_nearestFraction 3 (some .int) :: gw) 2 43 [.int p0, .int p1] (fiP σ) σ (f_X4_nearestFraction σ  p0 p1) := by
  refine MT.of (own := RX4) (by decide) (YX_D hi) rfl (Nat.le_of_ble_eq_true rfl) fun Γ _ hz0 hz1 hC => ?_
  show WX Γ (YX G cls ad) (qf Γ (YX G cls ad) (fiP σ)) 3 0 [(0, .int p0), (1, .int p1)] [] σ (f_X4_nearestFraction σ  p0 p1)
  unfold f_X4_nearestFraction
  refine X_iload_n hC 0 rfl dX4_nearestFraction_0 ?_
  refine X_iload_n hC 1 rfl dX4_nearestFraction_1 ?_
  refine X_statP (rest := []) hC (c_X4_quotient _ G cls ad hi σ p0 p1) (gSt tw_281 tw_273 tw_1 tw_274) rfl okm_X4_quotient (by decide) dX4_nearestFraction_2 rfl (Nat.le_of_ble_eq_true rfl) (fun r1 => ?_)
  refine X_istore_n (ls' := [(2, .int r1), (0, .int p0), (1, .int p1)]) hC dX4_nearestFraction_5 (by decide) rfl ?_
  refine X_iconst (v := 2) hC (by decide) dX4_nearestFraction_6 ?_
  refine X_iload_n hC 1 rfl dX4_nearestFraction_7 ?_
  refine X_iload_n hC 0 rfl dX4_nearestFraction_8 ?_
  refine X_iload_n hC 2 rfl dX4_nearestFraction_9 ?_
  refine X_imul hC dX4_nearestFraction_10 ?_
  refine X_isub hC dX4_nearestFraction_11 ?_
  refine X_imul hC dX4_nearestFraction_12 ?_
  refine X_iload_n hC 2 rfl dX4_nearestFraction_13 ?_
  refine X_icmp_le hC 23 dX4_nearestFraction_14 (by decide) (fun h2 => ?_) (fun h2 => ?_)
  · refine X_iload_n hC 0 rfl dX4_nearestFraction_23 ?_
    exact X_iret hC hz0 hz1 dX4_nearestFraction_24 rfl
  · refine X_iload_n hC 0 rfl dX4_nearestFraction_17 ?_
    refine X_iconst (v := 1) hC (by decide) dX4_nearestFraction_18 ?_
    refine X_iadd hC dX4_nearestFraction_19 ?_
    refine X_goto hC 24 dX4_nearestFraction_20 (by decide) ?_
    exact X_iret hC hz0 hz1 dX4_nearestFraction_24 rfl
theorem dX2_answerOf_0 : decode cX2_answerOf 0 = .ok (.aload_n 0, 1) := by decide +kernel
theorem dX2_answerOf_1 : decode cX2_answerOf 1 = .ok (.getfield 14, 3) := by decide +kernel
theorem dX2_answerOf_4 : decode cX2_answerOf 4 = .ok (.iload_n 1, 1) := by decide +kernel
theorem dX2_answerOf_5 : decode cX2_answerOf 5 = .ok (.iconst 0, 1) := by decide +kernel
theorem dX2_answerOf_6 : decode cX2_answerOf 6 = .ok (.invokevirtual 38, 3) := by decide +kernel
theorem dX2_answerOf_9 : decode cX2_answerOf 9 = .ok (.istore 6, 2) := by decide +kernel
theorem dX2_answerOf_11 : decode cX2_answerOf 11 = .ok (.aload_n 0, 1) := by decide +kernel
theorem dX2_answerOf_12 : decode cX2_answerOf 12 = .ok (.getfield 14, 3) := by decide +kernel
theorem dX2_answerOf_15 : decode cX2_answerOf 15 = .ok (.iload_n 1, 1) := by decide +kernel
theorem dX2_answerOf_16 : decode cX2_answerOf 16 = .ok (.iconst 1, 1) := by decide +kernel
theorem dX2_answerOf_17 : decode cX2_answerOf 17 = .ok (.invokevirtual 38, 3) := by decide +kernel
theorem dX2_answerOf_20 : decode cX2_answerOf 20 = .ok (.istore 7, 2) := by decide +kernel
theorem dX2_answerOf_22 : decode cX2_answerOf 22 = .ok (.aload_n 0, 1) := by decide +kernel
theorem dX2_answerOf_23 : decode cX2_answerOf 23 = .ok (.getfield 14, 3) := by decide +kernel
theorem dX2_answerOf_26 : decode cX2_answerOf 26 = .ok (.iload_n 1, 1) := by decide +kernel
theorem dX2_answerOf_27 : decode cX2_answerOf 27 = .ok (.iconst 4, 1) := by decide +kernel
theorem dX2_answerOf_28 : decode cX2_answerOf 28 = .ok (.invokevirtual 38, 3) := by decide +kernel
theorem dX2_answerOf_31 : decode cX2_answerOf 31 = .ok (.istore 8, 2) := by decide +kernel
theorem dX2_answerOf_33 : decode cX2_answerOf 33 = .ok (.aload_n 0, 1) := by decide +kernel
theorem dX2_answerOf_34 : decode cX2_answerOf 34 = .ok (.getfield 14, 3) := by decide +kernel
theorem dX2_answerOf_37 : decode cX2_answerOf 37 = .ok (.iload_n 1, 1) := by decide +kernel
theorem dX2_answerOf_38 : decode cX2_answerOf 38 = .ok (.bipush 6, 2) := by decide +kernel
theorem dX2_answerOf_40 : decode cX2_answerOf 40 = .ok (.invokevirtual 38, 3) := by decide +kernel
theorem dX2_answerOf_43 : decode cX2_answerOf 43 = .ok (.istore 9, 2) := by decide +kernel
theorem dX2_answerOf_45 : decode cX2_answerOf 45 = .ok (.aload_n 0, 1) := by decide +kernel
theorem dX2_answerOf_46 : decode cX2_answerOf 46 = .ok (.iload_n 1, 1) := by decide +kernel
theorem dX2_answerOf_47 : decode cX2_answerOf 47 = .ok (.invokevirtual 57, 3) := by decide +kernel
theorem dX2_answerOf_50 : decode cX2_answerOf 50 = .ok (.istore 10, 2) := by decide +kernel
theorem dX2_answerOf_52 : decode cX2_answerOf 52 = .ok (.iload_n 2, 1) := by decide +kernel
theorem dX2_answerOf_53 : decode cX2_answerOf 53 = .ok (.iload 8, 2) := by decide +kernel
theorem dX2_answerOf_55 : decode cX2_answerOf 55 = .ok (.iadd, 1) := by decide +kernel
theorem dX2_answerOf_56 : decode cX2_answerOf 56 = .ok (.iload_n 3, 1) := by decide +kernel
theorem dX2_answerOf_57 : decode cX2_answerOf 57 = .ok (.aload_n 0, 1) := by decide +kernel
theorem dX2_answerOf_58 : decode cX2_answerOf 58 = .ok (.getfield 14, 3) := by decide +kernel
theorem dX2_answerOf_61 : decode cX2_answerOf 61 = .ok (.iload_n 1, 1) := by decide +kernel
theorem dX2_answerOf_62 : decode cX2_answerOf 62 = .ok (.iconst 5, 1) := by decide +kernel
theorem dX2_answerOf_63 : decode cX2_answerOf 63 = .ok (.invokevirtual 38, 3) := by decide +kernel
theorem dX2_answerOf_66 : decode cX2_answerOf 66 = .ok (.imul, 1) := by decide +kernel
theorem dX2_answerOf_67 : decode cX2_answerOf 67 = .ok (.bipush 10, 2) := by decide +kernel
theorem dX2_answerOf_69 : decode cX2_answerOf 69 = .ok (.idiv, 1) := by decide +kernel
theorem dX2_answerOf_70 : decode cX2_answerOf 70 = .ok (.iadd, 1) := by decide +kernel
theorem dX2_answerOf_71 : decode cX2_answerOf 71 = .ok (.istore 11, 2) := by decide +kernel
theorem dX2_answerOf_73 : decode cX2_answerOf 73 = .ok (.iload 11, 2) := by decide +kernel
theorem dX2_answerOf_75 : decode cX2_answerOf 75 = .ok (.iload 10, 2) := by decide +kernel
theorem dX2_answerOf_77 : decode cX2_answerOf 77 = .ok (.invokestatic 60, 3) := by decide +kernel
theorem dX2_answerOf_80 : decode cX2_answerOf 80 = .ok (.istore 12, 2) := by decide +kernel
theorem dX2_answerOf_82 : decode cX2_answerOf 82 = .ok (.iload 11, 2) := by decide +kernel
theorem dX2_answerOf_84 : decode cX2_answerOf 84 = .ok (.iload 12, 2) := by decide +kernel
theorem dX2_answerOf_86 : decode cX2_answerOf 86 = .ok (.iload 10, 2) := by decide +kernel
theorem dX2_answerOf_88 : decode cX2_answerOf 88 = .ok (.imul, 1) := by decide +kernel
theorem dX2_answerOf_89 : decode cX2_answerOf 89 = .ok (.isub, 1) := by decide +kernel
theorem dX2_answerOf_90 : decode cX2_answerOf 90 = .ok (.istore 13, 2) := by decide +kernel
theorem dX2_answerOf_92 : decode cX2_answerOf 92 = .ok (.iload 13, 2) := by decide +kernel
theorem dX2_answerOf_94 : decode cX2_answerOf 94 = .ok (.iload 7, 2) := by decide +kernel
theorem dX2_answerOf_96 : decode cX2_answerOf 96 = .ok (.invokestatic 63, 3) := by decide +kernel
theorem dX2_answerOf_99 : decode cX2_answerOf 99 = .ok (.istore 14, 2) := by decide +kernel
theorem dX2_answerOf_101 : decode cX2_answerOf 101 = .ok (.iload 4, 2) := by decide +kernel
theorem dX2_answerOf_103 : decode cX2_answerOf 103 = .ok (.iconst 1, 1) := by decide +kernel
theorem dX2_answerOf_104 : decode cX2_answerOf 104 = .ok (.invokestatic 53, 3) := by decide +kernel
theorem dX2_answerOf_107 : decode cX2_answerOf 107 = .ok (.ifCond .eq 16, 3) := by decide +kernel
theorem dX2_answerOf_110 : decode cX2_answerOf 110 = .ok (.iload 14, 2) := by decide +kernel
theorem dX2_answerOf_112 : decode cX2_answerOf 112 = .ok (.iload 7, 2) := by decide +kernel
theorem dX2_answerOf_114 : decode cX2_answerOf 114 = .ok (.imul, 1) := by decide +kernel
theorem dX2_answerOf_115 : decode cX2_answerOf 115 = .ok (.iload 13, 2) := by decide +kernel
theorem dX2_answerOf_117 : decode cX2_answerOf 117 = .ok (.if_icmp .le 6, 3) := by decide +kernel
theorem dX2_answerOf_120 : decode cX2_answerOf 120 = .ok (.iinc 14 (-1), 3) := by decide +kernel
theorem dX2_answerOf_123 : decode cX2_answerOf 123 = .ok (.iload 4, 2) := by decide +kernel
theorem dX2_answerOf_125 : decode cX2_answerOf 125 = .ok (.iconst 2, 1) := by decide +kernel
theorem dX2_answerOf_126 : decode cX2_answerOf 126 = .ok (.invokestatic 53, 3) := by decide +kernel
theorem dX2_answerOf_129 : decode cX2_answerOf 129 = .ok (.ifCond .eq 13, 3) := by decide +kernel
theorem dX2_answerOf_132 : decode cX2_answerOf 132 = .ok (.iload 14, 2) := by decide +kernel
theorem dX2_answerOf_134 : decode cX2_answerOf 134 = .ok (.iconst 2, 1) := by decide +kernel
theorem dX2_answerOf_135 : decode cX2_answerOf 135 = .ok (.irem, 1) := by decide +kernel
theorem dX2_answerOf_136 : decode cX2_answerOf 136 = .ok (.ifCond .eq 6, 3) := by decide +kernel
theorem dX2_answerOf_139 : decode cX2_answerOf 139 = .ok (.iinc 14 (-1), 3) := by decide +kernel
theorem dX2_answerOf_142 : decode cX2_answerOf 142 = .ok (.iload 4, 2) := by decide +kernel
theorem dX2_answerOf_144 : decode cX2_answerOf 144 = .ok (.iconst 4, 1) := by decide +kernel
theorem dX2_answerOf_145 : decode cX2_answerOf 145 = .ok (.invokestatic 53, 3) := by decide +kernel
theorem dX2_answerOf_148 : decode cX2_answerOf 148 = .ok (.ifCond .eq 15, 3) := by decide +kernel
theorem dX2_answerOf_151 : decode cX2_answerOf 151 = .ok (.iload 14, 2) := by decide +kernel
theorem dX2_answerOf_153 : decode cX2_answerOf 153 = .ok (.iload 6, 2) := by decide +kernel
theorem dX2_answerOf_155 : decode cX2_answerOf 155 = .ok (.iconst 2, 1) := by decide +kernel
theorem dX2_answerOf_156 : decode cX2_answerOf 156 = .ok (.idiv, 1) := by decide +kernel
theorem dX2_answerOf_157 : decode cX2_answerOf 157 = .ok (.if_icmp .le 6, 3) := by decide +kernel
theorem dX2_answerOf_160 : decode cX2_answerOf 160 = .ok (.iinc 12 1, 3) := by decide +kernel
theorem dX2_answerOf_163 : decode cX2_answerOf 163 = .ok (.iload 5, 2) := by decide +kernel
theorem dX2_answerOf_165 : decode cX2_answerOf 165 = .ok (.iload 9, 2) := by decide +kernel
theorem dX2_answerOf_167 : decode cX2_answerOf 167 = .ok (.invokestatic 49, 3) := by decide +kernel
theorem dX2_answerOf_170 : decode cX2_answerOf 170 = .ok (.invokestatic 53, 3) := by decide +kernel
theorem dX2_answerOf_173 : decode cX2_answerOf 173 = .ok (.ifCond .ne 51, 3) := by decide +kernel
theorem dX2_answerOf_176 : decode cX2_answerOf 176 = .ok (.iload 9, 2) := by decide +kernel
theorem dX2_answerOf_178 : decode cX2_answerOf 178 = .ok (.iconst 1, 1) := by decide +kernel
theorem dX2_answerOf_179 : decode cX2_answerOf 179 = .ok (.if_icmp .ne 13, 3) := by decide +kernel
theorem dX2_answerOf_182 : decode cX2_answerOf 182 = .ok (.iload 6, 2) := by decide +kernel
theorem dX2_answerOf_184 : decode cX2_answerOf 184 = .ok (.iload 14, 2) := by decide +kernel
theorem dX2_answerOf_186 : decode cX2_answerOf 186 = .ok (.isub, 1) := by decide +kernel
theorem dX2_answerOf_187 : decode cX2_answerOf 187 = .ok (.istore 14, 2) := by decide +kernel
theorem dX2_answerOf_189 : decode cX2_answerOf 189 = .ok (.goto 35, 3) := by decide +kernel
theorem dX2_answerOf_192 : decode cX2_answerOf 192 = .ok (.iload 9, 2) := by decide +kernel
theorem dX2_answerOf_194 : decode cX2_answerOf 194 = .ok (.iconst 2, 1) := by decide +kernel
theorem dX2_answerOf_195 : decode cX2_answerOf 195 = .ok (.if_icmp .ne 20, 3) := by decide +kernel
theorem dX2_answerOf_198 : decode cX2_answerOf 198 = .ok (.iload 12, 2) := by decide +kernel
theorem dX2_answerOf_200 : decode cX2_answerOf 200 = .ok (.ifCond .le 15, 3) := by decide +kernel
theorem dX2_answerOf_203 : decode cX2_answerOf 203 = .ok (.iload 12, 2) := by decide +kernel
theorem dX2_answerOf_205 : decode cX2_answerOf 205 = .ok (.iload 12, 2) := by decide +kernel
theorem dX2_answerOf_207 : decode cX2_answerOf 207 = .ok (.iconst 5, 1) := by decide +kernel
theorem dX2_answerOf_208 : decode cX2_answerOf 208 = .ok (.idiv, 1) := by decide +kernel
theorem dX2_answerOf_209 : decode cX2_answerOf 209 = .ok (.iadd, 1) := by decide +kernel
theorem dX2_answerOf_210 : decode cX2_answerOf 210 = .ok (.istore 12, 2) := by decide +kernel
theorem dX2_answerOf_212 : decode cX2_answerOf 212 = .ok (.goto 12, 3) := by decide +kernel
theorem dX2_answerOf_215 : decode cX2_answerOf 215 = .ok (.iload 9, 2) := by decide +kernel
theorem dX2_answerOf_217 : decode cX2_answerOf 217 = .ok (.iconst 3, 1) := by decide +kernel
theorem dX2_answerOf_218 : decode cX2_answerOf 218 = .ok (.if_icmp .ne 6, 3) := by decide +kernel
theorem dX2_answerOf_221 : decode cX2_answerOf 221 = .ok (.iinc 12 1, 3) := by decide +kernel
theorem dX2_answerOf_224 : decode cX2_answerOf 224 = .ok (.iload 12, 2) := by decide +kernel
theorem dX2_answerOf_226 : decode cX2_answerOf 226 = .ok (.iload 10, 2) := by decide +kernel
theorem dX2_answerOf_228 : decode cX2_answerOf 228 = .ok (.imul, 1) := by decide +kernel
theorem dX2_answerOf_229 : decode cX2_answerOf 229 = .ok (.iload 14, 2) := by decide +kernel
theorem dX2_answerOf_231 : decode cX2_answerOf 231 = .ok (.iload 7, 2) := by decide +kernel
theorem dX2_answerOf_233 : decode cX2_answerOf 233 = .ok (.imul, 1) := by decide +kernel
theorem dX2_answerOf_234 : decode cX2_answerOf 234 = .ok (.iadd, 1) := by decide +kernel
theorem dX2_answerOf_235 : decode cX2_answerOf 235 = .ok (.istore 15, 2) := by decide +kernel
theorem dX2_answerOf_237 : decode cX2_answerOf 237 = .ok (.iload 4, 2) := by decide +kernel
theorem dX2_answerOf_239 : decode cX2_answerOf 239 = .ok (.bipush 8, 2) := by decide +kernel
theorem dX2_answerOf_241 : decode cX2_answerOf 241 = .ok (.invokestatic 53, 3) := by decide +kernel
theorem dX2_answerOf_244 : decode cX2_answerOf 244 = .ok (.ifCond .eq 8, 3) := by decide +kernel
theorem dX2_answerOf_247 : decode cX2_answerOf 247 = .ok (.iload 15, 2) := by decide +kernel
theorem dX2_answerOf_249 : decode cX2_answerOf 249 = .ok (.goto 8, 3) := by decide +kernel
theorem dX2_answerOf_252 : decode cX2_answerOf 252 = .ok (.iload 15, 2) := by decide +kernel
theorem dX2_answerOf_254 : decode cX2_answerOf 254 = .ok (.iload 8, 2) := by decide +kernel
theorem dX2_answerOf_256 : decode cX2_answerOf 256 = .ok (.isub, 1) := by decide +kernel
theorem dX2_answerOf_257 : decode cX2_answerOf 257 = .ok (.ireturn, 1) := by decide +kernel
def f_X2_answerOf_b224 (σ : Sg)    (v4 v7 v8 v10 v12 v14 : Int32) : Option (Int32) := lt ((v12 * v10) + (v14 * v7)) fun x20 => (f_X4_has σ v4 (8 : Int32)).bind fun r21 => if r21 = 0 then (some (x20 - v8)) else (some x20)
def f_X2_answerOf_b215 (σ : Sg)    (v4 v7 v8 v9 v10 v12 v14 : Int32) : Option (Int32) := if v9 = (3 : Int32) then (lt (v12 + (1 : Int32)) fun x26 => f_X2_answerOf_b224 σ v4 v7 v8 v10 x26 v14) else (f_X2_answerOf_b224 σ v4 v7 v8 v10 v12 v14)
def f_X2_answerOf_b163 (σ : Sg)    (v4 v5 v6 v7 v8 v9 v10 v12 v14 : Int32) : Option (Int32) := (f_X4_trapBit σ v9).bind fun r17 => (f_X4_has σ v5 r17).bind fun r18 => if r18 = 0 then (if v9 = (1 : Int32) then (lt (v6 - v14) fun x29 => f_X2_answerOf_b224 σ v4 v7 v8 v10 v12 x29) else (if v9 = (2 : Int32) then (if v12 ≤ 0 then (f_X2_answerOf_b215 σ v4 v7 v8 v9 v10 v12 v14) else (gd ((5 : Int32) != 0) (lt (v12 + (v12 / (5 : Int32))) fun x28 => f_X2_answerOf_b224 σ v4 v7 v8 v10 x28 v14))) else (f_X2_answerOf_b215 σ v4 v7 v8 v9 v10 v12 v14))) else (f_X2_answerOf_b224 σ v4 v7 v8 v10 v12 v14)
def f_X2_answerOf_b142 (σ : Sg)    (v4 v5 v6 v7 v8 v9 v10 v12 v14 : Int32) : Option (Int32) := (f_X4_has σ v4 (4 : Int32)).bind fun r15 => if r15 = 0 then (f_X2_answerOf_b163 σ v4 v5 v6 v7 v8 v9 v10 v12 v14) else (gd ((2 : Int32) != 0) (if v14 ≤ (v6 / (2 : Int32)) then (f_X2_answerOf_b163 σ v4 v5 v6 v7 v8 v9 v10 v12 v14) else (lt (v12 + (1 : Int32)) fun x31 => f_X2_answerOf_b163 σ v4 v5 v6 v7 v8 v9 v10 x31 v14)))
def f_X2_answerOf_b123 (σ : Sg)    (v4 v5 v6 v7 v8 v9 v10 v12 v14 : Int32) : Option (Int32) := (f_X4_has σ v4 (2 : Int32)).bind fun r13 => if r13 = 0 then (f_X2_answerOf_b142 σ v4 v5 v6 v7 v8 v9 v10 v12 v14) else (gd ((2 : Int32) != 0) (if (v14 - v14 / (2 : Int32) * (2 : Int32)) = 0 then (f_X2_answerOf_b142 σ v4 v5 v6 v7 v8 v9 v10 v12 v14) else (lt (v14 + (-1 : Int32)) fun x33 => f_X2_answerOf_b142 σ v4 v5 v6 v7 v8 v9 v10 v12 x33)))
def f_X2_answerOf (σ : Sg)  (p1 p2 p3 p4 p5 : Int32) : Option (Int32) := (f_X3_cell σ 0 p1 (0 : Int32)).bind fun r1 => (f_X3_cell σ 0 p1 (1 : Int32)).bind fun r2 => (f_X3_cell σ 0 p1 (4 : Int32)).bind fun r3 => (f_X3_cell σ 0 p1 (6 : Int32)).bind fun r4 => (f_X2_mainDivision σ p1).bind fun r5 => (f_X3_cell σ 0 p1 (5 : Int32)).bind fun r6 => gd ((10 : Int32) != 0) (lt ((p2 + r3) + ((p3 * r6) / (10 : Int32))) fun x7 => (f_X4_quotient σ x7 r5).bind fun r8 => lt (x7 - (r8 * r5)) fun x9 => (f_X4_nearestFraction σ x9 r2).bind fun r10 => (f_X4_has σ p4 (1 : Int32)).bind fun r11 => if r11 = 0 then (f_X2_answerOf_b123 σ p4 p5 r1 r2 r3 r4 r5 r8 r10) else (if (r10 * r2) ≤ x9 then (f_X2_answerOf_b123 σ p4 p5 r1 r2 r3 r4 r5 r8 r10) else (lt (r10 + (-1 : Int32)) fun x35 => f_X2_answerOf_b123 σ p4 p5 r1 r2 r3 r4 r5 r8 x35)))
set_option maxHeartbeats 4000000 in
set_option maxRecDepth 100000 in
theorem L_X2_answerOf_b224 {Γ : Cx} (G : va_G) (cls : Cls) (ad : Nat → Nat) (hi : inj 49 ad) (hC : CX Γ (YX G cls ad) cX2_answerOf RX2 16 (some .int) 3 65) (hz0 : Γ.2.2.2.2.2.1 = 0) (hz1 : Γ.2.2.2.2.2.2 = 0) (σ : Sg)     (v4 v7 v8 v10 v12 v14 : Int32) : WX Γ (YX G cls ad) (qf Γ (YX G cls ad) (fiP σ)) 16 224 [(4, .int v4), (7, .int v7), (8, .int v8), (10, .int v10), (12, .int v12), (14, .int v14)] [] σ (f_X2_answerOf_b224 σ   v4 v7 v8 v10 v12 v14) := by
  unfold f_X2_answerOf_b224
  refine X_iload hC 4 rfl dX2_answerOf_224 ?_
  refine X_iload hC 3 rfl dX2_answerOf_226 ?_
  refine X_imul hC dX2_answerOf_228 ?_
  refine X_iload hC 5 rfl dX2_answerOf_229 ?_
  refine X_iload hC 1 rfl dX2_answerOf_231 ?_
  refine X_imul hC dX2_answerOf_233 ?_
  refine X_iadd hC dX2_answerOf_234 ?_
  refine X_lt (fun x20 => ?_)
  refine X_istore (ls' := [(15, .int x20), (4, .int v4), (7, .int v7), (8, .int v8), (10, .int v10), (12, .int v12), (14, .int v14)]) hC dX2_answerOf_235 (by decide) rfl ?_
  refine X_iload hC 1 rfl dX2_answerOf_237 ?_
  refine X_bipush (v := 8) hC (by decide) dX2_answerOf_239 ?_
  refine X_statNP (rest := []) hC (c_X4_has _ G cls ad hi σ v4 (8 : Int32)) (fun _ hn => hn.2.2.1) tw_284 tw_283 tw_1 rfl okm_X4_has (by decide) dX2_answerOf_241 rfl (Nat.le_of_ble_eq_true rfl) (fun r21 => ?_)
  refine X_if_eq hC 252 dX2_answerOf_244 (by decide) (fun h22 => ?_) (fun h22 => ?_)
  · refine X_iload hC 0 rfl dX2_answerOf_252 ?_
    refine X_iload hC 3 rfl dX2_answerOf_254 ?_
    refine X_isub hC dX2_answerOf_256 ?_
    exact X_iret hC hz0 hz1 dX2_answerOf_257 rfl
  · refine X_iload hC 0 rfl dX2_answerOf_247 ?_
    refine X_goto hC 257 dX2_answerOf_249 (by decide) ?_
    exact X_iret hC hz0 hz1 dX2_answerOf_257 rfl
set_option maxHeartbeats 4000000 in
set_option maxRecDepth 100000 in
theorem L_X2_answerOf_b215 {Γ : Cx} (G : va_G) (cls : Cls) (ad : Nat → Nat) (hi : inj 49 ad) (hC : CX Γ (YX G cls ad) cX2_answerOf RX2 16 (some .int) 3 65) (hz0 : Γ.2.2.2.2.2.1 = 0) (hz1 : Γ.2.2.2.2.2.2 = 0) (σ : Sg)     (v4 v7 v8 v9 v10 v12 v14 : Int32) : WX Γ (YX G cls ad) (qf Γ (YX G cls ad) (fiP σ)) 16 215 [(4, .int v4), (7, .int v7), (8, .int v8), (9, .int v9), (10, .int v10), (12, .int v12), (14, .int v14)] [] σ (f_X2_answerOf_b215 σ   v4 v7 v8 v9 v10 v12 v14) := by
  unfold f_X2_answerOf_b215
  refine X_iload hC 3 rfl dX2_answerOf_215 ?_
  refine X_iconst (v := 3) hC (by decide) dX2_answerOf_217 ?_
  refine X_icmp_ne hC 224 dX2_answerOf_218 (by decide) (fun h25 => ?_) (fun h25 => ?_)
  · exact X_sub [0, 1, 2, 4, 5, 6] rfl (L_X2_answerOf_b224 G cls ad hi hC hz0 hz1 σ v4 v7 v8 v10 v12 v14)
  · refine X_iinc (ls' := fun x26 => [(12, .int x26), (4, .int v4), (7, .int v7), (8, .int v8), (9, .int v9), (10, .int v10), (14, .int v14)]) hC 5 dX2_answerOf_221 rfl (by decide) (by decide) (fun _ => rfl) (fun x26 => ?_)
    exact X_sub [1, 2, 3, 5, 0, 6] rfl (L_X2_answerOf_b224 G cls ad hi hC hz0 hz1 σ v4 v7 v8 v10 x26 v14)
set_option maxHeartbeats 4000000 in
set_option maxRecDepth 100000 in
theorem L_X2_answerOf_b163 {Γ : Cx} (G : va_G) (cls : Cls) (ad : Nat → Nat) (hi : inj 49 ad) (hC : CX Γ (YX G cls ad) cX2_answerOf RX2 16 (some .int) 3 65) (hz0 : Γ.2.2.2.2.2.1 = 0) (hz1 : Γ.2.2.2.2.2.2 = 0) (σ : Sg)     (v4 v5 v6 v7 v8 v9 v10 v12 v14 : Int32) : WX Γ (YX G cls ad) (qf Γ (YX G cls ad) (fiP σ)) 16 163 [(4, .int v4), (5, .int v5), (6, .int v6), (7, .int v7), (8, .int v8), (9, .int v9), (10, .int v10), (12, .int v12), (14, .int v14)] [] σ (f_X2_answerOf_b163 σ   v4 v5 v6 v7 v8 v9 v10 v12 v14) := by
  unfold f_X2_answerOf_b163
  refine X_iload hC 1 rfl dX2_answerOf_163 ?_
  refine X_iload hC 5 rfl dX2_answerOf_165 ?_
  refine X_statNP (rest := [.int v5]) hC (c_X4_trapBit _ G cls ad hi σ v9) (fun _ hn => hn.2.1) tw_287 tw_286 tw_1 rfl okm_X4_trapBit (by decide) dX2_answerOf_167 rfl (Nat.le_of_ble_eq_true rfl) (fun r17 => ?_)
  refine X_statNP (rest := []) hC (c_X4_has _ G cls ad hi σ v5 r17) (fun _ hn => hn.2.2.1) tw_284 tw_283 tw_1 rfl okm_X4_has (by decide) dX2_answerOf_170 rfl (Nat.le_of_ble_eq_true rfl) (fun r18 => ?_)
  refine X_if_ne hC 224 dX2_answerOf_173 (by decide) (fun h19 => ?_) (fun h19 => ?_)
  · exact X_sub [0, 3, 4, 6, 7, 8] rfl (L_X2_answerOf_b224 G cls ad hi hC hz0 hz1 σ v4 v7 v8 v10 v12 v14)
  · refine X_iload hC 5 rfl dX2_answerOf_176 ?_
    refine X_iconst (v := 1) hC (by decide) dX2_answerOf_178 ?_
    refine X_icmp_ne hC 192 dX2_answerOf_179 (by decide) (fun h23 => ?_) (fun h23 => ?_)
    · refine X_iload hC 5 rfl dX2_answerOf_192 ?_
      refine X_iconst (v := 2) hC (by decide) dX2_answerOf_194 ?_
      refine X_icmp_ne hC 215 dX2_answerOf_195 (by decide) (fun h24 => ?_) (fun h24 => ?_)
      · exact X_sub [0, 3, 4, 5, 6, 7, 8] rfl (L_X2_answerOf_b215 G cls ad hi hC hz0 hz1 σ v4 v7 v8 v9 v10 v12 v14)
      · refine X_iload hC 7 rfl dX2_answerOf_198 ?_
        refine X_if_le hC 215 dX2_answerOf_200 (by decide) (fun h27 => ?_) (fun h27 => ?_)
        · exact X_sub [0, 3, 4, 5, 6, 7, 8] rfl (L_X2_answerOf_b215 G cls ad hi hC hz0 hz1 σ v4 v7 v8 v9 v10 v12 v14)
        · refine X_iload hC 7 rfl dX2_answerOf_203 ?_
          refine X_iload hC 7 rfl dX2_answerOf_205 ?_
          refine X_iconst (v := 5) hC (by decide) dX2_answerOf_207 ?_
          refine X_idiv hC dX2_answerOf_208 ?_
          refine X_iadd hC dX2_answerOf_209 ?_
          refine X_lt (fun x28 => ?_)
          refine X_istore (ls' := [(12, .int x28), (4, .int v4), (5, .int v5), (6, .int v6), (7, .int v7), (8, .int v8), (9, .int v9), (10, .int v10), (14, .int v14)]) hC dX2_answerOf_210 (by decide) rfl ?_
          refine X_goto hC 224 dX2_answerOf_212 (by decide) ?_
          exact X_sub [1, 4, 5, 7, 0, 8] rfl (L_X2_answerOf_b224 G cls ad hi hC hz0 hz1 σ v4 v7 v8 v10 x28 v14)
    · refine X_iload hC 2 rfl dX2_answerOf_182 ?_
      refine X_iload hC 8 rfl dX2_answerOf_184 ?_
      refine X_isub hC dX2_answerOf_186 ?_
      refine X_lt (fun x29 => ?_)
      refine X_istore (ls' := [(14, .int x29), (4, .int v4), (5, .int v5), (6, .int v6), (7, .int v7), (8, .int v8), (9, .int v9), (10, .int v10), (12, .int v12)]) hC dX2_answerOf_187 (by decide) rfl ?_
      refine X_goto hC 224 dX2_answerOf_189 (by decide) ?_
      exact X_sub [1, 4, 5, 7, 8, 0] rfl (L_X2_answerOf_b224 G cls ad hi hC hz0 hz1 σ v4 v7 v8 v10 v12 x29)
set_option maxHeartbeats 4000000 in
set_option maxRecDepth 100000 in
theorem L_X2_answerOf_b142 {Γ : Cx} (G : va_G) (cls : Cls) (ad : Nat → Nat) (hi : inj 49 ad) (hC : CX Γ (YX G cls ad) cX2_answerOf RX2 16 (some .int) 3 65) (hz0 : Γ.2.2.2.2.2.1 = 0) (hz1 : Γ.2.2.2.2.2.2 = 0) (σ : Sg)     (v4 v5 v6 v7 v8 v9 v10 v12 v14 : Int32) : WX Γ (YX G cls ad) (qf Γ (YX G cls ad) (fiP σ)) 16 142 [(4, .int v4), (5, .int v5), (6, .int v6), (7, .int v7), (8, .int v8), (9, .int v9), (10, .int v10), (12, .int v12), (14, .int v14)] [] σ (f_X2_answerOf_b142 σ   v4 v5 v6 v7 v8 v9 v10 v12 v14) := by
  unfold f_X2_answerOf_b142
  refine X_iload hC 0 rfl dX2_answerOf_142 ?_
  refine X_iconst (v := 4) hC (by decide) dX2_answerOf_144 ?_
  refine X_statNP (rest := []) hC (c_X4_has _ G cls ad hi σ v4 (4 : Int32)) (fun _ hn => hn.2.2.1) tw_284 tw_283 tw_1 rfl okm_X4_has (by decide) dX2_answerOf_145 rfl (Nat.le_of_ble_eq_true rfl) (fun r15 => ?_)
  refine X_if_eq hC 163 dX2_answerOf_148 (by decide) (fun h16 => ?_) (fun h16 => ?_)
  · exact (L_X2_answerOf_b163 G cls ad hi hC hz0 hz1 σ v4 v5 v6 v7 v8 v9 v10 v12 v14)
  · refine X_iload hC 8 rfl dX2_answerOf_151 ?_
    refine X_iload hC 2 rfl dX2_answerOf_153 ?_
    refine X_iconst (v := 2) hC (by decide) dX2_answerOf_155 ?_
    refine X_idiv hC dX2_answerOf_156 ?_
    refine X_icmp_le hC 163 dX2_answerOf_157 (by decide) (fun h30 => ?_) (fun h30 => ?_)
    · exact (L_X2_answerOf_b163 G cls ad hi hC hz0 hz1 σ v4 v5 v6 v7 v8 v9 v10 v12 v14)
    · refine X_iinc (ls' := fun x31 => [(12, .int x31), (4, .int v4), (5, .int v5), (6, .int v6), (7, .int v7), (8, .int v8), (9, .int v9), (10, .int v10), (14, .int v14)]) hC 7 dX2_answerOf_160 rfl (by decide) (by decide) (fun _ => rfl) (fun x31 => ?_)
      exact X_sub [1, 2, 3, 4, 5, 6, 7, 0, 8] rfl (L_X2_answerOf_b163 G cls ad hi hC hz0 hz1 σ v4 v5 v6 v7 v8 v9 v10 x31 v14)
set_option maxHeartbeats 4000000 in
set_option maxRecDepth 100000 in
theorem L_X2_answerOf_b123 {Γ : Cx} (G : va_G) (cls : Cls) (ad : Nat → Nat) (hi : inj 49 ad) (hC : CX Γ (YX G cls ad) cX2_answerOf RX2 16 (some .int) 3 65) (hz0 : Γ.2.2.2.2.2.1 = 0) (hz1 : Γ.2.2.2.2.2.2 = 0) (σ : Sg)     (v4 v5 v6 v7 v8 v9 v10 v12 v14 : Int32) : WX Γ (YX G cls ad) (qf Γ (YX G cls ad) (fiP σ)) 16 123 [(4, .int v4), (5, .int v5), (6, .int v6), (7, .int v7), (8, .int v8), (9, .int v9), (10, .int v10), (12, .int v12), (14, .int v14)] [] σ (f_X2_answerOf_b123 σ   v4 v5 v6 v7 v8 v9 v10 v12 v14) := by
  unfold f_X2_answerOf_b123
  refine X_iload hC 0 rfl dX2_answerOf_123 ?_
  refine X_iconst (v := 2) hC (by decide) dX2_answerOf_125 ?_
  refine X_statNP (rest := []) hC (c_X4_has _ G cls ad hi σ v4 (2 : Int32)) (fun _ hn => hn.2.2.1) tw_284 tw_283 tw_1 rfl okm_X4_has (by decide) dX2_answerOf_126 rfl (Nat.le_of_ble_eq_true rfl) (fun r13 => ?_)
  refine X_if_eq hC 142 dX2_answerOf_129 (by decide) (fun h14 => ?_) (fun h14 => ?_)
  · exact (L_X2_answerOf_b142 G cls ad hi hC hz0 hz1 σ v4 v5 v6 v7 v8 v9 v10 v12 v14)
  · refine X_iload hC 8 rfl dX2_answerOf_132 ?_
    refine X_iconst (v := 2) hC (by decide) dX2_answerOf_134 ?_
    refine X_irem hC dX2_answerOf_135 ?_
    refine X_if_eq hC 142 dX2_answerOf_136 (by decide) (fun h32 => ?_) (fun h32 => ?_)
    · exact (L_X2_answerOf_b142 G cls ad hi hC hz0 hz1 σ v4 v5 v6 v7 v8 v9 v10 v12 v14)
    · refine X_iinc (ls' := fun x33 => [(14, .int x33), (4, .int v4), (5, .int v5), (6, .int v6), (7, .int v7), (8, .int v8), (9, .int v9), (10, .int v10), (12, .int v12)]) hC 8 dX2_answerOf_139 rfl (by decide) (by decide) (fun _ => rfl) (fun x33 => ?_)
      exact X_sub [1, 2, 3, 4, 5, 6, 7, 8, 0] rfl (L_X2_answerOf_b142 G cls ad hi hC hz0 hz1 σ v4 v5 v6 v7 v8 v9 v10 v12 x33)
theorem okm_X2_answerOf : okm yX2_answerOf 5 = true := by decide +kernel
set_option maxHeartbeats 4000000 in
set_option maxRecDepth 100000 in
theorem c_X2_answerOf (l : Launch) (G : va_G) (cls : Cls) (ad : Nat → Nat) (hi : inj 49 ad) (σ : Sg)   (p1 p2 p3 p4 p5 : Int32) : MT l (YX G cls ad) yX2_answerOf (.code yX2_answerOf cX2_answerOf 16 (some .int) :: gw) 3 65 [.ref (ad 19), .int p1, .int p2, .int p3, .int p4, .int p5] (fiP σ) σ (f_X2_answerOf σ  p1 p2 p3 p4 p5) := by
  refine MT.of (own := RX2) (by decide) (YX_D hi) rfl (Nat.le_of_ble_eq_true rfl) fun Γ _ hz0 hz1 hC => ?_
  show WX Γ (YX G cls ad) (qf Γ (YX G cls ad) (fiP σ)) 16 0 [(0, .ref (ad 19)), (1, .int p1), (2, .int p2), (3, .int p3), (4, .int p4), (5, .int p5)] [] σ (f_X2_answerOf σ  p1 p2 p3 p4 p5)
  unfold f_X2_answerOf
  refine X_aload_n hC 0 rfl dX2_answerOf_0 ?_
  refine X_getf (C := RX2) (T := TX2) (N := 3) (ci := 2) hC 0 (wX (k := 19) (by omega) cX_now) rfl hinX2 (by decide) tw_46 rfl rfl dX2_answerOf_1 ?_
  refine X_iload_n hC 1 rfl dX2_answerOf_4 ?_
  refine X_iconst (v := 0) hC (by decide) dX2_answerOf_5 ?_
  refine X_callP (C := RX3) (T := TX3) (N := 4) (ci := 3) (rest := []) hC (c_X3_cell _ G cls ad hi σ 0 (by omega) p1 (0 : Int32)) (gV tw_132 tw_133 tw_134 tw_3 tw_135) rfl (wX (k := 0) (by omega) (cX_tab (by omega))) rfl rfl okm_X3_cell (by decide) dX2_answerOf_6 rfl (Nat.le_of_ble_eq_true rfl) (fun r1 => ?_)
  refine X_istore (ls' := [(6, .int r1), (0, .ref (ad 19)), (1, .int p1), (2, .int p2), (3, .int p3), (4, .int p4), (5, .int p5)]) hC dX2_answerOf_9 (by decide) rfl ?_
  refine X_aload_n hC 1 rfl dX2_answerOf_11 ?_
  refine X_getf (C := RX2) (T := TX2) (N := 3) (ci := 2) hC 0 (wX (k := 19) (by omega) cX_now) rfl hinX2 (by decide) tw_46 rfl rfl dX2_answerOf_12 ?_
  refine X_iload_n hC 2 rfl dX2_answerOf_15 ?_
  refine X_iconst (v := 1) hC (by decide) dX2_answerOf_16 ?_
  refine X_callP (C := RX3) (T := TX3) (N := 4) (ci := 3) (rest := []) hC (c_X3_cell _ G cls ad hi σ 0 (by omega) p1 (1 : Int32)) (gV tw_132 tw_133 tw_134 tw_3 tw_135) rfl (wX (k := 0) (by omega) (cX_tab (by omega))) rfl rfl okm_X3_cell (by decide) dX2_answerOf_17 rfl (Nat.le_of_ble_eq_true rfl) (fun r2 => ?_)
  refine X_istore (ls' := [(7, .int r2), (6, .int r1), (0, .ref (ad 19)), (1, .int p1), (2, .int p2), (3, .int p3), (4, .int p4), (5, .int p5)]) hC dX2_answerOf_20 (by decide) rfl ?_
  refine X_aload_n hC 2 rfl dX2_answerOf_22 ?_
  refine X_getf (C := RX2) (T := TX2) (N := 3) (ci := 2) hC 0 (wX (k := 19) (by omega) cX_now) rfl hinX2 (by decide) tw_46 rfl rfl dX2_answerOf_23 ?_
  refine X_iload_n hC 3 rfl dX2_answerOf_26 ?_
  refine X_iconst (v := 4) hC (by decide) dX2_answerOf_27 ?_
  refine X_callP (C := RX3) (T := TX3) (N := 4) (ci := 3) (rest := []) hC (c_X3_cell _ G cls ad hi σ 0 (by omega) p1 (4 : Int32)) (gV tw_132 tw_133 tw_134 tw_3 tw_135) rfl (wX (k := 0) (by omega) (cX_tab (by omega))) rfl rfl okm_X3_cell (by decide) dX2_answerOf_28 rfl (Nat.le_of_ble_eq_true rfl) (fun r3 => ?_)
  refine X_istore (ls' := [(8, .int r3), (7, .int r2), (6, .int r1), (0, .ref (ad 19)), (1, .int p1), (2, .int p2), (3, .int p3), (4, .int p4), (5, .int p5)]) hC dX2_answerOf_31 (by decide) rfl ?_
  refine X_aload_n hC 3 rfl dX2_answerOf_33 ?_
  refine X_getf (C := RX2) (T := TX2) (N := 3) (ci := 2) hC 0 (wX (k := 19) (by omega) cX_now) rfl hinX2 (by decide) tw_46 rfl rfl dX2_answerOf_34 ?_
  refine X_iload_n hC 4 rfl dX2_answerOf_37 ?_
  refine X_bipush (v := 6) hC (by decide) dX2_answerOf_38 ?_
  refine X_callP (C := RX3) (T := TX3) (N := 4) (ci := 3) (rest := []) hC (c_X3_cell _ G cls ad hi σ 0 (by omega) p1 (6 : Int32)) (gV tw_132 tw_133 tw_134 tw_3 tw_135) rfl (wX (k := 0) (by omega) (cX_tab (by omega))) rfl rfl okm_X3_cell (by decide) dX2_answerOf_40 rfl (Nat.le_of_ble_eq_true rfl) (fun r4 => ?_)
  refine X_istore (ls' := [(9, .int r4), (8, .int r3), (7, .int r2), (6, .int r1), (0, .ref (ad 19)), (1, .int p1), (2, .int p2), (3, .int p3), (4, .int p4), (5, .int p5)]) hC dX2_answerOf_43 (by decide) rfl ?_
  refine X_aload_n hC 4 rfl dX2_answerOf_45 ?_
  refine X_iload_n hC 5 rfl dX2_answerOf_46 ?_
  refine X_callP (C := RX2) (T := TX2) (N := 3) (ci := 2) (rest := []) hC (c_X2_mainDivision _ G cls ad hi σ p1) (gV tw_268 tw_269 tw_270 tw_2 tw_271) rfl (wX (k := 19) (by omega) cX_now) rfl rfl okm_X2_mainDivision (by decide) dX2_answerOf_47 rfl (Nat.le_of_ble_eq_true rfl) (fun r5 => ?_)
  refine X_istore (ls' := [(10, .int r5), (9, .int r4), (8, .int r3), (7, .int r2), (6, .int r1), (0, .ref (ad 19)), (1, .int p1), (2, .int p2), (3, .int p3), (4, .int p4), (5, .int p5)]) hC dX2_answerOf_50 (by decide) rfl ?_
  refine X_iload_n hC 7 rfl dX2_answerOf_52 ?_
  refine X_iload hC 2 rfl dX2_answerOf_53 ?_
  refine X_iadd hC dX2_answerOf_55 ?_
  refine X_iload_n hC 8 rfl dX2_answerOf_56 ?_
  refine X_aload_n hC 5 rfl dX2_answerOf_57 ?_
  refine X_getf (C := RX2) (T := TX2) (N := 3) (ci := 2) hC 0 (wX (k := 19) (by omega) cX_now) rfl hinX2 (by decide) tw_46 rfl rfl dX2_answerOf_58 ?_
  refine X_iload_n hC 6 rfl dX2_answerOf_61 ?_
  refine X_iconst (v := 5) hC (by decide) dX2_answerOf_62 ?_
  refine X_callP (C := RX3) (T := TX3) (N := 4) (ci := 3) (rest := [.int p3, .int (p2 + r3)]) hC (c_X3_cell _ G cls ad hi σ 0 (by omega) p1 (5 : Int32)) (gV tw_132 tw_133 tw_134 tw_3 tw_135) rfl (wX (k := 0) (by omega) (cX_tab (by omega))) rfl rfl okm_X3_cell (by decide) dX2_answerOf_63 rfl (Nat.le_of_ble_eq_true rfl) (fun r6 => ?_)
  refine X_imul hC dX2_answerOf_66 ?_
  refine X_bipush (v := 10) hC (by decide) dX2_answerOf_67 ?_
  refine X_idiv hC dX2_answerOf_69 ?_
  refine X_iadd hC dX2_answerOf_70 ?_
  refine X_lt (fun x7 => ?_)
  refine X_istore (ls' := [(11, .int x7), (10, .int r5), (9, .int r4), (8, .int r3), (7, .int r2), (6, .int r1), (0, .ref (ad 19)), (1, .int p1), (2, .int p2), (3, .int p3), (4, .int p4), (5, .int p5)]) hC dX2_answerOf_71 (by decide) rfl ?_
  refine X_iload hC 0 rfl dX2_answerOf_73 ?_
  refine X_iload hC 1 rfl dX2_answerOf_75 ?_
  refine X_statNP (rest := []) hC (c_X4_quotient _ G cls ad hi σ x7 r5) (fun _ hn => hn.2.2.2.1) tw_274 tw_273 tw_1 rfl okm_X4_quotient (by decide) dX2_answerOf_77 rfl (Nat.le_of_ble_eq_true rfl) (fun r8 => ?_)
  refine X_istore (ls' := [(12, .int r8), (11, .int x7), (10, .int r5), (9, .int r4), (8, .int r3), (7, .int r2), (6, .int r1), (0, .ref (ad 19)), (1, .int p1), (2, .int p2), (3, .int p3), (4, .int p4), (5, .int p5)]) hC dX2_answerOf_80 (by decide) rfl ?_
  refine X_iload hC 1 rfl dX2_answerOf_82 ?_
  refine X_iload hC 0 rfl dX2_answerOf_84 ?_
  refine X_iload hC 2 rfl dX2_answerOf_86 ?_
  refine X_imul hC dX2_answerOf_88 ?_
  refine X_isub hC dX2_answerOf_89 ?_
  refine X_lt (fun x9 => ?_)
  refine X_istore (ls' := [(13, .int x9), (12, .int r8), (11, .int x7), (10, .int r5), (9, .int r4), (8, .int r3), (7, .int r2), (6, .int r1), (0, .ref (ad 19)), (1, .int p1), (2, .int p2), (3, .int p3), (4, .int p4), (5, .int p5)]) hC dX2_answerOf_90 (by decide) rfl ?_
  refine X_iload hC 0 rfl dX2_answerOf_92 ?_
  refine X_iload hC 6 rfl dX2_answerOf_94 ?_
  refine X_statNP (rest := []) hC (c_X4_nearestFraction _ G cls ad hi σ x9 r2) (fun _ hn => hn.2.2.2.2) tw_280 tw_279 tw_1 rfl okm_X4_nearestFraction (by decide) dX2_answerOf_96 rfl (Nat.le_of_ble_eq_true rfl) (fun r10 => ?_)
  refine X_istore (ls' := [(14, .int r10), (13, .int x9), (12, .int r8), (11, .int x7), (10, .int r5), (9, .int r4), (8, .int r3), (7, .int r2), (6, .int r1), (0, .ref (ad 19)), (1, .int p1), (2, .int p2), (3, .int p3), (4, .int p4), (5, .int p5)]) hC dX2_answerOf_99 (by decide) rfl ?_
  refine X_iload hC 13 rfl dX2_answerOf_101 ?_
  refine X_iconst (v := 1) hC (by decide) dX2_answerOf_103 ?_
  refine X_statNP (rest := []) hC (c_X4_has _ G cls ad hi σ p4 (1 : Int32)) (fun _ hn => hn.2.2.1) tw_284 tw_283 tw_1 rfl okm_X4_has (by decide) dX2_answerOf_104 rfl (Nat.le_of_ble_eq_true rfl) (fun r11 => ?_)
  refine X_if_eq hC 123 dX2_answerOf_107 (by decide) (fun h12 => ?_) (fun h12 => ?_)
  · exact X_sub [13, 14, 8, 7, 6, 5, 4, 2, 0] rfl (L_X2_answerOf_b123 G cls ad hi hC hz0 hz1 σ p4 p5 r1 r2 r3 r4 r5 r8 r10)
  · refine X_iload hC 0 rfl dX2_answerOf_110 ?_
    refine X_iload hC 7 rfl dX2_answerOf_112 ?_
    refine X_imul hC dX2_answerOf_114 ?_
    refine X_iload hC 1 rfl dX2_answerOf_115 ?_
    refine X_icmp_le hC 123 dX2_answerOf_117 (by decide) (fun h34 => ?_) (fun h34 => ?_)
    · exact X_sub [13, 14, 8, 7, 6, 5, 4, 2, 0] rfl (L_X2_answerOf_b123 G cls ad hi hC hz0 hz1 σ p4 p5 r1 r2 r3 r4 r5 r8 r10)
    · refine X_iinc (ls' := fun x35 => [(14, .int x35), (13, .int x9), (12, .int r8), (11, .int x7), (10, .int r5), (9, .int r4), (8, .int r3), (7, .int r2), (6, .int r1), (0, .ref (ad 19)), (1, .int p1), (2, .int p2), (3, .int p3), (4, .int p4), (5, .int p5)]) hC 0 dX2_answerOf_120 rfl (by decide) (by decide) (fun _ => rfl) (fun x35 => ?_)
      exact X_sub [13, 14, 8, 7, 6, 5, 4, 2, 0] rfl (L_X2_answerOf_b123 G cls ad hi hC hz0 hz1 σ p4 p5 r1 r2 r3 r4 r5 r8 x35)
theorem dX2_answerNow_0 : decode cX2_answerNow 0 = .ok (.aload_n 0, 1) := by decide +kernel
theorem dX2_answerNow_1 : decode cX2_answerNow 1 = .ok (.iload_n 2, 1) := by decide +kernel
theorem dX2_answerNow_2 : decode cX2_answerNow 2 = .ok (.iload_n 3, 1) := by decide +kernel
theorem dX2_answerNow_3 : decode cX2_answerNow 3 = .ok (.aload_n 0, 1) := by decide +kernel
theorem dX2_answerNow_4 : decode cX2_answerNow 4 = .ok (.getfield 20, 3) := by decide +kernel
theorem dX2_answerNow_7 : decode cX2_answerNow 7 = .ok (.iload_n 1, 1) := by decide +kernel
theorem dX2_answerNow_8 : decode cX2_answerNow 8 = .ok (.iconst 0, 1) := by decide +kernel
theorem dX2_answerNow_9 : decode cX2_answerNow 9 = .ok (.invokevirtual 38, 3) := by decide +kernel
theorem dX2_answerNow_12 : decode cX2_answerNow 12 = .ok (.aload_n 0, 1) := by decide +kernel
theorem dX2_answerNow_13 : decode cX2_answerNow 13 = .ok (.getfield 20, 3) := by decide +kernel
theorem dX2_answerNow_16 : decode cX2_answerNow 16 = .ok (.iload_n 1, 1) := by decide +kernel
theorem dX2_answerNow_17 : decode cX2_answerNow 17 = .ok (.iconst 1, 1) := by decide +kernel
theorem dX2_answerNow_18 : decode cX2_answerNow 18 = .ok (.invokevirtual 38, 3) := by decide +kernel
theorem dX2_answerNow_21 : decode cX2_answerNow 21 = .ok (.aload_n 0, 1) := by decide +kernel
theorem dX2_answerNow_22 : decode cX2_answerNow 22 = .ok (.getfield 20, 3) := by decide +kernel
theorem dX2_answerNow_25 : decode cX2_answerNow 25 = .ok (.iload_n 1, 1) := by decide +kernel
theorem dX2_answerNow_26 : decode cX2_answerNow 26 = .ok (.iconst 2, 1) := by decide +kernel
theorem dX2_answerNow_27 : decode cX2_answerNow 27 = .ok (.invokevirtual 38, 3) := by decide +kernel
theorem dX2_answerNow_30 : decode cX2_answerNow 30 = .ok (.invokevirtual 66, 3) := by decide +kernel
theorem dX2_answerNow_33 : decode cX2_answerNow 33 = .ok (.ireturn, 1) := by decide +kernel
def f_X2_answerNow (σ : Sg)  (p1 p2 p3 : Int32) : Option (Int32) := (f_X3_cell σ 1 p1 (0 : Int32)).bind fun r1 => (f_X3_cell σ 1 p1 (1 : Int32)).bind fun r2 => (f_X3_cell σ 1 p1 (2 : Int32)).bind fun r3 => (f_X2_answerOf σ p2 p3 r1 r2 r3).bind fun r4 => some r4
theorem okm_X2_answerNow : okm yX2_answerNow 3 = true := by decide +kernel
set_option maxHeartbeats 4000000 in
set_option maxRecDepth 100000 in
theorem c_X2_answerNow (l : Launch) (G : va_G) (cls : Cls) (ad : Nat → Nat) (hi : inj 49 ad) (σ : Sg)   (p1 p2 p3 : Int32) : MT l (YX G cls ad) yX2_answerNow (.code yX2_answerNow cX2_answerNow 4 (some .int) :: gw) 4 100 [.ref (ad 19), .int p1, .int p2, .int p3] (fiP σ) σ (f_X2_answerNow σ  p1 p2 p3) := by
  refine MT.of (own := RX2) (by decide) (YX_D hi) rfl (Nat.le_of_ble_eq_true rfl) fun Γ _ hz0 hz1 hC => ?_
  show WX Γ (YX G cls ad) (qf Γ (YX G cls ad) (fiP σ)) 4 0 [(0, .ref (ad 19)), (1, .int p1), (2, .int p2), (3, .int p3)] [] σ (f_X2_answerNow σ  p1 p2 p3)
  unfold f_X2_answerNow
  refine X_aload_n hC 0 rfl dX2_answerNow_0 ?_
  refine X_iload_n hC 2 rfl dX2_answerNow_1 ?_
  refine X_iload_n hC 3 rfl dX2_answerNow_2 ?_
  refine X_aload_n hC 0 rfl dX2_answerNow_3 ?_
  refine X_getf (C := RX2) (T := TX2) (N := 3) (ci := 2) hC 1 (wX (k := 19) (by omega) cX_now) rfl hinX2 (by decide) tw_48 rfl rfl dX2_answerNow_4 ?_
  refine X_iload_n hC 1 rfl dX2_answerNow_7 ?_
  refine X_iconst (v := 0) hC (by decide) dX2_answerNow_8 ?_
  refine X_callP (C := RX3) (T := TX3) (N := 4) (ci := 3) (rest := [.int p3, .int p2, .ref (ad 19)]) hC (c_X3_cell _ G cls ad hi σ 1 (by omega) p1 (0 : Int32)) (gV tw_132 tw_133 tw_134 tw_3 tw_135) rfl (wX (k := 1) (by omega) (cX_tab (by omega))) rfl rfl okm_X3_cell (by decide) dX2_answerNow_9 rfl (Nat.le_of_ble_eq_true rfl) (fun r1 => ?_)
  refine X_aload_n hC 0 rfl dX2_answerNow_12 ?_
  refine X_getf (C := RX2) (T := TX2) (N := 3) (ci := 2) hC 1 (wX (k := 19) (by omega) cX_now) rfl hinX2 (by decide) tw_48 rfl rfl dX2_answerNow_13 ?_
  refine X_iload_n hC 1 rfl dX2_answerNow_16 ?_
  refine X_iconst (v := 1) hC (by decide) dX2_answerNow_17 ?_
  refine X_callP (C := RX3) (T := TX3) (N := 4) (ci := 3) (rest := [.int r1, .int p3, .int p2, .ref (ad 19)]) hC (c_X3_cell _ G cls ad hi σ 1 (by omega) p1 (1 : Int32)) (gV tw_132 tw_133 tw_134 tw_3 tw_135) rfl (wX (k := 1) (by omega) (cX_tab (by omega))) rfl rfl okm_X3_cell (by decide) dX2_answerNow_18 rfl (Nat.le_of_ble_eq_true rfl) (fun r2 => ?_)
  refine X_aload_n hC 0 rfl dX2_answerNow_21 ?_
  refine X_getf (C := RX2) (T := TX2) (N := 3) (ci := 2) hC 1 (wX (k := 19) (by omega) cX_now) rfl hinX2 (by decide) tw_48 rfl rfl dX2_answerNow_22 ?_
  refine X_iload_n hC 1 rfl dX2_answerNow_25 ?_
  refine X_iconst (v := 2) hC (by decide) dX2_answerNow_26 ?_
  refine X_callP (C := RX3) (T := TX3) (N := 4) (ci := 3) (rest := [.int r2, .int r1, .int p3, .int p2, .ref (ad 19)]) hC (c_X3_cell _ G cls ad hi σ 1 (by omega) p1 (2 : Int32)) (gV tw_132 tw_133 tw_134 tw_3 tw_135) rfl (wX (k := 1) (by omega) (cX_tab (by omega))) rfl rfl okm_X3_cell (by decide) dX2_answerNow_27 rfl (Nat.le_of_ble_eq_true rfl) (fun r3 => ?_)
  refine X_callP (C := RX2) (T := TX2) (N := 3) (ci := 2) (rest := []) hC (c_X2_answerOf _ G cls ad hi σ p2 p3 r1 r2 r3) (gV tw_264 tw_265 tw_266 tw_2 tw_267) rfl (wX (k := 19) (by omega) cX_now) rfl rfl okm_X2_answerOf (by decide) dX2_answerNow_30 rfl (Nat.le_of_ble_eq_true rfl) (fun r4 => ?_)
  exact X_iret hC hz0 hz1 dX2_answerNow_33 rfl
theorem dX2_markOf_0 : decode cX2_markOf 0 = .ok (.aload_n 0, 1) := by decide +kernel
theorem dX2_markOf_1 : decode cX2_markOf 1 = .ok (.getfield 14, 3) := by decide +kernel
theorem dX2_markOf_4 : decode cX2_markOf 4 = .ok (.iload_n 1, 1) := by decide +kernel
theorem dX2_markOf_5 : decode cX2_markOf 5 = .ok (.iconst 1, 1) := by decide +kernel
theorem dX2_markOf_6 : decode cX2_markOf 6 = .ok (.invokevirtual 38, 3) := by decide +kernel
theorem dX2_markOf_9 : decode cX2_markOf 9 = .ok (.istore 4, 2) := by decide +kernel
theorem dX2_markOf_11 : decode cX2_markOf 11 = .ok (.iconst 0, 1) := by decide +kernel
theorem dX2_markOf_12 : decode cX2_markOf 12 = .ok (.bipush 10, 2) := by decide +kernel
theorem dX2_markOf_14 : decode cX2_markOf 14 = .ok (.iload_n 3, 1) := by decide +kernel
theorem dX2_markOf_15 : decode cX2_markOf 15 = .ok (.iload_n 2, 1) := by decide +kernel
theorem dX2_markOf_16 : decode cX2_markOf 16 = .ok (.isub, 1) := by decide +kernel
theorem dX2_markOf_17 : decode cX2_markOf 17 = .ok (.invokestatic 70, 3) := by decide +kernel
theorem dX2_markOf_20 : decode cX2_markOf 20 = .ok (.iload 4, 2) := by decide +kernel
theorem dX2_markOf_22 : decode cX2_markOf 22 = .ok (.invokestatic 60, 3) := by decide +kernel
theorem dX2_markOf_25 : decode cX2_markOf 25 = .ok (.isub, 1) := by decide +kernel
theorem dX2_markOf_26 : decode cX2_markOf 26 = .ok (.invokestatic 75, 3) := by decide +kernel
theorem dX2_markOf_29 : decode cX2_markOf 29 = .ok (.ireturn, 1) := by decide +kernel
def f_X2_markOf (σ : Sg)  (p1 p2 p3 : Int32) : Option (Int32) := (f_X3_cell σ 0 p1 (1 : Int32)).bind fun r1 => lt (if 0 ≤ (p3 - p2) then (p3 - p2) else 0 - (p3 - p2)) fun x2 => (f_X4_quotient σ x2 r1).bind fun r3 => lt (if (0 : Int32) < ((10 : Int32) - r3) then ((10 : Int32) - r3) else (0 : Int32)) fun x4 => some x4
theorem okm_X2_markOf : okm yX2_markOf 3 = true := by decide +kernel
set_option maxHeartbeats 4000000 in
set_option maxRecDepth 100000 in
theorem c_X2_markOf (l : Launch) (G : va_G) (cls : Cls) (ad : Nat → Nat) (hi : inj 49 ad) (σ : Sg)   (p1 p2 p3 : Int32) : MT l (YX G cls ad) yX2_markOf (.code yX2_markOf cX2_markOf 5 (some .int) :: gw) 2 44 [.ref (ad 19), .int p1, .int p2, .int p3] (fiP σ) σ (f_X2_markOf σ  p1 p2 p3) := by
  refine MT.of (own := RX2) (by decide) (YX_D hi) rfl (Nat.le_of_ble_eq_true rfl) fun Γ _ hz0 hz1 hC => ?_
  show WX Γ (YX G cls ad) (qf Γ (YX G cls ad) (fiP σ)) 5 0 [(0, .ref (ad 19)), (1, .int p1), (2, .int p2), (3, .int p3)] [] σ (f_X2_markOf σ  p1 p2 p3)
  unfold f_X2_markOf
  refine X_aload_n hC 0 rfl dX2_markOf_0 ?_
  refine X_getf (C := RX2) (T := TX2) (N := 3) (ci := 2) hC 0 (wX (k := 19) (by omega) cX_now) rfl hinX2 (by decide) tw_46 rfl rfl dX2_markOf_1 ?_
  refine X_iload_n hC 1 rfl dX2_markOf_4 ?_
  refine X_iconst (v := 1) hC (by decide) dX2_markOf_5 ?_
  refine X_callP (C := RX3) (T := TX3) (N := 4) (ci := 3) (rest := []) hC (c_X3_cell _ G cls ad hi σ 0 (by omega) p1 (1 : Int32)) (gV tw_132 tw_133 tw_134 tw_3 tw_135) rfl (wX (k := 0) (by omega) (cX_tab (by omega))) rfl rfl okm_X3_cell (by decide) dX2_markOf_6 rfl (Nat.le_of_ble_eq_true rfl) (fun r1 => ?_)
  refine X_istore (ls' := [(4, .int r1), (0, .ref (ad 19)), (1, .int p1), (2, .int p2), (3, .int p3)]) hC dX2_markOf_9 (by decide) rfl ?_
  refine X_iconst (v := 0) hC (by decide) dX2_markOf_11 ?_
  refine X_bipush (v := 10) hC (by decide) dX2_markOf_12 ?_
  refine X_iload_n hC 4 rfl dX2_markOf_14 ?_
  refine X_iload_n hC 3 rfl dX2_markOf_15 ?_
  refine X_isub hC dX2_markOf_16 ?_
  refine X_mabs hC tw_292 tw_293 tw_4 tw_294 (by decide) (Nat.le_of_ble_eq_true rfl) dX2_markOf_17 (X_lt fun x2 => ?_)
  refine X_iload hC 0 rfl dX2_markOf_20 ?_
  refine X_statNP (rest := [.int (10 : Int32), .int (0 : Int32)]) hC (c_X4_quotient _ G cls ad hi σ x2 r1) (fun _ hn => hn.2.2.2.1) tw_274 tw_273 tw_1 rfl okm_X4_quotient (by decide) dX2_markOf_22 rfl (Nat.le_of_ble_eq_true rfl) (fun r3 => ?_)
  refine X_isub hC dX2_markOf_25 ?_
  refine X_mmax hC tw_295 tw_30 tw_4 tw_31 (by decide) (Nat.le_of_ble_eq_true rfl) dX2_markOf_26 (X_lt fun x4 => ?_)
  exact X_iret hC hz0 hz1 dX2_markOf_29 rfl
theorem dX2_markIfWritten_0 : decode cX2_markIfWritten 0 = .ok (.aload_n 0, 1) := by decide +kernel
theorem dX2_markIfWritten_1 : decode cX2_markIfWritten 1 = .ok (.getfield 23, 3) := by decide +kernel
theorem dX2_markIfWritten_4 : decode cX2_markIfWritten 4 = .ok (.iload_n 1, 1) := by decide +kernel
theorem dX2_markIfWritten_5 : decode cX2_markIfWritten 5 = .ok (.iconst 1, 1) := by decide +kernel
theorem dX2_markIfWritten_6 : decode cX2_markIfWritten 6 = .ok (.invokevirtual 38, 3) := by decide +kernel
theorem dX2_markIfWritten_9 : decode cX2_markIfWritten 9 = .ok (.istore 5, 2) := by decide +kernel
theorem dX2_markIfWritten_11 : decode cX2_markIfWritten 11 = .ok (.aload_n 0, 1) := by decide +kernel
theorem dX2_markIfWritten_12 : decode cX2_markIfWritten 12 = .ok (.getfield 23, 3) := by decide +kernel
theorem dX2_markIfWritten_15 : decode cX2_markIfWritten 15 = .ok (.iload_n 1, 1) := by decide +kernel
theorem dX2_markIfWritten_16 : decode cX2_markIfWritten 16 = .ok (.iconst 2, 1) := by decide +kernel
theorem dX2_markIfWritten_17 : decode cX2_markIfWritten 17 = .ok (.invokevirtual 38, 3) := by decide +kernel
theorem dX2_markIfWritten_20 : decode cX2_markIfWritten 20 = .ok (.istore 6, 2) := by decide +kernel
theorem dX2_markIfWritten_22 : decode cX2_markIfWritten 22 = .ok (.aload_n 0, 1) := by decide +kernel
theorem dX2_markIfWritten_23 : decode cX2_markIfWritten 23 = .ok (.iload 5, 2) := by decide +kernel
theorem dX2_markIfWritten_25 : decode cX2_markIfWritten 25 = .ok (.iload 6, 2) := by decide +kernel
theorem dX2_markIfWritten_27 : decode cX2_markIfWritten 27 = .ok (.aload_n 0, 1) := by decide +kernel
theorem dX2_markIfWritten_28 : decode cX2_markIfWritten 28 = .ok (.iload 5, 2) := by decide +kernel
theorem dX2_markIfWritten_30 : decode cX2_markIfWritten 30 = .ok (.iload 6, 2) := by decide +kernel
theorem dX2_markIfWritten_32 : decode cX2_markIfWritten 32 = .ok (.iload_n 2, 1) := by decide +kernel
theorem dX2_markIfWritten_33 : decode cX2_markIfWritten 33 = .ok (.iload_n 3, 1) := by decide +kernel
theorem dX2_markIfWritten_34 : decode cX2_markIfWritten 34 = .ok (.iload 4, 2) := by decide +kernel
theorem dX2_markIfWritten_36 : decode cX2_markIfWritten 36 = .ok (.invokevirtual 66, 3) := by decide +kernel
theorem dX2_markIfWritten_39 : decode cX2_markIfWritten 39 = .ok (.invokevirtual 78, 3) := by decide +kernel
theorem dX2_markIfWritten_42 : decode cX2_markIfWritten 42 = .ok (.ireturn, 1) := by decide +kernel
def f_X2_markIfWritten (σ : Sg)  (p1 p2 p3 p4 : Int32) : Option (Int32) := (f_X3_cell σ 2 p1 (1 : Int32)).bind fun r1 => (f_X3_cell σ 2 p1 (2 : Int32)).bind fun r2 => (f_X2_answerOf σ r1 r2 p2 p3 p4).bind fun r3 => (f_X2_markOf σ r1 r2 r3).bind fun r4 => some r4
theorem okm_X2_markIfWritten : okm yX2_markIfWritten 4 = true := by decide +kernel
set_option maxHeartbeats 4000000 in
set_option maxRecDepth 100000 in
theorem c_X2_markIfWritten (l : Launch) (G : va_G) (cls : Cls) (ad : Nat → Nat) (hi : inj 49 ad) (σ : Sg)   (p1 p2 p3 p4 : Int32) : MT l (YX G cls ad) yX2_markIfWritten (.code yX2_markIfWritten cX2_markIfWritten 7 (some .int) :: gw) 4 100 [.ref (ad 19), .int p1, .int p2, .int p3, .int p4] (fiP σ) σ (f_X2_markIfWritten σ  p1 p2 p3 p4) := by
  refine MT.of (own := RX2) (by decide) (YX_D hi) rfl (Nat.le_of_ble_eq_true rfl) fun Γ _ hz0 hz1 hC => ?_
  show WX Γ (YX G cls ad) (qf Γ (YX G cls ad) (fiP σ)) 7 0 [(0, .ref (ad 19)), (1, .int p1), (2, .int p2), (3, .int p3), (4, .int p4)] [] σ (f_X2_markIfWritten σ  p1 p2 p3 p4)
  unfold f_X2_markIfWritten
  refine X_aload_n hC 0 rfl dX2_markIfWritten_0 ?_
  refine X_getf (C := RX2) (T := TX2) (N := 3) (ci := 2) hC 2 (wX (k := 19) (by omega) cX_now) rfl hinX2 (by decide) tw_50 rfl rfl dX2_markIfWritten_1 ?_
  refine X_iload_n hC 1 rfl dX2_markIfWritten_4 ?_
  refine X_iconst (v := 1) hC (by decide) dX2_markIfWritten_5 ?_
  refine X_callP (C := RX3) (T := TX3) (N := 4) (ci := 3) (rest := []) hC (c_X3_cell _ G cls ad hi σ 2 (by omega) p1 (1 : Int32)) (gV tw_132 tw_133 tw_134 tw_3 tw_135) rfl (wX (k := 2) (by omega) (cX_tab (by omega))) rfl rfl okm_X3_cell (by decide) dX2_markIfWritten_6 rfl (Nat.le_of_ble_eq_true rfl) (fun r1 => ?_)
  refine X_istore (ls' := [(5, .int r1), (0, .ref (ad 19)), (1, .int p1), (2, .int p2), (3, .int p3), (4, .int p4)]) hC dX2_markIfWritten_9 (by decide) rfl ?_
  refine X_aload_n hC 1 rfl dX2_markIfWritten_11 ?_
  refine X_getf (C := RX2) (T := TX2) (N := 3) (ci := 2) hC 2 (wX (k := 19) (by omega) cX_now) rfl hinX2 (by decide) tw_50 rfl rfl dX2_markIfWritten_12 ?_
  refine X_iload_n hC 2 rfl dX2_markIfWritten_15 ?_
  refine X_iconst (v := 2) hC (by decide) dX2_markIfWritten_16 ?_
  refine X_callP (C := RX3) (T := TX3) (N := 4) (ci := 3) (rest := []) hC (c_X3_cell _ G cls ad hi σ 2 (by omega) p1 (2 : Int32)) (gV tw_132 tw_133 tw_134 tw_3 tw_135) rfl (wX (k := 2) (by omega) (cX_tab (by omega))) rfl rfl okm_X3_cell (by decide) dX2_markIfWritten_17 rfl (Nat.le_of_ble_eq_true rfl) (fun r2 => ?_)
  refine X_istore (ls' := [(6, .int r2), (5, .int r1), (0, .ref (ad 19)), (1, .int p1), (2, .int p2), (3, .int p3), (4, .int p4)]) hC dX2_markIfWritten_20 (by decide) rfl ?_
  refine X_aload_n hC 2 rfl dX2_markIfWritten_22 ?_
  refine X_iload hC 1 rfl dX2_markIfWritten_23 ?_
  refine X_iload hC 0 rfl dX2_markIfWritten_25 ?_
  refine X_aload_n hC 2 rfl dX2_markIfWritten_27 ?_
  refine X_iload hC 1 rfl dX2_markIfWritten_28 ?_
  refine X_iload hC 0 rfl dX2_markIfWritten_30 ?_
  refine X_iload_n hC 4 rfl dX2_markIfWritten_32 ?_
  refine X_iload_n hC 5 rfl dX2_markIfWritten_33 ?_
  refine X_iload hC 6 rfl dX2_markIfWritten_34 ?_
  refine X_callP (C := RX2) (T := TX2) (N := 3) (ci := 2) (rest := [.int r2, .int r1, .ref (ad 19)]) hC (c_X2_answerOf _ G cls ad hi σ r1 r2 p2 p3 p4) (gV tw_264 tw_265 tw_266 tw_2 tw_267) rfl (wX (k := 19) (by omega) cX_now) rfl rfl okm_X2_answerOf (by decide) dX2_markIfWritten_36 rfl (Nat.le_of_ble_eq_true rfl) (fun r3 => ?_)
  refine X_callP (C := RX2) (T := TX2) (N := 3) (ci := 2) (rest := []) hC (c_X2_markOf _ G cls ad hi σ r1 r2 r3) (gV tw_288 tw_289 tw_290 tw_2 tw_291) rfl (wX (k := 19) (by omega) cX_now) rfl rfl okm_X2_markOf (by decide) dX2_markIfWritten_39 rfl (Nat.le_of_ble_eq_true rfl) (fun r4 => ?_)
  exact X_iret hC hz0 hz1 dX2_markIfWritten_42 rfl
theorem dX2_sumIfWritten_0 : decode cX2_sumIfWritten 0 = .ok (.iconst 0, 1) := by decide +kernel
theorem dX2_sumIfWritten_1 : decode cX2_sumIfWritten 1 = .ok (.istore 5, 2) := by decide +kernel
theorem dX2_sumIfWritten_3 : decode cX2_sumIfWritten 3 = .ok (.iconst 0, 1) := by decide +kernel
theorem dX2_sumIfWritten_4 : decode cX2_sumIfWritten 4 = .ok (.istore 6, 2) := by decide +kernel
theorem dX2_sumIfWritten_6 : decode cX2_sumIfWritten 6 = .ok (.iload 6, 2) := by decide +kernel
theorem dX2_sumIfWritten_8 : decode cX2_sumIfWritten 8 = .ok (.aload_n 0, 1) := by decide +kernel
theorem dX2_sumIfWritten_9 : decode cX2_sumIfWritten 9 = .ok (.getfield 23, 3) := by decide +kernel
theorem dX2_sumIfWritten_12 : decode cX2_sumIfWritten 12 = .ok (.invokevirtual 46, 3) := by decide +kernel
theorem dX2_sumIfWritten_15 : decode cX2_sumIfWritten 15 = .ok (.if_icmp .ge 38, 3) := by decide +kernel
theorem dX2_sumIfWritten_18 : decode cX2_sumIfWritten 18 = .ok (.aload_n 0, 1) := by decide +kernel
theorem dX2_sumIfWritten_19 : decode cX2_sumIfWritten 19 = .ok (.getfield 23, 3) := by decide +kernel
theorem dX2_sumIfWritten_22 : decode cX2_sumIfWritten 22 = .ok (.iload 6, 2) := by decide +kernel
theorem dX2_sumIfWritten_24 : decode cX2_sumIfWritten 24 = .ok (.iconst 0, 1) := by decide +kernel
theorem dX2_sumIfWritten_25 : decode cX2_sumIfWritten 25 = .ok (.invokevirtual 38, 3) := by decide +kernel
theorem dX2_sumIfWritten_28 : decode cX2_sumIfWritten 28 = .ok (.iload_n 1, 1) := by decide +kernel
theorem dX2_sumIfWritten_29 : decode cX2_sumIfWritten 29 = .ok (.if_icmp .ne 18, 3) := by decide +kernel
theorem dX2_sumIfWritten_32 : decode cX2_sumIfWritten 32 = .ok (.iload 5, 2) := by decide +kernel
theorem dX2_sumIfWritten_34 : decode cX2_sumIfWritten 34 = .ok (.aload_n 0, 1) := by decide +kernel
theorem dX2_sumIfWritten_35 : decode cX2_sumIfWritten 35 = .ok (.iload 6, 2) := by decide +kernel
theorem dX2_sumIfWritten_37 : decode cX2_sumIfWritten 37 = .ok (.iload_n 2, 1) := by decide +kernel
theorem dX2_sumIfWritten_38 : decode cX2_sumIfWritten 38 = .ok (.iload_n 3, 1) := by decide +kernel
theorem dX2_sumIfWritten_39 : decode cX2_sumIfWritten 39 = .ok (.iload 4, 2) := by decide +kernel
theorem dX2_sumIfWritten_41 : decode cX2_sumIfWritten 41 = .ok (.invokevirtual 82, 3) := by decide +kernel
theorem dX2_sumIfWritten_44 : decode cX2_sumIfWritten 44 = .ok (.iadd, 1) := by decide +kernel
theorem dX2_sumIfWritten_45 : decode cX2_sumIfWritten 45 = .ok (.istore 5, 2) := by decide +kernel
theorem dX2_sumIfWritten_47 : decode cX2_sumIfWritten 47 = .ok (.iinc 6 1, 3) := by decide +kernel
theorem dX2_sumIfWritten_50 : decode cX2_sumIfWritten 50 = .ok (.goto (-44), 3) := by decide +kernel
theorem dX2_sumIfWritten_53 : decode cX2_sumIfWritten 53 = .ok (.iload 5, 2) := by decide +kernel
theorem dX2_sumIfWritten_55 : decode cX2_sumIfWritten 55 = .ok (.ireturn, 1) := by decide +kernel
def f_X2_sumIfWritten_b47 (σ : Sg)  (K6 : Int32 → Int32 → Int32 → Int32 → Int32 → Int32 → Option (Int32))  (v1 v2 v3 v4 v5 v6 : Int32) : Option (Int32) := lt (v6 + (1 : Int32)) fun x5 => K6 v1 v2 v3 v4 v5 x5
def f_X2_sumIfWritten_b6 (σ : Sg)   : Nat → Int32 → Int32 → Int32 → Int32 → Int32 → Int32 → Option (Int32)
  | 0, _, _, _, _, _, _ => none
  | n + 1, v1, v2, v3, v4, v5, v6 => (f_X3_size σ 2).bind fun r1 => if r1 ≤ v6 then (some v5) else ((f_X3_cell σ 2 v6 (0 : Int32)).bind fun r3 => if r3 = v1 then ((f_X2_markIfWritten σ v6 v2 v3 v4).bind fun r6 => lt (v5 + r6) fun x7 => f_X2_sumIfWritten_b47 σ (f_X2_sumIfWritten_b6 σ   n) v1 v2 v3 v4 x7 v6) else (f_X2_sumIfWritten_b47 σ (f_X2_sumIfWritten_b6 σ   n) v1 v2 v3 v4 v5 v6))
def f_X2_sumIfWritten (σ : Sg)  (p1 p2 p3 p4 : Int32) : Option (Int32) := f_X2_sumIfWritten_b6 σ fuel p1 p2 p3 p4 (0 : Int32) (0 : Int32)
set_option maxHeartbeats 4000000 in
set_option maxRecDepth 100000 in
theorem L_X2_sumIfWritten_b47 {Γ : Cx} (G : va_G) (cls : Cls) (ad : Nat → Nat) (hi : inj 49 ad) (hC : CX Γ (YX G cls ad) cX2_sumIfWritten RX2 7 (some .int) 5 126) (hz0 : Γ.2.2.2.2.2.1 = 0) (hz1 : Γ.2.2.2.2.2.2 = 0) (σ : Sg)   (K6 : Int32 → Int32 → Int32 → Int32 → Int32 → Int32 → Option (Int32)) (hK6 : ∀ (v1 v2 v3 v4 v5 v6 : Int32), WX Γ (YX G cls ad) (qf Γ (YX G cls ad) (fiP σ)) 7 6 [(0, .ref (ad 19)), (1, .int v1), (2, .int v2), (3, .int v3), (4, .int v4), (5, .int v5), (6, .int v6)] [] σ (K6 v1 v2 v3 v4 v5 v6))  (v1 v2 v3 v4 v5 v6 : Int32) : WX Γ (YX G cls ad) (qf Γ (YX G cls ad) (fiP σ)) 7 47 [(0, .ref (ad 19)), (1, .int v1), (2, .int v2), (3, .int v3), (4, .int v4), (5, .int v5), (6, .int v6)] [] σ (f_X2_sumIfWritten_b47 σ  K6 v1 v2 v3 v4 v5 v6) := by
  unfold f_X2_sumIfWritten_b47
  refine X_iinc (ls' := fun x5 => [(6, .int x5), (0, .ref (ad 19)), (1, .int v1), (2, .int v2), (3, .int v3), (4, .int v4), (5, .int v5)]) hC 6 dX2_sumIfWritten_47 rfl (by decide) (by decide) (fun _ => rfl) (fun x5 => ?_)
  refine X_goto hC 6 dX2_sumIfWritten_50 (by decide) ?_
  exact X_sub [1, 2, 3, 4, 5, 6, 0] rfl (hK6 v1 v2 v3 v4 v5 x5)
set_option maxHeartbeats 4000000 in
set_option maxRecDepth 100000 in
theorem L_X2_sumIfWritten_b6 {Γ : Cx} (G : va_G) (cls : Cls) (ad : Nat → Nat) (hi : inj 49 ad) (hC : CX Γ (YX G cls ad) cX2_sumIfWritten RX2 7 (some .int) 5 126) (hz0 : Γ.2.2.2.2.2.1 = 0) (hz1 : Γ.2.2.2.2.2.2 = 0) (σ : Sg)    : ∀ (n : Nat) (v1 v2 v3 v4 v5 v6 : Int32), WX Γ (YX G cls ad) (qf Γ (YX G cls ad) (fiP σ)) 7 6 [(0, .ref (ad 19)), (1, .int v1), (2, .int v2), (3, .int v3), (4, .int v4), (5, .int v5), (6, .int v6)] [] σ (f_X2_sumIfWritten_b6 σ   n v1 v2 v3 v4 v5 v6) := by
  intro n
  induction n with
  | zero => intro v1 v2 v3 v4 v5 v6; exact X_none
  | succ n ih =>
    intro v1 v2 v3 v4 v5 v6
    rw [f_X2_sumIfWritten_b6.eq_2]
    refine X_iload hC 6 rfl dX2_sumIfWritten_6 ?_
    refine X_aload_n hC 0 rfl dX2_sumIfWritten_8 ?_
    refine X_getf (C := RX2) (T := TX2) (N := 3) (ci := 2) hC 2 (wX (k := 19) (by omega) cX_now) rfl hinX2 (by decide) tw_50 rfl rfl dX2_sumIfWritten_9 ?_
    refine X_callP (C := RX3) (T := TX3) (N := 4) (ci := 3) (rest := [.int v6]) hC (c_X3_size _ G cls ad hi σ 2 (by omega)) (gV tw_124 tw_125 tw_126 tw_3 tw_127) rfl (wX (k := 2) (by omega) (cX_tab (by omega))) rfl rfl okm_X3_size (by decide) dX2_sumIfWritten_12 rfl (Nat.le_of_ble_eq_true rfl) (fun r1 => ?_)
    refine X_icmp_ge hC 53 dX2_sumIfWritten_15 (by decide) (fun h2 => ?_) (fun h2 => ?_)
    · refine X_iload hC 5 rfl dX2_sumIfWritten_53 ?_
      exact X_iret hC hz0 hz1 dX2_sumIfWritten_55 rfl
    · refine X_aload_n hC 0 rfl dX2_sumIfWritten_18 ?_
      refine X_getf (C := RX2) (T := TX2) (N := 3) (ci := 2) hC 2 (wX (k := 19) (by omega) cX_now) rfl hinX2 (by decide) tw_50 rfl rfl dX2_sumIfWritten_19 ?_
      refine X_iload hC 6 rfl dX2_sumIfWritten_22 ?_
      refine X_iconst (v := 0) hC (by decide) dX2_sumIfWritten_24 ?_
      refine X_callP (C := RX3) (T := TX3) (N := 4) (ci := 3) (rest := []) hC (c_X3_cell _ G cls ad hi σ 2 (by omega) v6 (0 : Int32)) (gV tw_132 tw_133 tw_134 tw_3 tw_135) rfl (wX (k := 2) (by omega) (cX_tab (by omega))) rfl rfl okm_X3_cell (by decide) dX2_sumIfWritten_25 rfl (Nat.le_of_ble_eq_true rfl) (fun r3 => ?_)
      refine X_iload_n hC 1 rfl dX2_sumIfWritten_28 ?_
      refine X_icmp_ne hC 47 dX2_sumIfWritten_29 (by decide) (fun h4 => ?_) (fun h4 => ?_)
      · exact (L_X2_sumIfWritten_b47 G cls ad hi hC hz0 hz1 σ (f_X2_sumIfWritten_b6 σ   n) ih v1 v2 v3 v4 v5 v6)
      · refine X_iload hC 5 rfl dX2_sumIfWritten_32 ?_
        refine X_aload_n hC 0 rfl dX2_sumIfWritten_34 ?_
        refine X_iload hC 6 rfl dX2_sumIfWritten_35 ?_
        refine X_iload_n hC 2 rfl dX2_sumIfWritten_37 ?_
        refine X_iload_n hC 3 rfl dX2_sumIfWritten_38 ?_
        refine X_iload hC 4 rfl dX2_sumIfWritten_39 ?_
        refine X_callP (C := RX2) (T := TX2) (N := 3) (ci := 2) (rest := [.int v5]) hC (c_X2_markIfWritten _ G cls ad hi σ v6 v2 v3 v4) (gV tw_426 tw_427 tw_428 tw_2 tw_429) rfl (wX (k := 19) (by omega) cX_now) rfl rfl okm_X2_markIfWritten (by decide) dX2_sumIfWritten_41 rfl (Nat.le_of_ble_eq_true rfl) (fun r6 => ?_)
        refine X_iadd hC dX2_sumIfWritten_44 ?_
        refine X_lt (fun x7 => ?_)
        refine X_istore (ls' := [(5, .int x7), (0, .ref (ad 19)), (1, .int v1), (2, .int v2), (3, .int v3), (4, .int v4), (6, .int v6)]) hC dX2_sumIfWritten_45 (by decide) rfl ?_
        exact X_sub [1, 2, 3, 4, 5, 0, 6] rfl (L_X2_sumIfWritten_b47 G cls ad hi hC hz0 hz1 σ (f_X2_sumIfWritten_b6 σ   n) ih v1 v2 v3 v4 x7 v6)
theorem okm_X2_sumIfWritten : okm yX2_sumIfWritten 4 = true := by decide +kernel
set_option maxHeartbeats 4000000 in
set_option maxRecDepth 100000 in
theorem c_X2_sumIfWritten (l : Launch) (G : va_G) (cls : Cls) (ad : Nat → Nat) (hi : inj 49 ad) (σ : Sg)   (p1 p2 p3 p4 : Int32) : MT l (YX G cls ad) yX2_sumIfWritten (.code yX2_sumIfWritten cX2_sumIfWritten 7 (some .int) :: gw) 5 126 [.ref (ad 19), .int p1, .int p2, .int p3, .int p4] (fiP σ) σ (f_X2_sumIfWritten σ  p1 p2 p3 p4) := by
  refine MT.of (own := RX2) (by decide) (YX_D hi) rfl (Nat.le_of_ble_eq_true rfl) fun Γ _ hz0 hz1 hC => ?_
  show WX Γ (YX G cls ad) (qf Γ (YX G cls ad) (fiP σ)) 7 0 [(0, .ref (ad 19)), (1, .int p1), (2, .int p2), (3, .int p3), (4, .int p4)] [] σ (f_X2_sumIfWritten σ  p1 p2 p3 p4)
  unfold f_X2_sumIfWritten
  refine X_iconst (v := 0) hC (by decide) dX2_sumIfWritten_0 ?_
  refine X_istore (ls' := [(5, .int (0 : Int32)), (0, .ref (ad 19)), (1, .int p1), (2, .int p2), (3, .int p3), (4, .int p4)]) hC dX2_sumIfWritten_1 (by decide) rfl ?_
  refine X_iconst (v := 0) hC (by decide) dX2_sumIfWritten_3 ?_
  refine X_istore (ls' := [(6, .int (0 : Int32)), (5, .int (0 : Int32)), (0, .ref (ad 19)), (1, .int p1), (2, .int p2), (3, .int p3), (4, .int p4)]) hC dX2_sumIfWritten_4 (by decide) rfl ?_
  exact X_sub [2, 3, 4, 5, 6, 1, 0] rfl (L_X2_sumIfWritten_b6 G cls ad hi hC hz0 hz1 σ fuel p1 p2 p3 p4 (0 : Int32) (0 : Int32))
theorem dX2_newPaper_0 : decode cX2_newPaper 0 = .ok (.aload_n 0, 1) := by decide +kernel
theorem dX2_newPaper_1 : decode cX2_newPaper 1 = .ok (.iload_n 1, 1) := by decide +kernel
theorem dX2_newPaper_2 : decode cX2_newPaper 2 = .ok (.iload_n 2, 1) := by decide +kernel
theorem dX2_newPaper_3 : decode cX2_newPaper 3 = .ok (.iload_n 3, 1) := by decide +kernel
theorem dX2_newPaper_4 : decode cX2_newPaper 4 = .ok (.invokevirtual 86, 3) := by decide +kernel
theorem dX2_newPaper_7 : decode cX2_newPaper 7 = .ok (.istore 4, 2) := by decide +kernel
theorem dX2_newPaper_9 : decode cX2_newPaper 9 = .ok (.aload_n 0, 1) := by decide +kernel
theorem dX2_newPaper_10 : decode cX2_newPaper 10 = .ok (.iload_n 2, 1) := by decide +kernel
theorem dX2_newPaper_11 : decode cX2_newPaper 11 = .ok (.iload_n 3, 1) := by decide +kernel
theorem dX2_newPaper_12 : decode cX2_newPaper 12 = .ok (.iload 4, 2) := by decide +kernel
theorem dX2_newPaper_14 : decode cX2_newPaper 14 = .ok (.invokevirtual 78, 3) := by decide +kernel
theorem dX2_newPaper_17 : decode cX2_newPaper 17 = .ok (.istore 5, 2) := by decide +kernel
theorem dX2_newPaper_19 : decode cX2_newPaper 19 = .ok (.aload_n 0, 1) := by decide +kernel
theorem dX2_newPaper_20 : decode cX2_newPaper 20 = .ok (.getfield 23, 3) := by decide +kernel
theorem dX2_newPaper_23 : decode cX2_newPaper 23 = .ok (.invokevirtual 30, 3) := by decide +kernel
theorem dX2_newPaper_26 : decode cX2_newPaper 26 = .ok (.istore 6, 2) := by decide +kernel
theorem dX2_newPaper_28 : decode cX2_newPaper 28 = .ok (.aload_n 0, 1) := by decide +kernel
theorem dX2_newPaper_29 : decode cX2_newPaper 29 = .ok (.getfield 23, 3) := by decide +kernel
theorem dX2_newPaper_32 : decode cX2_newPaper 32 = .ok (.iload 6, 2) := by decide +kernel
theorem dX2_newPaper_34 : decode cX2_newPaper 34 = .ok (.iconst 0, 1) := by decide +kernel
theorem dX2_newPaper_35 : decode cX2_newPaper 35 = .ok (.iload_n 1, 1) := by decide +kernel
theorem dX2_newPaper_36 : decode cX2_newPaper 36 = .ok (.invokevirtual 34, 3) := by decide +kernel
theorem dX2_newPaper_39 : decode cX2_newPaper 39 = .ok (.aload_n 0, 1) := by decide +kernel
theorem dX2_newPaper_40 : decode cX2_newPaper 40 = .ok (.getfield 23, 3) := by decide +kernel
theorem dX2_newPaper_43 : decode cX2_newPaper 43 = .ok (.iload 6, 2) := by decide +kernel
theorem dX2_newPaper_45 : decode cX2_newPaper 45 = .ok (.iconst 1, 1) := by decide +kernel
theorem dX2_newPaper_46 : decode cX2_newPaper 46 = .ok (.iload_n 2, 1) := by decide +kernel
theorem dX2_newPaper_47 : decode cX2_newPaper 47 = .ok (.invokevirtual 34, 3) := by decide +kernel
theorem dX2_newPaper_50 : decode cX2_newPaper 50 = .ok (.aload_n 0, 1) := by decide +kernel
theorem dX2_newPaper_51 : decode cX2_newPaper 51 = .ok (.getfield 23, 3) := by decide +kernel
theorem dX2_newPaper_54 : decode cX2_newPaper 54 = .ok (.iload 6, 2) := by decide +kernel
theorem dX2_newPaper_56 : decode cX2_newPaper 56 = .ok (.iconst 2, 1) := by decide +kernel
theorem dX2_newPaper_57 : decode cX2_newPaper 57 = .ok (.iload_n 3, 1) := by decide +kernel
theorem dX2_newPaper_58 : decode cX2_newPaper 58 = .ok (.invokevirtual 34, 3) := by decide +kernel
theorem dX2_newPaper_61 : decode cX2_newPaper 61 = .ok (.aload_n 0, 1) := by decide +kernel
theorem dX2_newPaper_62 : decode cX2_newPaper 62 = .ok (.getfield 23, 3) := by decide +kernel
theorem dX2_newPaper_65 : decode cX2_newPaper 65 = .ok (.iload 6, 2) := by decide +kernel
theorem dX2_newPaper_67 : decode cX2_newPaper 67 = .ok (.iconst 3, 1) := by decide +kernel
theorem dX2_newPaper_68 : decode cX2_newPaper 68 = .ok (.iload 4, 2) := by decide +kernel
theorem dX2_newPaper_70 : decode cX2_newPaper 70 = .ok (.invokevirtual 34, 3) := by decide +kernel
theorem dX2_newPaper_73 : decode cX2_newPaper 73 = .ok (.aload_n 0, 1) := by decide +kernel
theorem dX2_newPaper_74 : decode cX2_newPaper 74 = .ok (.getfield 23, 3) := by decide +kernel
theorem dX2_newPaper_77 : decode cX2_newPaper 77 = .ok (.iload 6, 2) := by decide +kernel
theorem dX2_newPaper_79 : decode cX2_newPaper 79 = .ok (.iconst 4, 1) := by decide +kernel
theorem dX2_newPaper_80 : decode cX2_newPaper 80 = .ok (.iload 5, 2) := by decide +kernel
theorem dX2_newPaper_82 : decode cX2_newPaper 82 = .ok (.invokevirtual 34, 3) := by decide +kernel
theorem dX2_newPaper_85 : decode cX2_newPaper 85 = .ok (.aload_n 0, 1) := by decide +kernel
theorem dX2_newPaper_86 : decode cX2_newPaper 86 = .ok (.getfield 23, 3) := by decide +kernel
theorem dX2_newPaper_89 : decode cX2_newPaper 89 = .ok (.iload 6, 2) := by decide +kernel
theorem dX2_newPaper_91 : decode cX2_newPaper 91 = .ok (.iconst 5, 1) := by decide +kernel
theorem dX2_newPaper_92 : decode cX2_newPaper 92 = .ok (.iconst 0, 1) := by decide +kernel
theorem dX2_newPaper_93 : decode cX2_newPaper 93 = .ok (.invokevirtual 34, 3) := by decide +kernel
theorem dX2_newPaper_96 : decode cX2_newPaper 96 = .ok (.aload_n 0, 1) := by decide +kernel
theorem dX2_newPaper_97 : decode cX2_newPaper 97 = .ok (.getfield 23, 3) := by decide +kernel
theorem dX2_newPaper_100 : decode cX2_newPaper 100 = .ok (.iload 6, 2) := by decide +kernel
theorem dX2_newPaper_102 : decode cX2_newPaper 102 = .ok (.bipush 6, 2) := by decide +kernel
theorem dX2_newPaper_104 : decode cX2_newPaper 104 = .ok (.ldc 89, 2) := by decide +kernel
theorem dX2_newPaper_106 : decode cX2_newPaper 106 = .ok (.invokevirtual 34, 3) := by decide +kernel
theorem dX2_newPaper_109 : decode cX2_newPaper 109 = .ok (.aload_n 0, 1) := by decide +kernel
theorem dX2_newPaper_110 : decode cX2_newPaper 110 = .ok (.getfield 23, 3) := by decide +kernel
theorem dX2_newPaper_113 : decode cX2_newPaper 113 = .ok (.iload 6, 2) := by decide +kernel
theorem dX2_newPaper_115 : decode cX2_newPaper 115 = .ok (.bipush 7, 2) := by decide +kernel
theorem dX2_newPaper_117 : decode cX2_newPaper 117 = .ok (.ldc 89, 2) := by decide +kernel
theorem dX2_newPaper_119 : decode cX2_newPaper 119 = .ok (.invokevirtual 34, 3) := by decide +kernel
theorem dX2_newPaper_122 : decode cX2_newPaper 122 = .ok (.aload_n 0, 1) := by decide +kernel
theorem dX2_newPaper_123 : decode cX2_newPaper 123 = .ok (.getfield 20, 3) := by decide +kernel
theorem dX2_newPaper_126 : decode cX2_newPaper 126 = .ok (.iload_n 1, 1) := by decide +kernel
theorem dX2_newPaper_127 : decode cX2_newPaper 127 = .ok (.iconst 3, 1) := by decide +kernel
theorem dX2_newPaper_128 : decode cX2_newPaper 128 = .ok (.iconst 1, 1) := by decide +kernel
theorem dX2_newPaper_129 : decode cX2_newPaper 129 = .ok (.invokevirtual 90, 3) := by decide +kernel
theorem dX2_newPaper_132 : decode cX2_newPaper 132 = .ok (.aload_n 0, 1) := by decide +kernel
theorem dX2_newPaper_133 : decode cX2_newPaper 133 = .ok (.getfield 20, 3) := by decide +kernel
theorem dX2_newPaper_136 : decode cX2_newPaper 136 = .ok (.iload_n 1, 1) := by decide +kernel
theorem dX2_newPaper_137 : decode cX2_newPaper 137 = .ok (.iconst 4, 1) := by decide +kernel
theorem dX2_newPaper_138 : decode cX2_newPaper 138 = .ok (.iload 5, 2) := by decide +kernel
theorem dX2_newPaper_140 : decode cX2_newPaper 140 = .ok (.invokevirtual 90, 3) := by decide +kernel
theorem dX2_newPaper_143 : decode cX2_newPaper 143 = .ok (.aload_n 0, 1) := by decide +kernel
theorem dX2_newPaper_144 : decode cX2_newPaper 144 = .ok (.getfield 14, 3) := by decide +kernel
theorem dX2_newPaper_147 : decode cX2_newPaper 147 = .ok (.iload_n 2, 1) := by decide +kernel
theorem dX2_newPaper_148 : decode cX2_newPaper 148 = .ok (.bipush 10, 2) := by decide +kernel
theorem dX2_newPaper_150 : decode cX2_newPaper 150 = .ok (.iconst 1, 1) := by decide +kernel
theorem dX2_newPaper_151 : decode cX2_newPaper 151 = .ok (.invokevirtual 90, 3) := by decide +kernel
theorem dX2_newPaper_154 : decode cX2_newPaper 154 = .ok (.iload 5, 2) := by decide +kernel
theorem dX2_newPaper_156 : decode cX2_newPaper 156 = .ok (.ireturn, 1) := by decide +kernel
def f_X2_newPaper (σ : Sg)  (p1 p2 p3 : Int32) : Option (Int32 × Sg) := (f_X2_answerNow σ p1 p2 p3).bind fun r1 => (f_X2_markOf σ p2 p3 r1).bind fun r2 => (f_X3_newRow σ 2).bind fun q16 => lts q16.2 fun σ4 => lt q16.1 fun r3 => (f_X3_put σ4 2 r3 (0 : Int32) p1).bind fun σ5 => (f_X3_put σ5 2 r3 (1 : Int32) p2).bind fun σ6 => (f_X3_put σ6 2 r3 (2 : Int32) p3).bind fun σ7 => (f_X3_put σ7 2 r3 (3 : Int32) r1).bind fun σ8 => (f_X3_put σ8 2 r3 (4 : Int32) r2).bind fun σ9 => (f_X3_put σ9 2 r3 (5 : Int32) (0 : Int32)).bind fun σ10 => (f_X3_put σ10 2 r3 (6 : Int32) (-10000005 : Int32)).bind fun σ11 => (f_X3_put σ11 2 r3 (7 : Int32) (-10000005 : Int32)).bind fun σ12 => (f_X3_increase σ12 1 p1 (3 : Int32) (1 : Int32)).bind fun σ13 => (f_X3_increase σ13 1 p1 (4 : Int32) r2).bind fun σ14 => (f_X3_increase σ14 0 p2 (10 : Int32) (1 : Int32)).bind fun σ15 => some (r2, σ15)
theorem okm_X2_newPaper : okm yX2_newPaper 3 = true := by decide +kernel
set_option maxHeartbeats 4000000 in
set_option maxRecDepth 100000 in
theorem c_X2_newPaper (l : Launch) (G : va_G) (cls : Cls) (ad : Nat → Nat) (hi : inj 49 ad) (σ : Sg)   (p1 p2 p3 : Int32) : MT l (YX G cls ad) yX2_newPaper (.code yX2_newPaper cX2_newPaper 7 (some .int) :: gw) 5 123 [.ref (ad 19), .int p1, .int p2, .int p3] fiS σ (f_X2_newPaper σ  p1 p2 p3) := by
  refine MT.of (own := RX2) (by decide) (YX_D hi) rfl (Nat.le_of_ble_eq_true rfl) fun Γ _ hz0 hz1 hC => ?_
  show WX Γ (YX G cls ad) (qf Γ (YX G cls ad) fiS) 7 0 [(0, .ref (ad 19)), (1, .int p1), (2, .int p2), (3, .int p3)] [] σ (f_X2_newPaper σ  p1 p2 p3)
  unfold f_X2_newPaper
  refine X_aload_n hC 0 rfl dX2_newPaper_0 ?_
  refine X_iload_n hC 1 rfl dX2_newPaper_1 ?_
  refine X_iload_n hC 2 rfl dX2_newPaper_2 ?_
  refine X_iload_n hC 3 rfl dX2_newPaper_3 ?_
  refine X_callP (C := RX2) (T := TX2) (N := 3) (ci := 2) (rest := []) hC (c_X2_answerNow _ G cls ad hi σ p1 p2 p3) (gV tw_260 tw_261 tw_262 tw_2 tw_263) rfl (wX (k := 19) (by omega) cX_now) rfl rfl okm_X2_answerNow (by decide) dX2_newPaper_4 rfl (Nat.le_of_ble_eq_true rfl) (fun r1 => ?_)
  refine X_istore (ls' := [(4, .int r1), (0, .ref (ad 19)), (1, .int p1), (2, .int p2), (3, .int p3)]) hC dX2_newPaper_7 (by decide) rfl ?_
  refine X_aload_n hC 1 rfl dX2_newPaper_9 ?_
  refine X_iload_n hC 3 rfl dX2_newPaper_10 ?_
  refine X_iload_n hC 4 rfl dX2_newPaper_11 ?_
  refine X_iload hC 0 rfl dX2_newPaper_12 ?_
  refine X_callP (C := RX2) (T := TX2) (N := 3) (ci := 2) (rest := []) hC (c_X2_markOf _ G cls ad hi σ p2 p3 r1) (gV tw_288 tw_289 tw_290 tw_2 tw_291) rfl (wX (k := 19) (by omega) cX_now) rfl rfl okm_X2_markOf (by decide) dX2_newPaper_14 rfl (Nat.le_of_ble_eq_true rfl) (fun r2 => ?_)
  refine X_istore (ls' := [(5, .int r2), (4, .int r1), (0, .ref (ad 19)), (1, .int p1), (2, .int p2), (3, .int p3)]) hC dX2_newPaper_17 (by decide) rfl ?_
  refine X_aload_n hC 2 rfl dX2_newPaper_19 ?_
  refine X_getf (C := RX2) (T := TX2) (N := 3) (ci := 2) hC 2 (wX (k := 19) (by omega) cX_now) rfl hinX2 (by decide) tw_50 rfl rfl dX2_newPaper_20 ?_
  refine X_callS (C := RX3) (T := TX3) (N := 4) (ci := 3) (rest := []) hC (c_X3_newRow _ G cls ad hi σ 2 (by omega)) (gV tw_296 tw_207 tw_208 tw_3 tw_209) rfl (wX (k := 2) (by omega) (cX_tab (by omega))) rfl rfl okm_X3_newRow (by decide) dX2_newPaper_23 rfl (Nat.le_of_ble_eq_true rfl) (fun q16 => X_lts fun σ4 => X_lt fun r3 => ?_)
  refine X_istore (ls' := [(6, .int r3), (5, .int r2), (4, .int r1), (0, .ref (ad 19)), (1, .int p1), (2, .int p2), (3, .int p3)]) hC dX2_newPaper_26 (by decide) rfl ?_
  refine X_aload_n hC 3 rfl dX2_newPaper_28 ?_
  refine X_getf (C := RX2) (T := TX2) (N := 3) (ci := 2) hC 2 (wX (k := 19) (by omega) cX_now) rfl hinX2 (by decide) tw_50 rfl rfl dX2_newPaper_29 ?_
  refine X_iload hC 0 rfl dX2_newPaper_32 ?_
  refine X_iconst (v := 0) hC (by decide) dX2_newPaper_34 ?_
  refine X_iload_n hC 4 rfl dX2_newPaper_35 ?_
  refine X_callV (C := RX3) (T := TX3) (N := 4) (ci := 3) (rest := []) hC (c_X3_put _ G cls ad hi σ4 2 (by omega) r3 (0 : Int32) p1) (gV tw_180 tw_181 tw_182 tw_3 tw_183) rfl (wX (k := 2) (by omega) (cX_tab (by omega))) rfl rfl okm_X3_put (by decide) dX2_newPaper_36 rfl (Nat.le_of_ble_eq_true rfl) (fun σ5 => ?_)
  refine X_aload_n hC 3 rfl dX2_newPaper_39 ?_
  refine X_getf (C := RX2) (T := TX2) (N := 3) (ci := 2) hC 2 (wX (k := 19) (by omega) cX_now) rfl hinX2 (by decide) tw_50 rfl rfl dX2_newPaper_40 ?_
  refine X_iload hC 0 rfl dX2_newPaper_43 ?_
  refine X_iconst (v := 1) hC (by decide) dX2_newPaper_45 ?_
  refine X_iload_n hC 5 rfl dX2_newPaper_46 ?_
  refine X_callV (C := RX3) (T := TX3) (N := 4) (ci := 3) (rest := []) hC (c_X3_put _ G cls ad hi σ5 2 (by omega) r3 (1 : Int32) p2) (gV tw_180 tw_181 tw_182 tw_3 tw_183) rfl (wX (k := 2) (by omega) (cX_tab (by omega))) rfl rfl okm_X3_put (by decide) dX2_newPaper_47 rfl (Nat.le_of_ble_eq_true rfl) (fun σ6 => ?_)
  refine X_aload_n hC 3 rfl dX2_newPaper_50 ?_
  refine X_getf (C := RX2) (T := TX2) (N := 3) (ci := 2) hC 2 (wX (k := 19) (by omega) cX_now) rfl hinX2 (by decide) tw_50 rfl rfl dX2_newPaper_51 ?_
  refine X_iload hC 0 rfl dX2_newPaper_54 ?_
  refine X_iconst (v := 2) hC (by decide) dX2_newPaper_56 ?_
  refine X_iload_n hC 6 rfl dX2_newPaper_57 ?_
  refine X_callV (C := RX3) (T := TX3) (N := 4) (ci := 3) (rest := []) hC (c_X3_put _ G cls ad hi σ6 2 (by omega) r3 (2 : Int32) p3) (gV tw_180 tw_181 tw_182 tw_3 tw_183) rfl (wX (k := 2) (by omega) (cX_tab (by omega))) rfl rfl okm_X3_put (by decide) dX2_newPaper_58 rfl (Nat.le_of_ble_eq_true rfl) (fun σ7 => ?_)
  refine X_aload_n hC 3 rfl dX2_newPaper_61 ?_
  refine X_getf (C := RX2) (T := TX2) (N := 3) (ci := 2) hC 2 (wX (k := 19) (by omega) cX_now) rfl hinX2 (by decide) tw_50 rfl rfl dX2_newPaper_62 ?_
  refine X_iload hC 0 rfl dX2_newPaper_65 ?_
  refine X_iconst (v := 3) hC (by decide) dX2_newPaper_67 ?_
  refine X_iload hC 2 rfl dX2_newPaper_68 ?_
  refine X_callV (C := RX3) (T := TX3) (N := 4) (ci := 3) (rest := []) hC (c_X3_put _ G cls ad hi σ7 2 (by omega) r3 (3 : Int32) r1) (gV tw_180 tw_181 tw_182 tw_3 tw_183) rfl (wX (k := 2) (by omega) (cX_tab (by omega))) rfl rfl okm_X3_put (by decide) dX2_newPaper_70 rfl (Nat.le_of_ble_eq_true rfl) (fun σ8 => ?_)
  refine X_aload_n hC 3 rfl dX2_newPaper_73 ?_
  refine X_getf (C := RX2) (T := TX2) (N := 3) (ci := 2) hC 2 (wX (k := 19) (by omega) cX_now) rfl hinX2 (by decide) tw_50 rfl rfl dX2_newPaper_74 ?_
  refine X_iload hC 0 rfl dX2_newPaper_77 ?_
  refine X_iconst (v := 4) hC (by decide) dX2_newPaper_79 ?_
  refine X_iload hC 1 rfl dX2_newPaper_80 ?_
  refine X_callV (C := RX3) (T := TX3) (N := 4) (ci := 3) (rest := []) hC (c_X3_put _ G cls ad hi σ8 2 (by omega) r3 (4 : Int32) r2) (gV tw_180 tw_181 tw_182 tw_3 tw_183) rfl (wX (k := 2) (by omega) (cX_tab (by omega))) rfl rfl okm_X3_put (by decide) dX2_newPaper_82 rfl (Nat.le_of_ble_eq_true rfl) (fun σ9 => ?_)
  refine X_aload_n hC 3 rfl dX2_newPaper_85 ?_
  refine X_getf (C := RX2) (T := TX2) (N := 3) (ci := 2) hC 2 (wX (k := 19) (by omega) cX_now) rfl hinX2 (by decide) tw_50 rfl rfl dX2_newPaper_86 ?_
  refine X_iload hC 0 rfl dX2_newPaper_89 ?_
  refine X_iconst (v := 5) hC (by decide) dX2_newPaper_91 ?_
  refine X_iconst (v := 0) hC (by decide) dX2_newPaper_92 ?_
  refine X_callV (C := RX3) (T := TX3) (N := 4) (ci := 3) (rest := []) hC (c_X3_put _ G cls ad hi σ9 2 (by omega) r3 (5 : Int32) (0 : Int32)) (gV tw_180 tw_181 tw_182 tw_3 tw_183) rfl (wX (k := 2) (by omega) (cX_tab (by omega))) rfl rfl okm_X3_put (by decide) dX2_newPaper_93 rfl (Nat.le_of_ble_eq_true rfl) (fun σ10 => ?_)
  refine X_aload_n hC 3 rfl dX2_newPaper_96 ?_
  refine X_getf (C := RX2) (T := TX2) (N := 3) (ci := 2) hC 2 (wX (k := 19) (by omega) cX_now) rfl hinX2 (by decide) tw_50 rfl rfl dX2_newPaper_97 ?_
  refine X_iload hC 0 rfl dX2_newPaper_100 ?_
  refine X_bipush (v := 6) hC (by decide) dX2_newPaper_102 ?_
  refine X_ldc (v := -10000005) hC tw_148 dX2_newPaper_104 ?_
  refine X_callV (C := RX3) (T := TX3) (N := 4) (ci := 3) (rest := []) hC (c_X3_put _ G cls ad hi σ10 2 (by omega) r3 (6 : Int32) (-10000005 : Int32)) (gV tw_180 tw_181 tw_182 tw_3 tw_183) rfl (wX (k := 2) (by omega) (cX_tab (by omega))) rfl rfl okm_X3_put (by decide) dX2_newPaper_106 rfl (Nat.le_of_ble_eq_true rfl) (fun σ11 => ?_)
  refine X_aload_n hC 3 rfl dX2_newPaper_109 ?_
  refine X_getf (C := RX2) (T := TX2) (N := 3) (ci := 2) hC 2 (wX (k := 19) (by omega) cX_now) rfl hinX2 (by decide) tw_50 rfl rfl dX2_newPaper_110 ?_
  refine X_iload hC 0 rfl dX2_newPaper_113 ?_
  refine X_bipush (v := 7) hC (by decide) dX2_newPaper_115 ?_
  refine X_ldc (v := -10000005) hC tw_148 dX2_newPaper_117 ?_
  refine X_callV (C := RX3) (T := TX3) (N := 4) (ci := 3) (rest := []) hC (c_X3_put _ G cls ad hi σ11 2 (by omega) r3 (7 : Int32) (-10000005 : Int32)) (gV tw_180 tw_181 tw_182 tw_3 tw_183) rfl (wX (k := 2) (by omega) (cX_tab (by omega))) rfl rfl okm_X3_put (by decide) dX2_newPaper_119 rfl (Nat.le_of_ble_eq_true rfl) (fun σ12 => ?_)
  refine X_aload_n hC 3 rfl dX2_newPaper_122 ?_
  refine X_getf (C := RX2) (T := TX2) (N := 3) (ci := 2) hC 1 (wX (k := 19) (by omega) cX_now) rfl hinX2 (by decide) tw_48 rfl rfl dX2_newPaper_123 ?_
  refine X_iload_n hC 4 rfl dX2_newPaper_126 ?_
  refine X_iconst (v := 3) hC (by decide) dX2_newPaper_127 ?_
  refine X_iconst (v := 1) hC (by decide) dX2_newPaper_128 ?_
  refine X_callV (C := RX3) (T := TX3) (N := 4) (ci := 3) (rest := []) hC (c_X3_increase _ G cls ad hi σ12 1 (by omega) p1 (3 : Int32) (1 : Int32)) (gV tw_184 tw_185 tw_186 tw_3 tw_187) rfl (wX (k := 1) (by omega) (cX_tab (by omega))) rfl rfl okm_X3_increase (by decide) dX2_newPaper_129 rfl (Nat.le_of_ble_eq_true rfl) (fun σ13 => ?_)
  refine X_aload_n hC 3 rfl dX2_newPaper_132 ?_
  refine X_getf (C := RX2) (T := TX2) (N := 3) (ci := 2) hC 1 (wX (k := 19) (by omega) cX_now) rfl hinX2 (by decide) tw_48 rfl rfl dX2_newPaper_133 ?_
  refine X_iload_n hC 4 rfl dX2_newPaper_136 ?_
  refine X_iconst (v := 4) hC (by decide) dX2_newPaper_137 ?_
  refine X_iload hC 1 rfl dX2_newPaper_138 ?_
  refine X_callV (C := RX3) (T := TX3) (N := 4) (ci := 3) (rest := []) hC (c_X3_increase _ G cls ad hi σ13 1 (by omega) p1 (4 : Int32) r2) (gV tw_184 tw_185 tw_186 tw_3 tw_187) rfl (wX (k := 1) (by omega) (cX_tab (by omega))) rfl rfl okm_X3_increase (by decide) dX2_newPaper_140 rfl (Nat.le_of_ble_eq_true rfl) (fun σ14 => ?_)
  refine X_aload_n hC 3 rfl dX2_newPaper_143 ?_
  refine X_getf (C := RX2) (T := TX2) (N := 3) (ci := 2) hC 0 (wX (k := 19) (by omega) cX_now) rfl hinX2 (by decide) tw_46 rfl rfl dX2_newPaper_144 ?_
  refine X_iload_n hC 5 rfl dX2_newPaper_147 ?_
  refine X_bipush (v := 10) hC (by decide) dX2_newPaper_148 ?_
  refine X_iconst (v := 1) hC (by decide) dX2_newPaper_150 ?_
  refine X_callV (C := RX3) (T := TX3) (N := 4) (ci := 3) (rest := []) hC (c_X3_increase _ G cls ad hi σ14 0 (by omega) p2 (10 : Int32) (1 : Int32)) (gV tw_184 tw_185 tw_186 tw_3 tw_187) rfl (wX (k := 0) (by omega) (cX_tab (by omega))) rfl rfl okm_X3_increase (by decide) dX2_newPaper_151 rfl (Nat.le_of_ble_eq_true rfl) (fun σ15 => ?_)
  refine X_iload hC 1 rfl dX2_newPaper_154 ?_
  exact X_iret hC hz0 hz1 dX2_newPaper_156 rfl
theorem dX2_errorOf_0 : decode cX2_errorOf 0 = .ok (.aload_n 1, 1) := by decide +kernel
theorem dX2_errorOf_1 : decode cX2_errorOf 1 = .ok (.ifnonnull 5, 3) := by decide +kernel
theorem dX2_errorOf_4 : decode cX2_errorOf 4 = .ok (.iconst 0, 1) := by decide +kernel
theorem dX2_errorOf_5 : decode cX2_errorOf 5 = .ok (.ireturn, 1) := by decide +kernel
theorem dX2_errorOf_6 : decode cX2_errorOf 6 = .ok (.iconst 0, 1) := by decide +kernel
theorem dX2_errorOf_7 : decode cX2_errorOf 7 = .ok (.istore_n 2, 1) := by decide +kernel
theorem dX2_errorOf_8 : decode cX2_errorOf 8 = .ok (.iload_n 2, 1) := by decide +kernel
theorem dX2_errorOf_9 : decode cX2_errorOf 9 = .ok (.aload_n 1, 1) := by decide +kernel
theorem dX2_errorOf_10 : decode cX2_errorOf 10 = .ok (.invokevirtual 46, 3) := by decide +kernel
theorem dX2_errorOf_13 : decode cX2_errorOf 13 = .ok (.if_icmp .ge 44, 3) := by decide +kernel
theorem dX2_errorOf_16 : decode cX2_errorOf 16 = .ok (.aload_n 0, 1) := by decide +kernel
theorem dX2_errorOf_17 : decode cX2_errorOf 17 = .ok (.getfield 20, 3) := by decide +kernel
theorem dX2_errorOf_20 : decode cX2_errorOf 20 = .ok (.aload_n 1, 1) := by decide +kernel
theorem dX2_errorOf_21 : decode cX2_errorOf 21 = .ok (.iload_n 2, 1) := by decide +kernel
theorem dX2_errorOf_22 : decode cX2_errorOf 22 = .ok (.iconst 0, 1) := by decide +kernel
theorem dX2_errorOf_23 : decode cX2_errorOf 23 = .ok (.invokevirtual 38, 3) := by decide +kernel
theorem dX2_errorOf_26 : decode cX2_errorOf 26 = .ok (.invokevirtual 93, 3) := by decide +kernel
theorem dX2_errorOf_29 : decode cX2_errorOf 29 = .ok (.ifCond .ne 19, 3) := by decide +kernel
theorem dX2_errorOf_32 : decode cX2_errorOf 32 = .ok (.aload_n 0, 1) := by decide +kernel
theorem dX2_errorOf_33 : decode cX2_errorOf 33 = .ok (.getfield 14, 3) := by decide +kernel
theorem dX2_errorOf_36 : decode cX2_errorOf 36 = .ok (.aload_n 1, 1) := by decide +kernel
theorem dX2_errorOf_37 : decode cX2_errorOf 37 = .ok (.iload_n 2, 1) := by decide +kernel
theorem dX2_errorOf_38 : decode cX2_errorOf 38 = .ok (.iconst 1, 1) := by decide +kernel
theorem dX2_errorOf_39 : decode cX2_errorOf 39 = .ok (.invokevirtual 38, 3) := by decide +kernel
theorem dX2_errorOf_42 : decode cX2_errorOf 42 = .ok (.invokevirtual 93, 3) := by decide +kernel
theorem dX2_errorOf_45 : decode cX2_errorOf 45 = .ok (.ifCond .eq 6, 3) := by decide +kernel
theorem dX2_errorOf_48 : decode cX2_errorOf 48 = .ok (.ldc 97, 2) := by decide +kernel
theorem dX2_errorOf_50 : decode cX2_errorOf 50 = .ok (.ireturn, 1) := by decide +kernel
theorem dX2_errorOf_51 : decode cX2_errorOf 51 = .ok (.iinc 2 1, 3) := by decide +kernel
theorem dX2_errorOf_54 : decode cX2_errorOf 54 = .ok (.goto (-46), 3) := by decide +kernel
theorem dX2_errorOf_57 : decode cX2_errorOf 57 = .ok (.iconst 0, 1) := by decide +kernel
theorem dX2_errorOf_58 : decode cX2_errorOf 58 = .ok (.istore_n 2, 1) := by decide +kernel
theorem dX2_errorOf_59 : decode cX2_errorOf 59 = .ok (.iload_n 2, 1) := by decide +kernel
theorem dX2_errorOf_60 : decode cX2_errorOf 60 = .ok (.aload_n 1, 1) := by decide +kernel
theorem dX2_errorOf_61 : decode cX2_errorOf 61 = .ok (.invokevirtual 46, 3) := by decide +kernel
theorem dX2_errorOf_64 : decode cX2_errorOf 64 = .ok (.if_icmp .ge 31, 3) := by decide +kernel
theorem dX2_errorOf_67 : decode cX2_errorOf 67 = .ok (.aload_n 0, 1) := by decide +kernel
theorem dX2_errorOf_68 : decode cX2_errorOf 68 = .ok (.aload_n 1, 1) := by decide +kernel
theorem dX2_errorOf_69 : decode cX2_errorOf 69 = .ok (.iload_n 2, 1) := by decide +kernel
theorem dX2_errorOf_70 : decode cX2_errorOf 70 = .ok (.iconst 1, 1) := by decide +kernel
theorem dX2_errorOf_71 : decode cX2_errorOf 71 = .ok (.invokevirtual 38, 3) := by decide +kernel
theorem dX2_errorOf_74 : decode cX2_errorOf 74 = .ok (.aload_n 1, 1) := by decide +kernel
theorem dX2_errorOf_75 : decode cX2_errorOf 75 = .ok (.iload_n 2, 1) := by decide +kernel
theorem dX2_errorOf_76 : decode cX2_errorOf 76 = .ok (.iconst 2, 1) := by decide +kernel
theorem dX2_errorOf_77 : decode cX2_errorOf 77 = .ok (.invokevirtual 38, 3) := by decide +kernel
theorem dX2_errorOf_80 : decode cX2_errorOf 80 = .ok (.invokevirtual 98, 3) := by decide +kernel
theorem dX2_errorOf_83 : decode cX2_errorOf 83 = .ok (.ifCond .eq 6, 3) := by decide +kernel
theorem dX2_errorOf_86 : decode cX2_errorOf 86 = .ok (.ldc 101, 2) := by decide +kernel
theorem dX2_errorOf_88 : decode cX2_errorOf 88 = .ok (.ireturn, 1) := by decide +kernel
theorem dX2_errorOf_89 : decode cX2_errorOf 89 = .ok (.iinc 2 1, 3) := by decide +kernel
theorem dX2_errorOf_92 : decode cX2_errorOf 92 = .ok (.goto (-33), 3) := by decide +kernel
theorem dX2_errorOf_95 : decode cX2_errorOf 95 = .ok (.aload_n 0, 1) := by decide +kernel
theorem dX2_errorOf_96 : decode cX2_errorOf 96 = .ok (.getfield 23, 3) := by decide +kernel
theorem dX2_errorOf_99 : decode cX2_errorOf 99 = .ok (.aload_n 1, 1) := by decide +kernel
theorem dX2_errorOf_100 : decode cX2_errorOf 100 = .ok (.invokevirtual 46, 3) := by decide +kernel
theorem dX2_errorOf_103 : decode cX2_errorOf 103 = .ok (.invokevirtual 102, 3) := by decide +kernel
theorem dX2_errorOf_106 : decode cX2_errorOf 106 = .ok (.ifCond .eq 7, 3) := by decide +kernel
theorem dX2_errorOf_109 : decode cX2_errorOf 109 = .ok (.iconst 0, 1) := by decide +kernel
theorem dX2_errorOf_110 : decode cX2_errorOf 110 = .ok (.goto 5, 3) := by decide +kernel
theorem dX2_errorOf_113 : decode cX2_errorOf 113 = .ok (.ldc 105, 2) := by decide +kernel
theorem dX2_errorOf_115 : decode cX2_errorOf 115 = .ok (.ireturn, 1) := by decide +kernel
def f_X2_errorOf_b59 (σ : Sg)   : Nat → Int32 → Option (Int32)
  | 0, _ => none
  | n + 1, v2 => (f_X3_size σ 18).bind fun r3 => if r3 ≤ v2 then ((f_X3_size σ 18).bind fun r5 => (f_X3_hasRoomFor σ 2 r5).bind fun r6 => if r6 = 0 then (some (-10000003 : Int32)) else (some (0 : Int32))) else ((f_X3_cell σ 18 v2 (1 : Int32)).bind fun r8 => (f_X3_cell σ 18 v2 (2 : Int32)).bind fun r9 => (f_X2_isNoSetting σ r8 r9).bind fun r10 => if r10 = 0 then (lt (v2 + (1 : Int32)) fun x12 => (f_X2_errorOf_b59 σ   n) x12) else (some (-10000002 : Int32)))
def f_X2_errorOf_b8 (σ : Sg)   : Nat → Int32 → Option (Int32)
  | 0, _ => none
  | n + 1, v2 => (f_X3_size σ 18).bind fun r1 => if r1 ≤ v2 then (f_X2_errorOf_b59 σ fuel (0 : Int32)) else ((f_X3_cell σ 18 v2 (0 : Int32)).bind fun r13 => (f_X3_lacks σ 1 r13).bind fun r14 => if r14 = 0 then ((f_X3_cell σ 18 v2 (1 : Int32)).bind fun r16 => (f_X3_lacks σ 0 r16).bind fun r17 => if r17 = 0 then (lt (v2 + (1 : Int32)) fun x19 => (f_X2_errorOf_b8 σ   n) x19) else (some (-10000001 : Int32))) else (some (-10000001 : Int32)))
def f_X2_errorOf (σ : Sg)   : Option (Int32) := f_X2_errorOf_b8 σ fuel (0 : Int32)
set_option maxHeartbeats 4000000 in
set_option maxRecDepth 100000 in
theorem L_X2_errorOf_b59 {Γ : Cx} (G : va_G) (cls : Cls) (ad : Nat → Nat) (hi : inj 49 ad) (hC : CX Γ (YX G cls ad) cX2_errorOf RX2 3 (some .int) 3 66) (hz0 : Γ.2.2.2.2.2.1 = 0) (hz1 : Γ.2.2.2.2.2.2 = 0) (σ : Sg)    : ∀ (n : Nat) (v2 : Int32), WX Γ (YX G cls ad) (qf Γ (YX G cls ad) (fiP σ)) 3 59 [(0, .ref (ad 19)), (1, .ref (ad 18)), (2, .int v2)] [] σ (f_X2_errorOf_b59 σ   n v2) := by
  intro n
  induction n with
  | zero => intro v2; exact X_none
  | succ n ih =>
    intro v2
    rw [f_X2_errorOf_b59.eq_2]
    refine X_iload_n hC 2 rfl dX2_errorOf_59 ?_
    refine X_aload_n hC 1 rfl dX2_errorOf_60 ?_
    refine X_callP (C := RX3) (T := TX3) (N := 4) (ci := 3) (rest := [.int v2]) hC (c_X3_size _ G cls ad hi σ 18 (by omega)) (gV tw_124 tw_125 tw_126 tw_3 tw_127) rfl (wX (k := 18) (by omega) (cX_tab (by omega))) rfl rfl okm_X3_size (by decide) dX2_errorOf_61 rfl (Nat.le_of_ble_eq_true rfl) (fun r3 => ?_)
    refine X_icmp_ge hC 95 dX2_errorOf_64 (by decide) (fun h4 => ?_) (fun h4 => ?_)
    · refine X_aload_n hC 0 rfl dX2_errorOf_95 ?_
      refine X_getf (C := RX2) (T := TX2) (N := 3) (ci := 2) hC 2 (wX (k := 19) (by omega) cX_now) rfl hinX2 (by decide) tw_50 rfl rfl dX2_errorOf_96 ?_
      refine X_aload_n hC 1 rfl dX2_errorOf_99 ?_
      refine X_callP (C := RX3) (T := TX3) (N := 4) (ci := 3) (rest := [.ref (ad 2)]) hC (c_X3_size _ G cls ad hi σ 18 (by omega)) (gV tw_124 tw_125 tw_126 tw_3 tw_127) rfl (wX (k := 18) (by omega) (cX_tab (by omega))) rfl rfl okm_X3_size (by decide) dX2_errorOf_100 rfl (Nat.le_of_ble_eq_true rfl) (fun r5 => ?_)
      refine X_callP (C := RX3) (T := TX3) (N := 4) (ci := 3) (rest := []) hC (c_X3_hasRoomFor _ G cls ad hi σ 2 (by omega) r5) (gV tw_249 tw_250 tw_251 tw_3 tw_252) rfl (wX (k := 2) (by omega) (cX_tab (by omega))) rfl rfl okm_X3_hasRoomFor (by decide) dX2_errorOf_103 rfl (Nat.le_of_ble_eq_true rfl) (fun r6 => ?_)
      refine X_if_eq hC 113 dX2_errorOf_106 (by decide) (fun h7 => ?_) (fun h7 => ?_)
      · refine X_ldc (v := -10000003) hC tw_253 dX2_errorOf_113 ?_
        exact X_iret hC hz0 hz1 dX2_errorOf_115 rfl
      · refine X_iconst (v := 0) hC (by decide) dX2_errorOf_109 ?_
        refine X_goto hC 115 dX2_errorOf_110 (by decide) ?_
        exact X_iret hC hz0 hz1 dX2_errorOf_115 rfl
    · refine X_aload_n hC 0 rfl dX2_errorOf_67 ?_
      refine X_aload_n hC 1 rfl dX2_errorOf_68 ?_
      refine X_iload_n hC 2 rfl dX2_errorOf_69 ?_
      refine X_iconst (v := 1) hC (by decide) dX2_errorOf_70 ?_
      refine X_callP (C := RX3) (T := TX3) (N := 4) (ci := 3) (rest := [.ref (ad 19)]) hC (c_X3_cell _ G cls ad hi σ 18 (by omega) v2 (1 : Int32)) (gV tw_132 tw_133 tw_134 tw_3 tw_135) rfl (wX (k := 18) (by omega) (cX_tab (by omega))) rfl rfl okm_X3_cell (by decide) dX2_errorOf_71 rfl (Nat.le_of_ble_eq_true rfl) (fun r8 => ?_)
      refine X_aload_n hC 1 rfl dX2_errorOf_74 ?_
      refine X_iload_n hC 2 rfl dX2_errorOf_75 ?_
      refine X_iconst (v := 2) hC (by decide) dX2_errorOf_76 ?_
      refine X_callP (C := RX3) (T := TX3) (N := 4) (ci := 3) (rest := [.int r8, .ref (ad 19)]) hC (c_X3_cell _ G cls ad hi σ 18 (by omega) v2 (2 : Int32)) (gV tw_132 tw_133 tw_134 tw_3 tw_135) rfl (wX (k := 18) (by omega) (cX_tab (by omega))) rfl rfl okm_X3_cell (by decide) dX2_errorOf_77 rfl (Nat.le_of_ble_eq_true rfl) (fun r9 => ?_)
      refine X_callP (C := RX2) (T := TX2) (N := 3) (ci := 2) (rest := []) hC (c_X2_isNoSetting _ G cls ad hi σ r8 r9) (gV tw_241 tw_242 tw_243 tw_2 tw_244) rfl (wX (k := 19) (by omega) cX_now) rfl rfl okm_X2_isNoSetting (by decide) dX2_errorOf_80 rfl (Nat.le_of_ble_eq_true rfl) (fun r10 => ?_)
      refine X_if_eq hC 89 dX2_errorOf_83 (by decide) (fun h11 => ?_) (fun h11 => ?_)
      · refine X_iinc (ls' := fun x12 => [(2, .int x12), (0, .ref (ad 19)), (1, .ref (ad 18))]) hC 2 dX2_errorOf_89 rfl (by decide) (by decide) (fun _ => rfl) (fun x12 => ?_)
        refine X_goto hC 59 dX2_errorOf_92 (by decide) ?_
        exact X_sub [1, 2, 0] rfl (ih x12)
      · refine X_ldc (v := -10000002) hC tw_248 dX2_errorOf_86 ?_
        exact X_iret hC hz0 hz1 dX2_errorOf_88 rfl
set_option maxHeartbeats 4000000 in
set_option maxRecDepth 100000 in
theorem L_X2_errorOf_b8 {Γ : Cx} (G : va_G) (cls : Cls) (ad : Nat → Nat) (hi : inj 49 ad) (hC : CX Γ (YX G cls ad) cX2_errorOf RX2 3 (some .int) 3 66) (hz0 : Γ.2.2.2.2.2.1 = 0) (hz1 : Γ.2.2.2.2.2.2 = 0) (σ : Sg)    : ∀ (n : Nat) (v2 : Int32), WX Γ (YX G cls ad) (qf Γ (YX G cls ad) (fiP σ)) 3 8 [(0, .ref (ad 19)), (1, .ref (ad 18)), (2, .int v2)] [] σ (f_X2_errorOf_b8 σ   n v2) := by
  intro n
  induction n with
  | zero => intro v2; exact X_none
  | succ n ih =>
    intro v2
    rw [f_X2_errorOf_b8.eq_2]
    refine X_iload_n hC 2 rfl dX2_errorOf_8 ?_
    refine X_aload_n hC 1 rfl dX2_errorOf_9 ?_
    refine X_callP (C := RX3) (T := TX3) (N := 4) (ci := 3) (rest := [.int v2]) hC (c_X3_size _ G cls ad hi σ 18 (by omega)) (gV tw_124 tw_125 tw_126 tw_3 tw_127) rfl (wX (k := 18) (by omega) (cX_tab (by omega))) rfl rfl okm_X3_size (by decide) dX2_errorOf_10 rfl (Nat.le_of_ble_eq_true rfl) (fun r1 => ?_)
    refine X_icmp_ge hC 57 dX2_errorOf_13 (by decide) (fun h2 => ?_) (fun h2 => ?_)
    · refine X_iconst (v := 0) hC (by decide) dX2_errorOf_57 ?_
      refine X_istore_n (ls' := [(2, .int (0 : Int32)), (0, .ref (ad 19)), (1, .ref (ad 18))]) hC dX2_errorOf_58 (by decide) rfl ?_
      exact X_sub [1, 2, 0] rfl (L_X2_errorOf_b59 G cls ad hi hC hz0 hz1 σ fuel (0 : Int32))
    · refine X_aload_n hC 0 rfl dX2_errorOf_16 ?_
      refine X_getf (C := RX2) (T := TX2) (N := 3) (ci := 2) hC 1 (wX (k := 19) (by omega) cX_now) rfl hinX2 (by decide) tw_48 rfl rfl dX2_errorOf_17 ?_
      refine X_aload_n hC 1 rfl dX2_errorOf_20 ?_
      refine X_iload_n hC 2 rfl dX2_errorOf_21 ?_
      refine X_iconst (v := 0) hC (by decide) dX2_errorOf_22 ?_
      refine X_callP (C := RX3) (T := TX3) (N := 4) (ci := 3) (rest := [.ref (ad 1)]) hC (c_X3_cell _ G cls ad hi σ 18 (by omega) v2 (0 : Int32)) (gV tw_132 tw_133 tw_134 tw_3 tw_135) rfl (wX (k := 18) (by omega) (cX_tab (by omega))) rfl rfl okm_X3_cell (by decide) dX2_errorOf_23 rfl (Nat.le_of_ble_eq_true rfl) (fun r13 => ?_)
      refine X_callP (C := RX3) (T := TX3) (N := 4) (ci := 3) (rest := []) hC (c_X3_lacks _ G cls ad hi σ 1 (by omega) r13) (gV tw_239 tw_137 tw_138 tw_3 tw_139) rfl (wX (k := 1) (by omega) (cX_tab (by omega))) rfl rfl okm_X3_lacks (by decide) dX2_errorOf_26 rfl (Nat.le_of_ble_eq_true rfl) (fun r14 => ?_)
      refine X_if_ne hC 48 dX2_errorOf_29 (by decide) (fun h15 => ?_) (fun h15 => ?_)
      · refine X_ldc (v := -10000001) hC tw_240 dX2_errorOf_48 ?_
        exact X_iret hC hz0 hz1 dX2_errorOf_50 rfl
      · refine X_aload_n hC 0 rfl dX2_errorOf_32 ?_
        refine X_getf (C := RX2) (T := TX2) (N := 3) (ci := 2) hC 0 (wX (k := 19) (by omega) cX_now) rfl hinX2 (by decide) tw_46 rfl rfl dX2_errorOf_33 ?_
        refine X_aload_n hC 1 rfl dX2_errorOf_36 ?_
        refine X_iload_n hC 2 rfl dX2_errorOf_37 ?_
        refine X_iconst (v := 1) hC (by decide) dX2_errorOf_38 ?_
        refine X_callP (C := RX3) (T := TX3) (N := 4) (ci := 3) (rest := [.ref (ad 0)]) hC (c_X3_cell _ G cls ad hi σ 18 (by omega) v2 (1 : Int32)) (gV tw_132 tw_133 tw_134 tw_3 tw_135) rfl (wX (k := 18) (by omega) (cX_tab (by omega))) rfl rfl okm_X3_cell (by decide) dX2_errorOf_39 rfl (Nat.le_of_ble_eq_true rfl) (fun r16 => ?_)
        refine X_callP (C := RX3) (T := TX3) (N := 4) (ci := 3) (rest := []) hC (c_X3_lacks _ G cls ad hi σ 0 (by omega) r16) (gV tw_239 tw_137 tw_138 tw_3 tw_139) rfl (wX (k := 0) (by omega) (cX_tab (by omega))) rfl rfl okm_X3_lacks (by decide) dX2_errorOf_42 rfl (Nat.le_of_ble_eq_true rfl) (fun r17 => ?_)
        refine X_if_eq hC 51 dX2_errorOf_45 (by decide) (fun h18 => ?_) (fun h18 => ?_)
        · refine X_iinc (ls' := fun x19 => [(2, .int x19), (0, .ref (ad 19)), (1, .ref (ad 18))]) hC 2 dX2_errorOf_51 rfl (by decide) (by decide) (fun _ => rfl) (fun x19 => ?_)
          refine X_goto hC 8 dX2_errorOf_54 (by decide) ?_
          exact X_sub [1, 2, 0] rfl (ih x19)
        · refine X_ldc (v := -10000001) hC tw_240 dX2_errorOf_48 ?_
          exact X_iret hC hz0 hz1 dX2_errorOf_50 rfl
theorem okm_X2_errorOf : okm yX2_errorOf 1 = true := by decide +kernel
set_option maxHeartbeats 4000000 in
set_option maxRecDepth 100000 in
theorem c_X2_errorOf (l : Launch) (G : va_G) (cls : Cls) (ad : Nat → Nat) (hi : inj 49 ad) (σ : Sg)    : MT l (YX G cls ad) yX2_errorOf (.code yX2_errorOf cX2_errorOf 3 (some .int) :: gw) 3 66 [.ref (ad 19), .ref (ad 18)] (fiP σ) σ (f_X2_errorOf σ  ) := by
  refine MT.of (own := RX2) (by decide) (YX_D hi) rfl (Nat.le_of_ble_eq_true rfl) fun Γ _ hz0 hz1 hC => ?_
  show WX Γ (YX G cls ad) (qf Γ (YX G cls ad) (fiP σ)) 3 0 [(0, .ref (ad 19)), (1, .ref (ad 18))] [] σ (f_X2_errorOf σ  )
  unfold f_X2_errorOf
  refine X_aload_n hC 1 rfl dX2_errorOf_0 ?_
  refine X_ifnonnull hC 6 dX2_errorOf_1 (by decide) ?_
  refine X_iconst (v := 0) hC (by decide) dX2_errorOf_6 ?_
  refine X_istore_n (ls' := [(2, .int (0 : Int32)), (0, .ref (ad 19)), (1, .ref (ad 18))]) hC dX2_errorOf_7 (by decide) rfl ?_
  exact X_sub [1, 2, 0] rfl (L_X2_errorOf_b8 G cls ad hi hC hz0 hz1 σ fuel (0 : Int32))
theorem dX2_hopeOf_0 : decode cX2_hopeOf 0 = .ok (.aload_n 0, 1) := by decide +kernel
theorem dX2_hopeOf_1 : decode cX2_hopeOf 1 = .ok (.getfield 23, 3) := by decide +kernel
theorem dX2_hopeOf_4 : decode cX2_hopeOf 4 = .ok (.iload_n 1, 1) := by decide +kernel
theorem dX2_hopeOf_5 : decode cX2_hopeOf 5 = .ok (.iconst 0, 1) := by decide +kernel
theorem dX2_hopeOf_6 : decode cX2_hopeOf 6 = .ok (.invokevirtual 38, 3) := by decide +kernel
theorem dX2_hopeOf_9 : decode cX2_hopeOf 9 = .ok (.istore_n 3, 1) := by decide +kernel
theorem dX2_hopeOf_10 : decode cX2_hopeOf 10 = .ok (.aload_n 0, 1) := by decide +kernel
theorem dX2_hopeOf_11 : decode cX2_hopeOf 11 = .ok (.getfield 20, 3) := by decide +kernel
theorem dX2_hopeOf_14 : decode cX2_hopeOf 14 = .ok (.iload_n 3, 1) := by decide +kernel
theorem dX2_hopeOf_15 : decode cX2_hopeOf 15 = .ok (.iconst 0, 1) := by decide +kernel
theorem dX2_hopeOf_16 : decode cX2_hopeOf 16 = .ok (.invokevirtual 38, 3) := by decide +kernel
theorem dX2_hopeOf_19 : decode cX2_hopeOf 19 = .ok (.istore 4, 2) := by decide +kernel
theorem dX2_hopeOf_21 : decode cX2_hopeOf 21 = .ok (.aload_n 0, 1) := by decide +kernel
theorem dX2_hopeOf_22 : decode cX2_hopeOf 22 = .ok (.getfield 20, 3) := by decide +kernel
theorem dX2_hopeOf_25 : decode cX2_hopeOf 25 = .ok (.iload_n 3, 1) := by decide +kernel
theorem dX2_hopeOf_26 : decode cX2_hopeOf 26 = .ok (.iconst 1, 1) := by decide +kernel
theorem dX2_hopeOf_27 : decode cX2_hopeOf 27 = .ok (.invokevirtual 38, 3) := by decide +kernel
theorem dX2_hopeOf_30 : decode cX2_hopeOf 30 = .ok (.istore 5, 2) := by decide +kernel
theorem dX2_hopeOf_32 : decode cX2_hopeOf 32 = .ok (.aload_n 0, 1) := by decide +kernel
theorem dX2_hopeOf_33 : decode cX2_hopeOf 33 = .ok (.getfield 20, 3) := by decide +kernel
theorem dX2_hopeOf_36 : decode cX2_hopeOf 36 = .ok (.iload_n 3, 1) := by decide +kernel
theorem dX2_hopeOf_37 : decode cX2_hopeOf 37 = .ok (.iconst 2, 1) := by decide +kernel
theorem dX2_hopeOf_38 : decode cX2_hopeOf 38 = .ok (.invokevirtual 38, 3) := by decide +kernel
theorem dX2_hopeOf_41 : decode cX2_hopeOf 41 = .ok (.istore 6, 2) := by decide +kernel
theorem dX2_hopeOf_43 : decode cX2_hopeOf 43 = .ok (.iload_n 2, 1) := by decide +kernel
theorem dX2_hopeOf_44 : decode cX2_hopeOf 44 = .ok (.iconst 1, 1) := by decide +kernel
theorem dX2_hopeOf_45 : decode cX2_hopeOf 45 = .ok (.if_icmp .ne 32, 3) := by decide +kernel
theorem dX2_hopeOf_48 : decode cX2_hopeOf 48 = .ok (.iload 6, 2) := by decide +kernel
theorem dX2_hopeOf_50 : decode cX2_hopeOf 50 = .ok (.aload_n 0, 1) := by decide +kernel
theorem dX2_hopeOf_51 : decode cX2_hopeOf 51 = .ok (.getfield 14, 3) := by decide +kernel
theorem dX2_hopeOf_54 : decode cX2_hopeOf 54 = .ok (.aload_n 0, 1) := by decide +kernel
theorem dX2_hopeOf_55 : decode cX2_hopeOf 55 = .ok (.getfield 23, 3) := by decide +kernel
theorem dX2_hopeOf_58 : decode cX2_hopeOf 58 = .ok (.iload_n 1, 1) := by decide +kernel
theorem dX2_hopeOf_59 : decode cX2_hopeOf 59 = .ok (.iconst 1, 1) := by decide +kernel
theorem dX2_hopeOf_60 : decode cX2_hopeOf 60 = .ok (.invokevirtual 38, 3) := by decide +kernel
theorem dX2_hopeOf_63 : decode cX2_hopeOf 63 = .ok (.bipush 6, 2) := by decide +kernel
theorem dX2_hopeOf_65 : decode cX2_hopeOf 65 = .ok (.invokevirtual 38, 3) := by decide +kernel
theorem dX2_hopeOf_68 : decode cX2_hopeOf 68 = .ok (.invokestatic 49, 3) := by decide +kernel
theorem dX2_hopeOf_71 : decode cX2_hopeOf 71 = .ok (.ior, 1) := by decide +kernel
theorem dX2_hopeOf_72 : decode cX2_hopeOf 72 = .ok (.istore 6, 2) := by decide +kernel
theorem dX2_hopeOf_74 : decode cX2_hopeOf 74 = .ok (.goto 26, 3) := by decide +kernel
theorem dX2_hopeOf_77 : decode cX2_hopeOf 77 = .ok (.iload_n 2, 1) := by decide +kernel
theorem dX2_hopeOf_78 : decode cX2_hopeOf 78 = .ok (.iconst 2, 1) := by decide +kernel
theorem dX2_hopeOf_79 : decode cX2_hopeOf 79 = .ok (.if_icmp .ne 9, 3) := by decide +kernel
theorem dX2_hopeOf_82 : decode cX2_hopeOf 82 = .ok (.iconst 0, 1) := by decide +kernel
theorem dX2_hopeOf_83 : decode cX2_hopeOf 83 = .ok (.istore 4, 2) := by decide +kernel
theorem dX2_hopeOf_85 : decode cX2_hopeOf 85 = .ok (.goto 15, 3) := by decide +kernel
theorem dX2_hopeOf_88 : decode cX2_hopeOf 88 = .ok (.iload_n 2, 1) := by decide +kernel
theorem dX2_hopeOf_89 : decode cX2_hopeOf 89 = .ok (.iconst 3, 1) := by decide +kernel
theorem dX2_hopeOf_90 : decode cX2_hopeOf 90 = .ok (.if_icmp .ne 10, 3) := by decide +kernel
theorem dX2_hopeOf_93 : decode cX2_hopeOf 93 = .ok (.iload 5, 2) := by decide +kernel
theorem dX2_hopeOf_95 : decode cX2_hopeOf 95 = .ok (.bipush (-4), 2) := by decide +kernel
theorem dX2_hopeOf_97 : decode cX2_hopeOf 97 = .ok (.iand, 1) := by decide +kernel
theorem dX2_hopeOf_98 : decode cX2_hopeOf 98 = .ok (.istore 5, 2) := by decide +kernel
theorem dX2_hopeOf_100 : decode cX2_hopeOf 100 = .ok (.aload_n 0, 1) := by decide +kernel
theorem dX2_hopeOf_101 : decode cX2_hopeOf 101 = .ok (.iload_n 1, 1) := by decide +kernel
theorem dX2_hopeOf_102 : decode cX2_hopeOf 102 = .ok (.iload 4, 2) := by decide +kernel
theorem dX2_hopeOf_104 : decode cX2_hopeOf 104 = .ok (.iload 5, 2) := by decide +kernel
theorem dX2_hopeOf_106 : decode cX2_hopeOf 106 = .ok (.iload 6, 2) := by decide +kernel
theorem dX2_hopeOf_108 : decode cX2_hopeOf 108 = .ok (.invokevirtual 82, 3) := by decide +kernel
theorem dX2_hopeOf_111 : decode cX2_hopeOf 111 = .ok (.aload_n 0, 1) := by decide +kernel
theorem dX2_hopeOf_112 : decode cX2_hopeOf 112 = .ok (.getfield 23, 3) := by decide +kernel
theorem dX2_hopeOf_115 : decode cX2_hopeOf 115 = .ok (.iload_n 1, 1) := by decide +kernel
theorem dX2_hopeOf_116 : decode cX2_hopeOf 116 = .ok (.iconst 4, 1) := by decide +kernel
theorem dX2_hopeOf_117 : decode cX2_hopeOf 117 = .ok (.invokevirtual 38, 3) := by decide +kernel
theorem dX2_hopeOf_120 : decode cX2_hopeOf 120 = .ok (.isub, 1) := by decide +kernel
theorem dX2_hopeOf_121 : decode cX2_hopeOf 121 = .ok (.ireturn, 1) := by decide +kernel
def f_X2_hopeOf_b100 (σ : Sg)    (v1 v4 v5 v6 : Int32) : Option (Int32) := (f_X2_markIfWritten σ v1 v4 v5 v6).bind fun r8 => (f_X3_cell σ 2 v1 (4 : Int32)).bind fun r9 => some (r8 - r9)
def f_X2_hopeOf (σ : Sg)  (p1 p2 : Int32) : Option (Int32) := (f_X3_cell σ 2 p1 (0 : Int32)).bind fun r1 => (f_X3_cell σ 1 r1 (0 : Int32)).bind fun r2 => (f_X3_cell σ 1 r1 (1 : Int32)).bind fun r3 => (f_X3_cell σ 1 r1 (2 : Int32)).bind fun r4 => if p2 = (1 : Int32) then ((f_X3_cell σ 2 p1 (1 : Int32)).bind fun r11 => (f_X3_cell σ 0 r11 (6 : Int32)).bind fun r12 => (f_X4_trapBit σ r12).bind fun r13 => lt (r4 ||| r13) fun x14 => f_X2_hopeOf_b100 σ p1 r2 r3 x14) else (if p2 = (2 : Int32) then (f_X2_hopeOf_b100 σ p1 (0 : Int32) r3 r4) else (if p2 = (3 : Int32) then (lt (r3 &&& (-4 : Int32)) fun x10 => f_X2_hopeOf_b100 σ p1 r2 x10 r4) else (f_X2_hopeOf_b100 σ p1 r2 r3 r4)))
set_option maxHeartbeats 4000000 in
set_option maxRecDepth 100000 in
theorem L_X2_hopeOf_b100 {Γ : Cx} (G : va_G) (cls : Cls) (ad : Nat → Nat) (hi : inj 49 ad) (hC : CX Γ (YX G cls ad) cX2_hopeOf RX2 7 (some .int) 5 126) (hz0 : Γ.2.2.2.2.2.1 = 0) (hz1 : Γ.2.2.2.2.2.2 = 0) (σ : Sg)     (v1 v4 v5 v6 : Int32) : WX Γ (YX G cls ad) (qf Γ (YX G cls ad) (fiP σ)) 7 100 [(0, .ref (ad 19)), (1, .int v1), (4, .int v4), (5, .int v5), (6, .int v6)] [] σ (f_X2_hopeOf_b100 σ   v1 v4 v5 v6) := by
  unfold f_X2_hopeOf_b100
  refine X_aload_n hC 0 rfl dX2_hopeOf_100 ?_
  refine X_iload_n hC 1 rfl dX2_hopeOf_101 ?_
  refine X_iload hC 2 rfl dX2_hopeOf_102 ?_
  refine X_iload hC 3 rfl dX2_hopeOf_104 ?_
  refine X_iload hC 4 rfl dX2_hopeOf_106 ?_
  refine X_callP (C := RX2) (T := TX2) (N := 3) (ci := 2) (rest := []) hC (c_X2_markIfWritten _ G cls ad hi σ v1 v4 v5 v6) (gV tw_426 tw_427 tw_428 tw_2 tw_429) rfl (wX (k := 19) (by omega) cX_now) rfl rfl okm_X2_markIfWritten (by decide) dX2_hopeOf_108 rfl (Nat.le_of_ble_eq_true rfl) (fun r8 => ?_)
  refine X_aload_n hC 0 rfl dX2_hopeOf_111 ?_
  refine X_getf (C := RX2) (T := TX2) (N := 3) (ci := 2) hC 2 (wX (k := 19) (by omega) cX_now) rfl hinX2 (by decide) tw_50 rfl rfl dX2_hopeOf_112 ?_
  refine X_iload_n hC 1 rfl dX2_hopeOf_115 ?_
  refine X_iconst (v := 4) hC (by decide) dX2_hopeOf_116 ?_
  refine X_callP (C := RX3) (T := TX3) (N := 4) (ci := 3) (rest := [.int r8]) hC (c_X3_cell _ G cls ad hi σ 2 (by omega) v1 (4 : Int32)) (gV tw_132 tw_133 tw_134 tw_3 tw_135) rfl (wX (k := 2) (by omega) (cX_tab (by omega))) rfl rfl okm_X3_cell (by decide) dX2_hopeOf_117 rfl (Nat.le_of_ble_eq_true rfl) (fun r9 => ?_)
  refine X_isub hC dX2_hopeOf_120 ?_
  exact X_iret hC hz0 hz1 dX2_hopeOf_121 rfl
theorem okm_X2_hopeOf : okm yX2_hopeOf 2 = true := by decide +kernel
set_option maxHeartbeats 4000000 in
set_option maxRecDepth 100000 in
theorem c_X2_hopeOf (l : Launch) (G : va_G) (cls : Cls) (ad : Nat → Nat) (hi : inj 49 ad) (σ : Sg)   (p1 p2 : Int32) : MT l (YX G cls ad) yX2_hopeOf (.code yX2_hopeOf cX2_hopeOf 7 (some .int) :: gw) 5 126 [.ref (ad 19), .int p1, .int p2] (fiP σ) σ (f_X2_hopeOf σ  p1 p2) := by
  refine MT.of (own := RX2) (by decide) (YX_D hi) rfl (Nat.le_of_ble_eq_true rfl) fun Γ _ hz0 hz1 hC => ?_
  show WX Γ (YX G cls ad) (qf Γ (YX G cls ad) (fiP σ)) 7 0 [(0, .ref (ad 19)), (1, .int p1), (2, .int p2)] [] σ (f_X2_hopeOf σ  p1 p2)
  unfold f_X2_hopeOf
  refine X_aload_n hC 0 rfl dX2_hopeOf_0 ?_
  refine X_getf (C := RX2) (T := TX2) (N := 3) (ci := 2) hC 2 (wX (k := 19) (by omega) cX_now) rfl hinX2 (by decide) tw_50 rfl rfl dX2_hopeOf_1 ?_
  refine X_iload_n hC 1 rfl dX2_hopeOf_4 ?_
  refine X_iconst (v := 0) hC (by decide) dX2_hopeOf_5 ?_
  refine X_callP (C := RX3) (T := TX3) (N := 4) (ci := 3) (rest := []) hC (c_X3_cell _ G cls ad hi σ 2 (by omega) p1 (0 : Int32)) (gV tw_132 tw_133 tw_134 tw_3 tw_135) rfl (wX (k := 2) (by omega) (cX_tab (by omega))) rfl rfl okm_X3_cell (by decide) dX2_hopeOf_6 rfl (Nat.le_of_ble_eq_true rfl) (fun r1 => ?_)
  refine X_istore_n (ls' := [(3, .int r1), (0, .ref (ad 19)), (1, .int p1), (2, .int p2)]) hC dX2_hopeOf_9 (by decide) rfl ?_
  refine X_aload_n hC 1 rfl dX2_hopeOf_10 ?_
  refine X_getf (C := RX2) (T := TX2) (N := 3) (ci := 2) hC 1 (wX (k := 19) (by omega) cX_now) rfl hinX2 (by decide) tw_48 rfl rfl dX2_hopeOf_11 ?_
  refine X_iload_n hC 0 rfl dX2_hopeOf_14 ?_
  refine X_iconst (v := 0) hC (by decide) dX2_hopeOf_15 ?_
  refine X_callP (C := RX3) (T := TX3) (N := 4) (ci := 3) (rest := []) hC (c_X3_cell _ G cls ad hi σ 1 (by omega) r1 (0 : Int32)) (gV tw_132 tw_133 tw_134 tw_3 tw_135) rfl (wX (k := 1) (by omega) (cX_tab (by omega))) rfl rfl okm_X3_cell (by decide) dX2_hopeOf_16 rfl (Nat.le_of_ble_eq_true rfl) (fun r2 => ?_)
  refine X_istore (ls' := [(4, .int r2), (3, .int r1), (0, .ref (ad 19)), (1, .int p1), (2, .int p2)]) hC dX2_hopeOf_19 (by decide) rfl ?_
  refine X_aload_n hC 2 rfl dX2_hopeOf_21 ?_
  refine X_getf (C := RX2) (T := TX2) (N := 3) (ci := 2) hC 1 (wX (k := 19) (by omega) cX_now) rfl hinX2 (by decide) tw_48 rfl rfl dX2_hopeOf_22 ?_
  refine X_iload_n hC 1 rfl dX2_hopeOf_25 ?_
  refine X_iconst (v := 1) hC (by decide) dX2_hopeOf_26 ?_
  refine X_callP (C := RX3) (T := TX3) (N := 4) (ci := 3) (rest := []) hC (c_X3_cell _ G cls ad hi σ 1 (by omega) r1 (1 : Int32)) (gV tw_132 tw_133 tw_134 tw_3 tw_135) rfl (wX (k := 1) (by omega) (cX_tab (by omega))) rfl rfl okm_X3_cell (by decide) dX2_hopeOf_27 rfl (Nat.le_of_ble_eq_true rfl) (fun r3 => ?_)
  refine X_istore (ls' := [(5, .int r3), (4, .int r2), (3, .int r1), (0, .ref (ad 19)), (1, .int p1), (2, .int p2)]) hC dX2_hopeOf_30 (by decide) rfl ?_
  refine X_aload_n hC 3 rfl dX2_hopeOf_32 ?_
  refine X_getf (C := RX2) (T := TX2) (N := 3) (ci := 2) hC 1 (wX (k := 19) (by omega) cX_now) rfl hinX2 (by decide) tw_48 rfl rfl dX2_hopeOf_33 ?_
  refine X_iload_n hC 2 rfl dX2_hopeOf_36 ?_
  refine X_iconst (v := 2) hC (by decide) dX2_hopeOf_37 ?_
  refine X_callP (C := RX3) (T := TX3) (N := 4) (ci := 3) (rest := []) hC (c_X3_cell _ G cls ad hi σ 1 (by omega) r1 (2 : Int32)) (gV tw_132 tw_133 tw_134 tw_3 tw_135) rfl (wX (k := 1) (by omega) (cX_tab (by omega))) rfl rfl okm_X3_cell (by decide) dX2_hopeOf_38 rfl (Nat.le_of_ble_eq_true rfl) (fun r4 => ?_)
  refine X_istore (ls' := [(6, .int r4), (5, .int r3), (4, .int r2), (3, .int r1), (0, .ref (ad 19)), (1, .int p1), (2, .int p2)]) hC dX2_hopeOf_41 (by decide) rfl ?_
  refine X_iload_n hC 6 rfl dX2_hopeOf_43 ?_
  refine X_iconst (v := 1) hC (by decide) dX2_hopeOf_44 ?_
  refine X_icmp_ne hC 77 dX2_hopeOf_45 (by decide) (fun h5 => ?_) (fun h5 => ?_)
  · refine X_iload_n hC 6 rfl dX2_hopeOf_77 ?_
    refine X_iconst (v := 2) hC (by decide) dX2_hopeOf_78 ?_
    refine X_icmp_ne hC 88 dX2_hopeOf_79 (by decide) (fun h6 => ?_) (fun h6 => ?_)
    · refine X_iload_n hC 6 rfl dX2_hopeOf_88 ?_
      refine X_iconst (v := 3) hC (by decide) dX2_hopeOf_89 ?_
      refine X_icmp_ne hC 100 dX2_hopeOf_90 (by decide) (fun h7 => ?_) (fun h7 => ?_)
      · exact X_sub [4, 5, 2, 1, 0] rfl (L_X2_hopeOf_b100 G cls ad hi hC hz0 hz1 σ p1 r2 r3 r4)
      · refine X_iload hC 1 rfl dX2_hopeOf_93 ?_
        refine X_bipush (v := -4) hC (by decide) dX2_hopeOf_95 ?_
        refine X_iand hC dX2_hopeOf_97 ?_
        refine X_lt (fun x10 => ?_)
        refine X_istore (ls' := [(5, .int x10), (6, .int r4), (4, .int r2), (3, .int r1), (0, .ref (ad 19)), (1, .int p1), (2, .int p2)]) hC dX2_hopeOf_98 (by decide) rfl ?_
        exact X_sub [4, 5, 2, 0, 1] rfl (L_X2_hopeOf_b100 G cls ad hi hC hz0 hz1 σ p1 r2 x10 r4)
    · refine X_iconst (v := 0) hC (by decide) dX2_hopeOf_82 ?_
      refine X_istore (ls' := [(4, .int (0 : Int32)), (6, .int r4), (5, .int r3), (3, .int r1), (0, .ref (ad 19)), (1, .int p1), (2, .int p2)]) hC dX2_hopeOf_83 (by decide) rfl ?_
      refine X_goto hC 100 dX2_hopeOf_85 (by decide) ?_
      exact X_sub [4, 5, 0, 2, 1] rfl (L_X2_hopeOf_b100 G cls ad hi hC hz0 hz1 σ p1 (0 : Int32) r3 r4)
  · refine X_iload hC 0 rfl dX2_hopeOf_48 ?_
    refine X_aload_n hC 4 rfl dX2_hopeOf_50 ?_
    refine X_getf (C := RX2) (T := TX2) (N := 3) (ci := 2) hC 0 (wX (k := 19) (by omega) cX_now) rfl hinX2 (by decide) tw_46 rfl rfl dX2_hopeOf_51 ?_
    refine X_aload_n hC 4 rfl dX2_hopeOf_54 ?_
    refine X_getf (C := RX2) (T := TX2) (N := 3) (ci := 2) hC 2 (wX (k := 19) (by omega) cX_now) rfl hinX2 (by decide) tw_50 rfl rfl dX2_hopeOf_55 ?_
    refine X_iload_n hC 5 rfl dX2_hopeOf_58 ?_
    refine X_iconst (v := 1) hC (by decide) dX2_hopeOf_59 ?_
    refine X_callP (C := RX3) (T := TX3) (N := 4) (ci := 3) (rest := [.ref (ad 0), .int r4]) hC (c_X3_cell _ G cls ad hi σ 2 (by omega) p1 (1 : Int32)) (gV tw_132 tw_133 tw_134 tw_3 tw_135) rfl (wX (k := 2) (by omega) (cX_tab (by omega))) rfl rfl okm_X3_cell (by decide) dX2_hopeOf_60 rfl (Nat.le_of_ble_eq_true rfl) (fun r11 => ?_)
    refine X_bipush (v := 6) hC (by decide) dX2_hopeOf_63 ?_
    refine X_callP (C := RX3) (T := TX3) (N := 4) (ci := 3) (rest := [.int r4]) hC (c_X3_cell _ G cls ad hi σ 0 (by omega) r11 (6 : Int32)) (gV tw_132 tw_133 tw_134 tw_3 tw_135) rfl (wX (k := 0) (by omega) (cX_tab (by omega))) rfl rfl okm_X3_cell (by decide) dX2_hopeOf_65 rfl (Nat.le_of_ble_eq_true rfl) (fun r12 => ?_)
    refine X_statNP (rest := [.int r4]) hC (c_X4_trapBit _ G cls ad hi σ r12) (fun _ hn => hn.2.1) tw_287 tw_286 tw_1 rfl okm_X4_trapBit (by decide) dX2_hopeOf_68 rfl (Nat.le_of_ble_eq_true rfl) (fun r13 => ?_)
    refine X_ior hC dX2_hopeOf_71 ?_
    refine X_lt (fun x14 => ?_)
    refine X_istore (ls' := [(6, .int x14), (5, .int r3), (4, .int r2), (3, .int r1), (0, .ref (ad 19)), (1, .int p1), (2, .int p2)]) hC dX2_hopeOf_72 (by decide) rfl ?_
    refine X_goto hC 100 dX2_hopeOf_74 (by decide) ?_
    exact X_sub [4, 5, 2, 1, 0] rfl (L_X2_hopeOf_b100 G cls ad hi hC hz0 hz1 σ p1 r2 r3 x14)
theorem dX2_waits_0 : decode cX2_waits 0 = .ok (.aload_n 0, 1) := by decide +kernel
theorem dX2_waits_1 : decode cX2_waits 1 = .ok (.getfield 23, 3) := by decide +kernel
theorem dX2_waits_4 : decode cX2_waits 4 = .ok (.iload_n 1, 1) := by decide +kernel
theorem dX2_waits_5 : decode cX2_waits 5 = .ok (.iconst 5, 1) := by decide +kernel
theorem dX2_waits_6 : decode cX2_waits 6 = .ok (.invokevirtual 38, 3) := by decide +kernel
theorem dX2_waits_9 : decode cX2_waits 9 = .ok (.iconst 1, 1) := by decide +kernel
theorem dX2_waits_10 : decode cX2_waits 10 = .ok (.if_icmp .ne 7, 3) := by decide +kernel
theorem dX2_waits_13 : decode cX2_waits 13 = .ok (.iconst 1, 1) := by decide +kernel
theorem dX2_waits_14 : decode cX2_waits 14 = .ok (.goto 4, 3) := by decide +kernel
theorem dX2_waits_17 : decode cX2_waits 17 = .ok (.iconst 0, 1) := by decide +kernel
theorem dX2_waits_18 : decode cX2_waits 18 = .ok (.ireturn, 1) := by decide +kernel
def f_X2_waits (σ : Sg)  (p1 : Int32) : Option (Int32) := (f_X3_cell σ 2 p1 (5 : Int32)).bind fun r1 => if r1 = (1 : Int32) then (some (1 : Int32)) else (some (0 : Int32))
theorem okm_X2_waits : okm yX2_waits 1 = true := by decide +kernel
set_option maxHeartbeats 4000000 in
set_option maxRecDepth 100000 in
theorem c_X2_waits (l : Launch) (G : va_G) (cls : Cls) (ad : Nat → Nat) (hi : inj 49 ad) (σ : Sg)   (p1 : Int32) : MT l (YX G cls ad) yX2_waits (.code yX2_waits cX2_waits 2 (some .boolean) :: gw) 2 44 [.ref (ad 19), .int p1] (fiP σ) σ (f_X2_waits σ  p1) := by
  refine MT.of (own := RX2) (by decide) (YX_D hi) rfl (Nat.le_of_ble_eq_true rfl) fun Γ _ hz0 hz1 hC => ?_
  show WX Γ (YX G cls ad) (qf Γ (YX G cls ad) (fiP σ)) 2 0 [(0, .ref (ad 19)), (1, .int p1)] [] σ (f_X2_waits σ  p1)
  unfold f_X2_waits
  refine X_aload_n hC 0 rfl dX2_waits_0 ?_
  refine X_getf (C := RX2) (T := TX2) (N := 3) (ci := 2) hC 2 (wX (k := 19) (by omega) cX_now) rfl hinX2 (by decide) tw_50 rfl rfl dX2_waits_1 ?_
  refine X_iload_n hC 1 rfl dX2_waits_4 ?_
  refine X_iconst (v := 5) hC (by decide) dX2_waits_5 ?_
  refine X_callP (C := RX3) (T := TX3) (N := 4) (ci := 3) (rest := []) hC (c_X3_cell _ G cls ad hi σ 2 (by omega) p1 (5 : Int32)) (gV tw_132 tw_133 tw_134 tw_3 tw_135) rfl (wX (k := 2) (by omega) (cX_tab (by omega))) rfl rfl okm_X3_cell (by decide) dX2_waits_6 rfl (Nat.le_of_ble_eq_true rfl) (fun r1 => ?_)
  refine X_iconst (v := 1) hC (by decide) dX2_waits_9 ?_
  refine X_icmp_ne hC 17 dX2_waits_10 (by decide) (fun h2 => ?_) (fun h2 => ?_)
  · refine X_iconst (v := 0) hC (by decide) dX2_waits_17 ?_
    exact X_zret hC hz0 hz1 rfl dX2_waits_18 rfl
  · refine X_iconst (v := 1) hC (by decide) dX2_waits_13 ?_
    refine X_goto hC 18 dX2_waits_14 (by decide) ?_
    exact X_zret hC hz0 hz1 rfl dX2_waits_18 rfl
theorem dX2_isSooner_0 : decode cX2_isSooner 0 = .ok (.aload_n 0, 1) := by decide +kernel
theorem dX2_isSooner_1 : decode cX2_isSooner 1 = .ok (.getfield 23, 3) := by decide +kernel
theorem dX2_isSooner_4 : decode cX2_isSooner 4 = .ok (.iload_n 1, 1) := by decide +kernel
theorem dX2_isSooner_5 : decode cX2_isSooner 5 = .ok (.bipush 7, 2) := by decide +kernel
theorem dX2_isSooner_7 : decode cX2_isSooner 7 = .ok (.invokevirtual 38, 3) := by decide +kernel
theorem dX2_isSooner_10 : decode cX2_isSooner 10 = .ok (.istore_n 3, 1) := by decide +kernel
theorem dX2_isSooner_11 : decode cX2_isSooner 11 = .ok (.aload_n 0, 1) := by decide +kernel
theorem dX2_isSooner_12 : decode cX2_isSooner 12 = .ok (.getfield 23, 3) := by decide +kernel
theorem dX2_isSooner_15 : decode cX2_isSooner 15 = .ok (.iload_n 2, 1) := by decide +kernel
theorem dX2_isSooner_16 : decode cX2_isSooner 16 = .ok (.bipush 7, 2) := by decide +kernel
theorem dX2_isSooner_18 : decode cX2_isSooner 18 = .ok (.invokevirtual 38, 3) := by decide +kernel
theorem dX2_isSooner_21 : decode cX2_isSooner 21 = .ok (.istore 4, 2) := by decide +kernel
theorem dX2_isSooner_23 : decode cX2_isSooner 23 = .ok (.iload_n 3, 1) := by decide +kernel
theorem dX2_isSooner_24 : decode cX2_isSooner 24 = .ok (.iload 4, 2) := by decide +kernel
theorem dX2_isSooner_26 : decode cX2_isSooner 26 = .ok (.if_icmp .eq 15, 3) := by decide +kernel
theorem dX2_isSooner_29 : decode cX2_isSooner 29 = .ok (.iload_n 3, 1) := by decide +kernel
theorem dX2_isSooner_30 : decode cX2_isSooner 30 = .ok (.iload 4, 2) := by decide +kernel
theorem dX2_isSooner_32 : decode cX2_isSooner 32 = .ok (.if_icmp .le 7, 3) := by decide +kernel
theorem dX2_isSooner_35 : decode cX2_isSooner 35 = .ok (.iconst 1, 1) := by decide +kernel
theorem dX2_isSooner_36 : decode cX2_isSooner 36 = .ok (.goto 4, 3) := by decide +kernel
theorem dX2_isSooner_39 : decode cX2_isSooner 39 = .ok (.iconst 0, 1) := by decide +kernel
theorem dX2_isSooner_40 : decode cX2_isSooner 40 = .ok (.ireturn, 1) := by decide +kernel
theorem dX2_isSooner_41 : decode cX2_isSooner 41 = .ok (.aload_n 0, 1) := by decide +kernel
theorem dX2_isSooner_42 : decode cX2_isSooner 42 = .ok (.getfield 23, 3) := by decide +kernel
theorem dX2_isSooner_45 : decode cX2_isSooner 45 = .ok (.iload_n 1, 1) := by decide +kernel
theorem dX2_isSooner_46 : decode cX2_isSooner 46 = .ok (.iconst 4, 1) := by decide +kernel
theorem dX2_isSooner_47 : decode cX2_isSooner 47 = .ok (.invokevirtual 38, 3) := by decide +kernel
theorem dX2_isSooner_50 : decode cX2_isSooner 50 = .ok (.istore 5, 2) := by decide +kernel
theorem dX2_isSooner_52 : decode cX2_isSooner 52 = .ok (.aload_n 0, 1) := by decide +kernel
theorem dX2_isSooner_53 : decode cX2_isSooner 53 = .ok (.getfield 23, 3) := by decide +kernel
theorem dX2_isSooner_56 : decode cX2_isSooner 56 = .ok (.iload_n 2, 1) := by decide +kernel
theorem dX2_isSooner_57 : decode cX2_isSooner 57 = .ok (.iconst 4, 1) := by decide +kernel
theorem dX2_isSooner_58 : decode cX2_isSooner 58 = .ok (.invokevirtual 38, 3) := by decide +kernel
theorem dX2_isSooner_61 : decode cX2_isSooner 61 = .ok (.istore 6, 2) := by decide +kernel
theorem dX2_isSooner_63 : decode cX2_isSooner 63 = .ok (.iload 5, 2) := by decide +kernel
theorem dX2_isSooner_65 : decode cX2_isSooner 65 = .ok (.iload 6, 2) := by decide +kernel
theorem dX2_isSooner_67 : decode cX2_isSooner 67 = .ok (.if_icmp .eq 18, 3) := by decide +kernel
theorem dX2_isSooner_70 : decode cX2_isSooner 70 = .ok (.iload 5, 2) := by decide +kernel
theorem dX2_isSooner_72 : decode cX2_isSooner 72 = .ok (.iload 6, 2) := by decide +kernel
theorem dX2_isSooner_74 : decode cX2_isSooner 74 = .ok (.if_icmp .ge 7, 3) := by decide +kernel
theorem dX2_isSooner_77 : decode cX2_isSooner 77 = .ok (.iconst 1, 1) := by decide +kernel
theorem dX2_isSooner_78 : decode cX2_isSooner 78 = .ok (.goto 17, 3) := by decide +kernel
theorem dX2_isSooner_81 : decode cX2_isSooner 81 = .ok (.iconst 0, 1) := by decide +kernel
theorem dX2_isSooner_82 : decode cX2_isSooner 82 = .ok (.goto 13, 3) := by decide +kernel
theorem dX2_isSooner_85 : decode cX2_isSooner 85 = .ok (.iload_n 1, 1) := by decide +kernel
theorem dX2_isSooner_86 : decode cX2_isSooner 86 = .ok (.iload_n 2, 1) := by decide +kernel
theorem dX2_isSooner_87 : decode cX2_isSooner 87 = .ok (.if_icmp .ge 7, 3) := by decide +kernel
theorem dX2_isSooner_90 : decode cX2_isSooner 90 = .ok (.iconst 1, 1) := by decide +kernel
theorem dX2_isSooner_91 : decode cX2_isSooner 91 = .ok (.goto 4, 3) := by decide +kernel
theorem dX2_isSooner_94 : decode cX2_isSooner 94 = .ok (.iconst 0, 1) := by decide +kernel
theorem dX2_isSooner_95 : decode cX2_isSooner 95 = .ok (.ireturn, 1) := by decide +kernel
def f_X2_isSooner (σ : Sg)  (p1 p2 : Int32) : Option (Int32) := (f_X3_cell σ 2 p1 (7 : Int32)).bind fun r1 => (f_X3_cell σ 2 p2 (7 : Int32)).bind fun r2 => if r1 = r2 then ((f_X3_cell σ 2 p1 (4 : Int32)).bind fun r4 => (f_X3_cell σ 2 p2 (4 : Int32)).bind fun r5 => if r4 = r5 then (if p2 ≤ p1 then (some (0 : Int32)) else (some (1 : Int32))) else (if r5 ≤ r4 then (some (0 : Int32)) else (some (1 : Int32)))) else (if r1 ≤ r2 then (some (0 : Int32)) else (some (1 : Int32)))
theorem okm_X2_isSooner : okm yX2_isSooner 2 = true := by decide +kernel
set_option maxHeartbeats 4000000 in
set_option maxRecDepth 100000 in
theorem c_X2_isSooner (l : Launch) (G : va_G) (cls : Cls) (ad : Nat → Nat) (hi : inj 49 ad) (σ : Sg)   (p1 p2 : Int32) : MT l (YX G cls ad) yX2_isSooner (.code yX2_isSooner cX2_isSooner 7 (some .boolean) :: gw) 2 44 [.ref (ad 19), .int p1, .int p2] (fiP σ) σ (f_X2_isSooner σ  p1 p2) := by
  refine MT.of (own := RX2) (by decide) (YX_D hi) rfl (Nat.le_of_ble_eq_true rfl) fun Γ _ hz0 hz1 hC => ?_
  show WX Γ (YX G cls ad) (qf Γ (YX G cls ad) (fiP σ)) 7 0 [(0, .ref (ad 19)), (1, .int p1), (2, .int p2)] [] σ (f_X2_isSooner σ  p1 p2)
  unfold f_X2_isSooner
  refine X_aload_n hC 0 rfl dX2_isSooner_0 ?_
  refine X_getf (C := RX2) (T := TX2) (N := 3) (ci := 2) hC 2 (wX (k := 19) (by omega) cX_now) rfl hinX2 (by decide) tw_50 rfl rfl dX2_isSooner_1 ?_
  refine X_iload_n hC 1 rfl dX2_isSooner_4 ?_
  refine X_bipush (v := 7) hC (by decide) dX2_isSooner_5 ?_
  refine X_callP (C := RX3) (T := TX3) (N := 4) (ci := 3) (rest := []) hC (c_X3_cell _ G cls ad hi σ 2 (by omega) p1 (7 : Int32)) (gV tw_132 tw_133 tw_134 tw_3 tw_135) rfl (wX (k := 2) (by omega) (cX_tab (by omega))) rfl rfl okm_X3_cell (by decide) dX2_isSooner_7 rfl (Nat.le_of_ble_eq_true rfl) (fun r1 => ?_)
  refine X_istore_n (ls' := [(3, .int r1), (0, .ref (ad 19)), (1, .int p1), (2, .int p2)]) hC dX2_isSooner_10 (by decide) rfl ?_
  refine X_aload_n hC 1 rfl dX2_isSooner_11 ?_
  refine X_getf (C := RX2) (T := TX2) (N := 3) (ci := 2) hC 2 (wX (k := 19) (by omega) cX_now) rfl hinX2 (by decide) tw_50 rfl rfl dX2_isSooner_12 ?_
  refine X_iload_n hC 3 rfl dX2_isSooner_15 ?_
  refine X_bipush (v := 7) hC (by decide) dX2_isSooner_16 ?_
  refine X_callP (C := RX3) (T := TX3) (N := 4) (ci := 3) (rest := []) hC (c_X3_cell _ G cls ad hi σ 2 (by omega) p2 (7 : Int32)) (gV tw_132 tw_133 tw_134 tw_3 tw_135) rfl (wX (k := 2) (by omega) (cX_tab (by omega))) rfl rfl okm_X3_cell (by decide) dX2_isSooner_18 rfl (Nat.le_of_ble_eq_true rfl) (fun r2 => ?_)
  refine X_istore (ls' := [(4, .int r2), (3, .int r1), (0, .ref (ad 19)), (1, .int p1), (2, .int p2)]) hC dX2_isSooner_21 (by decide) rfl ?_
  refine X_iload_n hC 1 rfl dX2_isSooner_23 ?_
  refine X_iload hC 0 rfl dX2_isSooner_24 ?_
  refine X_icmp_eq hC 41 dX2_isSooner_26 (by decide) (fun h3 => ?_) (fun h3 => ?_)
  · refine X_aload_n hC 2 rfl dX2_isSooner_41 ?_
    refine X_getf (C := RX2) (T := TX2) (N := 3) (ci := 2) hC 2 (wX (k := 19) (by omega) cX_now) rfl hinX2 (by decide) tw_50 rfl rfl dX2_isSooner_42 ?_
    refine X_iload_n hC 3 rfl dX2_isSooner_45 ?_
    refine X_iconst (v := 4) hC (by decide) dX2_isSooner_46 ?_
    refine X_callP (C := RX3) (T := TX3) (N := 4) (ci := 3) (rest := []) hC (c_X3_cell _ G cls ad hi σ 2 (by omega) p1 (4 : Int32)) (gV tw_132 tw_133 tw_134 tw_3 tw_135) rfl (wX (k := 2) (by omega) (cX_tab (by omega))) rfl rfl okm_X3_cell (by decide) dX2_isSooner_47 rfl (Nat.le_of_ble_eq_true rfl) (fun r4 => ?_)
    refine X_istore (ls' := [(5, .int r4), (4, .int r2), (3, .int r1), (0, .ref (ad 19)), (1, .int p1), (2, .int p2)]) hC dX2_isSooner_50 (by decide) rfl ?_
    refine X_aload_n hC 3 rfl dX2_isSooner_52 ?_
    refine X_getf (C := RX2) (T := TX2) (N := 3) (ci := 2) hC 2 (wX (k := 19) (by omega) cX_now) rfl hinX2 (by decide) tw_50 rfl rfl dX2_isSooner_53 ?_
    refine X_iload_n hC 5 rfl dX2_isSooner_56 ?_
    refine X_iconst (v := 4) hC (by decide) dX2_isSooner_57 ?_
    refine X_callP (C := RX3) (T := TX3) (N := 4) (ci := 3) (rest := []) hC (c_X3_cell _ G cls ad hi σ 2 (by omega) p2 (4 : Int32)) (gV tw_132 tw_133 tw_134 tw_3 tw_135) rfl (wX (k := 2) (by omega) (cX_tab (by omega))) rfl rfl okm_X3_cell (by decide) dX2_isSooner_58 rfl (Nat.le_of_ble_eq_true rfl) (fun r5 => ?_)
    refine X_istore (ls' := [(6, .int r5), (5, .int r4), (4, .int r2), (3, .int r1), (0, .ref (ad 19)), (1, .int p1), (2, .int p2)]) hC dX2_isSooner_61 (by decide) rfl ?_
    refine X_iload hC 1 rfl dX2_isSooner_63 ?_
    refine X_iload hC 0 rfl dX2_isSooner_65 ?_
    refine X_icmp_eq hC 85 dX2_isSooner_67 (by decide) (fun h6 => ?_) (fun h6 => ?_)
    · refine X_iload_n hC 5 rfl dX2_isSooner_85 ?_
      refine X_iload_n hC 6 rfl dX2_isSooner_86 ?_
      refine X_icmp_ge hC 94 dX2_isSooner_87 (by decide) (fun h7 => ?_) (fun h7 => ?_)
      · refine X_iconst (v := 0) hC (by decide) dX2_isSooner_94 ?_
        exact X_zret hC hz0 hz1 rfl dX2_isSooner_95 rfl
      · refine X_iconst (v := 1) hC (by decide) dX2_isSooner_90 ?_
        refine X_goto hC 95 dX2_isSooner_91 (by decide) ?_
        exact X_zret hC hz0 hz1 rfl dX2_isSooner_95 rfl
    · refine X_iload hC 1 rfl dX2_isSooner_70 ?_
      refine X_iload hC 0 rfl dX2_isSooner_72 ?_
      refine X_icmp_ge hC 81 dX2_isSooner_74 (by decide) (fun h8 => ?_) (fun h8 => ?_)
      · refine X_iconst (v := 0) hC (by decide) dX2_isSooner_81 ?_
        refine X_goto hC 95 dX2_isSooner_82 (by decide) ?_
        exact X_zret hC hz0 hz1 rfl dX2_isSooner_95 rfl
      · refine X_iconst (v := 1) hC (by decide) dX2_isSooner_77 ?_
        refine X_goto hC 95 dX2_isSooner_78 (by decide) ?_
        exact X_zret hC hz0 hz1 rfl dX2_isSooner_95 rfl
  · refine X_iload_n hC 1 rfl dX2_isSooner_29 ?_
    refine X_iload hC 0 rfl dX2_isSooner_30 ?_
    refine X_icmp_le hC 39 dX2_isSooner_32 (by decide) (fun h9 => ?_) (fun h9 => ?_)
    · refine X_iconst (v := 0) hC (by decide) dX2_isSooner_39 ?_
      exact X_zret hC hz0 hz1 rfl dX2_isSooner_40 rfl
    · refine X_iconst (v := 1) hC (by decide) dX2_isSooner_35 ?_
      refine X_goto hC 40 dX2_isSooner_36 (by decide) ?_
      exact X_zret hC hz0 hz1 rfl dX2_isSooner_40 rfl
theorem dX2_appealsAhead_0 : decode cX2_appealsAhead 0 = .ok (.iconst 0, 1) := by decide +kernel
theorem dX2_appealsAhead_1 : decode cX2_appealsAhead 1 = .ok (.istore_n 2, 1) := by decide +kernel
theorem dX2_appealsAhead_2 : decode cX2_appealsAhead 2 = .ok (.iconst 0, 1) := by decide +kernel
theorem dX2_appealsAhead_3 : decode cX2_appealsAhead 3 = .ok (.istore_n 3, 1) := by decide +kernel
theorem dX2_appealsAhead_4 : decode cX2_appealsAhead 4 = .ok (.iload_n 3, 1) := by decide +kernel
theorem dX2_appealsAhead_5 : decode cX2_appealsAhead 5 = .ok (.aload_n 0, 1) := by decide +kernel
theorem dX2_appealsAhead_6 : decode cX2_appealsAhead 6 = .ok (.getfield 23, 3) := by decide +kernel
theorem dX2_appealsAhead_9 : decode cX2_appealsAhead 9 = .ok (.invokevirtual 46, 3) := by decide +kernel
theorem dX2_appealsAhead_12 : decode cX2_appealsAhead 12 = .ok (.if_icmp .ge 29, 3) := by decide +kernel
theorem dX2_appealsAhead_15 : decode cX2_appealsAhead 15 = .ok (.aload_n 0, 1) := by decide +kernel
theorem dX2_appealsAhead_16 : decode cX2_appealsAhead 16 = .ok (.iload_n 3, 1) := by decide +kernel
theorem dX2_appealsAhead_17 : decode cX2_appealsAhead 17 = .ok (.invokevirtual 106, 3) := by decide +kernel
theorem dX2_appealsAhead_20 : decode cX2_appealsAhead 20 = .ok (.ifCond .eq 15, 3) := by decide +kernel
theorem dX2_appealsAhead_23 : decode cX2_appealsAhead 23 = .ok (.aload_n 0, 1) := by decide +kernel
theorem dX2_appealsAhead_24 : decode cX2_appealsAhead 24 = .ok (.iload_n 3, 1) := by decide +kernel
theorem dX2_appealsAhead_25 : decode cX2_appealsAhead 25 = .ok (.iload_n 1, 1) := by decide +kernel
theorem dX2_appealsAhead_26 : decode cX2_appealsAhead 26 = .ok (.invokevirtual 109, 3) := by decide +kernel
theorem dX2_appealsAhead_29 : decode cX2_appealsAhead 29 = .ok (.ifCond .eq 6, 3) := by decide +kernel
theorem dX2_appealsAhead_32 : decode cX2_appealsAhead 32 = .ok (.iinc 2 1, 3) := by decide +kernel
theorem dX2_appealsAhead_35 : decode cX2_appealsAhead 35 = .ok (.iinc 3 1, 3) := by decide +kernel
theorem dX2_appealsAhead_38 : decode cX2_appealsAhead 38 = .ok (.goto (-34), 3) := by decide +kernel
theorem dX2_appealsAhead_41 : decode cX2_appealsAhead 41 = .ok (.iload_n 2, 1) := by decide +kernel
theorem dX2_appealsAhead_42 : decode cX2_appealsAhead 42 = .ok (.ireturn, 1) := by decide +kernel
def f_X2_appealsAhead_b35 (σ : Sg)  (K4 : Int32 → Int32 → Int32 → Option (Int32))  (v1 v2 v3 : Int32) : Option (Int32) := lt (v3 + (1 : Int32)) fun x5 => K4 v1 v2 x5
def f_X2_appealsAhead_b4 (σ : Sg)   : Nat → Int32 → Int32 → Int32 → Option (Int32)
  | 0, _, _, _ => none
  | n + 1, v1, v2, v3 => (f_X3_size σ 2).bind fun r1 => if r1 ≤ v3 then (some v2) else ((f_X2_waits σ v3).bind fun r3 => if r3 = 0 then (f_X2_appealsAhead_b35 σ (f_X2_appealsAhead_b4 σ   n) v1 v2 v3) else ((f_X2_isSooner σ v3 v1).bind fun r6 => if r6 = 0 then (f_X2_appealsAhead_b35 σ (f_X2_appealsAhead_b4 σ   n) v1 v2 v3) else (lt (v2 + (1 : Int32)) fun x8 => f_X2_appealsAhead_b35 σ (f_X2_appealsAhead_b4 σ   n) v1 x8 v3)))
def f_X2_appealsAhead (σ : Sg)  (p1 : Int32) : Option (Int32) := f_X2_appealsAhead_b4 σ fuel p1 (0 : Int32) (0 : Int32)
set_option maxHeartbeats 4000000 in
set_option maxRecDepth 100000 in
theorem L_X2_appealsAhead_b35 {Γ : Cx} (G : va_G) (cls : Cls) (ad : Nat → Nat) (hi : inj 49 ad) (hC : CX Γ (YX G cls ad) cX2_appealsAhead RX2 4 (some .int) 3 70) (hz0 : Γ.2.2.2.2.2.1 = 0) (hz1 : Γ.2.2.2.2.2.2 = 0) (σ : Sg)   (K4 : Int32 → Int32 → Int32 → Option (Int32)) (hK4 : ∀ (v1 v2 v3 : Int32), WX Γ (YX G cls ad) (qf Γ (YX G cls ad) (fiP σ)) 4 4 [(0, .ref (ad 19)), (1, .int v1), (2, .int v2), (3, .int v3)] [] σ (K4 v1 v2 v3))  (v1 v2 v3 : Int32) : WX Γ (YX G cls ad) (qf Γ (YX G cls ad) (fiP σ)) 4 35 [(0, .ref (ad 19)), (1, .int v1), (2, .int v2), (3, .int v3)] [] σ (f_X2_appealsAhead_b35 σ  K4 v1 v2 v3) := by
  unfold f_X2_appealsAhead_b35
  refine X_iinc (ls' := fun x5 => [(3, .int x5), (0, .ref (ad 19)), (1, .int v1), (2, .int v2)]) hC 3 dX2_appealsAhead_35 rfl (by decide) (by decide) (fun _ => rfl) (fun x5 => ?_)
  refine X_goto hC 4 dX2_appealsAhead_38 (by decide) ?_
  exact X_sub [1, 2, 3, 0] rfl (hK4 v1 v2 x5)
set_option maxHeartbeats 4000000 in
set_option maxRecDepth 100000 in
theorem L_X2_appealsAhead_b4 {Γ : Cx} (G : va_G) (cls : Cls) (ad : Nat → Nat) (hi : inj 49 ad) (hC : CX Γ (YX G cls ad) cX2_appealsAhead RX2 4 (some .int) 3 70) (hz0 : Γ.2.2.2.2.2.1 = 0) (hz1 : Γ.2.2.2.2.2.2 = 0) (σ : Sg)    : ∀ (n : Nat) (v1 v2 v3 : Int32), WX Γ (YX G cls ad) (qf Γ (YX G cls ad) (fiP σ)) 4 4 [(0, .ref (ad 19)), (1, .int v1), (2, .int v2), (3, .int v3)] [] σ (f_X2_appealsAhead_b4 σ   n v1 v2 v3) := by
  intro n
  induction n with
  | zero => intro v1 v2 v3; exact X_none
  | succ n ih =>
    intro v1 v2 v3
    rw [f_X2_appealsAhead_b4.eq_2]
    refine X_iload_n hC 3 rfl dX2_appealsAhead_4 ?_
    refine X_aload_n hC 0 rfl dX2_appealsAhead_5 ?_
    refine X_getf (C := RX2) (T := TX2) (N := 3) (ci := 2) hC 2 (wX (k := 19) (by omega) cX_now) rfl hinX2 (by decide) tw_50 rfl rfl dX2_appealsAhead_6 ?_
    refine X_callP (C := RX3) (T := TX3) (N := 4) (ci := 3) (rest := [.int v3]) hC (c_X3_size _ G cls ad hi σ 2 (by omega)) (gV tw_124 tw_125 tw_126 tw_3 tw_127) rfl (wX (k := 2) (by omega) (cX_tab (by omega))) rfl rfl okm_X3_size (by decide) dX2_appealsAhead_9 rfl (Nat.le_of_ble_eq_true rfl) (fun r1 => ?_)
    refine X_icmp_ge hC 41 dX2_appealsAhead_12 (by decide) (fun h2 => ?_) (fun h2 => ?_)
    · refine X_iload_n hC 2 rfl dX2_appealsAhead_41 ?_
      exact X_iret hC hz0 hz1 dX2_appealsAhead_42 rfl
    · refine X_aload_n hC 0 rfl dX2_appealsAhead_15 ?_
      refine X_iload_n hC 3 rfl dX2_appealsAhead_16 ?_
      refine X_callP (C := RX2) (T := TX2) (N := 3) (ci := 2) (rest := []) hC (c_X2_waits _ G cls ad hi σ v3) (gV tw_128 tw_129 tw_130 tw_2 tw_131) rfl (wX (k := 19) (by omega) cX_now) rfl rfl okm_X2_waits (by decide) dX2_appealsAhead_17 rfl (Nat.le_of_ble_eq_true rfl) (fun r3 => ?_)
      refine X_if_eq hC 35 dX2_appealsAhead_20 (by decide) (fun h4 => ?_) (fun h4 => ?_)
      · exact (L_X2_appealsAhead_b35 G cls ad hi hC hz0 hz1 σ (f_X2_appealsAhead_b4 σ   n) ih v1 v2 v3)
      · refine X_aload_n hC 0 rfl dX2_appealsAhead_23 ?_
        refine X_iload_n hC 3 rfl dX2_appealsAhead_24 ?_
        refine X_iload_n hC 1 rfl dX2_appealsAhead_25 ?_
        refine X_callP (C := RX2) (T := TX2) (N := 3) (ci := 2) (rest := []) hC (c_X2_isSooner _ G cls ad hi σ v3 v1) (gV tw_144 tw_145 tw_146 tw_2 tw_147) rfl (wX (k := 19) (by omega) cX_now) rfl rfl okm_X2_isSooner (by decide) dX2_appealsAhead_26 rfl (Nat.le_of_ble_eq_true rfl) (fun r6 => ?_)
        refine X_if_eq hC 35 dX2_appealsAhead_29 (by decide) (fun h7 => ?_) (fun h7 => ?_)
        · exact (L_X2_appealsAhead_b35 G cls ad hi hC hz0 hz1 σ (f_X2_appealsAhead_b4 σ   n) ih v1 v2 v3)
        · refine X_iinc (ls' := fun x8 => [(2, .int x8), (0, .ref (ad 19)), (1, .int v1), (3, .int v3)]) hC 2 dX2_appealsAhead_32 rfl (by decide) (by decide) (fun _ => rfl) (fun x8 => ?_)
          exact X_sub [1, 2, 0, 3] rfl (L_X2_appealsAhead_b35 G cls ad hi hC hz0 hz1 σ (f_X2_appealsAhead_b4 σ   n) ih v1 x8 v3)
theorem okm_X2_appealsAhead : okm yX2_appealsAhead 1 = true := by decide +kernel
set_option maxHeartbeats 4000000 in
set_option maxRecDepth 100000 in
theorem c_X2_appealsAhead (l : Launch) (G : va_G) (cls : Cls) (ad : Nat → Nat) (hi : inj 49 ad) (σ : Sg)   (p1 : Int32) : MT l (YX G cls ad) yX2_appealsAhead (.code yX2_appealsAhead cX2_appealsAhead 4 (some .int) :: gw) 3 70 [.ref (ad 19), .int p1] (fiP σ) σ (f_X2_appealsAhead σ  p1) := by
  refine MT.of (own := RX2) (by decide) (YX_D hi) rfl (Nat.le_of_ble_eq_true rfl) fun Γ _ hz0 hz1 hC => ?_
  show WX Γ (YX G cls ad) (qf Γ (YX G cls ad) (fiP σ)) 4 0 [(0, .ref (ad 19)), (1, .int p1)] [] σ (f_X2_appealsAhead σ  p1)
  unfold f_X2_appealsAhead
  refine X_iconst (v := 0) hC (by decide) dX2_appealsAhead_0 ?_
  refine X_istore_n (ls' := [(2, .int (0 : Int32)), (0, .ref (ad 19)), (1, .int p1)]) hC dX2_appealsAhead_1 (by decide) rfl ?_
  refine X_iconst (v := 0) hC (by decide) dX2_appealsAhead_2 ?_
  refine X_istore_n (ls' := [(3, .int (0 : Int32)), (2, .int (0 : Int32)), (0, .ref (ad 19)), (1, .int p1)]) hC dX2_appealsAhead_3 (by decide) rfl ?_
  exact X_sub [2, 3, 1, 0] rfl (L_X2_appealsAhead_b4 G cls ad hi hC hz0 hz1 σ fuel p1 (0 : Int32) (0 : Int32))
theorem dX2_waitingAt_0 : decode cX2_waitingAt 0 = .ok (.iconst 0, 1) := by decide +kernel
theorem dX2_waitingAt_1 : decode cX2_waitingAt 1 = .ok (.istore_n 2, 1) := by decide +kernel
theorem dX2_waitingAt_2 : decode cX2_waitingAt 2 = .ok (.iload_n 2, 1) := by decide +kernel
theorem dX2_waitingAt_3 : decode cX2_waitingAt 3 = .ok (.aload_n 0, 1) := by decide +kernel
theorem dX2_waitingAt_4 : decode cX2_waitingAt 4 = .ok (.getfield 23, 3) := by decide +kernel
theorem dX2_waitingAt_7 : decode cX2_waitingAt 7 = .ok (.invokevirtual 46, 3) := by decide +kernel
theorem dX2_waitingAt_10 : decode cX2_waitingAt 10 = .ok (.if_icmp .ge 28, 3) := by decide +kernel
theorem dX2_waitingAt_13 : decode cX2_waitingAt 13 = .ok (.aload_n 0, 1) := by decide +kernel
theorem dX2_waitingAt_14 : decode cX2_waitingAt 14 = .ok (.iload_n 2, 1) := by decide +kernel
theorem dX2_waitingAt_15 : decode cX2_waitingAt 15 = .ok (.invokevirtual 106, 3) := by decide +kernel
theorem dX2_waitingAt_18 : decode cX2_waitingAt 18 = .ok (.ifCond .eq 14, 3) := by decide +kernel
theorem dX2_waitingAt_21 : decode cX2_waitingAt 21 = .ok (.aload_n 0, 1) := by decide +kernel
theorem dX2_waitingAt_22 : decode cX2_waitingAt 22 = .ok (.iload_n 2, 1) := by decide +kernel
theorem dX2_waitingAt_23 : decode cX2_waitingAt 23 = .ok (.invokevirtual 112, 3) := by decide +kernel
theorem dX2_waitingAt_26 : decode cX2_waitingAt 26 = .ok (.iload_n 1, 1) := by decide +kernel
theorem dX2_waitingAt_27 : decode cX2_waitingAt 27 = .ok (.if_icmp .ne 5, 3) := by decide +kernel
theorem dX2_waitingAt_30 : decode cX2_waitingAt 30 = .ok (.iload_n 2, 1) := by decide +kernel
theorem dX2_waitingAt_31 : decode cX2_waitingAt 31 = .ok (.ireturn, 1) := by decide +kernel
theorem dX2_waitingAt_32 : decode cX2_waitingAt 32 = .ok (.iinc 2 1, 3) := by decide +kernel
theorem dX2_waitingAt_35 : decode cX2_waitingAt 35 = .ok (.goto (-33), 3) := by decide +kernel
theorem dX2_waitingAt_38 : decode cX2_waitingAt 38 = .ok (.ldc 89, 2) := by decide +kernel
theorem dX2_waitingAt_40 : decode cX2_waitingAt 40 = .ok (.ireturn, 1) := by decide +kernel
def f_X2_waitingAt_b32 (σ : Sg)  (K2 : Int32 → Int32 → Option (Int32))  (v1 v2 : Int32) : Option (Int32) := lt (v2 + (1 : Int32)) fun x5 => K2 v1 x5
def f_X2_waitingAt_b2 (σ : Sg)   : Nat → Int32 → Int32 → Option (Int32)
  | 0, _, _ => none
  | n + 1, v1, v2 => (f_X3_size σ 2).bind fun r1 => if r1 ≤ v2 then (some (-10000005 : Int32)) else ((f_X2_waits σ v2).bind fun r3 => if r3 = 0 then (f_X2_waitingAt_b32 σ (f_X2_waitingAt_b2 σ   n) v1 v2) else ((f_X2_appealsAhead σ v2).bind fun r6 => if r6 = v1 then (some v2) else (f_X2_waitingAt_b32 σ (f_X2_waitingAt_b2 σ   n) v1 v2)))
def f_X2_waitingAt (σ : Sg)  (p1 : Int32) : Option (Int32) := f_X2_waitingAt_b2 σ fuel p1 (0 : Int32)
set_option maxHeartbeats 4000000 in
set_option maxRecDepth 100000 in
theorem L_X2_waitingAt_b32 {Γ : Cx} (G : va_G) (cls : Cls) (ad : Nat → Nat) (hi : inj 49 ad) (hC : CX Γ (YX G cls ad) cX2_waitingAt RX2 3 (some .int) 4 93) (hz0 : Γ.2.2.2.2.2.1 = 0) (hz1 : Γ.2.2.2.2.2.2 = 0) (σ : Sg)   (K2 : Int32 → Int32 → Option (Int32)) (hK2 : ∀ (v1 v2 : Int32), WX Γ (YX G cls ad) (qf Γ (YX G cls ad) (fiP σ)) 3 2 [(0, .ref (ad 19)), (1, .int v1), (2, .int v2)] [] σ (K2 v1 v2))  (v1 v2 : Int32) : WX Γ (YX G cls ad) (qf Γ (YX G cls ad) (fiP σ)) 3 32 [(0, .ref (ad 19)), (1, .int v1), (2, .int v2)] [] σ (f_X2_waitingAt_b32 σ  K2 v1 v2) := by
  unfold f_X2_waitingAt_b32
  refine X_iinc (ls' := fun x5 => [(2, .int x5), (0, .ref (ad 19)), (1, .int v1)]) hC 2 dX2_waitingAt_32 rfl (by decide) (by decide) (fun _ => rfl) (fun x5 => ?_)
  refine X_goto hC 2 dX2_waitingAt_35 (by decide) ?_
  exact X_sub [1, 2, 0] rfl (hK2 v1 x5)
set_option maxHeartbeats 4000000 in
set_option maxRecDepth 100000 in
theorem L_X2_waitingAt_b2 {Γ : Cx} (G : va_G) (cls : Cls) (ad : Nat → Nat) (hi : inj 49 ad) (hC : CX Γ (YX G cls ad) cX2_waitingAt RX2 3 (some .int) 4 93) (hz0 : Γ.2.2.2.2.2.1 = 0) (hz1 : Γ.2.2.2.2.2.2 = 0) (σ : Sg)    : ∀ (n : Nat) (v1 v2 : Int32), WX Γ (YX G cls ad) (qf Γ (YX G cls ad) (fiP σ)) 3 2 [(0, .ref (ad 19)), (1, .int v1), (2, .int v2)] [] σ (f_X2_waitingAt_b2 σ   n v1 v2) := by
  intro n
  induction n with
  | zero => intro v1 v2; exact X_none
  | succ n ih =>
    intro v1 v2
    rw [f_X2_waitingAt_b2.eq_2]
    refine X_iload_n hC 2 rfl dX2_waitingAt_2 ?_
    refine X_aload_n hC 0 rfl dX2_waitingAt_3 ?_
    refine X_getf (C := RX2) (T := TX2) (N := 3) (ci := 2) hC 2 (wX (k := 19) (by omega) cX_now) rfl hinX2 (by decide) tw_50 rfl rfl dX2_waitingAt_4 ?_
    refine X_callP (C := RX3) (T := TX3) (N := 4) (ci := 3) (rest := [.int v2]) hC (c_X3_size _ G cls ad hi σ 2 (by omega)) (gV tw_124 tw_125 tw_126 tw_3 tw_127) rfl (wX (k := 2) (by omega) (cX_tab (by omega))) rfl rfl okm_X3_size (by decide) dX2_waitingAt_7 rfl (Nat.le_of_ble_eq_true rfl) (fun r1 => ?_)
    refine X_icmp_ge hC 38 dX2_waitingAt_10 (by decide) (fun h2 => ?_) (fun h2 => ?_)
    · refine X_ldc (v := -10000005) hC tw_148 dX2_waitingAt_38 ?_
      exact X_iret hC hz0 hz1 dX2_waitingAt_40 rfl
    · refine X_aload_n hC 0 rfl dX2_waitingAt_13 ?_
      refine X_iload_n hC 2 rfl dX2_waitingAt_14 ?_
      refine X_callP (C := RX2) (T := TX2) (N := 3) (ci := 2) (rest := []) hC (c_X2_waits _ G cls ad hi σ v2) (gV tw_128 tw_129 tw_130 tw_2 tw_131) rfl (wX (k := 19) (by omega) cX_now) rfl rfl okm_X2_waits (by decide) dX2_waitingAt_15 rfl (Nat.le_of_ble_eq_true rfl) (fun r3 => ?_)
      refine X_if_eq hC 32 dX2_waitingAt_18 (by decide) (fun h4 => ?_) (fun h4 => ?_)
      · exact (L_X2_waitingAt_b32 G cls ad hi hC hz0 hz1 σ (f_X2_waitingAt_b2 σ   n) ih v1 v2)
      · refine X_aload_n hC 0 rfl dX2_waitingAt_21 ?_
        refine X_iload_n hC 2 rfl dX2_waitingAt_22 ?_
        refine X_callP (C := RX2) (T := TX2) (N := 3) (ci := 2) (rest := []) hC (c_X2_appealsAhead _ G cls ad hi σ v2) (gV tw_140 tw_141 tw_142 tw_2 tw_143) rfl (wX (k := 19) (by omega) cX_now) rfl rfl okm_X2_appealsAhead (by decide) dX2_waitingAt_23 rfl (Nat.le_of_ble_eq_true rfl) (fun r6 => ?_)
        refine X_iload_n hC 1 rfl dX2_waitingAt_26 ?_
        refine X_icmp_ne hC 32 dX2_waitingAt_27 (by decide) (fun h7 => ?_) (fun h7 => ?_)
        · exact (L_X2_waitingAt_b32 G cls ad hi hC hz0 hz1 σ (f_X2_waitingAt_b2 σ   n) ih v1 v2)
        · refine X_iload_n hC 2 rfl dX2_waitingAt_30 ?_
          exact X_iret hC hz0 hz1 dX2_waitingAt_31 rfl
theorem okm_X2_waitingAt : okm yX2_waitingAt 1 = true := by decide +kernel
set_option maxHeartbeats 4000000 in
set_option maxRecDepth 100000 in
theorem c_X2_waitingAt (l : Launch) (G : va_G) (cls : Cls) (ad : Nat → Nat) (hi : inj 49 ad) (σ : Sg)   (p1 : Int32) : MT l (YX G cls ad) yX2_waitingAt (.code yX2_waitingAt cX2_waitingAt 3 (some .int) :: gw) 4 93 [.ref (ad 19), .int p1] (fiP σ) σ (f_X2_waitingAt σ  p1) := by
  refine MT.of (own := RX2) (by decide) (YX_D hi) rfl (Nat.le_of_ble_eq_true rfl) fun Γ _ hz0 hz1 hC => ?_
  show WX Γ (YX G cls ad) (qf Γ (YX G cls ad) (fiP σ)) 3 0 [(0, .ref (ad 19)), (1, .int p1)] [] σ (f_X2_waitingAt σ  p1)
  unfold f_X2_waitingAt
  refine X_iconst (v := 0) hC (by decide) dX2_waitingAt_0 ?_
  refine X_istore_n (ls' := [(2, .int (0 : Int32)), (0, .ref (ad 19)), (1, .int p1)]) hC dX2_waitingAt_1 (by decide) rfl ?_
  exact X_sub [1, 2, 0] rfl (L_X2_waitingAt_b2 G cls ad hi hC hz0 hz1 σ fuel p1 (0 : Int32))
theorem dX2_isJustified_0 : decode cX2_isJustified 0 = .ok (.aload_n 0, 1) := by decide +kernel
theorem dX2_isJustified_1 : decode cX2_isJustified 1 = .ok (.getfield 23, 3) := by decide +kernel
theorem dX2_isJustified_4 : decode cX2_isJustified 4 = .ok (.iload_n 1, 1) := by decide +kernel
theorem dX2_isJustified_5 : decode cX2_isJustified 5 = .ok (.bipush 7, 2) := by decide +kernel
theorem dX2_isJustified_7 : decode cX2_isJustified 7 = .ok (.invokevirtual 38, 3) := by decide +kernel
theorem dX2_isJustified_10 : decode cX2_isJustified 10 = .ok (.ifCond .gt 5, 3) := by decide +kernel
theorem dX2_isJustified_13 : decode cX2_isJustified 13 = .ok (.iconst 0, 1) := by decide +kernel
theorem dX2_isJustified_14 : decode cX2_isJustified 14 = .ok (.ireturn, 1) := by decide +kernel
theorem dX2_isJustified_15 : decode cX2_isJustified 15 = .ok (.aload_n 0, 1) := by decide +kernel
theorem dX2_isJustified_16 : decode cX2_isJustified 16 = .ok (.getfield 23, 3) := by decide +kernel
theorem dX2_isJustified_19 : decode cX2_isJustified 19 = .ok (.iload_n 1, 1) := by decide +kernel
theorem dX2_isJustified_20 : decode cX2_isJustified 20 = .ok (.iconst 1, 1) := by decide +kernel
theorem dX2_isJustified_21 : decode cX2_isJustified 21 = .ok (.invokevirtual 38, 3) := by decide +kernel
theorem dX2_isJustified_24 : decode cX2_isJustified 24 = .ok (.istore_n 2, 1) := by decide +kernel
theorem dX2_isJustified_25 : decode cX2_isJustified 25 = .ok (.aload_n 0, 1) := by decide +kernel
theorem dX2_isJustified_26 : decode cX2_isJustified 26 = .ok (.getfield 23, 3) := by decide +kernel
theorem dX2_isJustified_29 : decode cX2_isJustified 29 = .ok (.iload_n 1, 1) := by decide +kernel
theorem dX2_isJustified_30 : decode cX2_isJustified 30 = .ok (.bipush 6, 2) := by decide +kernel
theorem dX2_isJustified_32 : decode cX2_isJustified 32 = .ok (.invokevirtual 38, 3) := by decide +kernel
theorem dX2_isJustified_35 : decode cX2_isJustified 35 = .ok (.lookupswitch 76 #[(1, 25), (2, 57)], 25) := by decide +kernel
theorem dX2_isJustified_60 : decode cX2_isJustified 60 = .ok (.aload_n 0, 1) := by decide +kernel
theorem dX2_isJustified_61 : decode cX2_isJustified 61 = .ok (.getfield 14, 3) := by decide +kernel
theorem dX2_isJustified_64 : decode cX2_isJustified 64 = .ok (.iload_n 2, 1) := by decide +kernel
theorem dX2_isJustified_65 : decode cX2_isJustified 65 = .ok (.bipush 6, 2) := by decide +kernel
theorem dX2_isJustified_67 : decode cX2_isJustified 67 = .ok (.invokevirtual 38, 3) := by decide +kernel
theorem dX2_isJustified_70 : decode cX2_isJustified 70 = .ok (.ifCond .eq 20, 3) := by decide +kernel
theorem dX2_isJustified_73 : decode cX2_isJustified 73 = .ok (.aload_n 0, 1) := by decide +kernel
theorem dX2_isJustified_74 : decode cX2_isJustified 74 = .ok (.getfield 14, 3) := by decide +kernel
theorem dX2_isJustified_77 : decode cX2_isJustified 77 = .ok (.iload_n 2, 1) := by decide +kernel
theorem dX2_isJustified_78 : decode cX2_isJustified 78 = .ok (.bipush 7, 2) := by decide +kernel
theorem dX2_isJustified_80 : decode cX2_isJustified 80 = .ok (.invokevirtual 38, 3) := by decide +kernel
theorem dX2_isJustified_83 : decode cX2_isJustified 83 = .ok (.ifCond .ne 7, 3) := by decide +kernel
theorem dX2_isJustified_86 : decode cX2_isJustified 86 = .ok (.iconst 1, 1) := by decide +kernel
theorem dX2_isJustified_87 : decode cX2_isJustified 87 = .ok (.goto 4, 3) := by decide +kernel
theorem dX2_isJustified_90 : decode cX2_isJustified 90 = .ok (.iconst 0, 1) := by decide +kernel
theorem dX2_isJustified_91 : decode cX2_isJustified 91 = .ok (.ireturn, 1) := by decide +kernel
theorem dX2_isJustified_92 : decode cX2_isJustified 92 = .ok (.aload_n 0, 1) := by decide +kernel
theorem dX2_isJustified_93 : decode cX2_isJustified 93 = .ok (.getfield 14, 3) := by decide +kernel
theorem dX2_isJustified_96 : decode cX2_isJustified 96 = .ok (.iload_n 2, 1) := by decide +kernel
theorem dX2_isJustified_97 : decode cX2_isJustified 97 = .ok (.iconst 5, 1) := by decide +kernel
theorem dX2_isJustified_98 : decode cX2_isJustified 98 = .ok (.invokevirtual 38, 3) := by decide +kernel
theorem dX2_isJustified_101 : decode cX2_isJustified 101 = .ok (.iconst 5, 1) := by decide +kernel
theorem dX2_isJustified_102 : decode cX2_isJustified 102 = .ok (.if_icmp .lt 7, 3) := by decide +kernel
theorem dX2_isJustified_105 : decode cX2_isJustified 105 = .ok (.iconst 1, 1) := by decide +kernel
theorem dX2_isJustified_106 : decode cX2_isJustified 106 = .ok (.goto 4, 3) := by decide +kernel
theorem dX2_isJustified_109 : decode cX2_isJustified 109 = .ok (.iconst 0, 1) := by decide +kernel
theorem dX2_isJustified_110 : decode cX2_isJustified 110 = .ok (.ireturn, 1) := by decide +kernel
theorem dX2_isJustified_111 : decode cX2_isJustified 111 = .ok (.aload_n 0, 1) := by decide +kernel
theorem dX2_isJustified_112 : decode cX2_isJustified 112 = .ok (.getfield 14, 3) := by decide +kernel
theorem dX2_isJustified_115 : decode cX2_isJustified 115 = .ok (.iload_n 2, 1) := by decide +kernel
theorem dX2_isJustified_116 : decode cX2_isJustified 116 = .ok (.iconst 1, 1) := by decide +kernel
theorem dX2_isJustified_117 : decode cX2_isJustified 117 = .ok (.invokevirtual 38, 3) := by decide +kernel
theorem dX2_isJustified_120 : decode cX2_isJustified 120 = .ok (.bipush 10, 2) := by decide +kernel
theorem dX2_isJustified_122 : decode cX2_isJustified 122 = .ok (.if_icmp .gt 7, 3) := by decide +kernel
theorem dX2_isJustified_125 : decode cX2_isJustified 125 = .ok (.iconst 1, 1) := by decide +kernel
theorem dX2_isJustified_126 : decode cX2_isJustified 126 = .ok (.goto 4, 3) := by decide +kernel
theorem dX2_isJustified_129 : decode cX2_isJustified 129 = .ok (.iconst 0, 1) := by decide +kernel
theorem dX2_isJustified_130 : decode cX2_isJustified 130 = .ok (.ireturn, 1) := by decide +kernel
def f_X2_isJustified (σ : Sg)  (p1 : Int32) : Option (Int32) := (f_X3_cell σ 2 p1 (7 : Int32)).bind fun r1 => if 0 < r1 then ((f_X3_cell σ 2 p1 (1 : Int32)).bind fun r3 => (f_X3_cell σ 2 p1 (6 : Int32)).bind fun r4 => if r4 = 1 then ((f_X3_cell σ 0 r3 (6 : Int32)).bind fun r6 => if r6 = 0 then (some (0 : Int32)) else ((f_X3_cell σ 0 r3 (7 : Int32)).bind fun r8 => if r8 = 0 then (some (1 : Int32)) else (some (0 : Int32)))) else if r4 = 2 then ((f_X3_cell σ 0 r3 (5 : Int32)).bind fun r11 => if r11 < (5 : Int32) then (some (0 : Int32)) else (some (1 : Int32))) else ((f_X3_cell σ 0 r3 (1 : Int32)).bind fun r13 => if (10 : Int32) < r13 then (some (0 : Int32)) else (some (1 : Int32)))) else (some (0 : Int32))
theorem okm_X2_isJustified : okm yX2_isJustified 1 = true := by decide +kernel
set_option maxHeartbeats 4000000 in
set_option maxRecDepth 100000 in
theorem c_X2_isJustified (l : Launch) (G : va_G) (cls : Cls) (ad : Nat → Nat) (hi : inj 49 ad) (σ : Sg)   (p1 : Int32) : MT l (YX G cls ad) yX2_isJustified (.code yX2_isJustified cX2_isJustified 3 (some .boolean) :: gw) 2 44 [.ref (ad 19), .int p1] (fiP σ) σ (f_X2_isJustified σ  p1) := by
  refine MT.of (own := RX2) (by decide) (YX_D hi) rfl (Nat.le_of_ble_eq_true rfl) fun Γ _ hz0 hz1 hC => ?_
  show WX Γ (YX G cls ad) (qf Γ (YX G cls ad) (fiP σ)) 3 0 [(0, .ref (ad 19)), (1, .int p1)] [] σ (f_X2_isJustified σ  p1)
  unfold f_X2_isJustified
  refine X_aload_n hC 0 rfl dX2_isJustified_0 ?_
  refine X_getf (C := RX2) (T := TX2) (N := 3) (ci := 2) hC 2 (wX (k := 19) (by omega) cX_now) rfl hinX2 (by decide) tw_50 rfl rfl dX2_isJustified_1 ?_
  refine X_iload_n hC 1 rfl dX2_isJustified_4 ?_
  refine X_bipush (v := 7) hC (by decide) dX2_isJustified_5 ?_
  refine X_callP (C := RX3) (T := TX3) (N := 4) (ci := 3) (rest := []) hC (c_X3_cell _ G cls ad hi σ 2 (by omega) p1 (7 : Int32)) (gV tw_132 tw_133 tw_134 tw_3 tw_135) rfl (wX (k := 2) (by omega) (cX_tab (by omega))) rfl rfl okm_X3_cell (by decide) dX2_isJustified_7 rfl (Nat.le_of_ble_eq_true rfl) (fun r1 => ?_)
  refine X_if_gt hC 15 dX2_isJustified_10 (by decide) (fun h2 => ?_) (fun h2 => ?_)
  · refine X_aload_n hC 0 rfl dX2_isJustified_15 ?_
    refine X_getf (C := RX2) (T := TX2) (N := 3) (ci := 2) hC 2 (wX (k := 19) (by omega) cX_now) rfl hinX2 (by decide) tw_50 rfl rfl dX2_isJustified_16 ?_
    refine X_iload_n hC 1 rfl dX2_isJustified_19 ?_
    refine X_iconst (v := 1) hC (by decide) dX2_isJustified_20 ?_
    refine X_callP (C := RX3) (T := TX3) (N := 4) (ci := 3) (rest := []) hC (c_X3_cell _ G cls ad hi σ 2 (by omega) p1 (1 : Int32)) (gV tw_132 tw_133 tw_134 tw_3 tw_135) rfl (wX (k := 2) (by omega) (cX_tab (by omega))) rfl rfl okm_X3_cell (by decide) dX2_isJustified_21 rfl (Nat.le_of_ble_eq_true rfl) (fun r3 => ?_)
    refine X_istore_n (ls' := [(2, .int r3), (0, .ref (ad 19)), (1, .int p1)]) hC dX2_isJustified_24 (by decide) rfl ?_
    refine X_aload_n hC 1 rfl dX2_isJustified_25 ?_
    refine X_getf (C := RX2) (T := TX2) (N := 3) (ci := 2) hC 2 (wX (k := 19) (by omega) cX_now) rfl hinX2 (by decide) tw_50 rfl rfl dX2_isJustified_26 ?_
    refine X_iload_n hC 2 rfl dX2_isJustified_29 ?_
    refine X_bipush (v := 6) hC (by decide) dX2_isJustified_30 ?_
    refine X_callP (C := RX3) (T := TX3) (N := 4) (ci := 3) (rest := []) hC (c_X3_cell _ G cls ad hi σ 2 (by omega) p1 (6 : Int32)) (gV tw_132 tw_133 tw_134 tw_3 tw_135) rfl (wX (k := 2) (by omega) (cX_tab (by omega))) rfl rfl okm_X3_cell (by decide) dX2_isJustified_32 rfl (Nat.le_of_ble_eq_true rfl) (fun r4 => ?_)
    refine X_ite (fun h5 => ?_) (fun h5 => ?_)
    · refine X_lookup (off := 25) hC 60 dX2_isJustified_35 (by decide) (by rw [h5]; decide) (by decide) ?_
      refine X_aload_n hC 1 rfl dX2_isJustified_60 ?_
      refine X_getf (C := RX2) (T := TX2) (N := 3) (ci := 2) hC 0 (wX (k := 19) (by omega) cX_now) rfl hinX2 (by decide) tw_46 rfl rfl dX2_isJustified_61 ?_
      refine X_iload_n hC 0 rfl dX2_isJustified_64 ?_
      refine X_bipush (v := 6) hC (by decide) dX2_isJustified_65 ?_
      refine X_callP (C := RX3) (T := TX3) (N := 4) (ci := 3) (rest := []) hC (c_X3_cell _ G cls ad hi σ 0 (by omega) r3 (6 : Int32)) (gV tw_132 tw_133 tw_134 tw_3 tw_135) rfl (wX (k := 0) (by omega) (cX_tab (by omega))) rfl rfl okm_X3_cell (by decide) dX2_isJustified_67 rfl (Nat.le_of_ble_eq_true rfl) (fun r6 => ?_)
      refine X_if_eq hC 90 dX2_isJustified_70 (by decide) (fun h7 => ?_) (fun h7 => ?_)
      · refine X_iconst (v := 0) hC (by decide) dX2_isJustified_90 ?_
        exact X_zret hC hz0 hz1 rfl dX2_isJustified_91 rfl
      · refine X_aload_n hC 1 rfl dX2_isJustified_73 ?_
        refine X_getf (C := RX2) (T := TX2) (N := 3) (ci := 2) hC 0 (wX (k := 19) (by omega) cX_now) rfl hinX2 (by decide) tw_46 rfl rfl dX2_isJustified_74 ?_
        refine X_iload_n hC 0 rfl dX2_isJustified_77 ?_
        refine X_bipush (v := 7) hC (by decide) dX2_isJustified_78 ?_
        refine X_callP (C := RX3) (T := TX3) (N := 4) (ci := 3) (rest := []) hC (c_X3_cell _ G cls ad hi σ 0 (by omega) r3 (7 : Int32)) (gV tw_132 tw_133 tw_134 tw_3 tw_135) rfl (wX (k := 0) (by omega) (cX_tab (by omega))) rfl rfl okm_X3_cell (by decide) dX2_isJustified_80 rfl (Nat.le_of_ble_eq_true rfl) (fun r8 => ?_)
        refine X_if_ne hC 90 dX2_isJustified_83 (by decide) (fun h9 => ?_) (fun h9 => ?_)
        · refine X_iconst (v := 0) hC (by decide) dX2_isJustified_90 ?_
          exact X_zret hC hz0 hz1 rfl dX2_isJustified_91 rfl
        · refine X_iconst (v := 1) hC (by decide) dX2_isJustified_86 ?_
          refine X_goto hC 91 dX2_isJustified_87 (by decide) ?_
          exact X_zret hC hz0 hz1 rfl dX2_isJustified_91 rfl
    refine X_ite (fun h10 => ?_) (fun h10 => ?_)
    · refine X_lookup (off := 57) hC 92 dX2_isJustified_35 (by decide) (by rw [h10]; decide) (by decide) ?_
      refine X_aload_n hC 1 rfl dX2_isJustified_92 ?_
      refine X_getf (C := RX2) (T := TX2) (N := 3) (ci := 2) hC 0 (wX (k := 19) (by omega) cX_now) rfl hinX2 (by decide) tw_46 rfl rfl dX2_isJustified_93 ?_
      refine X_iload_n hC 0 rfl dX2_isJustified_96 ?_
      refine X_iconst (v := 5) hC (by decide) dX2_isJustified_97 ?_
      refine X_callP (C := RX3) (T := TX3) (N := 4) (ci := 3) (rest := []) hC (c_X3_cell _ G cls ad hi σ 0 (by omega) r3 (5 : Int32)) (gV tw_132 tw_133 tw_134 tw_3 tw_135) rfl (wX (k := 0) (by omega) (cX_tab (by omega))) rfl rfl okm_X3_cell (by decide) dX2_isJustified_98 rfl (Nat.le_of_ble_eq_true rfl) (fun r11 => ?_)
      refine X_iconst (v := 5) hC (by decide) dX2_isJustified_101 ?_
      refine X_icmp_lt hC 109 dX2_isJustified_102 (by decide) (fun h12 => ?_) (fun h12 => ?_)
      · refine X_iconst (v := 0) hC (by decide) dX2_isJustified_109 ?_
        exact X_zret hC hz0 hz1 rfl dX2_isJustified_110 rfl
      · refine X_iconst (v := 1) hC (by decide) dX2_isJustified_105 ?_
        refine X_goto hC 110 dX2_isJustified_106 (by decide) ?_
        exact X_zret hC hz0 hz1 rfl dX2_isJustified_110 rfl
    refine X_lookup (off := 76) hC 111 dX2_isJustified_35 (by decide) (by have q0 := lv_neT h5 (a := 1) (by decide); have q1 := lv_neT h10 (a := 2) (by decide); simp [Op.lookupswitch.offset, q0, Ne.symm q0, q1, Ne.symm q1]) (by decide) ?_
    refine X_aload_n hC 1 rfl dX2_isJustified_111 ?_
    refine X_getf (C := RX2) (T := TX2) (N := 3) (ci := 2) hC 0 (wX (k := 19) (by omega) cX_now) rfl hinX2 (by decide) tw_46 rfl rfl dX2_isJustified_112 ?_
    refine X_iload_n hC 0 rfl dX2_isJustified_115 ?_
    refine X_iconst (v := 1) hC (by decide) dX2_isJustified_116 ?_
    refine X_callP (C := RX3) (T := TX3) (N := 4) (ci := 3) (rest := []) hC (c_X3_cell _ G cls ad hi σ 0 (by omega) r3 (1 : Int32)) (gV tw_132 tw_133 tw_134 tw_3 tw_135) rfl (wX (k := 0) (by omega) (cX_tab (by omega))) rfl rfl okm_X3_cell (by decide) dX2_isJustified_117 rfl (Nat.le_of_ble_eq_true rfl) (fun r13 => ?_)
    refine X_bipush (v := 10) hC (by decide) dX2_isJustified_120 ?_
    refine X_icmp_gt hC 129 dX2_isJustified_122 (by decide) (fun h14 => ?_) (fun h14 => ?_)
    · refine X_iconst (v := 0) hC (by decide) dX2_isJustified_129 ?_
      exact X_zret hC hz0 hz1 rfl dX2_isJustified_130 rfl
    · refine X_iconst (v := 1) hC (by decide) dX2_isJustified_125 ?_
      refine X_goto hC 130 dX2_isJustified_126 (by decide) ?_
      exact X_zret hC hz0 hz1 rfl dX2_isJustified_130 rfl
  · refine X_iconst (v := 0) hC (by decide) dX2_isJustified_13 ?_
    exact X_zret hC hz0 hz1 rfl dX2_isJustified_14 rfl
theorem dX2_settle_0 : decode cX2_settle 0 = .ok (.aload_n 0, 1) := by decide +kernel
theorem dX2_settle_1 : decode cX2_settle 1 = .ok (.getfield 23, 3) := by decide +kernel
theorem dX2_settle_4 : decode cX2_settle 4 = .ok (.iload_n 1, 1) := by decide +kernel
theorem dX2_settle_5 : decode cX2_settle 5 = .ok (.iconst 4, 1) := by decide +kernel
theorem dX2_settle_6 : decode cX2_settle 6 = .ok (.invokevirtual 38, 3) := by decide +kernel
theorem dX2_settle_9 : decode cX2_settle 9 = .ok (.ifCond .le 7, 3) := by decide +kernel
theorem dX2_settle_12 : decode cX2_settle 12 = .ok (.iconst (-1), 1) := by decide +kernel
theorem dX2_settle_13 : decode cX2_settle 13 = .ok (.goto 4, 3) := by decide +kernel
theorem dX2_settle_16 : decode cX2_settle 16 = .ok (.iconst 0, 1) := by decide +kernel
theorem dX2_settle_17 : decode cX2_settle 17 = .ok (.istore_n 3, 1) := by decide +kernel
theorem dX2_settle_18 : decode cX2_settle 18 = .ok (.iload_n 2, 1) := by decide +kernel
theorem dX2_settle_19 : decode cX2_settle 19 = .ok (.ifCond .eq 14, 3) := by decide +kernel
theorem dX2_settle_22 : decode cX2_settle 22 = .ok (.aload_n 0, 1) := by decide +kernel
theorem dX2_settle_23 : decode cX2_settle 23 = .ok (.getfield 23, 3) := by decide +kernel
theorem dX2_settle_26 : decode cX2_settle 26 = .ok (.iload_n 1, 1) := by decide +kernel
theorem dX2_settle_27 : decode cX2_settle 27 = .ok (.bipush 7, 2) := by decide +kernel
theorem dX2_settle_29 : decode cX2_settle 29 = .ok (.invokevirtual 38, 3) := by decide +kernel
theorem dX2_settle_32 : decode cX2_settle 32 = .ok (.istore_n 3, 1) := by decide +kernel
theorem dX2_settle_33 : decode cX2_settle 33 = .ok (.aload_n 0, 1) := by decide +kernel
theorem dX2_settle_34 : decode cX2_settle 34 = .ok (.getfield 23, 3) := by decide +kernel
theorem dX2_settle_37 : decode cX2_settle 37 = .ok (.iload_n 1, 1) := by decide +kernel
theorem dX2_settle_38 : decode cX2_settle 38 = .ok (.iconst 0, 1) := by decide +kernel
theorem dX2_settle_39 : decode cX2_settle 39 = .ok (.invokevirtual 38, 3) := by decide +kernel
theorem dX2_settle_42 : decode cX2_settle 42 = .ok (.istore 4, 2) := by decide +kernel
theorem dX2_settle_44 : decode cX2_settle 44 = .ok (.aload_n 0, 1) := by decide +kernel
theorem dX2_settle_45 : decode cX2_settle 45 = .ok (.getfield 23, 3) := by decide +kernel
theorem dX2_settle_48 : decode cX2_settle 48 = .ok (.iload_n 1, 1) := by decide +kernel
theorem dX2_settle_49 : decode cX2_settle 49 = .ok (.iconst 5, 1) := by decide +kernel
theorem dX2_settle_50 : decode cX2_settle 50 = .ok (.iload_n 2, 1) := by decide +kernel
theorem dX2_settle_51 : decode cX2_settle 51 = .ok (.ifCond .eq 7, 3) := by decide +kernel
theorem dX2_settle_54 : decode cX2_settle 54 = .ok (.iconst 2, 1) := by decide +kernel
theorem dX2_settle_55 : decode cX2_settle 55 = .ok (.goto 4, 3) := by decide +kernel
theorem dX2_settle_58 : decode cX2_settle 58 = .ok (.iconst 3, 1) := by decide +kernel
theorem dX2_settle_59 : decode cX2_settle 59 = .ok (.invokevirtual 34, 3) := by decide +kernel
theorem dX2_settle_62 : decode cX2_settle 62 = .ok (.aload_n 0, 1) := by decide +kernel
theorem dX2_settle_63 : decode cX2_settle 63 = .ok (.getfield 23, 3) := by decide +kernel
theorem dX2_settle_66 : decode cX2_settle 66 = .ok (.iload_n 1, 1) := by decide +kernel
theorem dX2_settle_67 : decode cX2_settle 67 = .ok (.iconst 4, 1) := by decide +kernel
theorem dX2_settle_68 : decode cX2_settle 68 = .ok (.iload_n 3, 1) := by decide +kernel
theorem dX2_settle_69 : decode cX2_settle 69 = .ok (.invokevirtual 90, 3) := by decide +kernel
theorem dX2_settle_72 : decode cX2_settle 72 = .ok (.aload_n 0, 1) := by decide +kernel
theorem dX2_settle_73 : decode cX2_settle 73 = .ok (.getfield 20, 3) := by decide +kernel
theorem dX2_settle_76 : decode cX2_settle 76 = .ok (.iload 4, 2) := by decide +kernel
theorem dX2_settle_78 : decode cX2_settle 78 = .ok (.iconst 4, 1) := by decide +kernel
theorem dX2_settle_79 : decode cX2_settle 79 = .ok (.iload_n 3, 1) := by decide +kernel
theorem dX2_settle_80 : decode cX2_settle 80 = .ok (.invokevirtual 90, 3) := by decide +kernel
theorem dX2_settle_83 : decode cX2_settle 83 = .ok (.aload_n 0, 1) := by decide +kernel
theorem dX2_settle_84 : decode cX2_settle 84 = .ok (.getfield 20, 3) := by decide +kernel
theorem dX2_settle_87 : decode cX2_settle 87 = .ok (.iload 4, 2) := by decide +kernel
theorem dX2_settle_89 : decode cX2_settle 89 = .ok (.iload_n 2, 1) := by decide +kernel
theorem dX2_settle_90 : decode cX2_settle 90 = .ok (.ifCond .eq 8, 3) := by decide +kernel
theorem dX2_settle_93 : decode cX2_settle 93 = .ok (.bipush 6, 2) := by decide +kernel
theorem dX2_settle_95 : decode cX2_settle 95 = .ok (.goto 5, 3) := by decide +kernel
theorem dX2_settle_98 : decode cX2_settle 98 = .ok (.bipush 7, 2) := by decide +kernel
theorem dX2_settle_100 : decode cX2_settle 100 = .ok (.iconst 1, 1) := by decide +kernel
theorem dX2_settle_101 : decode cX2_settle 101 = .ok (.invokevirtual 90, 3) := by decide +kernel
theorem dX2_settle_104 : decode cX2_settle 104 = .ok (.return_, 1) := by decide +kernel
def f_X2_settle_b100    (σ : Sg) (w0 w1 : Int32) : Option (Sg) := (f_X3_increase σ 1 w1 w0 (1 : Int32)).bind fun σ10 => some σ10
def f_X2_settle_b59    (σ : Sg) (v1 v2 v3 v4 w0 w1 w2 : Int32) : Option (Sg) := (f_X3_put σ 2 w2 w1 w0).bind fun σ6 => (f_X3_increase σ6 2 v1 (4 : Int32) v3).bind fun σ7 => (f_X3_increase σ7 1 v4 (4 : Int32) v3).bind fun σ8 => if v2 = 0 then (f_X2_settle_b100 σ8 (7 : Int32) v4) else (f_X2_settle_b100 σ8 (6 : Int32) v4)
def f_X2_settle_b33    (σ : Sg) (v1 v2 v3 : Int32) : Option (Sg) := (f_X3_cell σ 2 v1 (0 : Int32)).bind fun r4 => if v2 = 0 then (f_X2_settle_b59 σ v1 v2 v3 r4 (3 : Int32) (5 : Int32) v1) else (f_X2_settle_b59 σ v1 v2 v3 r4 (2 : Int32) (5 : Int32) v1)
def f_X2_settle_b17    (σ : Sg) (v1 v2 w0 : Int32) : Option (Sg) := if v2 = 0 then (f_X2_settle_b33 σ v1 v2 w0) else ((f_X3_cell σ 2 v1 (7 : Int32)).bind fun r11 => f_X2_settle_b33 σ v1 v2 r11)
def f_X2_settle (σ : Sg)  (p1 p2 : Int32) : Option (Sg) := (f_X3_cell σ 2 p1 (4 : Int32)).bind fun r1 => if r1 ≤ 0 then (f_X2_settle_b17 σ p1 p2 (0 : Int32)) else (f_X2_settle_b17 σ p1 p2 (-1 : Int32))
set_option maxHeartbeats 4000000 in
set_option maxRecDepth 100000 in
theorem L_X2_settle_b100 {Γ : Cx} (G : va_G) (cls : Cls) (ad : Nat → Nat) (hi : inj 49 ad) (hC : CX Γ (YX G cls ad) cX2_settle RX2 5 none 3 68) (hz0 : Γ.2.2.2.2.2.1 = 0) (hz1 : Γ.2.2.2.2.2.2 = 0)     (σ : Sg) (w0 w1 : Int32) : WX Γ (YX G cls ad) (qf Γ (YX G cls ad) fvS) 5 100 [] [.int w0, .int w1, .ref (ad 1)] σ (f_X2_settle_b100   σ w0 w1) := by
  unfold f_X2_settle_b100
  refine X_iconst (v := 1) hC (by decide) dX2_settle_100 ?_
  refine X_callV (C := RX3) (T := TX3) (N := 4) (ci := 3) (rest := []) hC (c_X3_increase _ G cls ad hi σ 1 (by omega) w1 w0 (1 : Int32)) (gV tw_184 tw_185 tw_186 tw_3 tw_187) rfl (wX (k := 1) (by omega) (cX_tab (by omega))) rfl rfl okm_X3_increase (by decide) dX2_settle_101 rfl (Nat.le_of_ble_eq_true rfl) (fun σ10 => ?_)
  exact X_vret hC hz0 hz1 dX2_settle_104 rfl
set_option maxHeartbeats 4000000 in
set_option maxRecDepth 100000 in
theorem L_X2_settle_b59 {Γ : Cx} (G : va_G) (cls : Cls) (ad : Nat → Nat) (hi : inj 49 ad) (hC : CX Γ (YX G cls ad) cX2_settle RX2 5 none 3 68) (hz0 : Γ.2.2.2.2.2.1 = 0) (hz1 : Γ.2.2.2.2.2.2 = 0)     (σ : Sg) (v1 v2 v3 v4 w0 w1 w2 : Int32) : WX Γ (YX G cls ad) (qf Γ (YX G cls ad) fvS) 5 59 [(0, .ref (ad 19)), (1, .int v1), (2, .int v2), (3, .int v3), (4, .int v4)] [.int w0, .int w1, .int w2, .ref (ad 2)] σ (f_X2_settle_b59   σ v1 v2 v3 v4 w0 w1 w2) := by
  unfold f_X2_settle_b59
  refine X_callV (C := RX3) (T := TX3) (N := 4) (ci := 3) (rest := []) hC (c_X3_put _ G cls ad hi σ 2 (by omega) w2 w1 w0) (gV tw_180 tw_181 tw_182 tw_3 tw_183) rfl (wX (k := 2) (by omega) (cX_tab (by omega))) rfl rfl okm_X3_put (by decide) dX2_settle_59 rfl (Nat.le_of_ble_eq_true rfl) (fun σ6 => ?_)
  refine X_aload_n hC 0 rfl dX2_settle_62 ?_
  refine X_getf (C := RX2) (T := TX2) (N := 3) (ci := 2) hC 2 (wX (k := 19) (by omega) cX_now) rfl hinX2 (by decide) tw_50 rfl rfl dX2_settle_63 ?_
  refine X_iload_n hC 1 rfl dX2_settle_66 ?_
  refine X_iconst (v := 4) hC (by decide) dX2_settle_67 ?_
  refine X_iload_n hC 3 rfl dX2_settle_68 ?_
  refine X_callV (C := RX3) (T := TX3) (N := 4) (ci := 3) (rest := []) hC (c_X3_increase _ G cls ad hi σ6 2 (by omega) v1 (4 : Int32) v3) (gV tw_184 tw_185 tw_186 tw_3 tw_187) rfl (wX (k := 2) (by omega) (cX_tab (by omega))) rfl rfl okm_X3_increase (by decide) dX2_settle_69 rfl (Nat.le_of_ble_eq_true rfl) (fun σ7 => ?_)
  refine X_aload_n hC 0 rfl dX2_settle_72 ?_
  refine X_getf (C := RX2) (T := TX2) (N := 3) (ci := 2) hC 1 (wX (k := 19) (by omega) cX_now) rfl hinX2 (by decide) tw_48 rfl rfl dX2_settle_73 ?_
  refine X_iload hC 4 rfl dX2_settle_76 ?_
  refine X_iconst (v := 4) hC (by decide) dX2_settle_78 ?_
  refine X_iload_n hC 3 rfl dX2_settle_79 ?_
  refine X_callV (C := RX3) (T := TX3) (N := 4) (ci := 3) (rest := []) hC (c_X3_increase _ G cls ad hi σ7 1 (by omega) v4 (4 : Int32) v3) (gV tw_184 tw_185 tw_186 tw_3 tw_187) rfl (wX (k := 1) (by omega) (cX_tab (by omega))) rfl rfl okm_X3_increase (by decide) dX2_settle_80 rfl (Nat.le_of_ble_eq_true rfl) (fun σ8 => ?_)
  refine X_aload_n hC 0 rfl dX2_settle_83 ?_
  refine X_getf (C := RX2) (T := TX2) (N := 3) (ci := 2) hC 1 (wX (k := 19) (by omega) cX_now) rfl hinX2 (by decide) tw_48 rfl rfl dX2_settle_84 ?_
  refine X_iload hC 4 rfl dX2_settle_87 ?_
  refine X_iload_n hC 2 rfl dX2_settle_89 ?_
  refine X_if_eq hC 98 dX2_settle_90 (by decide) (fun h9 => ?_) (fun h9 => ?_)
  · refine X_bipush (v := 7) hC (by decide) dX2_settle_98 ?_
    exact X_sub [] rfl (L_X2_settle_b100 G cls ad hi hC hz0 hz1 σ8 (7 : Int32) v4)
  · refine X_bipush (v := 6) hC (by decide) dX2_settle_93 ?_
    refine X_goto hC 100 dX2_settle_95 (by decide) ?_
    exact X_sub [] rfl (L_X2_settle_b100 G cls ad hi hC hz0 hz1 σ8 (6 : Int32) v4)
set_option maxHeartbeats 4000000 in
set_option maxRecDepth 100000 in
theorem L_X2_settle_b33 {Γ : Cx} (G : va_G) (cls : Cls) (ad : Nat → Nat) (hi : inj 49 ad) (hC : CX Γ (YX G cls ad) cX2_settle RX2 5 none 3 68) (hz0 : Γ.2.2.2.2.2.1 = 0) (hz1 : Γ.2.2.2.2.2.2 = 0)     (σ : Sg) (v1 v2 v3 : Int32) : WX Γ (YX G cls ad) (qf Γ (YX G cls ad) fvS) 5 33 [(0, .ref (ad 19)), (1, .int v1), (2, .int v2), (3, .int v3)] [] σ (f_X2_settle_b33   σ v1 v2 v3) := by
  unfold f_X2_settle_b33
  refine X_aload_n hC 0 rfl dX2_settle_33 ?_
  refine X_getf (C := RX2) (T := TX2) (N := 3) (ci := 2) hC 2 (wX (k := 19) (by omega) cX_now) rfl hinX2 (by decide) tw_50 rfl rfl dX2_settle_34 ?_
  refine X_iload_n hC 1 rfl dX2_settle_37 ?_
  refine X_iconst (v := 0) hC (by decide) dX2_settle_38 ?_
  refine X_callP (C := RX3) (T := TX3) (N := 4) (ci := 3) (rest := []) hC (c_X3_cell _ G cls ad hi σ 2 (by omega) v1 (0 : Int32)) (gV tw_132 tw_133 tw_134 tw_3 tw_135) rfl (wX (k := 2) (by omega) (cX_tab (by omega))) rfl rfl okm_X3_cell (by decide) dX2_settle_39 rfl (Nat.le_of_ble_eq_true rfl) (fun r4 => ?_)
  refine X_istore (ls' := [(4, .int r4), (0, .ref (ad 19)), (1, .int v1), (2, .int v2), (3, .int v3)]) hC dX2_settle_42 (by decide) rfl ?_
  refine X_aload_n hC 1 rfl dX2_settle_44 ?_
  refine X_getf (C := RX2) (T := TX2) (N := 3) (ci := 2) hC 2 (wX (k := 19) (by omega) cX_now) rfl hinX2 (by decide) tw_50 rfl rfl dX2_settle_45 ?_
  refine X_iload_n hC 2 rfl dX2_settle_48 ?_
  refine X_iconst (v := 5) hC (by decide) dX2_settle_49 ?_
  refine X_iload_n hC 3 rfl dX2_settle_50 ?_
  refine X_if_eq hC 58 dX2_settle_51 (by decide) (fun h5 => ?_) (fun h5 => ?_)
  · refine X_iconst (v := 3) hC (by decide) dX2_settle_58 ?_
    exact X_sub [1, 2, 3, 4, 0] rfl (L_X2_settle_b59 G cls ad hi hC hz0 hz1 σ v1 v2 v3 r4 (3 : Int32) (5 : Int32) v1)
  · refine X_iconst (v := 2) hC (by decide) dX2_settle_54 ?_
    refine X_goto hC 59 dX2_settle_55 (by decide) ?_
    exact X_sub [1, 2, 3, 4, 0] rfl (L_X2_settle_b59 G cls ad hi hC hz0 hz1 σ v1 v2 v3 r4 (2 : Int32) (5 : Int32) v1)
set_option maxHeartbeats 4000000 in
set_option maxRecDepth 100000 in
theorem L_X2_settle_b17 {Γ : Cx} (G : va_G) (cls : Cls) (ad : Nat → Nat) (hi : inj 49 ad) (hC : CX Γ (YX G cls ad) cX2_settle RX2 5 none 3 68) (hz0 : Γ.2.2.2.2.2.1 = 0) (hz1 : Γ.2.2.2.2.2.2 = 0)     (σ : Sg) (v1 v2 w0 : Int32) : WX Γ (YX G cls ad) (qf Γ (YX G cls ad) fvS) 5 17 [(0, .ref (ad 19)), (1, .int v1), (2, .int v2)] [.int w0] σ (f_X2_settle_b17   σ v1 v2 w0) := by
  unfold f_X2_settle_b17
  refine X_istore_n (ls' := [(3, .int w0), (0, .ref (ad 19)), (1, .int v1), (2, .int v2)]) hC dX2_settle_17 (by decide) rfl ?_
  refine X_iload_n hC 3 rfl dX2_settle_18 ?_
  refine X_if_eq hC 33 dX2_settle_19 (by decide) (fun h3 => ?_) (fun h3 => ?_)
  · exact X_sub [1, 2, 3, 0] rfl (L_X2_settle_b33 G cls ad hi hC hz0 hz1 σ v1 v2 w0)
  · refine X_aload_n hC 1 rfl dX2_settle_22 ?_
    refine X_getf (C := RX2) (T := TX2) (N := 3) (ci := 2) hC 2 (wX (k := 19) (by omega) cX_now) rfl hinX2 (by decide) tw_50 rfl rfl dX2_settle_23 ?_
    refine X_iload_n hC 2 rfl dX2_settle_26 ?_
    refine X_bipush (v := 7) hC (by decide) dX2_settle_27 ?_
    refine X_callP (C := RX3) (T := TX3) (N := 4) (ci := 3) (rest := []) hC (c_X3_cell _ G cls ad hi σ 2 (by omega) v1 (7 : Int32)) (gV tw_132 tw_133 tw_134 tw_3 tw_135) rfl (wX (k := 2) (by omega) (cX_tab (by omega))) rfl rfl okm_X3_cell (by decide) dX2_settle_29 rfl (Nat.le_of_ble_eq_true rfl) (fun r11 => ?_)
    refine X_istore_n (ls' := [(3, .int r11), (0, .ref (ad 19)), (1, .int v1), (2, .int v2)]) hC dX2_settle_32 (by decide) rfl ?_
    exact X_sub [1, 2, 3, 0] rfl (L_X2_settle_b33 G cls ad hi hC hz0 hz1 σ v1 v2 r11)
theorem okm_X2_settle : okm yX2_settle 2 = true := by decide +kernel
set_option maxHeartbeats 4000000 in
set_option maxRecDepth 100000 in
theorem c_X2_settle (l : Launch) (G : va_G) (cls : Cls) (ad : Nat → Nat) (hi : inj 49 ad) (σ : Sg)   (p1 p2 : Int32) : MT l (YX G cls ad) yX2_settle (.code yX2_settle cX2_settle 5 none :: gw) 3 68 [.ref (ad 19), .int p1, .int p2] fvS σ (f_X2_settle σ  p1 p2) := by
  refine MT.of (own := RX2) (by decide) (YX_D hi) rfl (Nat.le_of_ble_eq_true rfl) fun Γ _ hz0 hz1 hC => ?_
  show WX Γ (YX G cls ad) (qf Γ (YX G cls ad) fvS) 5 0 [(0, .ref (ad 19)), (1, .int p1), (2, .int p2)] [] σ (f_X2_settle σ  p1 p2)
  unfold f_X2_settle
  refine X_aload_n hC 0 rfl dX2_settle_0 ?_
  refine X_getf (C := RX2) (T := TX2) (N := 3) (ci := 2) hC 2 (wX (k := 19) (by omega) cX_now) rfl hinX2 (by decide) tw_50 rfl rfl dX2_settle_1 ?_
  refine X_iload_n hC 1 rfl dX2_settle_4 ?_
  refine X_iconst (v := 4) hC (by decide) dX2_settle_5 ?_
  refine X_callP (C := RX3) (T := TX3) (N := 4) (ci := 3) (rest := []) hC (c_X3_cell _ G cls ad hi σ 2 (by omega) p1 (4 : Int32)) (gV tw_132 tw_133 tw_134 tw_3 tw_135) rfl (wX (k := 2) (by omega) (cX_tab (by omega))) rfl rfl okm_X3_cell (by decide) dX2_settle_6 rfl (Nat.le_of_ble_eq_true rfl) (fun r1 => ?_)
  refine X_if_le hC 16 dX2_settle_9 (by decide) (fun h2 => ?_) (fun h2 => ?_)
  · refine X_iconst (v := 0) hC (by decide) dX2_settle_16 ?_
    exact (L_X2_settle_b17 G cls ad hi hC hz0 hz1 σ p1 p2 (0 : Int32))
  · refine X_iconst (v := -1) hC (by decide) dX2_settle_12 ?_
    refine X_goto hC 17 dX2_settle_13 (by decide) ?_
    exact (L_X2_settle_b17 G cls ad hi hC hz0 hz1 σ p1 p2 (-1 : Int32))
theorem dX2_isBetter_0 : decode cX2_isBetter 0 = .ok (.aload_n 0, 1) := by decide +kernel
theorem dX2_isBetter_1 : decode cX2_isBetter 1 = .ok (.getfield 20, 3) := by decide +kernel
theorem dX2_isBetter_4 : decode cX2_isBetter 4 = .ok (.iload_n 1, 1) := by decide +kernel
theorem dX2_isBetter_5 : decode cX2_isBetter 5 = .ok (.iconst 3, 1) := by decide +kernel
theorem dX2_isBetter_6 : decode cX2_isBetter 6 = .ok (.invokevirtual 38, 3) := by decide +kernel
theorem dX2_isBetter_9 : decode cX2_isBetter 9 = .ok (.istore_n 3, 1) := by decide +kernel
theorem dX2_isBetter_10 : decode cX2_isBetter 10 = .ok (.aload_n 0, 1) := by decide +kernel
theorem dX2_isBetter_11 : decode cX2_isBetter 11 = .ok (.getfield 20, 3) := by decide +kernel
theorem dX2_isBetter_14 : decode cX2_isBetter 14 = .ok (.iload_n 2, 1) := by decide +kernel
theorem dX2_isBetter_15 : decode cX2_isBetter 15 = .ok (.iconst 3, 1) := by decide +kernel
theorem dX2_isBetter_16 : decode cX2_isBetter 16 = .ok (.invokevirtual 38, 3) := by decide +kernel
theorem dX2_isBetter_19 : decode cX2_isBetter 19 = .ok (.istore 4, 2) := by decide +kernel
theorem dX2_isBetter_21 : decode cX2_isBetter 21 = .ok (.iload_n 3, 1) := by decide +kernel
theorem dX2_isBetter_22 : decode cX2_isBetter 22 = .ok (.ifCond .le 55, 3) := by decide +kernel
theorem dX2_isBetter_25 : decode cX2_isBetter 25 = .ok (.iload 4, 2) := by decide +kernel
theorem dX2_isBetter_27 : decode cX2_isBetter 27 = .ok (.ifCond .le 50, 3) := by decide +kernel
theorem dX2_isBetter_30 : decode cX2_isBetter 30 = .ok (.aload_n 0, 1) := by decide +kernel
theorem dX2_isBetter_31 : decode cX2_isBetter 31 = .ok (.getfield 20, 3) := by decide +kernel
theorem dX2_isBetter_34 : decode cX2_isBetter 34 = .ok (.iload_n 1, 1) := by decide +kernel
theorem dX2_isBetter_35 : decode cX2_isBetter 35 = .ok (.iconst 4, 1) := by decide +kernel
theorem dX2_isBetter_36 : decode cX2_isBetter 36 = .ok (.invokevirtual 38, 3) := by decide +kernel
theorem dX2_isBetter_39 : decode cX2_isBetter 39 = .ok (.iload 4, 2) := by decide +kernel
theorem dX2_isBetter_41 : decode cX2_isBetter 41 = .ok (.imul, 1) := by decide +kernel
theorem dX2_isBetter_42 : decode cX2_isBetter 42 = .ok (.istore 5, 2) := by decide +kernel
theorem dX2_isBetter_44 : decode cX2_isBetter 44 = .ok (.aload_n 0, 1) := by decide +kernel
theorem dX2_isBetter_45 : decode cX2_isBetter 45 = .ok (.getfield 20, 3) := by decide +kernel
theorem dX2_isBetter_48 : decode cX2_isBetter 48 = .ok (.iload_n 2, 1) := by decide +kernel
theorem dX2_isBetter_49 : decode cX2_isBetter 49 = .ok (.iconst 4, 1) := by decide +kernel
theorem dX2_isBetter_50 : decode cX2_isBetter 50 = .ok (.invokevirtual 38, 3) := by decide +kernel
theorem dX2_isBetter_53 : decode cX2_isBetter 53 = .ok (.iload_n 3, 1) := by decide +kernel
theorem dX2_isBetter_54 : decode cX2_isBetter 54 = .ok (.imul, 1) := by decide +kernel
theorem dX2_isBetter_55 : decode cX2_isBetter 55 = .ok (.istore 6, 2) := by decide +kernel
theorem dX2_isBetter_57 : decode cX2_isBetter 57 = .ok (.iload 5, 2) := by decide +kernel
theorem dX2_isBetter_59 : decode cX2_isBetter 59 = .ok (.iload 6, 2) := by decide +kernel
theorem dX2_isBetter_61 : decode cX2_isBetter 61 = .ok (.if_icmp .eq 16, 3) := by decide +kernel
theorem dX2_isBetter_64 : decode cX2_isBetter 64 = .ok (.iload 5, 2) := by decide +kernel
theorem dX2_isBetter_66 : decode cX2_isBetter 66 = .ok (.iload 6, 2) := by decide +kernel
theorem dX2_isBetter_68 : decode cX2_isBetter 68 = .ok (.if_icmp .le 7, 3) := by decide +kernel
theorem dX2_isBetter_71 : decode cX2_isBetter 71 = .ok (.iconst 1, 1) := by decide +kernel
theorem dX2_isBetter_72 : decode cX2_isBetter 72 = .ok (.goto 4, 3) := by decide +kernel
theorem dX2_isBetter_75 : decode cX2_isBetter 75 = .ok (.iconst 0, 1) := by decide +kernel
theorem dX2_isBetter_76 : decode cX2_isBetter 76 = .ok (.ireturn, 1) := by decide +kernel
theorem dX2_isBetter_77 : decode cX2_isBetter 77 = .ok (.iload_n 3, 1) := by decide +kernel
theorem dX2_isBetter_78 : decode cX2_isBetter 78 = .ok (.iload 4, 2) := by decide +kernel
theorem dX2_isBetter_80 : decode cX2_isBetter 80 = .ok (.if_icmp .eq 17, 3) := by decide +kernel
theorem dX2_isBetter_83 : decode cX2_isBetter 83 = .ok (.iload_n 3, 1) := by decide +kernel
theorem dX2_isBetter_84 : decode cX2_isBetter 84 = .ok (.iload 4, 2) := by decide +kernel
theorem dX2_isBetter_86 : decode cX2_isBetter 86 = .ok (.if_icmp .le 7, 3) := by decide +kernel
theorem dX2_isBetter_89 : decode cX2_isBetter 89 = .ok (.iconst 1, 1) := by decide +kernel
theorem dX2_isBetter_90 : decode cX2_isBetter 90 = .ok (.goto 17, 3) := by decide +kernel
theorem dX2_isBetter_93 : decode cX2_isBetter 93 = .ok (.iconst 0, 1) := by decide +kernel
theorem dX2_isBetter_94 : decode cX2_isBetter 94 = .ok (.goto 13, 3) := by decide +kernel
theorem dX2_isBetter_97 : decode cX2_isBetter 97 = .ok (.iload_n 1, 1) := by decide +kernel
theorem dX2_isBetter_98 : decode cX2_isBetter 98 = .ok (.iload_n 2, 1) := by decide +kernel
theorem dX2_isBetter_99 : decode cX2_isBetter 99 = .ok (.if_icmp .ge 7, 3) := by decide +kernel
theorem dX2_isBetter_102 : decode cX2_isBetter 102 = .ok (.iconst 1, 1) := by decide +kernel
theorem dX2_isBetter_103 : decode cX2_isBetter 103 = .ok (.goto 4, 3) := by decide +kernel
theorem dX2_isBetter_106 : decode cX2_isBetter 106 = .ok (.iconst 0, 1) := by decide +kernel
theorem dX2_isBetter_107 : decode cX2_isBetter 107 = .ok (.ireturn, 1) := by decide +kernel
def f_X2_isBetter_b77 (σ : Sg)    (v1 v2 v3 v4 : Int32) : Option (Int32) := if v3 = v4 then (if v2 ≤ v1 then (some (0 : Int32)) else (some (1 : Int32))) else (if v3 ≤ v4 then (some (0 : Int32)) else (some (1 : Int32)))
def f_X2_isBetter (σ : Sg)  (p1 p2 : Int32) : Option (Int32) := (f_X3_cell σ 1 p1 (3 : Int32)).bind fun r1 => (f_X3_cell σ 1 p2 (3 : Int32)).bind fun r2 => if r1 ≤ 0 then (f_X2_isBetter_b77 σ p1 p2 r1 r2) else (if r2 ≤ 0 then (f_X2_isBetter_b77 σ p1 p2 r1 r2) else ((f_X3_cell σ 1 p1 (4 : Int32)).bind fun r8 => lt (r8 * r2) fun x9 => (f_X3_cell σ 1 p2 (4 : Int32)).bind fun r10 => lt (r10 * r1) fun x11 => if x9 = x11 then (f_X2_isBetter_b77 σ p1 p2 r1 r2) else (if x9 ≤ x11 then (some (0 : Int32)) else (some (1 : Int32)))))
set_option maxHeartbeats 4000000 in
set_option maxRecDepth 100000 in
theorem L_X2_isBetter_b77 {Γ : Cx} (G : va_G) (cls : Cls) (ad : Nat → Nat) (hi : inj 49 ad) (hC : CX Γ (YX G cls ad) cX2_isBetter RX2 7 (some .boolean) 2 44) (hz0 : Γ.2.2.2.2.2.1 = 0) (hz1 : Γ.2.2.2.2.2.2 = 0) (σ : Sg)     (v1 v2 v3 v4 : Int32) : WX Γ (YX G cls ad) (qf Γ (YX G cls ad) (fiP σ)) 7 77 [(1, .int v1), (2, .int v2), (3, .int v3), (4, .int v4)] [] σ (f_X2_isBetter_b77 σ   v1 v2 v3 v4) := by
  unfold f_X2_isBetter_b77
  refine X_iload_n hC 2 rfl dX2_isBetter_77 ?_
  refine X_iload hC 3 rfl dX2_isBetter_78 ?_
  refine X_icmp_eq hC 97 dX2_isBetter_80 (by decide) (fun h4 => ?_) (fun h4 => ?_)
  · refine X_iload_n hC 0 rfl dX2_isBetter_97 ?_
    refine X_iload_n hC 1 rfl dX2_isBetter_98 ?_
    refine X_icmp_ge hC 106 dX2_isBetter_99 (by decide) (fun h5 => ?_) (fun h5 => ?_)
    · refine X_iconst (v := 0) hC (by decide) dX2_isBetter_106 ?_
      exact X_zret hC hz0 hz1 rfl dX2_isBetter_107 rfl
    · refine X_iconst (v := 1) hC (by decide) dX2_isBetter_102 ?_
      refine X_goto hC 107 dX2_isBetter_103 (by decide) ?_
      exact X_zret hC hz0 hz1 rfl dX2_isBetter_107 rfl
  · refine X_iload_n hC 2 rfl dX2_isBetter_83 ?_
    refine X_iload hC 3 rfl dX2_isBetter_84 ?_
    refine X_icmp_le hC 93 dX2_isBetter_86 (by decide) (fun h6 => ?_) (fun h6 => ?_)
    · refine X_iconst (v := 0) hC (by decide) dX2_isBetter_93 ?_
      refine X_goto hC 107 dX2_isBetter_94 (by decide) ?_
      exact X_zret hC hz0 hz1 rfl dX2_isBetter_107 rfl
    · refine X_iconst (v := 1) hC (by decide) dX2_isBetter_89 ?_
      refine X_goto hC 107 dX2_isBetter_90 (by decide) ?_
      exact X_zret hC hz0 hz1 rfl dX2_isBetter_107 rfl
theorem okm_X2_isBetter : okm yX2_isBetter 2 = true := by decide +kernel
set_option maxHeartbeats 4000000 in
set_option maxRecDepth 100000 in
theorem c_X2_isBetter (l : Launch) (G : va_G) (cls : Cls) (ad : Nat → Nat) (hi : inj 49 ad) (σ : Sg)   (p1 p2 : Int32) : MT l (YX G cls ad) yX2_isBetter (.code yX2_isBetter cX2_isBetter 7 (some .boolean) :: gw) 2 44 [.ref (ad 19), .int p1, .int p2] (fiP σ) σ (f_X2_isBetter σ  p1 p2) := by
  refine MT.of (own := RX2) (by decide) (YX_D hi) rfl (Nat.le_of_ble_eq_true rfl) fun Γ _ hz0 hz1 hC => ?_
  show WX Γ (YX G cls ad) (qf Γ (YX G cls ad) (fiP σ)) 7 0 [(0, .ref (ad 19)), (1, .int p1), (2, .int p2)] [] σ (f_X2_isBetter σ  p1 p2)
  unfold f_X2_isBetter
  refine X_aload_n hC 0 rfl dX2_isBetter_0 ?_
  refine X_getf (C := RX2) (T := TX2) (N := 3) (ci := 2) hC 1 (wX (k := 19) (by omega) cX_now) rfl hinX2 (by decide) tw_48 rfl rfl dX2_isBetter_1 ?_
  refine X_iload_n hC 1 rfl dX2_isBetter_4 ?_
  refine X_iconst (v := 3) hC (by decide) dX2_isBetter_5 ?_
  refine X_callP (C := RX3) (T := TX3) (N := 4) (ci := 3) (rest := []) hC (c_X3_cell _ G cls ad hi σ 1 (by omega) p1 (3 : Int32)) (gV tw_132 tw_133 tw_134 tw_3 tw_135) rfl (wX (k := 1) (by omega) (cX_tab (by omega))) rfl rfl okm_X3_cell (by decide) dX2_isBetter_6 rfl (Nat.le_of_ble_eq_true rfl) (fun r1 => ?_)
  refine X_istore_n (ls' := [(3, .int r1), (0, .ref (ad 19)), (1, .int p1), (2, .int p2)]) hC dX2_isBetter_9 (by decide) rfl ?_
  refine X_aload_n hC 1 rfl dX2_isBetter_10 ?_
  refine X_getf (C := RX2) (T := TX2) (N := 3) (ci := 2) hC 1 (wX (k := 19) (by omega) cX_now) rfl hinX2 (by decide) tw_48 rfl rfl dX2_isBetter_11 ?_
  refine X_iload_n hC 3 rfl dX2_isBetter_14 ?_
  refine X_iconst (v := 3) hC (by decide) dX2_isBetter_15 ?_
  refine X_callP (C := RX3) (T := TX3) (N := 4) (ci := 3) (rest := []) hC (c_X3_cell _ G cls ad hi σ 1 (by omega) p2 (3 : Int32)) (gV tw_132 tw_133 tw_134 tw_3 tw_135) rfl (wX (k := 1) (by omega) (cX_tab (by omega))) rfl rfl okm_X3_cell (by decide) dX2_isBetter_16 rfl (Nat.le_of_ble_eq_true rfl) (fun r2 => ?_)
  refine X_istore (ls' := [(4, .int r2), (3, .int r1), (0, .ref (ad 19)), (1, .int p1), (2, .int p2)]) hC dX2_isBetter_19 (by decide) rfl ?_
  refine X_iload_n hC 1 rfl dX2_isBetter_21 ?_
  refine X_if_le hC 77 dX2_isBetter_22 (by decide) (fun h3 => ?_) (fun h3 => ?_)
  · exact X_sub [3, 4, 1, 0] rfl (L_X2_isBetter_b77 G cls ad hi hC hz0 hz1 σ p1 p2 r1 r2)
  · refine X_iload hC 0 rfl dX2_isBetter_25 ?_
    refine X_if_le hC 77 dX2_isBetter_27 (by decide) (fun h7 => ?_) (fun h7 => ?_)
    · exact X_sub [3, 4, 1, 0] rfl (L_X2_isBetter_b77 G cls ad hi hC hz0 hz1 σ p1 p2 r1 r2)
    · refine X_aload_n hC 2 rfl dX2_isBetter_30 ?_
      refine X_getf (C := RX2) (T := TX2) (N := 3) (ci := 2) hC 1 (wX (k := 19) (by omega) cX_now) rfl hinX2 (by decide) tw_48 rfl rfl dX2_isBetter_31 ?_
      refine X_iload_n hC 3 rfl dX2_isBetter_34 ?_
      refine X_iconst (v := 4) hC (by decide) dX2_isBetter_35 ?_
      refine X_callP (C := RX3) (T := TX3) (N := 4) (ci := 3) (rest := []) hC (c_X3_cell _ G cls ad hi σ 1 (by omega) p1 (4 : Int32)) (gV tw_132 tw_133 tw_134 tw_3 tw_135) rfl (wX (k := 1) (by omega) (cX_tab (by omega))) rfl rfl okm_X3_cell (by decide) dX2_isBetter_36 rfl (Nat.le_of_ble_eq_true rfl) (fun r8 => ?_)
      refine X_iload hC 0 rfl dX2_isBetter_39 ?_
      refine X_imul hC dX2_isBetter_41 ?_
      refine X_lt (fun x9 => ?_)
      refine X_istore (ls' := [(5, .int x9), (4, .int r2), (3, .int r1), (0, .ref (ad 19)), (1, .int p1), (2, .int p2)]) hC dX2_isBetter_42 (by decide) rfl ?_
      refine X_aload_n hC 3 rfl dX2_isBetter_44 ?_
      refine X_getf (C := RX2) (T := TX2) (N := 3) (ci := 2) hC 1 (wX (k := 19) (by omega) cX_now) rfl hinX2 (by decide) tw_48 rfl rfl dX2_isBetter_45 ?_
      refine X_iload_n hC 5 rfl dX2_isBetter_48 ?_
      refine X_iconst (v := 4) hC (by decide) dX2_isBetter_49 ?_
      refine X_callP (C := RX3) (T := TX3) (N := 4) (ci := 3) (rest := []) hC (c_X3_cell _ G cls ad hi σ 1 (by omega) p2 (4 : Int32)) (gV tw_132 tw_133 tw_134 tw_3 tw_135) rfl (wX (k := 1) (by omega) (cX_tab (by omega))) rfl rfl okm_X3_cell (by decide) dX2_isBetter_50 rfl (Nat.le_of_ble_eq_true rfl) (fun r10 => ?_)
      refine X_iload_n hC 2 rfl dX2_isBetter_53 ?_
      refine X_imul hC dX2_isBetter_54 ?_
      refine X_lt (fun x11 => ?_)
      refine X_istore (ls' := [(6, .int x11), (5, .int x9), (4, .int r2), (3, .int r1), (0, .ref (ad 19)), (1, .int p1), (2, .int p2)]) hC dX2_isBetter_55 (by decide) rfl ?_
      refine X_iload hC 1 rfl dX2_isBetter_57 ?_
      refine X_iload hC 0 rfl dX2_isBetter_59 ?_
      refine X_icmp_eq hC 77 dX2_isBetter_61 (by decide) (fun h12 => ?_) (fun h12 => ?_)
      · exact X_sub [5, 6, 3, 2] rfl (L_X2_isBetter_b77 G cls ad hi hC hz0 hz1 σ p1 p2 r1 r2)
      · refine X_iload hC 1 rfl dX2_isBetter_64 ?_
        refine X_iload hC 0 rfl dX2_isBetter_66 ?_
        refine X_icmp_le hC 75 dX2_isBetter_68 (by decide) (fun h13 => ?_) (fun h13 => ?_)
        · refine X_iconst (v := 0) hC (by decide) dX2_isBetter_75 ?_
          exact X_zret hC hz0 hz1 rfl dX2_isBetter_76 rfl
        · refine X_iconst (v := 1) hC (by decide) dX2_isBetter_71 ?_
          refine X_goto hC 76 dX2_isBetter_72 (by decide) ?_
          exact X_zret hC hz0 hz1 rfl dX2_isBetter_76 rfl
theorem dX2_rankOf_0 : decode cX2_rankOf 0 = .ok (.iconst 0, 1) := by decide +kernel
theorem dX2_rankOf_1 : decode cX2_rankOf 1 = .ok (.istore_n 2, 1) := by decide +kernel
theorem dX2_rankOf_2 : decode cX2_rankOf 2 = .ok (.iconst 0, 1) := by decide +kernel
theorem dX2_rankOf_3 : decode cX2_rankOf 3 = .ok (.istore_n 3, 1) := by decide +kernel
theorem dX2_rankOf_4 : decode cX2_rankOf 4 = .ok (.iload_n 3, 1) := by decide +kernel
theorem dX2_rankOf_5 : decode cX2_rankOf 5 = .ok (.aload_n 0, 1) := by decide +kernel
theorem dX2_rankOf_6 : decode cX2_rankOf 6 = .ok (.getfield 20, 3) := by decide +kernel
theorem dX2_rankOf_9 : decode cX2_rankOf 9 = .ok (.invokevirtual 46, 3) := by decide +kernel
theorem dX2_rankOf_12 : decode cX2_rankOf 12 = .ok (.if_icmp .ge 21, 3) := by decide +kernel
theorem dX2_rankOf_15 : decode cX2_rankOf 15 = .ok (.aload_n 0, 1) := by decide +kernel
theorem dX2_rankOf_16 : decode cX2_rankOf 16 = .ok (.iload_n 3, 1) := by decide +kernel
theorem dX2_rankOf_17 : decode cX2_rankOf 17 = .ok (.iload_n 1, 1) := by decide +kernel
theorem dX2_rankOf_18 : decode cX2_rankOf 18 = .ok (.invokevirtual 115, 3) := by decide +kernel
theorem dX2_rankOf_21 : decode cX2_rankOf 21 = .ok (.ifCond .eq 6, 3) := by decide +kernel
theorem dX2_rankOf_24 : decode cX2_rankOf 24 = .ok (.iinc 2 1, 3) := by decide +kernel
theorem dX2_rankOf_27 : decode cX2_rankOf 27 = .ok (.iinc 3 1, 3) := by decide +kernel
theorem dX2_rankOf_30 : decode cX2_rankOf 30 = .ok (.goto (-26), 3) := by decide +kernel
theorem dX2_rankOf_33 : decode cX2_rankOf 33 = .ok (.iload_n 2, 1) := by decide +kernel
theorem dX2_rankOf_34 : decode cX2_rankOf 34 = .ok (.ireturn, 1) := by decide +kernel
def f_X2_rankOf_b27 (σ : Sg)  (K4 : Int32 → Int32 → Int32 → Option (Int32))  (v1 v2 v3 : Int32) : Option (Int32) := lt (v3 + (1 : Int32)) fun x5 => K4 v1 v2 x5
def f_X2_rankOf_b4 (σ : Sg)   : Nat → Int32 → Int32 → Int32 → Option (Int32)
  | 0, _, _, _ => none
  | n + 1, v1, v2, v3 => (f_X3_size σ 1).bind fun r1 => if r1 ≤ v3 then (some v2) else ((f_X2_isBetter σ v3 v1).bind fun r3 => if r3 = 0 then (f_X2_rankOf_b27 σ (f_X2_rankOf_b4 σ   n) v1 v2 v3) else (lt (v2 + (1 : Int32)) fun x6 => f_X2_rankOf_b27 σ (f_X2_rankOf_b4 σ   n) v1 x6 v3))
def f_X2_rankOf (σ : Sg)  (p1 : Int32) : Option (Int32) := f_X2_rankOf_b4 σ fuel p1 (0 : Int32) (0 : Int32)
set_option maxHeartbeats 4000000 in
set_option maxRecDepth 100000 in
theorem L_X2_rankOf_b27 {Γ : Cx} (G : va_G) (cls : Cls) (ad : Nat → Nat) (hi : inj 49 ad) (hC : CX Γ (YX G cls ad) cX2_rankOf RX2 4 (some .int) 3 70) (hz0 : Γ.2.2.2.2.2.1 = 0) (hz1 : Γ.2.2.2.2.2.2 = 0) (σ : Sg)   (K4 : Int32 → Int32 → Int32 → Option (Int32)) (hK4 : ∀ (v1 v2 v3 : Int32), WX Γ (YX G cls ad) (qf Γ (YX G cls ad) (fiP σ)) 4 4 [(0, .ref (ad 19)), (1, .int v1), (2, .int v2), (3, .int v3)] [] σ (K4 v1 v2 v3))  (v1 v2 v3 : Int32) : WX Γ (YX G cls ad) (qf Γ (YX G cls ad) (fiP σ)) 4 27 [(0, .ref (ad 19)), (1, .int v1), (2, .int v2), (3, .int v3)] [] σ (f_X2_rankOf_b27 σ  K4 v1 v2 v3) := by
  unfold f_X2_rankOf_b27
  refine X_iinc (ls' := fun x5 => [(3, .int x5), (0, .ref (ad 19)), (1, .int v1), (2, .int v2)]) hC 3 dX2_rankOf_27 rfl (by decide) (by decide) (fun _ => rfl) (fun x5 => ?_)
  refine X_goto hC 4 dX2_rankOf_30 (by decide) ?_
  exact X_sub [1, 2, 3, 0] rfl (hK4 v1 v2 x5)
set_option maxHeartbeats 4000000 in
set_option maxRecDepth 100000 in
theorem L_X2_rankOf_b4 {Γ : Cx} (G : va_G) (cls : Cls) (ad : Nat → Nat) (hi : inj 49 ad) (hC : CX Γ (YX G cls ad) cX2_rankOf RX2 4 (some .int) 3 70) (hz0 : Γ.2.2.2.2.2.1 = 0) (hz1 : Γ.2.2.2.2.2.2 = 0) (σ : Sg)    : ∀ (n : Nat) (v1 v2 v3 : Int32), WX Γ (YX G cls ad) (qf Γ (YX G cls ad) (fiP σ)) 4 4 [(0, .ref (ad 19)), (1, .int v1), (2, .int v2), (3, .int v3)] [] σ (f_X2_rankOf_b4 σ   n v1 v2 v3) := by
  intro n
  induction n with
  | zero => intro v1 v2 v3; exact X_none
  | succ n ih =>
    intro v1 v2 v3
    rw [f_X2_rankOf_b4.eq_2]
    refine X_iload_n hC 3 rfl dX2_rankOf_4 ?_
    refine X_aload_n hC 0 rfl dX2_rankOf_5 ?_
    refine X_getf (C := RX2) (T := TX2) (N := 3) (ci := 2) hC 1 (wX (k := 19) (by omega) cX_now) rfl hinX2 (by decide) tw_48 rfl rfl dX2_rankOf_6 ?_
    refine X_callP (C := RX3) (T := TX3) (N := 4) (ci := 3) (rest := [.int v3]) hC (c_X3_size _ G cls ad hi σ 1 (by omega)) (gV tw_124 tw_125 tw_126 tw_3 tw_127) rfl (wX (k := 1) (by omega) (cX_tab (by omega))) rfl rfl okm_X3_size (by decide) dX2_rankOf_9 rfl (Nat.le_of_ble_eq_true rfl) (fun r1 => ?_)
    refine X_icmp_ge hC 33 dX2_rankOf_12 (by decide) (fun h2 => ?_) (fun h2 => ?_)
    · refine X_iload_n hC 2 rfl dX2_rankOf_33 ?_
      exact X_iret hC hz0 hz1 dX2_rankOf_34 rfl
    · refine X_aload_n hC 0 rfl dX2_rankOf_15 ?_
      refine X_iload_n hC 3 rfl dX2_rankOf_16 ?_
      refine X_iload_n hC 1 rfl dX2_rankOf_17 ?_
      refine X_callP (C := RX2) (T := TX2) (N := 3) (ci := 2) (rest := []) hC (c_X2_isBetter _ G cls ad hi σ v3 v1) (gV tw_334 tw_335 tw_336 tw_2 tw_337) rfl (wX (k := 19) (by omega) cX_now) rfl rfl okm_X2_isBetter (by decide) dX2_rankOf_18 rfl (Nat.le_of_ble_eq_true rfl) (fun r3 => ?_)
      refine X_if_eq hC 27 dX2_rankOf_21 (by decide) (fun h4 => ?_) (fun h4 => ?_)
      · exact (L_X2_rankOf_b27 G cls ad hi hC hz0 hz1 σ (f_X2_rankOf_b4 σ   n) ih v1 v2 v3)
      · refine X_iinc (ls' := fun x6 => [(2, .int x6), (0, .ref (ad 19)), (1, .int v1), (3, .int v3)]) hC 2 dX2_rankOf_24 rfl (by decide) (by decide) (fun _ => rfl) (fun x6 => ?_)
        exact X_sub [1, 2, 0, 3] rfl (L_X2_rankOf_b27 G cls ad hi hC hz0 hz1 σ (f_X2_rankOf_b4 σ   n) ih v1 x6 v3)
theorem okm_X2_rankOf : okm yX2_rankOf 1 = true := by decide +kernel
set_option maxHeartbeats 4000000 in
set_option maxRecDepth 100000 in
theorem c_X2_rankOf (l : Launch) (G : va_G) (cls : Cls) (ad : Nat → Nat) (hi : inj 49 ad) (σ : Sg)   (p1 : Int32) : MT l (YX G cls ad) yX2_rankOf (.code yX2_rankOf cX2_rankOf 4 (some .int) :: gw) 3 70 [.ref (ad 19), .int p1] (fiP σ) σ (f_X2_rankOf σ  p1) := by
  refine MT.of (own := RX2) (by decide) (YX_D hi) rfl (Nat.le_of_ble_eq_true rfl) fun Γ _ hz0 hz1 hC => ?_
  show WX Γ (YX G cls ad) (qf Γ (YX G cls ad) (fiP σ)) 4 0 [(0, .ref (ad 19)), (1, .int p1)] [] σ (f_X2_rankOf σ  p1)
  unfold f_X2_rankOf
  refine X_iconst (v := 0) hC (by decide) dX2_rankOf_0 ?_
  refine X_istore_n (ls' := [(2, .int (0 : Int32)), (0, .ref (ad 19)), (1, .int p1)]) hC dX2_rankOf_1 (by decide) rfl ?_
  refine X_iconst (v := 0) hC (by decide) dX2_rankOf_2 ?_
  refine X_istore_n (ls' := [(3, .int (0 : Int32)), (2, .int (0 : Int32)), (0, .ref (ad 19)), (1, .int p1)]) hC dX2_rankOf_3 (by decide) rfl ?_
  exact X_sub [2, 3, 1, 0] rfl (L_X2_rankOf_b4 G cls ad hi hC hz0 hz1 σ fuel p1 (0 : Int32) (0 : Int32))
theorem dX2_lowestMark_0 : decode cX2_lowestMark 0 = .ok (.ldc 89, 2) := by decide +kernel
theorem dX2_lowestMark_2 : decode cX2_lowestMark 2 = .ok (.istore_n 2, 1) := by decide +kernel
theorem dX2_lowestMark_3 : decode cX2_lowestMark 3 = .ok (.iconst 0, 1) := by decide +kernel
theorem dX2_lowestMark_4 : decode cX2_lowestMark 4 = .ok (.istore_n 3, 1) := by decide +kernel
theorem dX2_lowestMark_5 : decode cX2_lowestMark 5 = .ok (.iload_n 3, 1) := by decide +kernel
theorem dX2_lowestMark_6 : decode cX2_lowestMark 6 = .ok (.aload_n 0, 1) := by decide +kernel
theorem dX2_lowestMark_7 : decode cX2_lowestMark 7 = .ok (.getfield 23, 3) := by decide +kernel
theorem dX2_lowestMark_10 : decode cX2_lowestMark 10 = .ok (.invokevirtual 46, 3) := by decide +kernel
theorem dX2_lowestMark_13 : decode cX2_lowestMark 13 = .ok (.if_icmp .ge 51, 3) := by decide +kernel
theorem dX2_lowestMark_16 : decode cX2_lowestMark 16 = .ok (.aload_n 0, 1) := by decide +kernel
theorem dX2_lowestMark_17 : decode cX2_lowestMark 17 = .ok (.getfield 23, 3) := by decide +kernel
theorem dX2_lowestMark_20 : decode cX2_lowestMark 20 = .ok (.iload_n 3, 1) := by decide +kernel
theorem dX2_lowestMark_21 : decode cX2_lowestMark 21 = .ok (.iconst 0, 1) := by decide +kernel
theorem dX2_lowestMark_22 : decode cX2_lowestMark 22 = .ok (.invokevirtual 38, 3) := by decide +kernel
theorem dX2_lowestMark_25 : decode cX2_lowestMark 25 = .ok (.iload_n 1, 1) := by decide +kernel
theorem dX2_lowestMark_26 : decode cX2_lowestMark 26 = .ok (.if_icmp .ne 32, 3) := by decide +kernel
theorem dX2_lowestMark_29 : decode cX2_lowestMark 29 = .ok (.aload_n 0, 1) := by decide +kernel
theorem dX2_lowestMark_30 : decode cX2_lowestMark 30 = .ok (.getfield 23, 3) := by decide +kernel
theorem dX2_lowestMark_33 : decode cX2_lowestMark 33 = .ok (.iload_n 3, 1) := by decide +kernel
theorem dX2_lowestMark_34 : decode cX2_lowestMark 34 = .ok (.iconst 4, 1) := by decide +kernel
theorem dX2_lowestMark_35 : decode cX2_lowestMark 35 = .ok (.invokevirtual 38, 3) := by decide +kernel
theorem dX2_lowestMark_38 : decode cX2_lowestMark 38 = .ok (.istore 4, 2) := by decide +kernel
theorem dX2_lowestMark_40 : decode cX2_lowestMark 40 = .ok (.iload_n 2, 1) := by decide +kernel
theorem dX2_lowestMark_41 : decode cX2_lowestMark 41 = .ok (.ldc 89, 2) := by decide +kernel
theorem dX2_lowestMark_43 : decode cX2_lowestMark 43 = .ok (.if_icmp .ne 8, 3) := by decide +kernel
theorem dX2_lowestMark_46 : decode cX2_lowestMark 46 = .ok (.iload 4, 2) := by decide +kernel
theorem dX2_lowestMark_48 : decode cX2_lowestMark 48 = .ok (.goto 9, 3) := by decide +kernel
theorem dX2_lowestMark_51 : decode cX2_lowestMark 51 = .ok (.iload_n 2, 1) := by decide +kernel
theorem dX2_lowestMark_52 : decode cX2_lowestMark 52 = .ok (.iload 4, 2) := by decide +kernel
theorem dX2_lowestMark_54 : decode cX2_lowestMark 54 = .ok (.invokestatic 118, 3) := by decide +kernel
theorem dX2_lowestMark_57 : decode cX2_lowestMark 57 = .ok (.istore_n 2, 1) := by decide +kernel
theorem dX2_lowestMark_58 : decode cX2_lowestMark 58 = .ok (.iinc 3 1, 3) := by decide +kernel
theorem dX2_lowestMark_61 : decode cX2_lowestMark 61 = .ok (.goto (-56), 3) := by decide +kernel
theorem dX2_lowestMark_64 : decode cX2_lowestMark 64 = .ok (.iload_n 2, 1) := by decide +kernel
theorem dX2_lowestMark_65 : decode cX2_lowestMark 65 = .ok (.ireturn, 1) := by decide +kernel
def f_X2_lowestMark_b58 (σ : Sg)  (K5 : Int32 → Int32 → Int32 → Option (Int32))  (v1 v2 v3 : Int32) : Option (Int32) := lt (v3 + (1 : Int32)) fun x5 => K5 v1 v2 x5
def f_X2_lowestMark_b57 (σ : Sg)  (K5 : Int32 → Int32 → Int32 → Option (Int32))  (v1 v3 w0 : Int32) : Option (Int32) := f_X2_lowestMark_b58 σ K5 v1 w0 v3
def f_X2_lowestMark_b5 (σ : Sg)   : Nat → Int32 → Int32 → Int32 → Option (Int32)
  | 0, _, _, _ => none
  | n + 1, v1, v2, v3 => (f_X3_size σ 2).bind fun r1 => if r1 ≤ v3 then (some v2) else ((f_X3_cell σ 2 v3 (0 : Int32)).bind fun r3 => if r3 = v1 then ((f_X3_cell σ 2 v3 (4 : Int32)).bind fun r6 => if v2 = (-10000005 : Int32) then (f_X2_lowestMark_b57 σ (f_X2_lowestMark_b5 σ   n) v1 v3 r6) else (lt (if r6 < v2 then r6 else v2) fun x8 => f_X2_lowestMark_b57 σ (f_X2_lowestMark_b5 σ   n) v1 v3 x8)) else (f_X2_lowestMark_b58 σ (f_X2_lowestMark_b5 σ   n) v1 v2 v3))
def f_X2_lowestMark (σ : Sg)  (p1 : Int32) : Option (Int32) := f_X2_lowestMark_b5 σ fuel p1 (-10000005 : Int32) (0 : Int32)
set_option maxHeartbeats 4000000 in
set_option maxRecDepth 100000 in
theorem L_X2_lowestMark_b58 {Γ : Cx} (G : va_G) (cls : Cls) (ad : Nat → Nat) (hi : inj 49 ad) (hC : CX Γ (YX G cls ad) cX2_lowestMark RX2 5 (some .int) 2 44) (hz0 : Γ.2.2.2.2.2.1 = 0) (hz1 : Γ.2.2.2.2.2.2 = 0) (σ : Sg)   (K5 : Int32 → Int32 → Int32 → Option (Int32)) (hK5 : ∀ (v1 v2 v3 : Int32), WX Γ (YX G cls ad) (qf Γ (YX G cls ad) (fiP σ)) 5 5 [(0, .ref (ad 19)), (1, .int v1), (2, .int v2), (3, .int v3)] [] σ (K5 v1 v2 v3))  (v1 v2 v3 : Int32) : WX Γ (YX G cls ad) (qf Γ (YX G cls ad) (fiP σ)) 5 58 [(0, .ref (ad 19)), (1, .int v1), (2, .int v2), (3, .int v3)] [] σ (f_X2_lowestMark_b58 σ  K5 v1 v2 v3) := by
  unfold f_X2_lowestMark_b58
  refine X_iinc (ls' := fun x5 => [(3, .int x5), (0, .ref (ad 19)), (1, .int v1), (2, .int v2)]) hC 3 dX2_lowestMark_58 rfl (by decide) (by decide) (fun _ => rfl) (fun x5 => ?_)
  refine X_goto hC 5 dX2_lowestMark_61 (by decide) ?_
  exact X_sub [1, 2, 3, 0] rfl (hK5 v1 v2 x5)
set_option maxHeartbeats 4000000 in
set_option maxRecDepth 100000 in
theorem L_X2_lowestMark_b57 {Γ : Cx} (G : va_G) (cls : Cls) (ad : Nat → Nat) (hi : inj 49 ad) (hC : CX Γ (YX G cls ad) cX2_lowestMark RX2 5 (some .int) 2 44) (hz0 : Γ.2.2.2.2.2.1 = 0) (hz1 : Γ.2.2.2.2.2.2 = 0) (σ : Sg)   (K5 : Int32 → Int32 → Int32 → Option (Int32)) (hK5 : ∀ (v1 v2 v3 : Int32), WX Γ (YX G cls ad) (qf Γ (YX G cls ad) (fiP σ)) 5 5 [(0, .ref (ad 19)), (1, .int v1), (2, .int v2), (3, .int v3)] [] σ (K5 v1 v2 v3))  (v1 v3 w0 : Int32) : WX Γ (YX G cls ad) (qf Γ (YX G cls ad) (fiP σ)) 5 57 [(0, .ref (ad 19)), (1, .int v1), (3, .int v3)] [.int w0] σ (f_X2_lowestMark_b57 σ  K5 v1 v3 w0) := by
  unfold f_X2_lowestMark_b57
  refine X_istore_n (ls' := [(2, .int w0), (0, .ref (ad 19)), (1, .int v1), (3, .int v3)]) hC dX2_lowestMark_57 (by decide) rfl ?_
  exact X_sub [1, 2, 0, 3] rfl (L_X2_lowestMark_b58 G cls ad hi hC hz0 hz1 σ K5 hK5 v1 w0 v3)
set_option maxHeartbeats 4000000 in
set_option maxRecDepth 100000 in
theorem L_X2_lowestMark_b5 {Γ : Cx} (G : va_G) (cls : Cls) (ad : Nat → Nat) (hi : inj 49 ad) (hC : CX Γ (YX G cls ad) cX2_lowestMark RX2 5 (some .int) 2 44) (hz0 : Γ.2.2.2.2.2.1 = 0) (hz1 : Γ.2.2.2.2.2.2 = 0) (σ : Sg)    : ∀ (n : Nat) (v1 v2 v3 : Int32), WX Γ (YX G cls ad) (qf Γ (YX G cls ad) (fiP σ)) 5 5 [(0, .ref (ad 19)), (1, .int v1), (2, .int v2), (3, .int v3)] [] σ (f_X2_lowestMark_b5 σ   n v1 v2 v3) := by
  intro n
  induction n with
  | zero => intro v1 v2 v3; exact X_none
  | succ n ih =>
    intro v1 v2 v3
    rw [f_X2_lowestMark_b5.eq_2]
    refine X_iload_n hC 3 rfl dX2_lowestMark_5 ?_
    refine X_aload_n hC 0 rfl dX2_lowestMark_6 ?_
    refine X_getf (C := RX2) (T := TX2) (N := 3) (ci := 2) hC 2 (wX (k := 19) (by omega) cX_now) rfl hinX2 (by decide) tw_50 rfl rfl dX2_lowestMark_7 ?_
    refine X_callP (C := RX3) (T := TX3) (N := 4) (ci := 3) (rest := [.int v3]) hC (c_X3_size _ G cls ad hi σ 2 (by omega)) (gV tw_124 tw_125 tw_126 tw_3 tw_127) rfl (wX (k := 2) (by omega) (cX_tab (by omega))) rfl rfl okm_X3_size (by decide) dX2_lowestMark_10 rfl (Nat.le_of_ble_eq_true rfl) (fun r1 => ?_)
    refine X_icmp_ge hC 64 dX2_lowestMark_13 (by decide) (fun h2 => ?_) (fun h2 => ?_)
    · refine X_iload_n hC 2 rfl dX2_lowestMark_64 ?_
      exact X_iret hC hz0 hz1 dX2_lowestMark_65 rfl
    · refine X_aload_n hC 0 rfl dX2_lowestMark_16 ?_
      refine X_getf (C := RX2) (T := TX2) (N := 3) (ci := 2) hC 2 (wX (k := 19) (by omega) cX_now) rfl hinX2 (by decide) tw_50 rfl rfl dX2_lowestMark_17 ?_
      refine X_iload_n hC 3 rfl dX2_lowestMark_20 ?_
      refine X_iconst (v := 0) hC (by decide) dX2_lowestMark_21 ?_
      refine X_callP (C := RX3) (T := TX3) (N := 4) (ci := 3) (rest := []) hC (c_X3_cell _ G cls ad hi σ 2 (by omega) v3 (0 : Int32)) (gV tw_132 tw_133 tw_134 tw_3 tw_135) rfl (wX (k := 2) (by omega) (cX_tab (by omega))) rfl rfl okm_X3_cell (by decide) dX2_lowestMark_22 rfl (Nat.le_of_ble_eq_true rfl) (fun r3 => ?_)
      refine X_iload_n hC 1 rfl dX2_lowestMark_25 ?_
      refine X_icmp_ne hC 58 dX2_lowestMark_26 (by decide) (fun h4 => ?_) (fun h4 => ?_)
      · exact (L_X2_lowestMark_b58 G cls ad hi hC hz0 hz1 σ (f_X2_lowestMark_b5 σ   n) ih v1 v2 v3)
      · refine X_aload_n hC 0 rfl dX2_lowestMark_29 ?_
        refine X_getf (C := RX2) (T := TX2) (N := 3) (ci := 2) hC 2 (wX (k := 19) (by omega) cX_now) rfl hinX2 (by decide) tw_50 rfl rfl dX2_lowestMark_30 ?_
        refine X_iload_n hC 3 rfl dX2_lowestMark_33 ?_
        refine X_iconst (v := 4) hC (by decide) dX2_lowestMark_34 ?_
        refine X_callP (C := RX3) (T := TX3) (N := 4) (ci := 3) (rest := []) hC (c_X3_cell _ G cls ad hi σ 2 (by omega) v3 (4 : Int32)) (gV tw_132 tw_133 tw_134 tw_3 tw_135) rfl (wX (k := 2) (by omega) (cX_tab (by omega))) rfl rfl okm_X3_cell (by decide) dX2_lowestMark_35 rfl (Nat.le_of_ble_eq_true rfl) (fun r6 => ?_)
        refine X_istore (ls' := [(4, .int r6), (0, .ref (ad 19)), (1, .int v1), (2, .int v2), (3, .int v3)]) hC dX2_lowestMark_38 (by decide) rfl ?_
        refine X_iload_n hC 3 rfl dX2_lowestMark_40 ?_
        refine X_ldc (v := -10000005) hC tw_148 dX2_lowestMark_41 ?_
        refine X_icmp_ne hC 51 dX2_lowestMark_43 (by decide) (fun h7 => ?_) (fun h7 => ?_)
        · refine X_iload_n hC 3 rfl dX2_lowestMark_51 ?_
          refine X_iload hC 0 rfl dX2_lowestMark_52 ?_
          refine X_mmin hC tw_379 tw_167 tw_4 tw_168 (by decide) (Nat.le_of_ble_eq_true rfl) dX2_lowestMark_54 (X_lt fun x8 => ?_)
          exact X_sub [1, 2, 4] rfl (L_X2_lowestMark_b57 G cls ad hi hC hz0 hz1 σ (f_X2_lowestMark_b5 σ   n) ih v1 v3 x8)
        · refine X_iload hC 0 rfl dX2_lowestMark_46 ?_
          refine X_goto hC 57 dX2_lowestMark_48 (by decide) ?_
          exact X_sub [1, 2, 4] rfl (L_X2_lowestMark_b57 G cls ad hi hC hz0 hz1 σ (f_X2_lowestMark_b5 σ   n) ih v1 v3 r6)
theorem okm_X2_lowestMark : okm yX2_lowestMark 1 = true := by decide +kernel
set_option maxHeartbeats 4000000 in
set_option maxRecDepth 100000 in
theorem c_X2_lowestMark (l : Launch) (G : va_G) (cls : Cls) (ad : Nat → Nat) (hi : inj 49 ad) (σ : Sg)   (p1 : Int32) : MT l (YX G cls ad) yX2_lowestMark (.code yX2_lowestMark cX2_lowestMark 5 (some .int) :: gw) 2 44 [.ref (ad 19), .int p1] (fiP σ) σ (f_X2_lowestMark σ  p1) := by
  refine MT.of (own := RX2) (by decide) (YX_D hi) rfl (Nat.le_of_ble_eq_true rfl) fun Γ _ hz0 hz1 hC => ?_
  show WX Γ (YX G cls ad) (qf Γ (YX G cls ad) (fiP σ)) 5 0 [(0, .ref (ad 19)), (1, .int p1)] [] σ (f_X2_lowestMark σ  p1)
  unfold f_X2_lowestMark
  refine X_ldc (v := -10000005) hC tw_148 dX2_lowestMark_0 ?_
  refine X_istore_n (ls' := [(2, .int (-10000005 : Int32)), (0, .ref (ad 19)), (1, .int p1)]) hC dX2_lowestMark_2 (by decide) rfl ?_
  refine X_iconst (v := 0) hC (by decide) dX2_lowestMark_3 ?_
  refine X_istore_n (ls' := [(3, .int (0 : Int32)), (2, .int (-10000005 : Int32)), (0, .ref (ad 19)), (1, .int p1)]) hC dX2_lowestMark_4 (by decide) rfl ?_
  exact X_sub [2, 3, 1, 0] rfl (L_X2_lowestMark_b5 G cls ad hi hC hz0 hz1 σ fuel p1 (-10000005 : Int32) (0 : Int32))
theorem dJ6_bitCount_0f7a4_0 : decode cJ6_bitCount_0f7a4 0 = .ok (.iload_n 0, 1) := by decide +kernel
theorem dJ6_bitCount_0f7a4_1 : decode cJ6_bitCount_0f7a4 1 = .ok (.iload_n 0, 1) := by decide +kernel
theorem dJ6_bitCount_0f7a4_2 : decode cJ6_bitCount_0f7a4 2 = .ok (.iconst 1, 1) := by decide +kernel
theorem dJ6_bitCount_0f7a4_3 : decode cJ6_bitCount_0f7a4 3 = .ok (.iushr, 1) := by decide +kernel
theorem dJ6_bitCount_0f7a4_4 : decode cJ6_bitCount_0f7a4 4 = .ok (.ldc_w 265, 3) := by decide +kernel
theorem dJ6_bitCount_0f7a4_7 : decode cJ6_bitCount_0f7a4 7 = .ok (.iand, 1) := by decide +kernel
theorem dJ6_bitCount_0f7a4_8 : decode cJ6_bitCount_0f7a4 8 = .ok (.isub, 1) := by decide +kernel
theorem dJ6_bitCount_0f7a4_9 : decode cJ6_bitCount_0f7a4 9 = .ok (.istore_n 0, 1) := by decide +kernel
theorem dJ6_bitCount_0f7a4_10 : decode cJ6_bitCount_0f7a4 10 = .ok (.iload_n 0, 1) := by decide +kernel
theorem dJ6_bitCount_0f7a4_11 : decode cJ6_bitCount_0f7a4 11 = .ok (.ldc_w 266, 3) := by decide +kernel
theorem dJ6_bitCount_0f7a4_14 : decode cJ6_bitCount_0f7a4 14 = .ok (.iand, 1) := by decide +kernel
theorem dJ6_bitCount_0f7a4_15 : decode cJ6_bitCount_0f7a4 15 = .ok (.iload_n 0, 1) := by decide +kernel
theorem dJ6_bitCount_0f7a4_16 : decode cJ6_bitCount_0f7a4 16 = .ok (.iconst 2, 1) := by decide +kernel
theorem dJ6_bitCount_0f7a4_17 : decode cJ6_bitCount_0f7a4 17 = .ok (.iushr, 1) := by decide +kernel
theorem dJ6_bitCount_0f7a4_18 : decode cJ6_bitCount_0f7a4 18 = .ok (.ldc_w 266, 3) := by decide +kernel
theorem dJ6_bitCount_0f7a4_21 : decode cJ6_bitCount_0f7a4 21 = .ok (.iand, 1) := by decide +kernel
theorem dJ6_bitCount_0f7a4_22 : decode cJ6_bitCount_0f7a4 22 = .ok (.iadd, 1) := by decide +kernel
theorem dJ6_bitCount_0f7a4_23 : decode cJ6_bitCount_0f7a4 23 = .ok (.istore_n 0, 1) := by decide +kernel
theorem dJ6_bitCount_0f7a4_24 : decode cJ6_bitCount_0f7a4 24 = .ok (.iload_n 0, 1) := by decide +kernel
theorem dJ6_bitCount_0f7a4_25 : decode cJ6_bitCount_0f7a4 25 = .ok (.iload_n 0, 1) := by decide +kernel
theorem dJ6_bitCount_0f7a4_26 : decode cJ6_bitCount_0f7a4 26 = .ok (.iconst 4, 1) := by decide +kernel
theorem dJ6_bitCount_0f7a4_27 : decode cJ6_bitCount_0f7a4 27 = .ok (.iushr, 1) := by decide +kernel
theorem dJ6_bitCount_0f7a4_28 : decode cJ6_bitCount_0f7a4 28 = .ok (.iadd, 1) := by decide +kernel
theorem dJ6_bitCount_0f7a4_29 : decode cJ6_bitCount_0f7a4 29 = .ok (.ldc_w 267, 3) := by decide +kernel
theorem dJ6_bitCount_0f7a4_32 : decode cJ6_bitCount_0f7a4 32 = .ok (.iand, 1) := by decide +kernel
theorem dJ6_bitCount_0f7a4_33 : decode cJ6_bitCount_0f7a4 33 = .ok (.istore_n 0, 1) := by decide +kernel
theorem dJ6_bitCount_0f7a4_34 : decode cJ6_bitCount_0f7a4 34 = .ok (.iload_n 0, 1) := by decide +kernel
theorem dJ6_bitCount_0f7a4_35 : decode cJ6_bitCount_0f7a4 35 = .ok (.iload_n 0, 1) := by decide +kernel
theorem dJ6_bitCount_0f7a4_36 : decode cJ6_bitCount_0f7a4 36 = .ok (.bipush 8, 2) := by decide +kernel
theorem dJ6_bitCount_0f7a4_38 : decode cJ6_bitCount_0f7a4 38 = .ok (.iushr, 1) := by decide +kernel
theorem dJ6_bitCount_0f7a4_39 : decode cJ6_bitCount_0f7a4 39 = .ok (.iadd, 1) := by decide +kernel
theorem dJ6_bitCount_0f7a4_40 : decode cJ6_bitCount_0f7a4 40 = .ok (.istore_n 0, 1) := by decide +kernel
theorem dJ6_bitCount_0f7a4_41 : decode cJ6_bitCount_0f7a4 41 = .ok (.iload_n 0, 1) := by decide +kernel
theorem dJ6_bitCount_0f7a4_42 : decode cJ6_bitCount_0f7a4 42 = .ok (.iload_n 0, 1) := by decide +kernel
theorem dJ6_bitCount_0f7a4_43 : decode cJ6_bitCount_0f7a4 43 = .ok (.bipush 16, 2) := by decide +kernel
theorem dJ6_bitCount_0f7a4_45 : decode cJ6_bitCount_0f7a4 45 = .ok (.iushr, 1) := by decide +kernel
theorem dJ6_bitCount_0f7a4_46 : decode cJ6_bitCount_0f7a4 46 = .ok (.iadd, 1) := by decide +kernel
theorem dJ6_bitCount_0f7a4_47 : decode cJ6_bitCount_0f7a4 47 = .ok (.istore_n 0, 1) := by decide +kernel
theorem dJ6_bitCount_0f7a4_48 : decode cJ6_bitCount_0f7a4 48 = .ok (.iload_n 0, 1) := by decide +kernel
theorem dJ6_bitCount_0f7a4_49 : decode cJ6_bitCount_0f7a4 49 = .ok (.bipush 63, 2) := by decide +kernel
theorem dJ6_bitCount_0f7a4_51 : decode cJ6_bitCount_0f7a4 51 = .ok (.iand, 1) := by decide +kernel
theorem dJ6_bitCount_0f7a4_52 : decode cJ6_bitCount_0f7a4 52 = .ok (.ireturn, 1) := by decide +kernel
def f_J6_bitCount_0f7a4 (σ : Sg)  (p0 : Int32) : Option (Int32) := lt (p0 - ((((p0 : Int32).toUInt32 >>> (((1 : Int32) : Int32).toUInt32 &&& Int32.toUInt32 31)).toInt32) &&& (1431655765 : Int32))) fun x1 => lt ((x1 &&& (858993459 : Int32)) + ((((x1 : Int32).toUInt32 >>> (((2 : Int32) : Int32).toUInt32 &&& Int32.toUInt32 31)).toInt32) &&& (858993459 : Int32))) fun x2 => lt ((x2 + (((x2 : Int32).toUInt32 >>> (((4 : Int32) : Int32).toUInt32 &&& Int32.toUInt32 31)).toInt32)) &&& (252645135 : Int32)) fun x3 => lt (x3 + (((x3 : Int32).toUInt32 >>> (((8 : Int32) : Int32).toUInt32 &&& Int32.toUInt32 31)).toInt32)) fun x4 => lt (x4 + (((x4 : Int32).toUInt32 >>> (((16 : Int32) : Int32).toUInt32 &&& Int32.toUInt32 31)).toInt32)) fun x5 => some (x5 &&& (63 : Int32))
theorem okm_J6_bitCount_0f7a4 : okm yJ6_bitCount_0f7a4 1 = true := by decide +kernel
set_option maxHeartbeats 4000000 in
set_option maxRecDepth 100000 in
theorem c_J6_bitCount_0f7a4 (l : Launch) (G : va_G) (cls : Cls) (ad : Nat → Nat) (hi : inj 49 ad) (σ : Sg)   (p0 : Int32) : MT l (YX G cls ad) yJ6_bitCount_0f7a4 (.code yJ6_bitCount_0f7a4 cJ6_bitCount_0f7a4 1 (some .int) :: gw) 0 0 [.int p0] (fiP σ) σ (f_J6_bitCount_0f7a4 σ  p0) := by
  refine MT.ofF (own := RJ6) (by decide +kernel) (YX_D hi) rfl (Nat.le_of_ble_eq_true rfl) fun Γ _ hz0 hz1 hC => ?_
  show WX Γ (YX G cls ad) (qf Γ (YX G cls ad) (fiP σ)) 1 0 [(0, .int p0)] [] σ (f_J6_bitCount_0f7a4 σ  p0)
  unfold f_J6_bitCount_0f7a4
  refine X_iload_n hC 0 rfl dJ6_bitCount_0f7a4_0 ?_
  refine X_iload_n hC 0 rfl dJ6_bitCount_0f7a4_1 ?_
  refine X_iconst (v := 1) hC (by decide) dJ6_bitCount_0f7a4_2 ?_
  refine X_iushr hC dJ6_bitCount_0f7a4_3 ?_
  refine X_ldcw (v := 1431655765) hC tw_484 dJ6_bitCount_0f7a4_4 ?_
  refine X_iand hC dJ6_bitCount_0f7a4_7 ?_
  refine X_isub hC dJ6_bitCount_0f7a4_8 ?_
  refine X_lt (fun x1 => ?_)
  refine X_istore_n (ls' := [(0, .int x1)]) hC dJ6_bitCount_0f7a4_9 (by decide) rfl ?_
  refine X_iload_n hC 0 rfl dJ6_bitCount_0f7a4_10 ?_
  refine X_ldcw (v := 858993459) hC tw_485 dJ6_bitCount_0f7a4_11 ?_
  refine X_iand hC dJ6_bitCount_0f7a4_14 ?_
  refine X_iload_n hC 0 rfl dJ6_bitCount_0f7a4_15 ?_
  refine X_iconst (v := 2) hC (by decide) dJ6_bitCount_0f7a4_16 ?_
  refine X_iushr hC dJ6_bitCount_0f7a4_17 ?_
  refine X_ldcw (v := 858993459) hC tw_485 dJ6_bitCount_0f7a4_18 ?_
  refine X_iand hC dJ6_bitCount_0f7a4_21 ?_
  refine X_iadd hC dJ6_bitCount_0f7a4_22 ?_
  refine X_lt (fun x2 => ?_)
  refine X_istore_n (ls' := [(0, .int x2)]) hC dJ6_bitCount_0f7a4_23 (by decide) rfl ?_
  refine X_iload_n hC 0 rfl dJ6_bitCount_0f7a4_24 ?_
  refine X_iload_n hC 0 rfl dJ6_bitCount_0f7a4_25 ?_
  refine X_iconst (v := 4) hC (by decide) dJ6_bitCount_0f7a4_26 ?_
  refine X_iushr hC dJ6_bitCount_0f7a4_27 ?_
  refine X_iadd hC dJ6_bitCount_0f7a4_28 ?_
  refine X_ldcw (v := 252645135) hC tw_486 dJ6_bitCount_0f7a4_29 ?_
  refine X_iand hC dJ6_bitCount_0f7a4_32 ?_
  refine X_lt (fun x3 => ?_)
  refine X_istore_n (ls' := [(0, .int x3)]) hC dJ6_bitCount_0f7a4_33 (by decide) rfl ?_
  refine X_iload_n hC 0 rfl dJ6_bitCount_0f7a4_34 ?_
  refine X_iload_n hC 0 rfl dJ6_bitCount_0f7a4_35 ?_
  refine X_bipush (v := 8) hC (by decide) dJ6_bitCount_0f7a4_36 ?_
  refine X_iushr hC dJ6_bitCount_0f7a4_38 ?_
  refine X_iadd hC dJ6_bitCount_0f7a4_39 ?_
  refine X_lt (fun x4 => ?_)
  refine X_istore_n (ls' := [(0, .int x4)]) hC dJ6_bitCount_0f7a4_40 (by decide) rfl ?_
  refine X_iload_n hC 0 rfl dJ6_bitCount_0f7a4_41 ?_
  refine X_iload_n hC 0 rfl dJ6_bitCount_0f7a4_42 ?_
  refine X_bipush (v := 16) hC (by decide) dJ6_bitCount_0f7a4_43 ?_
  refine X_iushr hC dJ6_bitCount_0f7a4_45 ?_
  refine X_iadd hC dJ6_bitCount_0f7a4_46 ?_
  refine X_lt (fun x5 => ?_)
  refine X_istore_n (ls' := [(0, .int x5)]) hC dJ6_bitCount_0f7a4_47 (by decide) rfl ?_
  refine X_iload_n hC 0 rfl dJ6_bitCount_0f7a4_48 ?_
  refine X_bipush (v := 63) hC (by decide) dJ6_bitCount_0f7a4_49 ?_
  refine X_iand hC dJ6_bitCount_0f7a4_51 ?_
  exact X_iret hC hz0 hz1 dJ6_bitCount_0f7a4_52 rfl
