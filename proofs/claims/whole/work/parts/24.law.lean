def f_L_b891 (xs : Nat → Int32) (L : Nat) (K18 : Sg × Sg → Int32 → Option Int32) (σ : Sg × Sg) (v3 : Int32) : Option Int32 := lt (v3 + (5 : Int32)) fun x12 => K18 σ x12
def f_L_b209 (xs : Nat → Int32) (L : Nat) (K18 : Sg × Sg → Int32 → Option Int32) (σ : Sg × Sg) (v3 w0 w1 w2 w3 w5 : Int32) : Option Int32 := (f_X5_addInstrument σ.2 w3 w2 w1 w0).bind fun q8 => lts (σ.1, q8.2) fun σ9 => lt q8.1 fun r10 => if w5 = r10 then (f_L_b891 xs L K18 σ9 v3) else none
def f_L_b177 (xs : Nat → Int32) (L : Nat) (K18 : Sg × Sg → Int32 → Option Int32) (σ : Sg × Sg) (v3 w0 w1 w2 w3 : Int32) : Option Int32 := (f_X4_addInstrument σ.1 w3 w2 w1 w0).bind fun q4 => lts (q4.2, σ.2) fun σ5 => lt q4.1 fun r6 => gd (inb (v3 + (1 : Int32)) L) (gd (inb (v3 + (2 : Int32)) L) (gd (inb (v3 + (3 : Int32)) L) (gd (inb (v3 + (4 : Int32)) L) (if (xs (ix (v3 + (4 : Int32)))) = 0 then (f_L_b209 xs L K18 σ5 v3 (0 : Int32) (xs (ix (v3 + (3 : Int32)))) (xs (ix (v3 + (2 : Int32)))) (xs (ix (v3 + (1 : Int32)))) r6) else (f_L_b209 xs L K18 σ5 v3 (1 : Int32) (xs (ix (v3 + (3 : Int32)))) (xs (ix (v3 + (2 : Int32)))) (xs (ix (v3 + (1 : Int32)))) r6)))))
def f_L_b18 (xs : Nat → Int32) (L : Nat)  : Nat → Sg × Sg → Int32 → Option Int32
  | 0, _, _ => none
  | n + 1, σ, v3 => if ((Int32.ofNat L) - (5 : Int32)) < v3 then (some 1) else (gd (inb v3 L) (if ((xs (ix v3)) &&& (31 : Int32)) = 0 then (gd (inb (v3 + (1 : Int32)) L) (gd (inb (v3 + (2 : Int32)) L) (gd (inb (v3 + (3 : Int32)) L) (gd (inb (v3 + (4 : Int32)) L) (if (xs (ix (v3 + (4 : Int32)))) = 0 then (f_L_b177 xs L (f_L_b18 xs L  n) σ v3 (0 : Int32) (xs (ix (v3 + (3 : Int32)))) (xs (ix (v3 + (2 : Int32)))) (xs (ix (v3 + (1 : Int32))))) else (f_L_b177 xs L (f_L_b18 xs L  n) σ v3 (1 : Int32) (xs (ix (v3 + (3 : Int32)))) (xs (ix (v3 + (2 : Int32)))) (xs (ix (v3 + (1 : Int32)))))))))) else if ((xs (ix v3)) &&& (31 : Int32)) = 1 then (gd (inb (v3 + (1 : Int32)) L) (gd (inb (v3 + (2 : Int32)) L) (gd (inb (v3 + (3 : Int32)) L) ((f_X4_adjust σ.1 (xs (ix (v3 + (1 : Int32)))) (xs (ix (v3 + (2 : Int32)))) (xs (ix (v3 + (3 : Int32))))).bind fun q14 => lts (q14.2, σ.2) fun σ15 => lt q14.1 fun r16 => gd (inb (v3 + (1 : Int32)) L) (gd (inb (v3 + (2 : Int32)) L) (gd (inb (v3 + (3 : Int32)) L) ((f_X5_adjust σ15.2 (xs (ix (v3 + (1 : Int32)))) (xs (ix (v3 + (2 : Int32)))) (xs (ix (v3 + (3 : Int32))))).bind fun q17 => lts (σ15.1, q17.2) fun σ18 => lt q17.1 fun r19 => if r16 = r19 then (f_L_b891 xs L (f_L_b18 xs L  n) σ18 v3) else none))))))) else if ((xs (ix v3)) &&& (31 : Int32)) = 2 then (gd (inb (v3 + (1 : Int32)) L) (gd (inb (v3 + (2 : Int32)) L) ((f_X4_setTrap σ.1 (xs (ix (v3 + (1 : Int32)))) (xs (ix (v3 + (2 : Int32))))).bind fun q22 => lts (q22.2, σ.2) fun σ23 => lt q22.1 fun r24 => gd (inb (v3 + (1 : Int32)) L) (gd (inb (v3 + (2 : Int32)) L) ((f_X5_setTrap σ23.2 (xs (ix (v3 + (1 : Int32)))) (xs (ix (v3 + (2 : Int32))))).bind fun q25 => lts (σ23.1, q25.2) fun σ26 => lt q25.1 fun r27 => if r24 = r27 then (f_L_b891 xs L (f_L_b18 xs L  n) σ26 v3) else none))))) else if ((xs (ix v3)) &&& (31 : Int32)) = 3 then (gd (inb (v3 + (1 : Int32)) L) ((f_X4_announce σ.1 (xs (ix (v3 + (1 : Int32))))).bind fun q30 => lts (q30.2, σ.2) fun σ31 => lt q30.1 fun r32 => gd (inb (v3 + (1 : Int32)) L) ((f_X5_announce σ31.2 (xs (ix (v3 + (1 : Int32))))).bind fun q33 => lts (σ31.1, q33.2) fun σ34 => lt q33.1 fun r35 => if r32 = r35 then (f_L_b891 xs L (f_L_b18 xs L  n) σ34 v3) else none))) else if ((xs (ix v3)) &&& (31 : Int32)) = 4 then (gd (inb (v3 + (1 : Int32)) L) (gd (inb (v3 + (2 : Int32)) L) ((f_X4_addPupil σ.1 (xs (ix (v3 + (1 : Int32)))) (xs (ix (v3 + (2 : Int32))))).bind fun q38 => lts (q38.2, σ.2) fun σ39 => lt q38.1 fun r40 => gd (inb (v3 + (1 : Int32)) L) (gd (inb (v3 + (2 : Int32)) L) ((f_X5_addPupil σ39.2 (xs (ix (v3 + (1 : Int32)))) (xs (ix (v3 + (2 : Int32))))).bind fun q41 => lts (σ39.1, q41.2) fun σ42 => lt q41.1 fun r43 => if r40 = r43 then (f_L_b891 xs L (f_L_b18 xs L  n) σ42 v3) else none))))) else if ((xs (ix v3)) &&& (31 : Int32)) = 5 then (gd (inb (v3 + (1 : Int32)) L) (gd (inb (v3 + (2 : Int32)) L) ((f_X4_teach σ.1 (xs (ix (v3 + (1 : Int32)))) (xs (ix (v3 + (2 : Int32))))).bind fun q46 => lts (q46.2, σ.2) fun σ47 => lt q46.1 fun r48 => gd (inb (v3 + (1 : Int32)) L) (gd (inb (v3 + (2 : Int32)) L) ((f_X5_teach σ47.2 (xs (ix (v3 + (1 : Int32)))) (xs (ix (v3 + (2 : Int32))))).bind fun q49 => lts (σ47.1, q49.2) fun σ50 => lt q49.1 fun r51 => if r48 = r51 then (f_L_b891 xs L (f_L_b18 xs L  n) σ50 v3) else none))))) else if ((xs (ix v3)) &&& (31 : Int32)) = 6 then (gd (inb (v3 + (1 : Int32)) L) (gd (inb (v3 + (2 : Int32)) L) (gd (inb (v3 + (3 : Int32)) L) ((f_X4_train σ.1 (xs (ix (v3 + (1 : Int32)))) (xs (ix (v3 + (2 : Int32)))) (xs (ix (v3 + (3 : Int32))))).bind fun q54 => lts (q54.2, σ.2) fun σ55 => lt q54.1 fun r56 => gd (inb (v3 + (1 : Int32)) L) (gd (inb (v3 + (2 : Int32)) L) (gd (inb (v3 + (3 : Int32)) L) ((f_X5_train σ55.2 (xs (ix (v3 + (1 : Int32)))) (xs (ix (v3 + (2 : Int32)))) (xs (ix (v3 + (3 : Int32))))).bind fun q57 => lts (σ55.1, q57.2) fun σ58 => lt q57.1 fun r59 => if r56 = r59 then (f_L_b891 xs L (f_L_b18 xs L  n) σ58 v3) else none))))))) else if ((xs (ix v3)) &&& (31 : Int32)) = 7 then (gd (inb (v3 + (1 : Int32)) L) (gd (inb (v3 + (2 : Int32)) L) (gd (inb (v3 + (3 : Int32)) L) ((f_X4_write σ.1 (xs (ix (v3 + (1 : Int32)))) (xs (ix (v3 + (2 : Int32)))) (xs (ix (v3 + (3 : Int32))))).bind fun q62 => lts (q62.2, σ.2) fun σ63 => lt q62.1 fun r64 => gd (inb (v3 + (1 : Int32)) L) (gd (inb (v3 + (2 : Int32)) L) (gd (inb (v3 + (3 : Int32)) L) ((f_X5_write σ63.2 (xs (ix (v3 + (1 : Int32)))) (xs (ix (v3 + (2 : Int32)))) (xs (ix (v3 + (3 : Int32))))).bind fun q65 => lts (σ63.1, q65.2) fun σ66 => lt q65.1 fun r67 => if r64 = r67 then (f_L_b891 xs L (f_L_b18 xs L  n) σ66 v3) else none))))))) else if ((xs (ix v3)) &&& (31 : Int32)) = 8 then (gd (inb (v3 + (1 : Int32)) L) (gd (inb (v3 + (2 : Int32)) L) ((f_X4_appeal σ.1 (xs (ix (v3 + (1 : Int32)))) (xs (ix (v3 + (2 : Int32))))).bind fun q70 => lts (q70.2, σ.2) fun σ71 => lt q70.1 fun r72 => gd (inb (v3 + (1 : Int32)) L) (gd (inb (v3 + (2 : Int32)) L) ((f_X5_appeal σ71.2 (xs (ix (v3 + (1 : Int32)))) (xs (ix (v3 + (2 : Int32))))).bind fun q73 => lts (σ71.1, q73.2) fun σ74 => lt q73.1 fun r75 => if r72 = r75 then (f_L_b891 xs L (f_L_b18 xs L  n) σ74 v3) else none))))) else if ((xs (ix v3)) &&& (31 : Int32)) = 9 then ((f_X4_decide σ.1 ).bind fun q78 => lts (q78.2, σ.2) fun σ79 => lt q78.1 fun r80 => (f_X5_decide σ79.2 ).bind fun q81 => lts (σ79.1, q81.2) fun σ82 => lt q81.1 fun r83 => if r80 = r83 then (f_L_b891 xs L (f_L_b18 xs L  n) σ82 v3) else none) else if ((xs (ix v3)) &&& (31 : Int32)) = 10 then (gd (inb (v3 + (1 : Int32)) L) ((f_X4_type σ.1 ((((xs (ix (v3 + (1 : Int32)))) : Int32).toUInt32 % 65536).toInt32)).bind fun q86 => lts (q86.2, σ.2) fun σ87 => lt q86.1 fun r88 => gd (inb (v3 + (1 : Int32)) L) ((f_X5_type σ87.2 ((((xs (ix (v3 + (1 : Int32)))) : Int32).toUInt32 % 65536).toInt32)).bind fun q89 => lts (σ87.1, q89.2) fun σ90 => lt q89.1 fun r91 => if r88 = r91 then (f_L_b891 xs L (f_L_b18 xs L  n) σ90 v3) else none))) else if ((xs (ix v3)) &&& (31 : Int32)) = 11 then ((f_X4_clearText σ.1 ).bind fun q94 => lts (q94.2, σ.2) fun σ95 => lt q94.1 fun r96 => (f_X5_clearText σ95.2 ).bind fun q97 => lts (σ95.1, q97.2) fun σ98 => lt q97.1 fun r99 => if r96 = r99 then (f_L_b891 xs L (f_L_b18 xs L  n) σ98 v3) else none) else if ((xs (ix v3)) &&& (31 : Int32)) = 12 then ((f_X4_readPapers σ.1 ).bind fun q102 => lts (q102.2, σ.2) fun σ103 => lt q102.1 fun r104 => (f_X5_readPapers σ103.2 ).bind fun q105 => lts (σ103.1, q105.2) fun σ106 => lt q105.1 fun r107 => if r104 = r107 then (f_L_b891 xs L (f_L_b18 xs L  n) σ106 v3) else none) else if ((xs (ix v3)) &&& (31 : Int32)) = 13 then ((f_X4_undo σ.1 ).bind fun q110 => lts (q110.2, σ.2) fun σ111 => lt q110.1 fun r112 => (f_X5_undo σ111.2 ).bind fun q113 => lts (σ111.1, q113.2) fun σ114 => lt q113.1 fun r115 => if r112 = r115 then (f_L_b891 xs L (f_L_b18 xs L  n) σ114 v3) else none) else if ((xs (ix v3)) &&& (31 : Int32)) = 14 then ((f_X4_keep σ.1 ).bind fun q118 => lts (q118.2, σ.2) fun σ119 => lt q118.1 fun r120 => (f_X5_keep σ119.2 ).bind fun q121 => lts (σ119.1, q121.2) fun σ122 => lt q121.1 fun r123 => if r120 = r123 then (f_L_b891 xs L (f_L_b18 xs L  n) σ122 v3) else none) else if ((xs (ix v3)) &&& (31 : Int32)) = 15 then ((f_X4_restore σ.1 ).bind fun q126 => lts (q126.2, σ.2) fun σ127 => lt q126.1 fun r128 => (f_X5_restore σ127.2 ).bind fun q129 => lts (σ127.1, q129.2) fun σ130 => lt q129.1 fun r131 => if r128 = r131 then (f_L_b891 xs L (f_L_b18 xs L  n) σ130 v3) else none) else if ((xs (ix v3)) &&& (31 : Int32)) = 16 then (gd (inb (v3 + (1 : Int32)) L) (gd (inb (v3 + (2 : Int32)) L) ((f_X4_instrument σ.1 (xs (ix (v3 + (1 : Int32)))) (xs (ix (v3 + (2 : Int32))))).bind fun r134 => gd (inb (v3 + (1 : Int32)) L) (gd (inb (v3 + (2 : Int32)) L) ((f_X5_instrument σ.2 (xs (ix (v3 + (1 : Int32)))) (xs (ix (v3 + (2 : Int32))))).bind fun r135 => if r134 = r135 then (f_L_b891 xs L (f_L_b18 xs L  n) σ v3) else none))))) else if ((xs (ix v3)) &&& (31 : Int32)) = 17 then (gd (inb (v3 + (1 : Int32)) L) (gd (inb (v3 + (2 : Int32)) L) ((f_X4_pupil σ.1 (xs (ix (v3 + (1 : Int32)))) (xs (ix (v3 + (2 : Int32))))).bind fun r138 => gd (inb (v3 + (1 : Int32)) L) (gd (inb (v3 + (2 : Int32)) L) ((f_X5_pupil σ.2 (xs (ix (v3 + (1 : Int32)))) (xs (ix (v3 + (2 : Int32))))).bind fun r139 => if r138 = r139 then (f_L_b891 xs L (f_L_b18 xs L  n) σ v3) else none))))) else if ((xs (ix v3)) &&& (31 : Int32)) = 18 then (gd (inb (v3 + (1 : Int32)) L) (gd (inb (v3 + (2 : Int32)) L) ((f_X4_paper σ.1 (xs (ix (v3 + (1 : Int32)))) (xs (ix (v3 + (2 : Int32))))).bind fun r142 => gd (inb (v3 + (1 : Int32)) L) (gd (inb (v3 + (2 : Int32)) L) ((f_X5_paper σ.2 (xs (ix (v3 + (1 : Int32)))) (xs (ix (v3 + (2 : Int32))))).bind fun r143 => if r142 = r143 then (f_L_b891 xs L (f_L_b18 xs L  n) σ v3) else none))))) else if ((xs (ix v3)) &&& (31 : Int32)) = 19 then (gd (inb (v3 + (1 : Int32)) L) (gd (inb (v3 + (2 : Int32)) L) (gd (inb (v3 + (3 : Int32)) L) ((f_X4_coincidence σ.1 (xs (ix (v3 + (1 : Int32)))) (xs (ix (v3 + (2 : Int32)))) (xs (ix (v3 + (3 : Int32))))).bind fun r146 => gd (inb (v3 + (1 : Int32)) L) (gd (inb (v3 + (2 : Int32)) L) (gd (inb (v3 + (3 : Int32)) L) ((f_X5_coincidence σ.2 (xs (ix (v3 + (1 : Int32)))) (xs (ix (v3 + (2 : Int32)))) (xs (ix (v3 + (3 : Int32))))).bind fun q147 => lts (σ.1, q147.2) fun σ148 => lt q147.1 fun r149 => if r146 = r149 then (f_L_b891 xs L (f_L_b18 xs L  n) σ148 v3) else none))))))) else if ((xs (ix v3)) &&& (31 : Int32)) = 20 then (gd (inb (v3 + (1 : Int32)) L) (gd (inb (v3 + (2 : Int32)) L) (gd (inb (v3 + (3 : Int32)) L) ((f_X4_answer σ.1 (xs (ix (v3 + (1 : Int32)))) (xs (ix (v3 + (2 : Int32)))) (xs (ix (v3 + (3 : Int32))))).bind fun r152 => gd (inb (v3 + (1 : Int32)) L) (gd (inb (v3 + (2 : Int32)) L) (gd (inb (v3 + (3 : Int32)) L) ((f_X5_answer σ.2 (xs (ix (v3 + (1 : Int32)))) (xs (ix (v3 + (2 : Int32)))) (xs (ix (v3 + (3 : Int32))))).bind fun q153 => lts (σ.1, q153.2) fun σ154 => lt q153.1 fun r155 => if r152 = r155 then (f_L_b891 xs L (f_L_b18 xs L  n) σ154 v3) else none))))))) else if ((xs (ix v3)) &&& (31 : Int32)) = 21 then (gd (inb (v3 + (1 : Int32)) L) (gd (inb (v3 + (2 : Int32)) L) ((f_X4_would σ.1 (xs (ix (v3 + (1 : Int32)))) (xs (ix (v3 + (2 : Int32))))).bind fun r158 => gd (inb (v3 + (1 : Int32)) L) (gd (inb (v3 + (2 : Int32)) L) ((f_X5_would σ.2 (xs (ix (v3 + (1 : Int32)))) (xs (ix (v3 + (2 : Int32))))).bind fun q159 => lts (σ.1, q159.2) fun σ160 => lt q159.1 fun r161 => if r158 = r161 then (f_L_b891 xs L (f_L_b18 xs L  n) σ160 v3) else none))))) else if ((xs (ix v3)) &&& (31 : Int32)) = 22 then (gd (inb (v3 + (1 : Int32)) L) ((f_X4_ranked σ.1 (xs (ix (v3 + (1 : Int32))))).bind fun r164 => gd (inb (v3 + (1 : Int32)) L) ((f_X5_ranked σ.2 (xs (ix (v3 + (1 : Int32))))).bind fun r165 => if r164 = r165 then (f_L_b891 xs L (f_L_b18 xs L  n) σ v3) else none))) else if ((xs (ix v3)) &&& (31 : Int32)) = 23 then (gd (inb (v3 + (1 : Int32)) L) ((f_X4_waiting σ.1 (xs (ix (v3 + (1 : Int32))))).bind fun r168 => gd (inb (v3 + (1 : Int32)) L) ((f_X5_waiting σ.2 (xs (ix (v3 + (1 : Int32))))).bind fun r169 => if r168 = r169 then (f_L_b891 xs L (f_L_b18 xs L  n) σ v3) else none))) else if ((xs (ix v3)) &&& (31 : Int32)) = 24 then (gd (inb (v3 + (1 : Int32)) L) ((f_X4_count σ.1 (xs (ix (v3 + (1 : Int32))))).bind fun r172 => gd (inb (v3 + (1 : Int32)) L) ((f_X5_count σ.2 (xs (ix (v3 + (1 : Int32))))).bind fun r173 => if r172 = r173 then (f_L_b891 xs L (f_L_b18 xs L  n) σ v3) else none))) else (f_L_b891 xs L (f_L_b18 xs L  n) σ v3)))
def f_L (xs : Nat → Int32) (L : Nat) (σ : Sg × Sg) : Option Int32 := f_L_b18 xs L fuel σ (0 : Int32)
set_option maxHeartbeats 4000000 in
set_option maxRecDepth 100000 in
theorem L_L_b891 {Γ : Cx} (G : va_G) (cls : Cls) (ax am : Nat → Nat) (A : Nat → Prop) (hix : inj 49 ax) (him : inj 6 am) (hC : CX Γ (YL G cls ax am A) cL_law RL 4 (some .boolean) 9 358) {q : Int32 → State → Prop} (hend : ∀ (pc : Nat) (ls : List (Nat × Value)) (σ : Sg × Sg) (_ : Unit), decode cL_law pc = .ok (.ireturn, 1) → WX Γ (YL G cls ax am A) q 4 pc ls [.int 1] σ (some 1)) {b : Nat} (xs : Nat → Int32) (L : Nat) (hX : va_X b L xs Γ.1.2.2.2.2.1 Γ.1.2.2.2.2.1.heap) (hbl : b < Γ.1.2.2.2.2.1.heap.size) (hbA : ¬ A b) (K18 : Sg × Sg → Int32 → Option Int32) (hK18 : ∀ (σ : Sg × Sg) (v3 : Int32), WX Γ (YL G cls ax am A) q 4 18 [(0, .ref b), (1, .ref (ax 25)), (2, .ref (am 0)), (3, .int v3)] [] σ (K18 σ v3)) (σ : Sg × Sg) (v3 : Int32) : WX Γ (YL G cls ax am A) q 4 891 [(0, .ref b), (1, .ref (ax 25)), (2, .ref (am 0)), (3, .int v3)] [] σ (f_L_b891 xs L K18 σ v3) := by
  unfold f_L_b891
  refine X_iinc (ls' := fun x12 => [(3, .int x12), (0, .ref b), (1, .ref (ax 25)), (2, .ref (am 0))]) hC 3 dL_law_891 rfl (by decide) (by decide) (fun _ => rfl) (fun x12 => ?_)
  refine X_goto hC 18 dL_law_894 (by decide) ?_
  exact X_sub [1, 2, 3, 0] rfl (hK18 σ x12)
set_option maxHeartbeats 4000000 in
set_option maxRecDepth 100000 in
theorem L_L_b209 {Γ : Cx} (G : va_G) (cls : Cls) (ax am : Nat → Nat) (A : Nat → Prop) (hix : inj 49 ax) (him : inj 6 am) (hC : CX Γ (YL G cls ax am A) cL_law RL 4 (some .boolean) 9 358) {q : Int32 → State → Prop} (hend : ∀ (pc : Nat) (ls : List (Nat × Value)) (σ : Sg × Sg) (_ : Unit), decode cL_law pc = .ok (.ireturn, 1) → WX Γ (YL G cls ax am A) q 4 pc ls [.int 1] σ (some 1)) {b : Nat} (xs : Nat → Int32) (L : Nat) (hX : va_X b L xs Γ.1.2.2.2.2.1 Γ.1.2.2.2.2.1.heap) (hbl : b < Γ.1.2.2.2.2.1.heap.size) (hbA : ¬ A b) (K18 : Sg × Sg → Int32 → Option Int32) (hK18 : ∀ (σ : Sg × Sg) (v3 : Int32), WX Γ (YL G cls ax am A) q 4 18 [(0, .ref b), (1, .ref (ax 25)), (2, .ref (am 0)), (3, .int v3)] [] σ (K18 σ v3)) (σ : Sg × Sg) (v3 w0 w1 w2 w3 w5 : Int32) : WX Γ (YL G cls ax am A) q 4 209 [(0, .ref b), (1, .ref (ax 25)), (2, .ref (am 0)), (3, .int v3)] [.int w0, .int w1, .int w2, .int w3, .ref (am 0), .int w5] σ (f_L_b209 xs L K18 σ v3 w0 w1 w2 w3 w5) := by
  unfold f_L_b209
  refine L_MS (rest := [.int w5]) hC (c_X5_addInstrument _ G cls am him σ.2 w3 w2 w1 w0) (gV tw_534 tw_535 tw_536 tw_7 tw_537) rfl rfl okm_X5_addInstrument (by decide) dL_law_209 rfl (Nat.le_of_ble_eq_true rfl) (fun q8 => X_lts fun σ9 => X_lt fun r10 => ?_)
  refine X_icmp_eq hC 891 dL_law_212 (by decide) (fun h11 => ?_) (fun h11 => ?_)
  · exact (L_L_b891 G cls ax am A hix him hC hend xs L hX hbl hbA K18 hK18 σ9 v3)
  · refine X_iconst (v := 0) hC (by decide) dL_law_215 ?_
    exact X_none
set_option maxHeartbeats 4000000 in
set_option maxRecDepth 100000 in
theorem L_L_b177 {Γ : Cx} (G : va_G) (cls : Cls) (ax am : Nat → Nat) (A : Nat → Prop) (hix : inj 49 ax) (him : inj 6 am) (hC : CX Γ (YL G cls ax am A) cL_law RL 4 (some .boolean) 9 358) {q : Int32 → State → Prop} (hend : ∀ (pc : Nat) (ls : List (Nat × Value)) (σ : Sg × Sg) (_ : Unit), decode cL_law pc = .ok (.ireturn, 1) → WX Γ (YL G cls ax am A) q 4 pc ls [.int 1] σ (some 1)) {b : Nat} (xs : Nat → Int32) (L : Nat) (hX : va_X b L xs Γ.1.2.2.2.2.1 Γ.1.2.2.2.2.1.heap) (hbl : b < Γ.1.2.2.2.2.1.heap.size) (hbA : ¬ A b) (K18 : Sg × Sg → Int32 → Option Int32) (hK18 : ∀ (σ : Sg × Sg) (v3 : Int32), WX Γ (YL G cls ax am A) q 4 18 [(0, .ref b), (1, .ref (ax 25)), (2, .ref (am 0)), (3, .int v3)] [] σ (K18 σ v3)) (σ : Sg × Sg) (v3 w0 w1 w2 w3 : Int32) : WX Γ (YL G cls ax am A) q 4 177 [(0, .ref b), (1, .ref (ax 25)), (2, .ref (am 0)), (3, .int v3)] [.int w0, .int w1, .int w2, .int w3, .ref (ax 25)] σ (f_L_b177 xs L K18 σ v3 w0 w1 w2 w3) := by
  unfold f_L_b177
  refine L_XS (rest := []) hC (c_X4_addInstrument _ G cls ax hix σ.1 w3 w2 w1 w0) (gV tw_117 tw_118 tw_119 tw_1 tw_120) rfl rfl okm_X4_addInstrument (by decide) dL_law_177 rfl (Nat.le_of_ble_eq_true rfl) (fun q4 => X_lts fun σ5 => X_lt fun r6 => ?_)
  refine X_aload_n hC 2 rfl dL_law_180 ?_
  refine X_aload_n hC 0 rfl dL_law_181 ?_
  refine X_iload_n hC 3 rfl dL_law_182 ?_
  refine X_iconst (v := 1) hC (by decide) dL_law_183 ?_
  refine X_iadd hC dL_law_184 ?_
  refine X_sld hC hX hbl hbA dL_law_185 ?_
  refine X_aload_n hC 0 rfl dL_law_186 ?_
  refine X_iload_n hC 3 rfl dL_law_187 ?_
  refine X_iconst (v := 2) hC (by decide) dL_law_188 ?_
  refine X_iadd hC dL_law_189 ?_
  refine X_sld hC hX hbl hbA dL_law_190 ?_
  refine X_aload_n hC 0 rfl dL_law_191 ?_
  refine X_iload_n hC 3 rfl dL_law_192 ?_
  refine X_iconst (v := 3) hC (by decide) dL_law_193 ?_
  refine X_iadd hC dL_law_194 ?_
  refine X_sld hC hX hbl hbA dL_law_195 ?_
  refine X_aload_n hC 0 rfl dL_law_196 ?_
  refine X_iload_n hC 3 rfl dL_law_197 ?_
  refine X_iconst (v := 4) hC (by decide) dL_law_198 ?_
  refine X_iadd hC dL_law_199 ?_
  refine X_sld hC hX hbl hbA dL_law_200 ?_
  refine X_if_eq hC 208 dL_law_201 (by decide) (fun h7 => ?_) (fun h7 => ?_)
  · refine X_iconst (v := 0) hC (by decide) dL_law_208 ?_
    exact (L_L_b209 G cls ax am A hix him hC hend xs L hX hbl hbA K18 hK18 σ5 v3 (0 : Int32) (xs (ix (v3 + (3 : Int32)))) (xs (ix (v3 + (2 : Int32)))) (xs (ix (v3 + (1 : Int32)))) r6)
  · refine X_iconst (v := 1) hC (by decide) dL_law_204 ?_
    refine X_goto hC 209 dL_law_205 (by decide) ?_
    exact (L_L_b209 G cls ax am A hix him hC hend xs L hX hbl hbA K18 hK18 σ5 v3 (1 : Int32) (xs (ix (v3 + (3 : Int32)))) (xs (ix (v3 + (2 : Int32)))) (xs (ix (v3 + (1 : Int32)))) r6)
set_option maxHeartbeats 4000000 in
set_option maxRecDepth 100000 in
theorem L_L_b18 {Γ : Cx} (G : va_G) (cls : Cls) (ax am : Nat → Nat) (A : Nat → Prop) (hix : inj 49 ax) (him : inj 6 am) (hC : CX Γ (YL G cls ax am A) cL_law RL 4 (some .boolean) 9 358) {q : Int32 → State → Prop} (hend : ∀ (pc : Nat) (ls : List (Nat × Value)) (σ : Sg × Sg) (_ : Unit), decode cL_law pc = .ok (.ireturn, 1) → WX Γ (YL G cls ax am A) q 4 pc ls [.int 1] σ (some 1)) {b : Nat} (xs : Nat → Int32) (L : Nat) (hX : va_X b L xs Γ.1.2.2.2.2.1 Γ.1.2.2.2.2.1.heap) (hbl : b < Γ.1.2.2.2.2.1.heap.size) (hbA : ¬ A b)  : ∀ (n : Nat) (σ : Sg × Sg) (v3 : Int32), WX Γ (YL G cls ax am A) q 4 18 [(0, .ref b), (1, .ref (ax 25)), (2, .ref (am 0)), (3, .int v3)] [] σ (f_L_b18 xs L  n σ v3) := by
  intro n
  induction n with
  | zero => intro σ v3; exact X_none
  | succ n ih =>
    intro σ v3
    rw [f_L_b18.eq_2]
    refine X_iload_n hC 3 rfl dL_law_18 ?_
    refine X_aload_n hC 0 rfl dL_law_19 ?_
    refine X_slen hC hX hbl hbA dL_law_20 ?_
    refine X_iconst (v := 5) hC (by decide) dL_law_21 ?_
    refine X_isub hC dL_law_22 ?_
    refine X_icmp_gt hC 897 dL_law_23 (by decide) (fun h1 => ?_) (fun h1 => ?_)
    · refine X_iconst (v := 1) hC (by decide) dL_law_897 ?_
      exact hend _ _ _ () dL_law_898
    · refine X_aload_n hC 0 rfl dL_law_26 ?_
      refine X_iload_n hC 3 rfl dL_law_27 ?_
      refine X_sld hC hX hbl hbA dL_law_28 ?_
      refine X_bipush (v := 31) hC (by decide) dL_law_29 ?_
      refine X_iand hC dL_law_31 ?_
      refine X_ite (fun h2 => ?_) (fun h2 => ?_)
      · refine X_tableIn (v := 0) hC 148 dL_law_32 (by rw [h2]; decide) (by decide) (by decide) rfl (by decide) ?_
        refine X_aload_n hC 1 rfl dL_law_148 ?_
        refine X_aload_n hC 0 rfl dL_law_149 ?_
        refine X_iload_n hC 3 rfl dL_law_150 ?_
        refine X_iconst (v := 1) hC (by decide) dL_law_151 ?_
        refine X_iadd hC dL_law_152 ?_
        refine X_sld hC hX hbl hbA dL_law_153 ?_
        refine X_aload_n hC 0 rfl dL_law_154 ?_
        refine X_iload_n hC 3 rfl dL_law_155 ?_
        refine X_iconst (v := 2) hC (by decide) dL_law_156 ?_
        refine X_iadd hC dL_law_157 ?_
        refine X_sld hC hX hbl hbA dL_law_158 ?_
        refine X_aload_n hC 0 rfl dL_law_159 ?_
        refine X_iload_n hC 3 rfl dL_law_160 ?_
        refine X_iconst (v := 3) hC (by decide) dL_law_161 ?_
        refine X_iadd hC dL_law_162 ?_
        refine X_sld hC hX hbl hbA dL_law_163 ?_
        refine X_aload_n hC 0 rfl dL_law_164 ?_
        refine X_iload_n hC 3 rfl dL_law_165 ?_
        refine X_iconst (v := 4) hC (by decide) dL_law_166 ?_
        refine X_iadd hC dL_law_167 ?_
        refine X_sld hC hX hbl hbA dL_law_168 ?_
        refine X_if_eq hC 176 dL_law_169 (by decide) (fun h3 => ?_) (fun h3 => ?_)
        · refine X_iconst (v := 0) hC (by decide) dL_law_176 ?_
          exact (L_L_b177 G cls ax am A hix him hC hend xs L hX hbl hbA (f_L_b18 xs L  n) ih σ v3 (0 : Int32) (xs (ix (v3 + (3 : Int32)))) (xs (ix (v3 + (2 : Int32)))) (xs (ix (v3 + (1 : Int32)))))
        · refine X_iconst (v := 1) hC (by decide) dL_law_172 ?_
          refine X_goto hC 177 dL_law_173 (by decide) ?_
          exact (L_L_b177 G cls ax am A hix him hC hend xs L hX hbl hbA (f_L_b18 xs L  n) ih σ v3 (1 : Int32) (xs (ix (v3 + (3 : Int32)))) (xs (ix (v3 + (2 : Int32)))) (xs (ix (v3 + (1 : Int32)))))
      refine X_ite (fun h13 => ?_) (fun h13 => ?_)
      · refine X_tableIn (v := 1) hC 217 dL_law_32 (by rw [h13]; decide) (by decide) (by decide) rfl (by decide) ?_
        refine X_aload_n hC 1 rfl dL_law_217 ?_
        refine X_aload_n hC 0 rfl dL_law_218 ?_
        refine X_iload_n hC 3 rfl dL_law_219 ?_
        refine X_iconst (v := 1) hC (by decide) dL_law_220 ?_
        refine X_iadd hC dL_law_221 ?_
        refine X_sld hC hX hbl hbA dL_law_222 ?_
        refine X_aload_n hC 0 rfl dL_law_223 ?_
        refine X_iload_n hC 3 rfl dL_law_224 ?_
        refine X_iconst (v := 2) hC (by decide) dL_law_225 ?_
        refine X_iadd hC dL_law_226 ?_
        refine X_sld hC hX hbl hbA dL_law_227 ?_
        refine X_aload_n hC 0 rfl dL_law_228 ?_
        refine X_iload_n hC 3 rfl dL_law_229 ?_
        refine X_iconst (v := 3) hC (by decide) dL_law_230 ?_
        refine X_iadd hC dL_law_231 ?_
        refine X_sld hC hX hbl hbA dL_law_232 ?_
        refine L_XS (rest := []) hC (c_X4_adjust _ G cls ax hix σ.1 (xs (ix (v3 + (1 : Int32)))) (xs (ix (v3 + (2 : Int32)))) (xs (ix (v3 + (3 : Int32))))) (gV tw_170 tw_171 tw_172 tw_1 tw_173) rfl rfl okm_X4_adjust (by decide) dL_law_233 rfl (Nat.le_of_ble_eq_true rfl) (fun q14 => X_lts fun σ15 => X_lt fun r16 => ?_)
        refine X_aload_n hC 2 rfl dL_law_236 ?_
        refine X_aload_n hC 0 rfl dL_law_237 ?_
        refine X_iload_n hC 3 rfl dL_law_238 ?_
        refine X_iconst (v := 1) hC (by decide) dL_law_239 ?_
        refine X_iadd hC dL_law_240 ?_
        refine X_sld hC hX hbl hbA dL_law_241 ?_
        refine X_aload_n hC 0 rfl dL_law_242 ?_
        refine X_iload_n hC 3 rfl dL_law_243 ?_
        refine X_iconst (v := 2) hC (by decide) dL_law_244 ?_
        refine X_iadd hC dL_law_245 ?_
        refine X_sld hC hX hbl hbA dL_law_246 ?_
        refine X_aload_n hC 0 rfl dL_law_247 ?_
        refine X_iload_n hC 3 rfl dL_law_248 ?_
        refine X_iconst (v := 3) hC (by decide) dL_law_249 ?_
        refine X_iadd hC dL_law_250 ?_
        refine X_sld hC hX hbl hbA dL_law_251 ?_
        refine L_MS (rest := [.int r16]) hC (c_X5_adjust _ G cls am him σ15.2 (xs (ix (v3 + (1 : Int32)))) (xs (ix (v3 + (2 : Int32)))) (xs (ix (v3 + (3 : Int32))))) (gV tw_547 tw_548 tw_549 tw_7 tw_550) rfl rfl okm_X5_adjust (by decide) dL_law_252 rfl (Nat.le_of_ble_eq_true rfl) (fun q17 => X_lts fun σ18 => X_lt fun r19 => ?_)
        refine X_icmp_eq hC 891 dL_law_255 (by decide) (fun h20 => ?_) (fun h20 => ?_)
        · exact (L_L_b891 G cls ax am A hix him hC hend xs L hX hbl hbA (f_L_b18 xs L  n) ih σ18 v3)
        · refine X_iconst (v := 0) hC (by decide) dL_law_258 ?_
          exact X_none
      refine X_ite (fun h21 => ?_) (fun h21 => ?_)
      · refine X_tableIn (v := 2) hC 260 dL_law_32 (by rw [h21]; decide) (by decide) (by decide) rfl (by decide) ?_
        refine X_aload_n hC 1 rfl dL_law_260 ?_
        refine X_aload_n hC 0 rfl dL_law_261 ?_
        refine X_iload_n hC 3 rfl dL_law_262 ?_
        refine X_iconst (v := 1) hC (by decide) dL_law_263 ?_
        refine X_iadd hC dL_law_264 ?_
        refine X_sld hC hX hbl hbA dL_law_265 ?_
        refine X_aload_n hC 0 rfl dL_law_266 ?_
        refine X_iload_n hC 3 rfl dL_law_267 ?_
        refine X_iconst (v := 2) hC (by decide) dL_law_268 ?_
        refine X_iadd hC dL_law_269 ?_
        refine X_sld hC hX hbl hbA dL_law_270 ?_
        refine L_XS (rest := []) hC (c_X4_setTrap _ G cls ax hix σ.1 (xs (ix (v3 + (1 : Int32)))) (xs (ix (v3 + (2 : Int32))))) (gV tw_187 tw_188 tw_189 tw_1 tw_190) rfl rfl okm_X4_setTrap (by decide) dL_law_271 rfl (Nat.le_of_ble_eq_true rfl) (fun q22 => X_lts fun σ23 => X_lt fun r24 => ?_)
        refine X_aload_n hC 2 rfl dL_law_274 ?_
        refine X_aload_n hC 0 rfl dL_law_275 ?_
        refine X_iload_n hC 3 rfl dL_law_276 ?_
        refine X_iconst (v := 1) hC (by decide) dL_law_277 ?_
        refine X_iadd hC dL_law_278 ?_
        refine X_sld hC hX hbl hbA dL_law_279 ?_
        refine X_aload_n hC 0 rfl dL_law_280 ?_
        refine X_iload_n hC 3 rfl dL_law_281 ?_
        refine X_iconst (v := 2) hC (by decide) dL_law_282 ?_
        refine X_iadd hC dL_law_283 ?_
        refine X_sld hC hX hbl hbA dL_law_284 ?_
        refine L_MS (rest := [.int r24]) hC (c_X5_setTrap _ G cls am him σ23.2 (xs (ix (v3 + (1 : Int32)))) (xs (ix (v3 + (2 : Int32))))) (gV tw_565 tw_566 tw_567 tw_7 tw_568) rfl rfl okm_X5_setTrap (by decide) dL_law_285 rfl (Nat.le_of_ble_eq_true rfl) (fun q25 => X_lts fun σ26 => X_lt fun r27 => ?_)
        refine X_icmp_eq hC 891 dL_law_288 (by decide) (fun h28 => ?_) (fun h28 => ?_)
        · exact (L_L_b891 G cls ax am A hix him hC hend xs L hX hbl hbA (f_L_b18 xs L  n) ih σ26 v3)
        · refine X_iconst (v := 0) hC (by decide) dL_law_291 ?_
          exact X_none
      refine X_ite (fun h29 => ?_) (fun h29 => ?_)
      · refine X_tableIn (v := 3) hC 293 dL_law_32 (by rw [h29]; decide) (by decide) (by decide) rfl (by decide) ?_
        refine X_aload_n hC 1 rfl dL_law_293 ?_
        refine X_aload_n hC 0 rfl dL_law_294 ?_
        refine X_iload_n hC 3 rfl dL_law_295 ?_
        refine X_iconst (v := 1) hC (by decide) dL_law_296 ?_
        refine X_iadd hC dL_law_297 ?_
        refine X_sld hC hX hbl hbA dL_law_298 ?_
        refine L_XS (rest := []) hC (c_X4_announce _ G cls ax hix σ.1 (xs (ix (v3 + (1 : Int32))))) (gV tw_191 tw_192 tw_193 tw_1 tw_194) rfl rfl okm_X4_announce (by decide) dL_law_299 rfl (Nat.le_of_ble_eq_true rfl) (fun q30 => X_lts fun σ31 => X_lt fun r32 => ?_)
        refine X_aload_n hC 2 rfl dL_law_302 ?_
        refine X_aload_n hC 0 rfl dL_law_303 ?_
        refine X_iload_n hC 3 rfl dL_law_304 ?_
        refine X_iconst (v := 1) hC (by decide) dL_law_305 ?_
        refine X_iadd hC dL_law_306 ?_
        refine X_sld hC hX hbl hbA dL_law_307 ?_
        refine L_MS (rest := [.int r32]) hC (c_X5_announce _ G cls am him σ31.2 (xs (ix (v3 + (1 : Int32))))) (gV tw_569 tw_570 tw_571 tw_7 tw_572) rfl rfl okm_X5_announce (by decide) dL_law_308 rfl (Nat.le_of_ble_eq_true rfl) (fun q33 => X_lts fun σ34 => X_lt fun r35 => ?_)
        refine X_icmp_eq hC 891 dL_law_311 (by decide) (fun h36 => ?_) (fun h36 => ?_)
        · exact (L_L_b891 G cls ax am A hix him hC hend xs L hX hbl hbA (f_L_b18 xs L  n) ih σ34 v3)
        · refine X_iconst (v := 0) hC (by decide) dL_law_314 ?_
          exact X_none
      refine X_ite (fun h37 => ?_) (fun h37 => ?_)
      · refine X_tableIn (v := 4) hC 316 dL_law_32 (by rw [h37]; decide) (by decide) (by decide) rfl (by decide) ?_
        refine X_aload_n hC 1 rfl dL_law_316 ?_
        refine X_aload_n hC 0 rfl dL_law_317 ?_
        refine X_iload_n hC 3 rfl dL_law_318 ?_
        refine X_iconst (v := 1) hC (by decide) dL_law_319 ?_
        refine X_iadd hC dL_law_320 ?_
        refine X_sld hC hX hbl hbA dL_law_321 ?_
        refine X_aload_n hC 0 rfl dL_law_322 ?_
        refine X_iload_n hC 3 rfl dL_law_323 ?_
        refine X_iconst (v := 2) hC (by decide) dL_law_324 ?_
        refine X_iadd hC dL_law_325 ?_
        refine X_sld hC hX hbl hbA dL_law_326 ?_
        refine L_XS (rest := []) hC (c_X4_addPupil _ G cls ax hix σ.1 (xs (ix (v3 + (1 : Int32)))) (xs (ix (v3 + (2 : Int32))))) (gV tw_210 tw_211 tw_212 tw_1 tw_213) rfl rfl okm_X4_addPupil (by decide) dL_law_327 rfl (Nat.le_of_ble_eq_true rfl) (fun q38 => X_lts fun σ39 => X_lt fun r40 => ?_)
        refine X_aload_n hC 2 rfl dL_law_330 ?_
        refine X_aload_n hC 0 rfl dL_law_331 ?_
        refine X_iload_n hC 3 rfl dL_law_332 ?_
        refine X_iconst (v := 1) hC (by decide) dL_law_333 ?_
        refine X_iadd hC dL_law_334 ?_
        refine X_sld hC hX hbl hbA dL_law_335 ?_
        refine X_aload_n hC 0 rfl dL_law_336 ?_
        refine X_iload_n hC 3 rfl dL_law_337 ?_
        refine X_iconst (v := 2) hC (by decide) dL_law_338 ?_
        refine X_iadd hC dL_law_339 ?_
        refine X_sld hC hX hbl hbA dL_law_340 ?_
        refine L_MS (rest := [.int r40]) hC (c_X5_addPupil _ G cls am him σ39.2 (xs (ix (v3 + (1 : Int32)))) (xs (ix (v3 + (2 : Int32))))) (gV tw_578 tw_579 tw_580 tw_7 tw_581) rfl rfl okm_X5_addPupil (by decide) dL_law_341 rfl (Nat.le_of_ble_eq_true rfl) (fun q41 => X_lts fun σ42 => X_lt fun r43 => ?_)
        refine X_icmp_eq hC 891 dL_law_344 (by decide) (fun h44 => ?_) (fun h44 => ?_)
        · exact (L_L_b891 G cls ax am A hix him hC hend xs L hX hbl hbA (f_L_b18 xs L  n) ih σ42 v3)
        · refine X_iconst (v := 0) hC (by decide) dL_law_347 ?_
          exact X_none
      refine X_ite (fun h45 => ?_) (fun h45 => ?_)
      · refine X_tableIn (v := 5) hC 349 dL_law_32 (by rw [h45]; decide) (by decide) (by decide) rfl (by decide) ?_
        refine X_aload_n hC 1 rfl dL_law_349 ?_
        refine X_aload_n hC 0 rfl dL_law_350 ?_
        refine X_iload_n hC 3 rfl dL_law_351 ?_
        refine X_iconst (v := 1) hC (by decide) dL_law_352 ?_
        refine X_iadd hC dL_law_353 ?_
        refine X_sld hC hX hbl hbA dL_law_354 ?_
        refine X_aload_n hC 0 rfl dL_law_355 ?_
        refine X_iload_n hC 3 rfl dL_law_356 ?_
        refine X_iconst (v := 2) hC (by decide) dL_law_357 ?_
        refine X_iadd hC dL_law_358 ?_
        refine X_sld hC hX hbl hbA dL_law_359 ?_
        refine L_XS (rest := []) hC (c_X4_teach _ G cls ax hix σ.1 (xs (ix (v3 + (1 : Int32)))) (xs (ix (v3 + (2 : Int32))))) (gV tw_215 tw_216 tw_217 tw_1 tw_218) rfl rfl okm_X4_teach (by decide) dL_law_360 rfl (Nat.le_of_ble_eq_true rfl) (fun q46 => X_lts fun σ47 => X_lt fun r48 => ?_)
        refine X_aload_n hC 2 rfl dL_law_363 ?_
        refine X_aload_n hC 0 rfl dL_law_364 ?_
        refine X_iload_n hC 3 rfl dL_law_365 ?_
        refine X_iconst (v := 1) hC (by decide) dL_law_366 ?_
        refine X_iadd hC dL_law_367 ?_
        refine X_sld hC hX hbl hbA dL_law_368 ?_
        refine X_aload_n hC 0 rfl dL_law_369 ?_
        refine X_iload_n hC 3 rfl dL_law_370 ?_
        refine X_iconst (v := 2) hC (by decide) dL_law_371 ?_
        refine X_iadd hC dL_law_372 ?_
        refine X_sld hC hX hbl hbA dL_law_373 ?_
        refine L_MS (rest := [.int r48]) hC (c_X5_teach _ G cls am him σ47.2 (xs (ix (v3 + (1 : Int32)))) (xs (ix (v3 + (2 : Int32))))) (gV tw_585 tw_586 tw_587 tw_7 tw_588) rfl rfl okm_X5_teach (by decide) dL_law_374 rfl (Nat.le_of_ble_eq_true rfl) (fun q49 => X_lts fun σ50 => X_lt fun r51 => ?_)
        refine X_icmp_eq hC 891 dL_law_377 (by decide) (fun h52 => ?_) (fun h52 => ?_)
        · exact (L_L_b891 G cls ax am A hix him hC hend xs L hX hbl hbA (f_L_b18 xs L  n) ih σ50 v3)
        · refine X_iconst (v := 0) hC (by decide) dL_law_380 ?_
          exact X_none
      refine X_ite (fun h53 => ?_) (fun h53 => ?_)
      · refine X_tableIn (v := 6) hC 382 dL_law_32 (by rw [h53]; decide) (by decide) (by decide) rfl (by decide) ?_
        refine X_aload_n hC 1 rfl dL_law_382 ?_
        refine X_aload_n hC 0 rfl dL_law_383 ?_
        refine X_iload_n hC 3 rfl dL_law_384 ?_
        refine X_iconst (v := 1) hC (by decide) dL_law_385 ?_
        refine X_iadd hC dL_law_386 ?_
        refine X_sld hC hX hbl hbA dL_law_387 ?_
        refine X_aload_n hC 0 rfl dL_law_388 ?_
        refine X_iload_n hC 3 rfl dL_law_389 ?_
        refine X_iconst (v := 2) hC (by decide) dL_law_390 ?_
        refine X_iadd hC dL_law_391 ?_
        refine X_sld hC hX hbl hbA dL_law_392 ?_
        refine X_aload_n hC 0 rfl dL_law_393 ?_
        refine X_iload_n hC 3 rfl dL_law_394 ?_
        refine X_iconst (v := 3) hC (by decide) dL_law_395 ?_
        refine X_iadd hC dL_law_396 ?_
        refine X_sld hC hX hbl hbA dL_law_397 ?_
        refine L_XS (rest := []) hC (c_X4_train _ G cls ax hix σ.1 (xs (ix (v3 + (1 : Int32)))) (xs (ix (v3 + (2 : Int32)))) (xs (ix (v3 + (3 : Int32))))) (gV tw_221 tw_222 tw_223 tw_1 tw_224) rfl rfl okm_X4_train (by decide) dL_law_398 rfl (Nat.le_of_ble_eq_true rfl) (fun q54 => X_lts fun σ55 => X_lt fun r56 => ?_)
        refine X_aload_n hC 2 rfl dL_law_401 ?_
        refine X_aload_n hC 0 rfl dL_law_402 ?_
        refine X_iload_n hC 3 rfl dL_law_403 ?_
        refine X_iconst (v := 1) hC (by decide) dL_law_404 ?_
        refine X_iadd hC dL_law_405 ?_
        refine X_sld hC hX hbl hbA dL_law_406 ?_
        refine X_aload_n hC 0 rfl dL_law_407 ?_
        refine X_iload_n hC 3 rfl dL_law_408 ?_
        refine X_iconst (v := 2) hC (by decide) dL_law_409 ?_
        refine X_iadd hC dL_law_410 ?_
        refine X_sld hC hX hbl hbA dL_law_411 ?_
        refine X_aload_n hC 0 rfl dL_law_412 ?_
        refine X_iload_n hC 3 rfl dL_law_413 ?_
        refine X_iconst (v := 3) hC (by decide) dL_law_414 ?_
        refine X_iadd hC dL_law_415 ?_
        refine X_sld hC hX hbl hbA dL_law_416 ?_
        refine L_MS (rest := [.int r56]) hC (c_X5_train _ G cls am him σ55.2 (xs (ix (v3 + (1 : Int32)))) (xs (ix (v3 + (2 : Int32)))) (xs (ix (v3 + (3 : Int32))))) (gV tw_593 tw_594 tw_595 tw_7 tw_596) rfl rfl okm_X5_train (by decide) dL_law_417 rfl (Nat.le_of_ble_eq_true rfl) (fun q57 => X_lts fun σ58 => X_lt fun r59 => ?_)
        refine X_icmp_eq hC 891 dL_law_420 (by decide) (fun h60 => ?_) (fun h60 => ?_)
        · exact (L_L_b891 G cls ax am A hix him hC hend xs L hX hbl hbA (f_L_b18 xs L  n) ih σ58 v3)
        · refine X_iconst (v := 0) hC (by decide) dL_law_423 ?_
          exact X_none
      refine X_ite (fun h61 => ?_) (fun h61 => ?_)
      · refine X_tableIn (v := 7) hC 425 dL_law_32 (by rw [h61]; decide) (by decide) (by decide) rfl (by decide) ?_
        refine X_aload_n hC 1 rfl dL_law_425 ?_
        refine X_aload_n hC 0 rfl dL_law_426 ?_
        refine X_iload_n hC 3 rfl dL_law_427 ?_
        refine X_iconst (v := 1) hC (by decide) dL_law_428 ?_
        refine X_iadd hC dL_law_429 ?_
        refine X_sld hC hX hbl hbA dL_law_430 ?_
        refine X_aload_n hC 0 rfl dL_law_431 ?_
        refine X_iload_n hC 3 rfl dL_law_432 ?_
        refine X_iconst (v := 2) hC (by decide) dL_law_433 ?_
        refine X_iadd hC dL_law_434 ?_
        refine X_sld hC hX hbl hbA dL_law_435 ?_
        refine X_aload_n hC 0 rfl dL_law_436 ?_
        refine X_iload_n hC 3 rfl dL_law_437 ?_
        refine X_iconst (v := 3) hC (by decide) dL_law_438 ?_
        refine X_iadd hC dL_law_439 ?_
        refine X_sld hC hX hbl hbA dL_law_440 ?_
        refine L_XS (rest := []) hC (c_X4_write _ G cls ax hix σ.1 (xs (ix (v3 + (1 : Int32)))) (xs (ix (v3 + (2 : Int32)))) (xs (ix (v3 + (3 : Int32))))) (gV tw_231 tw_232 tw_233 tw_1 tw_234) rfl rfl okm_X4_write (by decide) dL_law_441 rfl (Nat.le_of_ble_eq_true rfl) (fun q62 => X_lts fun σ63 => X_lt fun r64 => ?_)
        refine X_aload_n hC 2 rfl dL_law_444 ?_
        refine X_aload_n hC 0 rfl dL_law_445 ?_
        refine X_iload_n hC 3 rfl dL_law_446 ?_
        refine X_iconst (v := 1) hC (by decide) dL_law_447 ?_
        refine X_iadd hC dL_law_448 ?_
        refine X_sld hC hX hbl hbA dL_law_449 ?_
        refine X_aload_n hC 0 rfl dL_law_450 ?_
        refine X_iload_n hC 3 rfl dL_law_451 ?_
        refine X_iconst (v := 2) hC (by decide) dL_law_452 ?_
        refine X_iadd hC dL_law_453 ?_
        refine X_sld hC hX hbl hbA dL_law_454 ?_
        refine X_aload_n hC 0 rfl dL_law_455 ?_
        refine X_iload_n hC 3 rfl dL_law_456 ?_
        refine X_iconst (v := 3) hC (by decide) dL_law_457 ?_
        refine X_iadd hC dL_law_458 ?_
        refine X_sld hC hX hbl hbA dL_law_459 ?_
        refine L_MS (rest := [.int r64]) hC (c_X5_write _ G cls am him σ63.2 (xs (ix (v3 + (1 : Int32)))) (xs (ix (v3 + (2 : Int32)))) (xs (ix (v3 + (3 : Int32))))) (gV tw_597 tw_598 tw_599 tw_7 tw_600) rfl rfl okm_X5_write (by decide) dL_law_460 rfl (Nat.le_of_ble_eq_true rfl) (fun q65 => X_lts fun σ66 => X_lt fun r67 => ?_)
        refine X_icmp_eq hC 891 dL_law_463 (by decide) (fun h68 => ?_) (fun h68 => ?_)
        · exact (L_L_b891 G cls ax am A hix him hC hend xs L hX hbl hbA (f_L_b18 xs L  n) ih σ66 v3)
        · refine X_iconst (v := 0) hC (by decide) dL_law_466 ?_
          exact X_none
      refine X_ite (fun h69 => ?_) (fun h69 => ?_)
      · refine X_tableIn (v := 8) hC 468 dL_law_32 (by rw [h69]; decide) (by decide) (by decide) rfl (by decide) ?_
        refine X_aload_n hC 1 rfl dL_law_468 ?_
        refine X_aload_n hC 0 rfl dL_law_469 ?_
        refine X_iload_n hC 3 rfl dL_law_470 ?_
        refine X_iconst (v := 1) hC (by decide) dL_law_471 ?_
        refine X_iadd hC dL_law_472 ?_
        refine X_sld hC hX hbl hbA dL_law_473 ?_
        refine X_aload_n hC 0 rfl dL_law_474 ?_
        refine X_iload_n hC 3 rfl dL_law_475 ?_
        refine X_iconst (v := 2) hC (by decide) dL_law_476 ?_
        refine X_iadd hC dL_law_477 ?_
        refine X_sld hC hX hbl hbA dL_law_478 ?_
        refine L_XS (rest := []) hC (c_X4_appeal _ G cls ax hix σ.1 (xs (ix (v3 + (1 : Int32)))) (xs (ix (v3 + (2 : Int32))))) (gV tw_277 tw_278 tw_279 tw_1 tw_280) rfl rfl okm_X4_appeal (by decide) dL_law_479 rfl (Nat.le_of_ble_eq_true rfl) (fun q70 => X_lts fun σ71 => X_lt fun r72 => ?_)
        refine X_aload_n hC 2 rfl dL_law_482 ?_
        refine X_aload_n hC 0 rfl dL_law_483 ?_
        refine X_iload_n hC 3 rfl dL_law_484 ?_
        refine X_iconst (v := 1) hC (by decide) dL_law_485 ?_
        refine X_iadd hC dL_law_486 ?_
        refine X_sld hC hX hbl hbA dL_law_487 ?_
        refine X_aload_n hC 0 rfl dL_law_488 ?_
        refine X_iload_n hC 3 rfl dL_law_489 ?_
        refine X_iconst (v := 2) hC (by decide) dL_law_490 ?_
        refine X_iadd hC dL_law_491 ?_
        refine X_sld hC hX hbl hbA dL_law_492 ?_
        refine L_MS (rest := [.int r72]) hC (c_X5_appeal _ G cls am him σ71.2 (xs (ix (v3 + (1 : Int32)))) (xs (ix (v3 + (2 : Int32))))) (gV tw_621 tw_622 tw_623 tw_7 tw_624) rfl rfl okm_X5_appeal (by decide) dL_law_493 rfl (Nat.le_of_ble_eq_true rfl) (fun q73 => X_lts fun σ74 => X_lt fun r75 => ?_)
        refine X_icmp_eq hC 891 dL_law_496 (by decide) (fun h76 => ?_) (fun h76 => ?_)
        · exact (L_L_b891 G cls ax am A hix him hC hend xs L hX hbl hbA (f_L_b18 xs L  n) ih σ74 v3)
        · refine X_iconst (v := 0) hC (by decide) dL_law_499 ?_
          exact X_none
      refine X_ite (fun h77 => ?_) (fun h77 => ?_)
      · refine X_tableIn (v := 9) hC 501 dL_law_32 (by rw [h77]; decide) (by decide) (by decide) rfl (by decide) ?_
        refine X_aload_n hC 1 rfl dL_law_501 ?_
        refine L_XS (rest := []) hC (c_X4_decide _ G cls ax hix σ.1 ) (gV tw_293 tw_294 tw_295 tw_1 tw_296) rfl rfl okm_X4_decide (by decide) dL_law_502 rfl (Nat.le_of_ble_eq_true rfl) (fun q78 => X_lts fun σ79 => X_lt fun r80 => ?_)
        refine X_aload_n hC 2 rfl dL_law_505 ?_
        refine L_MS (rest := [.int r80]) hC (c_X5_decide _ G cls am him σ79.2 ) (gV tw_649 tw_650 tw_651 tw_7 tw_652) rfl rfl okm_X5_decide (by decide) dL_law_506 rfl (Nat.le_of_ble_eq_true rfl) (fun q81 => X_lts fun σ82 => X_lt fun r83 => ?_)
        refine X_icmp_eq hC 891 dL_law_509 (by decide) (fun h84 => ?_) (fun h84 => ?_)
        · exact (L_L_b891 G cls ax am A hix him hC hend xs L hX hbl hbA (f_L_b18 xs L  n) ih σ82 v3)
        · refine X_iconst (v := 0) hC (by decide) dL_law_512 ?_
          exact X_none
      refine X_ite (fun h85 => ?_) (fun h85 => ?_)
      · refine X_tableIn (v := 10) hC 514 dL_law_32 (by rw [h85]; decide) (by decide) (by decide) rfl (by decide) ?_
        refine X_aload_n hC 1 rfl dL_law_514 ?_
        refine X_aload_n hC 0 rfl dL_law_515 ?_
        refine X_iload_n hC 3 rfl dL_law_516 ?_
        refine X_iconst (v := 1) hC (by decide) dL_law_517 ?_
        refine X_iadd hC dL_law_518 ?_
        refine X_sld hC hX hbl hbA dL_law_519 ?_
        refine X_i2c hC dL_law_520 ?_
        refine L_XS (rest := []) hC (c_X4_type _ G cls ax hix σ.1 ((((xs (ix (v3 + (1 : Int32)))) : Int32).toUInt32 % 65536).toInt32)) (gV tw_321 tw_322 tw_323 tw_1 tw_324) rfl rfl okm_X4_type (by decide) dL_law_521 rfl (Nat.le_of_ble_eq_true rfl) (fun q86 => X_lts fun σ87 => X_lt fun r88 => ?_)
        refine X_aload_n hC 2 rfl dL_law_524 ?_
        refine X_aload_n hC 0 rfl dL_law_525 ?_
        refine X_iload_n hC 3 rfl dL_law_526 ?_
        refine X_iconst (v := 1) hC (by decide) dL_law_527 ?_
        refine X_iadd hC dL_law_528 ?_
        refine X_sld hC hX hbl hbA dL_law_529 ?_
        refine X_i2c hC dL_law_530 ?_
        refine L_MS (rest := [.int r88]) hC (c_X5_type _ G cls am him σ87.2 ((((xs (ix (v3 + (1 : Int32)))) : Int32).toUInt32 % 65536).toInt32)) (gV tw_658 tw_659 tw_660 tw_7 tw_661) rfl rfl okm_X5_type (by decide) dL_law_531 rfl (Nat.le_of_ble_eq_true rfl) (fun q89 => X_lts fun σ90 => X_lt fun r91 => ?_)
        refine X_icmp_eq hC 891 dL_law_534 (by decide) (fun h92 => ?_) (fun h92 => ?_)
        · exact (L_L_b891 G cls ax am A hix him hC hend xs L hX hbl hbA (f_L_b18 xs L  n) ih σ90 v3)
        · refine X_iconst (v := 0) hC (by decide) dL_law_537 ?_
          exact X_none
      refine X_ite (fun h93 => ?_) (fun h93 => ?_)
      · refine X_tableIn (v := 11) hC 539 dL_law_32 (by rw [h93]; decide) (by decide) (by decide) rfl (by decide) ?_
        refine X_aload_n hC 1 rfl dL_law_539 ?_
        refine L_XS (rest := []) hC (c_X4_clearText _ G cls ax hix σ.1 ) (gV tw_337 tw_338 tw_339 tw_1 tw_340) rfl rfl okm_X4_clearText (by decide) dL_law_540 rfl (Nat.le_of_ble_eq_true rfl) (fun q94 => X_lts fun σ95 => X_lt fun r96 => ?_)
        refine X_aload_n hC 2 rfl dL_law_543 ?_
        refine L_MS (rest := [.int r96]) hC (c_X5_clearText _ G cls am him σ95.2 ) (gV tw_662 tw_663 tw_664 tw_7 tw_665) rfl rfl okm_X5_clearText (by decide) dL_law_544 rfl (Nat.le_of_ble_eq_true rfl) (fun q97 => X_lts fun σ98 => X_lt fun r99 => ?_)
        refine X_icmp_eq hC 891 dL_law_547 (by decide) (fun h100 => ?_) (fun h100 => ?_)
        · exact (L_L_b891 G cls ax am A hix him hC hend xs L hX hbl hbA (f_L_b18 xs L  n) ih σ98 v3)
        · refine X_iconst (v := 0) hC (by decide) dL_law_550 ?_
          exact X_none
      refine X_ite (fun h101 => ?_) (fun h101 => ?_)
      · refine X_tableIn (v := 12) hC 552 dL_law_32 (by rw [h101]; decide) (by decide) (by decide) rfl (by decide) ?_
        refine X_aload_n hC 1 rfl dL_law_552 ?_
        refine L_XS (rest := []) hC (c_X4_readPapers _ G cls ax hix σ.1 ) (gV tw_345 tw_346 tw_347 tw_1 tw_348) rfl rfl okm_X4_readPapers (by decide) dL_law_553 rfl (Nat.le_of_ble_eq_true rfl) (fun q102 => X_lts fun σ103 => X_lt fun r104 => ?_)
        refine X_aload_n hC 2 rfl dL_law_556 ?_
        refine L_MS (rest := [.int r104]) hC (c_X5_readPapers _ G cls am him σ103.2 ) (gV tw_666 tw_667 tw_668 tw_7 tw_669) rfl rfl okm_X5_readPapers (by decide) dL_law_557 rfl (Nat.le_of_ble_eq_true rfl) (fun q105 => X_lts fun σ106 => X_lt fun r107 => ?_)
        refine X_icmp_eq hC 891 dL_law_560 (by decide) (fun h108 => ?_) (fun h108 => ?_)
        · exact (L_L_b891 G cls ax am A hix him hC hend xs L hX hbl hbA (f_L_b18 xs L  n) ih σ106 v3)
        · refine X_iconst (v := 0) hC (by decide) dL_law_563 ?_
          exact X_none
      refine X_ite (fun h109 => ?_) (fun h109 => ?_)
      · refine X_tableIn (v := 13) hC 565 dL_law_32 (by rw [h109]; decide) (by decide) (by decide) rfl (by decide) ?_
        refine X_aload_n hC 1 rfl dL_law_565 ?_
        refine L_XS (rest := []) hC (c_X4_undo _ G cls ax hix σ.1 ) (gV tw_397 tw_398 tw_399 tw_1 tw_400) rfl rfl okm_X4_undo (by decide) dL_law_566 rfl (Nat.le_of_ble_eq_true rfl) (fun q110 => X_lts fun σ111 => X_lt fun r112 => ?_)
        refine X_aload_n hC 2 rfl dL_law_569 ?_
        refine L_MS (rest := [.int r112]) hC (c_X5_undo _ G cls am him σ111.2 ) (gV tw_682 tw_683 tw_684 tw_7 tw_685) rfl rfl okm_X5_undo (by decide) dL_law_570 rfl (Nat.le_of_ble_eq_true rfl) (fun q113 => X_lts fun σ114 => X_lt fun r115 => ?_)
        refine X_icmp_eq hC 891 dL_law_573 (by decide) (fun h116 => ?_) (fun h116 => ?_)
        · exact (L_L_b891 G cls ax am A hix him hC hend xs L hX hbl hbA (f_L_b18 xs L  n) ih σ114 v3)
        · refine X_iconst (v := 0) hC (by decide) dL_law_576 ?_
          exact X_none
      refine X_ite (fun h117 => ?_) (fun h117 => ?_)
      · refine X_tableIn (v := 14) hC 578 dL_law_32 (by rw [h117]; decide) (by decide) (by decide) rfl (by decide) ?_
        refine X_aload_n hC 1 rfl dL_law_578 ?_
        refine L_XS (rest := []) hC (c_X4_keep _ G cls ax hix σ.1 ) (gV tw_409 tw_410 tw_411 tw_1 tw_412) rfl rfl okm_X4_keep (by decide) dL_law_579 rfl (Nat.le_of_ble_eq_true rfl) (fun q118 => X_lts fun σ119 => X_lt fun r120 => ?_)
        refine X_aload_n hC 2 rfl dL_law_582 ?_
        refine L_MS (rest := [.int r120]) hC (c_X5_keep _ G cls am him σ119.2 ) (gV tw_686 tw_687 tw_688 tw_7 tw_689) rfl rfl okm_X5_keep (by decide) dL_law_583 rfl (Nat.le_of_ble_eq_true rfl) (fun q121 => X_lts fun σ122 => X_lt fun r123 => ?_)
        refine X_icmp_eq hC 891 dL_law_586 (by decide) (fun h124 => ?_) (fun h124 => ?_)
        · exact (L_L_b891 G cls ax am A hix him hC hend xs L hX hbl hbA (f_L_b18 xs L  n) ih σ122 v3)
        · refine X_iconst (v := 0) hC (by decide) dL_law_589 ?_
          exact X_none
      refine X_ite (fun h125 => ?_) (fun h125 => ?_)
      · refine X_tableIn (v := 15) hC 591 dL_law_32 (by rw [h125]; decide) (by decide) (by decide) rfl (by decide) ?_
        refine X_aload_n hC 1 rfl dL_law_591 ?_
        refine L_XS (rest := []) hC (c_X4_restore _ G cls ax hix σ.1 ) (gV tw_414 tw_415 tw_416 tw_1 tw_417) rfl rfl okm_X4_restore (by decide) dL_law_592 rfl (Nat.le_of_ble_eq_true rfl) (fun q126 => X_lts fun σ127 => X_lt fun r128 => ?_)
        refine X_aload_n hC 2 rfl dL_law_595 ?_
        refine L_MS (rest := [.int r128]) hC (c_X5_restore _ G cls am him σ127.2 ) (gV tw_690 tw_691 tw_692 tw_7 tw_693) rfl rfl okm_X5_restore (by decide) dL_law_596 rfl (Nat.le_of_ble_eq_true rfl) (fun q129 => X_lts fun σ130 => X_lt fun r131 => ?_)
        refine X_icmp_eq hC 891 dL_law_599 (by decide) (fun h132 => ?_) (fun h132 => ?_)
        · exact (L_L_b891 G cls ax am A hix him hC hend xs L hX hbl hbA (f_L_b18 xs L  n) ih σ130 v3)
        · refine X_iconst (v := 0) hC (by decide) dL_law_602 ?_
          exact X_none
      refine X_ite (fun h133 => ?_) (fun h133 => ?_)
      · refine X_tableIn (v := 16) hC 604 dL_law_32 (by rw [h133]; decide) (by decide) (by decide) rfl (by decide) ?_
        refine X_aload_n hC 1 rfl dL_law_604 ?_
        refine X_aload_n hC 0 rfl dL_law_605 ?_
        refine X_iload_n hC 3 rfl dL_law_606 ?_
        refine X_iconst (v := 1) hC (by decide) dL_law_607 ?_
        refine X_iadd hC dL_law_608 ?_
        refine X_sld hC hX hbl hbA dL_law_609 ?_
        refine X_aload_n hC 0 rfl dL_law_610 ?_
        refine X_iload_n hC 3 rfl dL_law_611 ?_
        refine X_iconst (v := 2) hC (by decide) dL_law_612 ?_
        refine X_iadd hC dL_law_613 ?_
        refine X_sld hC hX hbl hbA dL_law_614 ?_
        refine L_XP (rest := []) hC (c_X4_instrument _ G cls ax hix σ.1 (xs (ix (v3 + (1 : Int32)))) (xs (ix (v3 + (2 : Int32))))) (gV tw_418 tw_419 tw_420 tw_1 tw_421) rfl rfl okm_X4_instrument (by decide) dL_law_615 rfl (Nat.le_of_ble_eq_true rfl) (fun r134 => ?_)
        refine X_aload_n hC 2 rfl dL_law_618 ?_
        refine X_aload_n hC 0 rfl dL_law_619 ?_
        refine X_iload_n hC 3 rfl dL_law_620 ?_
        refine X_iconst (v := 1) hC (by decide) dL_law_621 ?_
        refine X_iadd hC dL_law_622 ?_
        refine X_sld hC hX hbl hbA dL_law_623 ?_
        refine X_aload_n hC 0 rfl dL_law_624 ?_
        refine X_iload_n hC 3 rfl dL_law_625 ?_
        refine X_iconst (v := 2) hC (by decide) dL_law_626 ?_
        refine X_iadd hC dL_law_627 ?_
        refine X_sld hC hX hbl hbA dL_law_628 ?_
        refine L_MP (rest := [.int r134]) hC (c_X5_instrument _ G cls am him σ.2 (xs (ix (v3 + (1 : Int32)))) (xs (ix (v3 + (2 : Int32))))) (gV tw_694 tw_695 tw_696 tw_7 tw_697) rfl rfl okm_X5_instrument (by decide) dL_law_629 rfl (Nat.le_of_ble_eq_true rfl) (fun r135 => ?_)
        refine X_icmp_eq hC 891 dL_law_632 (by decide) (fun h136 => ?_) (fun h136 => ?_)
        · exact (L_L_b891 G cls ax am A hix him hC hend xs L hX hbl hbA (f_L_b18 xs L  n) ih σ v3)
        · refine X_iconst (v := 0) hC (by decide) dL_law_635 ?_
          exact X_none
      refine X_ite (fun h137 => ?_) (fun h137 => ?_)
      · refine X_tableIn (v := 17) hC 637 dL_law_32 (by rw [h137]; decide) (by decide) (by decide) rfl (by decide) ?_
        refine X_aload_n hC 1 rfl dL_law_637 ?_
        refine X_aload_n hC 0 rfl dL_law_638 ?_
        refine X_iload_n hC 3 rfl dL_law_639 ?_
        refine X_iconst (v := 1) hC (by decide) dL_law_640 ?_
        refine X_iadd hC dL_law_641 ?_
        refine X_sld hC hX hbl hbA dL_law_642 ?_
        refine X_aload_n hC 0 rfl dL_law_643 ?_
        refine X_iload_n hC 3 rfl dL_law_644 ?_
        refine X_iconst (v := 2) hC (by decide) dL_law_645 ?_
        refine X_iadd hC dL_law_646 ?_
        refine X_sld hC hX hbl hbA dL_law_647 ?_
        refine L_XP (rest := []) hC (c_X4_pupil _ G cls ax hix σ.1 (xs (ix (v3 + (1 : Int32)))) (xs (ix (v3 + (2 : Int32))))) (gV tw_422 tw_423 tw_424 tw_1 tw_425) rfl rfl okm_X4_pupil (by decide) dL_law_648 rfl (Nat.le_of_ble_eq_true rfl) (fun r138 => ?_)
        refine X_aload_n hC 2 rfl dL_law_651 ?_
        refine X_aload_n hC 0 rfl dL_law_652 ?_
        refine X_iload_n hC 3 rfl dL_law_653 ?_
        refine X_iconst (v := 1) hC (by decide) dL_law_654 ?_
        refine X_iadd hC dL_law_655 ?_
        refine X_sld hC hX hbl hbA dL_law_656 ?_
        refine X_aload_n hC 0 rfl dL_law_657 ?_
        refine X_iload_n hC 3 rfl dL_law_658 ?_
        refine X_iconst (v := 2) hC (by decide) dL_law_659 ?_
        refine X_iadd hC dL_law_660 ?_
        refine X_sld hC hX hbl hbA dL_law_661 ?_
        refine L_MP (rest := [.int r138]) hC (c_X5_pupil _ G cls am him σ.2 (xs (ix (v3 + (1 : Int32)))) (xs (ix (v3 + (2 : Int32))))) (gV tw_702 tw_703 tw_704 tw_7 tw_705) rfl rfl okm_X5_pupil (by decide) dL_law_662 rfl (Nat.le_of_ble_eq_true rfl) (fun r139 => ?_)
        refine X_icmp_eq hC 891 dL_law_665 (by decide) (fun h140 => ?_) (fun h140 => ?_)
        · exact (L_L_b891 G cls ax am A hix him hC hend xs L hX hbl hbA (f_L_b18 xs L  n) ih σ v3)
        · refine X_iconst (v := 0) hC (by decide) dL_law_668 ?_
          exact X_none
      refine X_ite (fun h141 => ?_) (fun h141 => ?_)
      · refine X_tableIn (v := 18) hC 670 dL_law_32 (by rw [h141]; decide) (by decide) (by decide) rfl (by decide) ?_
        refine X_aload_n hC 1 rfl dL_law_670 ?_
        refine X_aload_n hC 0 rfl dL_law_671 ?_
        refine X_iload_n hC 3 rfl dL_law_672 ?_
        refine X_iconst (v := 1) hC (by decide) dL_law_673 ?_
        refine X_iadd hC dL_law_674 ?_
        refine X_sld hC hX hbl hbA dL_law_675 ?_
        refine X_aload_n hC 0 rfl dL_law_676 ?_
        refine X_iload_n hC 3 rfl dL_law_677 ?_
        refine X_iconst (v := 2) hC (by decide) dL_law_678 ?_
        refine X_iadd hC dL_law_679 ?_
        refine X_sld hC hX hbl hbA dL_law_680 ?_
        refine L_XP (rest := []) hC (c_X4_paper _ G cls ax hix σ.1 (xs (ix (v3 + (1 : Int32)))) (xs (ix (v3 + (2 : Int32))))) (gV tw_439 tw_440 tw_441 tw_1 tw_442) rfl rfl okm_X4_paper (by decide) dL_law_681 rfl (Nat.le_of_ble_eq_true rfl) (fun r142 => ?_)
        refine X_aload_n hC 2 rfl dL_law_684 ?_
        refine X_aload_n hC 0 rfl dL_law_685 ?_
        refine X_iload_n hC 3 rfl dL_law_686 ?_
        refine X_iconst (v := 1) hC (by decide) dL_law_687 ?_
        refine X_iadd hC dL_law_688 ?_
        refine X_sld hC hX hbl hbA dL_law_689 ?_
        refine X_aload_n hC 0 rfl dL_law_690 ?_
        refine X_iload_n hC 3 rfl dL_law_691 ?_
        refine X_iconst (v := 2) hC (by decide) dL_law_692 ?_
        refine X_iadd hC dL_law_693 ?_
        refine X_sld hC hX hbl hbA dL_law_694 ?_
        refine L_MP (rest := [.int r142]) hC (c_X5_paper _ G cls am him σ.2 (xs (ix (v3 + (1 : Int32)))) (xs (ix (v3 + (2 : Int32))))) (gV tw_722 tw_723 tw_724 tw_7 tw_725) rfl rfl okm_X5_paper (by decide) dL_law_695 rfl (Nat.le_of_ble_eq_true rfl) (fun r143 => ?_)
        refine X_icmp_eq hC 891 dL_law_698 (by decide) (fun h144 => ?_) (fun h144 => ?_)
        · exact (L_L_b891 G cls ax am A hix him hC hend xs L hX hbl hbA (f_L_b18 xs L  n) ih σ v3)
        · refine X_iconst (v := 0) hC (by decide) dL_law_701 ?_
          exact X_none
      refine X_ite (fun h145 => ?_) (fun h145 => ?_)
      · refine X_tableIn (v := 19) hC 703 dL_law_32 (by rw [h145]; decide) (by decide) (by decide) rfl (by decide) ?_
        refine X_aload_n hC 1 rfl dL_law_703 ?_
        refine X_aload_n hC 0 rfl dL_law_704 ?_
        refine X_iload_n hC 3 rfl dL_law_705 ?_
        refine X_iconst (v := 1) hC (by decide) dL_law_706 ?_
        refine X_iadd hC dL_law_707 ?_
        refine X_sld hC hX hbl hbA dL_law_708 ?_
        refine X_aload_n hC 0 rfl dL_law_709 ?_
        refine X_iload_n hC 3 rfl dL_law_710 ?_
        refine X_iconst (v := 2) hC (by decide) dL_law_711 ?_
        refine X_iadd hC dL_law_712 ?_
        refine X_sld hC hX hbl hbA dL_law_713 ?_
        refine X_aload_n hC 0 rfl dL_law_714 ?_
        refine X_iload_n hC 3 rfl dL_law_715 ?_
        refine X_iconst (v := 3) hC (by decide) dL_law_716 ?_
        refine X_iadd hC dL_law_717 ?_
        refine X_sld hC hX hbl hbA dL_law_718 ?_
        refine L_XP (rest := []) hC (c_X4_coincidence _ G cls ax hix σ.1 (xs (ix (v3 + (1 : Int32)))) (xs (ix (v3 + (2 : Int32)))) (xs (ix (v3 + (3 : Int32))))) (gV tw_443 tw_444 tw_445 tw_1 tw_446) rfl rfl okm_X4_coincidence (by decide) dL_law_719 rfl (Nat.le_of_ble_eq_true rfl) (fun r146 => ?_)
        refine X_aload_n hC 2 rfl dL_law_722 ?_
        refine X_aload_n hC 0 rfl dL_law_723 ?_
        refine X_iload_n hC 3 rfl dL_law_724 ?_
        refine X_iconst (v := 1) hC (by decide) dL_law_725 ?_
        refine X_iadd hC dL_law_726 ?_
        refine X_sld hC hX hbl hbA dL_law_727 ?_
        refine X_aload_n hC 0 rfl dL_law_728 ?_
        refine X_iload_n hC 3 rfl dL_law_729 ?_
        refine X_iconst (v := 2) hC (by decide) dL_law_730 ?_
        refine X_iadd hC dL_law_731 ?_
        refine X_sld hC hX hbl hbA dL_law_732 ?_
        refine X_aload_n hC 0 rfl dL_law_733 ?_
        refine X_iload_n hC 3 rfl dL_law_734 ?_
        refine X_iconst (v := 3) hC (by decide) dL_law_735 ?_
        refine X_iadd hC dL_law_736 ?_
        refine X_sld hC hX hbl hbA dL_law_737 ?_
        refine L_MS (rest := [.int r146]) hC (c_X5_coincidence _ G cls am him σ.2 (xs (ix (v3 + (1 : Int32)))) (xs (ix (v3 + (2 : Int32)))) (xs (ix (v3 + (3 : Int32))))) (gV tw_726 tw_727 tw_728 tw_7 tw_729) rfl rfl okm_X5_coincidence (by decide) dL_law_738 rfl (Nat.le_of_ble_eq_true rfl) (fun q147 => X_lts fun σ148 => X_lt fun r149 => ?_)
        refine X_icmp_eq hC 891 dL_law_741 (by decide) (fun h150 => ?_) (fun h150 => ?_)
        · exact (L_L_b891 G cls ax am A hix him hC hend xs L hX hbl hbA (f_L_b18 xs L  n) ih σ148 v3)
        · refine X_iconst (v := 0) hC (by decide) dL_law_744 ?_
          exact X_none
      refine X_ite (fun h151 => ?_) (fun h151 => ?_)
      · refine X_tableIn (v := 20) hC 746 dL_law_32 (by rw [h151]; decide) (by decide) (by decide) rfl (by decide) ?_
        refine X_aload_n hC 1 rfl dL_law_746 ?_
        refine X_aload_n hC 0 rfl dL_law_747 ?_
        refine X_iload_n hC 3 rfl dL_law_748 ?_
        refine X_iconst (v := 1) hC (by decide) dL_law_749 ?_
        refine X_iadd hC dL_law_750 ?_
        refine X_sld hC hX hbl hbA dL_law_751 ?_
        refine X_aload_n hC 0 rfl dL_law_752 ?_
        refine X_iload_n hC 3 rfl dL_law_753 ?_
        refine X_iconst (v := 2) hC (by decide) dL_law_754 ?_
        refine X_iadd hC dL_law_755 ?_
        refine X_sld hC hX hbl hbA dL_law_756 ?_
        refine X_aload_n hC 0 rfl dL_law_757 ?_
        refine X_iload_n hC 3 rfl dL_law_758 ?_
        refine X_iconst (v := 3) hC (by decide) dL_law_759 ?_
        refine X_iadd hC dL_law_760 ?_
        refine X_sld hC hX hbl hbA dL_law_761 ?_
        refine L_XP (rest := []) hC (c_X4_answer _ G cls ax hix σ.1 (xs (ix (v3 + (1 : Int32)))) (xs (ix (v3 + (2 : Int32)))) (xs (ix (v3 + (3 : Int32))))) (gV tw_450 tw_451 tw_452 tw_1 tw_453) rfl rfl okm_X4_answer (by decide) dL_law_762 rfl (Nat.le_of_ble_eq_true rfl) (fun r152 => ?_)
        refine X_aload_n hC 2 rfl dL_law_765 ?_
        refine X_aload_n hC 0 rfl dL_law_766 ?_
        refine X_iload_n hC 3 rfl dL_law_767 ?_
        refine X_iconst (v := 1) hC (by decide) dL_law_768 ?_
        refine X_iadd hC dL_law_769 ?_
        refine X_sld hC hX hbl hbA dL_law_770 ?_
        refine X_aload_n hC 0 rfl dL_law_771 ?_
        refine X_iload_n hC 3 rfl dL_law_772 ?_
        refine X_iconst (v := 2) hC (by decide) dL_law_773 ?_
        refine X_iadd hC dL_law_774 ?_
        refine X_sld hC hX hbl hbA dL_law_775 ?_
        refine X_aload_n hC 0 rfl dL_law_776 ?_
        refine X_iload_n hC 3 rfl dL_law_777 ?_
        refine X_iconst (v := 3) hC (by decide) dL_law_778 ?_
        refine X_iadd hC dL_law_779 ?_
        refine X_sld hC hX hbl hbA dL_law_780 ?_
        refine L_MS (rest := [.int r152]) hC (c_X5_answer _ G cls am him σ.2 (xs (ix (v3 + (1 : Int32)))) (xs (ix (v3 + (2 : Int32)))) (xs (ix (v3 + (3 : Int32))))) (gV tw_731 tw_732 tw_733 tw_7 tw_734) rfl rfl okm_X5_answer (by decide) dL_law_781 rfl (Nat.le_of_ble_eq_true rfl) (fun q153 => X_lts fun σ154 => X_lt fun r155 => ?_)
        refine X_icmp_eq hC 891 dL_law_784 (by decide) (fun h156 => ?_) (fun h156 => ?_)
        · exact (L_L_b891 G cls ax am A hix him hC hend xs L hX hbl hbA (f_L_b18 xs L  n) ih σ154 v3)
        · refine X_iconst (v := 0) hC (by decide) dL_law_787 ?_
          exact X_none
      refine X_ite (fun h157 => ?_) (fun h157 => ?_)
      · refine X_tableIn (v := 21) hC 789 dL_law_32 (by rw [h157]; decide) (by decide) (by decide) rfl (by decide) ?_
        refine X_aload_n hC 1 rfl dL_law_789 ?_
        refine X_aload_n hC 0 rfl dL_law_790 ?_
        refine X_iload_n hC 3 rfl dL_law_791 ?_
        refine X_iconst (v := 1) hC (by decide) dL_law_792 ?_
        refine X_iadd hC dL_law_793 ?_
        refine X_sld hC hX hbl hbA dL_law_794 ?_
        refine X_aload_n hC 0 rfl dL_law_795 ?_
        refine X_iload_n hC 3 rfl dL_law_796 ?_
        refine X_iconst (v := 2) hC (by decide) dL_law_797 ?_
        refine X_iadd hC dL_law_798 ?_
        refine X_sld hC hX hbl hbA dL_law_799 ?_
        refine L_XP (rest := []) hC (c_X4_would _ G cls ax hix σ.1 (xs (ix (v3 + (1 : Int32)))) (xs (ix (v3 + (2 : Int32))))) (gV tw_455 tw_456 tw_457 tw_1 tw_458) rfl rfl okm_X4_would (by decide) dL_law_800 rfl (Nat.le_of_ble_eq_true rfl) (fun r158 => ?_)
        refine X_aload_n hC 2 rfl dL_law_803 ?_
        refine X_aload_n hC 0 rfl dL_law_804 ?_
        refine X_iload_n hC 3 rfl dL_law_805 ?_
        refine X_iconst (v := 1) hC (by decide) dL_law_806 ?_
        refine X_iadd hC dL_law_807 ?_
        refine X_sld hC hX hbl hbA dL_law_808 ?_
        refine X_aload_n hC 0 rfl dL_law_809 ?_
        refine X_iload_n hC 3 rfl dL_law_810 ?_
        refine X_iconst (v := 2) hC (by decide) dL_law_811 ?_
        refine X_iadd hC dL_law_812 ?_
        refine X_sld hC hX hbl hbA dL_law_813 ?_
        refine L_MS (rest := [.int r158]) hC (c_X5_would _ G cls am him σ.2 (xs (ix (v3 + (1 : Int32)))) (xs (ix (v3 + (2 : Int32))))) (gV tw_735 tw_736 tw_737 tw_7 tw_738) rfl rfl okm_X5_would (by decide) dL_law_814 rfl (Nat.le_of_ble_eq_true rfl) (fun q159 => X_lts fun σ160 => X_lt fun r161 => ?_)
        refine X_icmp_eq hC 891 dL_law_817 (by decide) (fun h162 => ?_) (fun h162 => ?_)
        · exact (L_L_b891 G cls ax am A hix him hC hend xs L hX hbl hbA (f_L_b18 xs L  n) ih σ160 v3)
        · refine X_iconst (v := 0) hC (by decide) dL_law_820 ?_
          exact X_none
      refine X_ite (fun h163 => ?_) (fun h163 => ?_)
      · refine X_tableIn (v := 22) hC 822 dL_law_32 (by rw [h163]; decide) (by decide) (by decide) rfl (by decide) ?_
        refine X_aload_n hC 1 rfl dL_law_822 ?_
        refine X_aload_n hC 0 rfl dL_law_823 ?_
        refine X_iload_n hC 3 rfl dL_law_824 ?_
        refine X_iconst (v := 1) hC (by decide) dL_law_825 ?_
        refine X_iadd hC dL_law_826 ?_
        refine X_sld hC hX hbl hbA dL_law_827 ?_
        refine L_XP (rest := []) hC (c_X4_ranked _ G cls ax hix σ.1 (xs (ix (v3 + (1 : Int32))))) (gV tw_463 tw_464 tw_465 tw_1 tw_466) rfl rfl okm_X4_ranked (by decide) dL_law_828 rfl (Nat.le_of_ble_eq_true rfl) (fun r164 => ?_)
        refine X_aload_n hC 2 rfl dL_law_831 ?_
        refine X_aload_n hC 0 rfl dL_law_832 ?_
        refine X_iload_n hC 3 rfl dL_law_833 ?_
        refine X_iconst (v := 1) hC (by decide) dL_law_834 ?_
        refine X_iadd hC dL_law_835 ?_
        refine X_sld hC hX hbl hbA dL_law_836 ?_
        refine L_MP (rest := [.int r164]) hC (c_X5_ranked _ G cls am him σ.2 (xs (ix (v3 + (1 : Int32))))) (gV tw_739 tw_740 tw_741 tw_7 tw_742) rfl rfl okm_X5_ranked (by decide) dL_law_837 rfl (Nat.le_of_ble_eq_true rfl) (fun r165 => ?_)
        refine X_icmp_eq hC 891 dL_law_840 (by decide) (fun h166 => ?_) (fun h166 => ?_)
        · exact (L_L_b891 G cls ax am A hix him hC hend xs L hX hbl hbA (f_L_b18 xs L  n) ih σ v3)
        · refine X_iconst (v := 0) hC (by decide) dL_law_843 ?_
          exact X_none
      refine X_ite (fun h167 => ?_) (fun h167 => ?_)
      · refine X_tableIn (v := 23) hC 845 dL_law_32 (by rw [h167]; decide) (by decide) (by decide) rfl (by decide) ?_
        refine X_aload_n hC 1 rfl dL_law_845 ?_
        refine X_aload_n hC 0 rfl dL_law_846 ?_
        refine X_iload_n hC 3 rfl dL_law_847 ?_
        refine X_iconst (v := 1) hC (by decide) dL_law_848 ?_
        refine X_iadd hC dL_law_849 ?_
        refine X_sld hC hX hbl hbA dL_law_850 ?_
        refine L_XP (rest := []) hC (c_X4_waiting _ G cls ax hix σ.1 (xs (ix (v3 + (1 : Int32))))) (gV tw_467 tw_468 tw_469 tw_1 tw_470) rfl rfl okm_X4_waiting (by decide) dL_law_851 rfl (Nat.le_of_ble_eq_true rfl) (fun r168 => ?_)
        refine X_aload_n hC 2 rfl dL_law_854 ?_
        refine X_aload_n hC 0 rfl dL_law_855 ?_
        refine X_iload_n hC 3 rfl dL_law_856 ?_
        refine X_iconst (v := 1) hC (by decide) dL_law_857 ?_
        refine X_iadd hC dL_law_858 ?_
        refine X_sld hC hX hbl hbA dL_law_859 ?_
        refine L_MP (rest := [.int r168]) hC (c_X5_waiting _ G cls am him σ.2 (xs (ix (v3 + (1 : Int32))))) (gV tw_641 tw_642 tw_643 tw_7 tw_644) rfl rfl okm_X5_waiting (by decide) dL_law_860 rfl (Nat.le_of_ble_eq_true rfl) (fun r169 => ?_)
        refine X_icmp_eq hC 891 dL_law_863 (by decide) (fun h170 => ?_) (fun h170 => ?_)
        · exact (L_L_b891 G cls ax am A hix him hC hend xs L hX hbl hbA (f_L_b18 xs L  n) ih σ v3)
        · refine X_iconst (v := 0) hC (by decide) dL_law_866 ?_
          exact X_none
      refine X_ite (fun h171 => ?_) (fun h171 => ?_)
      · refine X_tableIn (v := 24) hC 868 dL_law_32 (by rw [h171]; decide) (by decide) (by decide) rfl (by decide) ?_
        refine X_aload_n hC 1 rfl dL_law_868 ?_
        refine X_aload_n hC 0 rfl dL_law_869 ?_
        refine X_iload_n hC 3 rfl dL_law_870 ?_
        refine X_iconst (v := 1) hC (by decide) dL_law_871 ?_
        refine X_iadd hC dL_law_872 ?_
        refine X_sld hC hX hbl hbA dL_law_873 ?_
        refine L_XP (rest := []) hC (c_X4_count _ G cls ax hix σ.1 (xs (ix (v3 + (1 : Int32))))) (gV tw_471 tw_472 tw_473 tw_1 tw_474) rfl rfl okm_X4_count (by decide) dL_law_874 rfl (Nat.le_of_ble_eq_true rfl) (fun r172 => ?_)
        refine X_aload_n hC 2 rfl dL_law_877 ?_
        refine X_aload_n hC 0 rfl dL_law_878 ?_
        refine X_iload_n hC 3 rfl dL_law_879 ?_
        refine X_iconst (v := 1) hC (by decide) dL_law_880 ?_
        refine X_iadd hC dL_law_881 ?_
        refine X_sld hC hX hbl hbA dL_law_882 ?_
        refine L_MP (rest := [.int r172]) hC (c_X5_count _ G cls am him σ.2 (xs (ix (v3 + (1 : Int32))))) (gV tw_743 tw_744 tw_745 tw_7 tw_746) rfl rfl okm_X5_count (by decide) dL_law_883 rfl (Nat.le_of_ble_eq_true rfl) (fun r173 => ?_)
        refine X_icmp_eq hC 891 dL_law_886 (by decide) (fun h174 => ?_) (fun h174 => ?_)
        · exact (L_L_b891 G cls ax am A hix him hC hend xs L hX hbl hbA (f_L_b18 xs L  n) ih σ v3)
        · refine X_iconst (v := 0) hC (by decide) dL_law_889 ?_
          exact X_none
      refine X_tableOut hC 891 dL_law_32 (by have q0 := lv_neT h2 (a := 0) (by decide); have q1 := lv_neT h13 (a := 1) (by decide); have q2 := lv_neT h21 (a := 2) (by decide); have q3 := lv_neT h29 (a := 3) (by decide); have q4 := lv_neT h37 (a := 4) (by decide); have q5 := lv_neT h45 (a := 5) (by decide); have q6 := lv_neT h53 (a := 6) (by decide); have q7 := lv_neT h61 (a := 7) (by decide); have q8 := lv_neT h69 (a := 8) (by decide); have q9 := lv_neT h77 (a := 9) (by decide); have q10 := lv_neT h85 (a := 10) (by decide); have q11 := lv_neT h93 (a := 11) (by decide); have q12 := lv_neT h101 (a := 12) (by decide); have q13 := lv_neT h109 (a := 13) (by decide); have q14 := lv_neT h117 (a := 14) (by decide); have q15 := lv_neT h125 (a := 15) (by decide); have q16 := lv_neT h133 (a := 16) (by decide); have q17 := lv_neT h137 (a := 17) (by decide); have q18 := lv_neT h141 (a := 18) (by decide); have q19 := lv_neT h145 (a := 19) (by decide); have q20 := lv_neT h151 (a := 20) (by decide); have q21 := lv_neT h157 (a := 21) (by decide); have q22 := lv_neT h163 (a := 22) (by decide); have q23 := lv_neT h167 (a := 23) (by decide); have q24 := lv_neT h171 (a := 24) (by decide); omega) (by decide) ?_
      exact (L_L_b891 G cls ax am A hix him hC hend xs L hX hbl hbA (f_L_b18 xs L  n) ih σ v3)
set_option maxHeartbeats 4000000 in
set_option maxRecDepth 100000 in
theorem L_L {Γ : Cx} (G : va_G) (cls : Cls) (ax am : Nat → Nat) (A : Nat → Prop) (hix : inj 49 ax) (him : inj 6 am) (hC : CX Γ (YL G cls ax am A) cL_law RL 4 (some .boolean) 9 358) {q : Int32 → State → Prop} (hend : ∀ (pc : Nat) (ls : List (Nat × Value)) (σ : Sg × Sg) (_ : Unit), decode cL_law pc = .ok (.ireturn, 1) → WX Γ (YL G cls ax am A) q 4 pc ls [.int 1] σ (some 1)) {b : Nat} (xs : Nat → Int32) (L : Nat) (hX : va_X b L xs Γ.1.2.2.2.2.1 Γ.1.2.2.2.2.1.heap) (hbl : b < Γ.1.2.2.2.2.1.heap.size) (hbA : ¬ A b) (σ : Sg × Sg) : WX Γ (YL G cls ax am A) q 4 16 [(0, .ref b), (1, .ref (ax 25)), (2, .ref (am 0))] [] σ (f_L xs L σ) := by
  unfold f_L
  refine X_iconst (v := 0) hC (by decide) dL_law_16 ?_
  refine X_istore_n (ls' := [(3, .int (0 : Int32)), (0, .ref b), (1, .ref (ax 25)), (2, .ref (am 0))]) hC dL_law_17 (by decide) rfl ?_
  exact X_sub [1, 2, 3, 0] rfl (L_L_b18 G cls ax am A hix him hC hend xs L hX hbl hbA fuel σ (0 : Int32))
